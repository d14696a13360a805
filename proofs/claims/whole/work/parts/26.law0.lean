/-! ===== the law: one call of the script ===== -/
/-- all cells of the class, of the reference, of the law -/
abbrev LWd (g : GG) (x : Nat) (φ μ : Nat → Nat) (ot : Nat) (tk : Bool) (σ : Sg) (kn : Nat) (ρ α β : Nat → Nat) (γ : Nat → Sg) (κ : Sg) (L : Nat) (T : Nat → Int32) (os po rz cz : Nat) (τ : Sg) (vb : Int32) (n1 n2 nm en : Nat) (th sp bg : Nat) (fm : Bool) (le : Int32) (fi se re ca : Nat) (B D : Nat → Int32) (f : Nat → Int64) : va_W :=
  [cX x (φ 0) (φ 1) tk (φ 2) (φ 3) (φ 4), cR (φ 0) (φ 5) (φ 6) σ, xI g (φ 5) 49 (zT σ), xI g (φ 6) 49 (zI σ), cR (φ 1) (φ 7) (φ 8) κ, xI g (φ 7) 49 (zT κ), xI g (φ 8) 49 (zI κ), cH (φ 2) (φ 9) kn, xQ g (φ 9) 4 (rq ρ), cR (ρ 0) (α 0) (β 0) (γ 0), xI g (α 0) 49 (zT (γ 0)), xI g (β 0) 49 (zI (γ 0)), cR (ρ 1) (α 1) (β 1) (γ 1), xI g (α 1) 49 (zT (γ 1)), xI g (β 1) 49 (zI (γ 1)), cR (ρ 2) (α 2) (β 2) (γ 2), xI g (α 2) 49 (zT (γ 2)), xI g (β 2) 49 (zI (γ 2)), cR (ρ 3) (α 3) (β 3) (γ 3), xI g (α 3) 49 (zT (γ 3)), xI g (β 3) 49 (zI (γ 3)), cT (φ 3) (φ 10) L, xC g (φ 10) 60 T, cTr (φ 4) (φ 11) (φ 12) os po rz cz, cR (φ 11) (φ 13) (φ 14) τ, xI g (φ 13) 49 (zT τ), xI g (φ 14) 49 (zI τ), cO (φ 12) vb n1 n2 nm en, cM μ tk kn L th sp bg fm le fi se re ca, xI g (μ 1) 288 (enc σ), xI g (μ 2) 288 B, xI g (μ 3) 288 D, xI g (μ 4) 288 (enc κ), xI g (μ 5) 1152 (pst γ), xI g (μ 6) 60 T, xJ g ot 1 f]
/-- behind a call of the script: the world as it is then -/
def LI (g : GG) (A : Nat → Prop) (s : State) (b i x : Nat) (φ μ : Nat → Nat) (ot : Nat) (G : Heap → List Loc → Array Slot → Prop) : Prop :=
  ∀ (tk : Bool) (σ : Sg) (kn : Nat) (ρ α β : Nat → Nat) (γ : Nat → Sg) (κ : Sg) (L : Nat) (T : Nat → Int32) (os po rz cz : Nat) (τ : Sg) (vb : Int32) (n1 n2 nm en : Nat) (th sp bg : Nat) (fm : Bool) (le : Int32) (fi se re ca : Nat) (B D : Nat → Int32) (f : Nat → Int64) (H : Heap) (locs : List Loc) (ls : Array Slot),
    kn ≤ 4 → L ≤ 60 → kW g A s (LWd g x φ μ ot tk σ kn ρ α β γ κ L T os po rz cz τ vb n1 n2 nm en th sp bg fm le fi se re ca B D f) H locs → lv_has ls 9 [(4, .int (nI i)), (3, .ref ot), (2, .ref (μ 0)), (1, .ref x), (0, .ref b)] → G H locs ls
section KSC
variable {p : Program} {l : Launch} {e : Env} {R : Room} {s : State} {m : MethodId} {args : Array Value} {below : List Frame} {meth : Method} {c : Code} {H : Heap} {locs : List Loc} {cells slots : Nat} {Q : State → Prop}
variable {cc : ByteArray} {nL : Nat} {Ts : List Cond} {own : String} {ret : Option FieldType} {g : GG} {A : Nat → Prop} {ws : va_W} {pc : Nat} {ls : Array Slot} {rest : List Value}
theorem kscr {b n0 i : Nat} {xs : Nat → Int32} {v : Int32} (F : kF p m c cc nL s args Ts own meth ret g A) (w : kW g A s ws H locs) (hX : va_X b n0 xs s s.heap) (hbl : b < s.heap.size) (hbA : ¬ A b) (hi : i < n0) (hn0 : n0 < 2147483648) (hv : xs i = v) (hdg : decode cc pc = .ok (.iaload, 1))
    (kk : W p l e R s m args below meth c H locs cells slots Q (F0 m (pc + 1) ls (.int v :: rest))) : W p l e R s m args below meth c H locs cells slots Q (F0 m pc ls (.int (nI i) :: .ref b :: rest)) := by
  refine va_sld F.1.1 F.1.2.1 hX hbl hbA w.2.2 (vp_in_nI hi (by omega)) hdg ?_
  rw [nI_clamp (n := i) (by omega), hv]
  exact kk
end KSC
theorem lg_self (x : Int64) : lg_cmp x x = nI 0 := by
  unfold lg_cmp
  rw [if_neg (by simp), if_pos rfl]; rfl
theorem nx_split (σ : Sg) (d : Nat) : (∃ q, (d ≤ q ∧ q ≤ 48) ∧ (∀ j, d ≤ j → j < q → zO σ j = false) ∧ zO σ q = true) ∨ (∀ j, d ≤ j → j < 49 → zO σ j = false) := by
  have h : ∀ k, (∃ q, (d ≤ q ∧ q < d + k) ∧ (∀ j, d ≤ j → j < q → zO σ j = false) ∧ zO σ q = true) ∨ (∀ j, d ≤ j → j < d + k → zO σ j = false) := by
    intro k
    induction k with
    | zero => exact Or.inr (fun j h1 h2 => by omega)
    | succ k ih =>
      rcases ih with ⟨q, h1, h2, h3⟩ | ih
      · exact Or.inl ⟨q, ⟨h1.1, by omega⟩, h2, h3⟩
      · cases hz : zO σ (d + k)
        · refine Or.inr (fun j h1 h2 => ?_)
          by_cases e : j = d + k
          · rw [e]; exact hz
          · exact ih j h1 (by omega)
        · exact Or.inl ⟨d + k, ⟨by omega, by omega⟩, ih, hz⟩
  rcases h (49 - d) with ⟨q, h1, h2, h3⟩ | h1
  · exact Or.inl ⟨q, ⟨h1.1, by omega⟩, h2, h3⟩
  · exact Or.inr (fun j h2 h3 => h1 j h2 (by omega))
theorem cdP_clP (σ : Sg) : zB (cdP (zO σ)) = zB (clP (zO σ) 48) := zB_cong fun k h1 h2 => cdP_at (zO σ) h1 h2
theorem best_10 (σ : Sg) : nI (bstN (opF σ) 1 48) = nI (bstN (opF σ) 0 48) := congrArg nI (bstN_any (f := opF σ) (by have := opF_le σ 1; omega) 1 0 47)

