/-! ===== the law's small methods: a call, and what it threw ===== -/
/-- a method with a table of handlers, which throws nothing itself -/
theorem kMetH {l : Launch} {y : MethodName} {ws ws' : List Cond} {rm : Room} {av : List Value} {g : GG} {w : va_W} {sz : Nat} {Qc : Array Value → State → Outcome → State → Prop} {mc ms : Nat} {cc : ByteArray} {maxL : Nat} {ret : Option FieldType} {own : String} {hh : List (Nat × Nat × Nat × Nat)}
    (hy : plainName y.cls = true) (hw : ws = Cond.codeWith y cc maxL ret hh :: ws') (ho : y.cls = own) (hlen : (lg_sl av).length ≤ maxL)
    (body : ∀ (p : Program) (e : Env) (s : State) (m : MethodId) (args : Array Value) (below : List Frame) (meth : Method) (c : Code) (ls : Array Slot) (Q : State → Prop) (H : Heap) (locs : List Loc) (A : Nat → Prop), kF p m c cc maxL s args ws own meth ret g A → kW g A s w H locs → lv_has ls maxL (lv_args 0 av) → c.exceptionTable.toList = tableOf hh → A = va_A w sz → Q = MQ below Qc args s mc ms (va_A w sz) →
      W p l e rm s m args below meth c H locs 0 0 Q (F0 m 0 ls [])) : Met l y ws rm (va_Pc av (kPre g w sz)) Qc mc ms (va_A w sz) := by
  refine MetFree.of_bodyS (code := cc) (maxLocals := maxL) (ret := ret) hy ?_ ?_
  · intro args s m h hn
    obtain ⟨m9, meth, c, hn9, h1, h2, h3, h4, -, h5, h6, -⟩ := Cond.codeWith_spec (atoms_spec (ws := ws) h _ (by rw [hw]; exact List.mem_cons_self))
    cases hn.symm.trans hn9
    exact ⟨meth, c, h1, h2, h3, h4, h5, h6⟩
  · intro p e s m args below meth c s₁ B hml hv _
    have hh0 : s₁.heap = s.heap := by rw [B.state]; rfl
    have htab := vx_table (x := y) B (atoms_spec (ws := ws) B.pre _ (by rw [hw]; exact List.mem_cons_self))
    obtain ⟨rfl, hsz, hP, hD, hG, hZ⟩ := hv
    subst hsz
    have hl := lv_entry av (n := maxL) hlen
    have hB := body p e s m _ below meth c _ _ s.heap [] _ ⟨⟨B.exec, B.bytes, hml, by rw [← ho]; exact findClass_of_methodNamed B.named, atoms_spec (ws := ws) B.pre⟩, B.returns, B.notSynchronized, hG, hZ, fun q h => Or.inr h⟩ ⟨hP, hD.self, va_S.rf⟩ hl htab rfl rfl
    rw [← lg_entry_eq] at hB
    obtain ⟨t, a1, o, b1, b2, b3⟩ := hB s₁ hh0 (Stand.of_body B)
    exact ⟨t, o, a1, b1, b2, b3⟩
section KCA
variable {p : Program} {l : Launch} {e : Env} {R : Room} {s : State} {m : MethodId} {args : Array Value} {below : List Frame} {meth : Method} {c : Code} {H : Heap} {locs : List Loc} {cells slots : Nat} {Q : State → Prop}
variable {cc : ByteArray} {nL : Nat} {Ts : List Cond} {own : String} {ret : Option FieldType} {g : GG} {A : Nat → Prop} {ws : va_W} {pc : Nat} {ls : Array Slot} {st0 rest : List Value}
/-- a call that throws, and its handler here -/
theorem kcaught {SX : Type} {w' wn : SX → va_W} {w0 : Unit → va_W} {wc wr : va_W} {a : Array Value} {As : List Value} {mc ms : Nat} {E0 : String} (F : kF p m c cc nL s args Ts own meth ret g A) (w : kW g A s ws H locs) (isC isR isP : List Nat)
    (hC : isC.map (fun i => ws[i]?) = wc.map some) (hR : isR.map (fun i => ws[i]?) = wr.map some) (hck : (va_nd isC && va_nd isR && va_nd isP && isR.all (fun i => !isC.contains i)) = true) (hP : ∀ u, isP.map (fun i => (wr ++ w' u)[i]?) = (wn u).map some)
    (hr : PreS s H (va_Pc As (kPre g wc H.size)) As → vx_Run p l e R s m args below meth c H locs cells slots mc ms (F0 m pc ls st0) rest (va_Qi (fun (_ : Int32) (_ : Unit) => False) (kB g (va_A wc H.size) w0) (va_A wc H.size) a) (vx_X (fun (_ : SX) => True) (fun E u t => E = E0 ∧ kB g (va_A wc H.size) w' u t) (va_A wc H.size)) (va_A wc H.size))
    (pre : List ExceptionTableEntry) (x : ExceptionTableEntry) (suf : List ExceptionTableEntry) (hsplit : c.exceptionTable.toList = pre ++ x :: suf) (hpass : ∀ z ∈ pre, z.catchType ≠ 0 ∧ ∃ nm : String, Cond.classLink own z.catchType nm ∈ Ts ∧ (E0, nm) ∈ kNca) (hx : covers x pc = true) (h0 : x.catchType ≠ 0)
    (hlink : Cond.classLink own x.catchType E0 ∈ Ts) (hins : Cond.instantiable E0 6 ∈ Ts)
    (kk : ∀ (q9 : Nat) (u : SX) (H1 : Heap) (locs1 : List Loc), kW g A s (wn u) H1 locs1 → W p l e R s m args below meth c H1 locs1 (cells + mc) (slots + ms) Q (F0 m x.handlerPc ls [.ref q9])) :
    W p l e R s m args below meth c H locs cells slots Q (F0 m pc ls st0) := by
  simp only [Bool.and_eq_true] at hck
  obtain ⟨⟨⟨k1, k2⟩, k3⟩, k4⟩ := hck
  have hF := va_free w.2.1 w.2.2 F.2.2.2.2.2 isC hC
  refine vx_calli (hr (kpre F w isC hC k1)) w.2.2 (fun q _ h => hF q h) hF (fun q _ h => hF q h) (fun E ce q9 u t H1 locs1 ht hvm hp hB hz hk hS hce hv hcl => ?_) (fun r u t H1 locs1 ht hvm hw hB hz hk hS => hw.elim)
  obtain ⟨hE, hB1⟩ := hB
  subst hE
  exact vx_catch F.1.2.2.2.1 pre x suf hsplit (fun z hz => by
      obtain ⟨h1, nm, h2, h3⟩ := hpass z hz
      exact Or.inr ⟨h1, nm, F.1.2.2.2.2 _ h2, F.2.2.2.1.2.2.2.2 _ h3⟩) hx h0 (F.1.2.2.2.2 _ hlink) (kcastr (F.1.2.2.2.2 _ hins)) hce hv hcl
    (kk q9 u H1 locs1 (kjoin F w isC isR hC hR k2 k4 isP (hP u) k3 hk (by rw [← ht]; exact hB1.1) hB1.2 hS))
end KCA
def bL : Bool → Int64
  | true => 1
  | false => 0
theorem hd_X5_pass : yX5_pass.cls ≠ "java/lang/invoke/MethodHandle" ∧ yX5_pass.cls ≠ "java/lang/invoke/VarHandle" ∧ (parseMethodDescriptor yX5_pass.desc).map (fun d => d.parameters.length) = some 1 := by decide +kernel
abbrev rmL_pass_k : Room := { frames := 4, cells := 0, slots := 0, locals := 87 }
set_option maxHeartbeats 4000000 in
set_option maxRecDepth 100000 in
theorem kL_pass_k (l : Launch) (g : GG) (x : Nat) (nw : Nat) (sn : Nat) (tk : Bool) (hs : Nat) (tx : Nat) (tr : Nat) (na : Nat) (nb : Nat) (σ : Sg) (hq : Nat) (kn : Nat) (ρ : Nat → Nat) (α : Nat → Nat) (β : Nat → Nat) (γ : Nat → Sg) (k : Nat) (ot : Nat) (f : Nat → Int64) (sz : Nat) (hk : 1 ≤ k ∧ k ≤ 48) (hkn : kn ≤ 4) : Met l yL_pass wsL_pass rmL_pass_k (va_Pc [.ref x, .int (nI k), .ref ot] (kPre g [cX x nw sn tk hs tx tr, cR nw na nb σ, xI g na 49 (zT σ), xI g nb 49 (zI σ), cH hs hq kn, xQ g hq 4 (rq ρ), cR (ρ 0) (α 0) (β 0) (γ 0), xI g (α 0) 49 (zT (γ 0)), xI g (β 0) 49 (zI (γ 0)), cR (ρ 1) (α 1) (β 1) (γ 1), xI g (α 1) 49 (zT (γ 1)), xI g (β 1) 49 (zI (γ 1)), cR (ρ 2) (α 2) (β 2) (γ 2), xI g (α 2) 49 (zT (γ 2)), xI g (β 2) 49 (zI (γ 2)), cR (ρ 3) (α 3) (β 3) (γ 3), xI g (α 3) 49 (zT (γ 3)), xI g (β 3) 49 (zI (γ 3)), xJ g ot 1 f] sz)) (va_Qi (fun (r : Int32) (u : (Nat → Nat) × (Nat → Nat) × (Nat → Nat)) => r = nI 0) (kB g (va_A [cX x nw sn tk hs tx tr, cR nw na nb σ, xI g na 49 (zT σ), xI g nb 49 (zI σ), cH hs hq kn, xQ g hq 4 (rq ρ), cR (ρ 0) (α 0) (β 0) (γ 0), xI g (α 0) 49 (zT (γ 0)), xI g (β 0) 49 (zI (γ 0)), cR (ρ 1) (α 1) (β 1) (γ 1), xI g (α 1) 49 (zT (γ 1)), xI g (β 1) 49 (zI (γ 1)), cR (ρ 2) (α 2) (β 2) (γ 2), xI g (α 2) 49 (zT (γ 2)), xI g (β 2) 49 (zI (γ 2)), cR (ρ 3) (α 3) (β 3) (γ 3), xI g (α 3) 49 (zT (γ 3)), xI g (β 3) 49 (zI (γ 3)), xJ g ot 1 f] sz) (fun u => [cX x nw sn tk hs tx tr, cR nw na nb (passS k σ), xI g na 49 (zT (passS k σ)), xI g nb 49 (zI (passS k σ)), cH hs hq (pushN kn), xQ g hq 4 (rq u.1), cR (u.1 0) (u.2.1 0) (u.2.2 0) ((pushG γ kn σ) 0), xI g (u.2.1 0) 49 (zT ((pushG γ kn σ) 0)), xI g (u.2.2 0) 49 (zI ((pushG γ kn σ) 0)), cR (u.1 1) (u.2.1 1) (u.2.2 1) ((pushG γ kn σ) 1), xI g (u.2.1 1) 49 (zT ((pushG γ kn σ) 1)), xI g (u.2.2 1) 49 (zI ((pushG γ kn σ) 1)), cR (u.1 2) (u.2.1 2) (u.2.2 2) ((pushG γ kn σ) 2), xI g (u.2.1 2) 49 (zT ((pushG γ kn σ) 2)), xI g (u.2.2 2) 49 (zI ((pushG γ kn σ) 2)), cR (u.1 3) (u.2.1 3) (u.2.2 3) ((pushG γ kn σ) 3), xI g (u.2.1 3) 49 (zT ((pushG γ kn σ) 3)), xI g (u.2.2 3) 49 (zI ((pushG γ kn σ) 3)), xJ g ot 1 (vp_updL f 0 ((nI (zcnt (zO (passS k σ)) 48)).toInt64))])) (va_A [cX x nw sn tk hs tx tr, cR nw na nb σ, xI g na 49 (zT σ), xI g nb 49 (zI σ), cH hs hq kn, xQ g hq 4 (rq ρ), cR (ρ 0) (α 0) (β 0) (γ 0), xI g (α 0) 49 (zT (γ 0)), xI g (β 0) 49 (zI (γ 0)), cR (ρ 1) (α 1) (β 1) (γ 1), xI g (α 1) 49 (zT (γ 1)), xI g (β 1) 49 (zI (γ 1)), cR (ρ 2) (α 2) (β 2) (γ 2), xI g (α 2) 49 (zT (γ 2)), xI g (β 2) 49 (zI (γ 2)), cR (ρ 3) (α 3) (β 3) (γ 3), xI g (α 3) 49 (zT (γ 3)), xI g (β 3) 49 (zI (γ 3)), xJ g ot 1 f] sz)) 0 0 (va_A [cX x nw sn tk hs tx tr, cR nw na nb σ, xI g na 49 (zT σ), xI g nb 49 (zI σ), cH hs hq kn, xQ g hq 4 (rq ρ), cR (ρ 0) (α 0) (β 0) (γ 0), xI g (α 0) 49 (zT (γ 0)), xI g (β 0) 49 (zI (γ 0)), cR (ρ 1) (α 1) (β 1) (γ 1), xI g (α 1) 49 (zT (γ 1)), xI g (β 1) 49 (zI (γ 1)), cR (ρ 2) (α 2) (β 2) (γ 2), xI g (α 2) 49 (zT (γ 2)), xI g (β 2) 49 (zI (γ 2)), cR (ρ 3) (α 3) (β 3) (γ 3), xI g (α 3) 49 (zT (γ 3)), xI g (β 3) 49 (zI (γ 3)), xJ g ot 1 f] sz) := by
  refine kMetH (hh := [(0, 9, 12, 13)]) (cc := cL_pass) (maxL := 4) (ret := (some .int)) (own := RL) (by decide) rfl rfl (Nat.le_of_ble_eq_true rfl) ?_
  intro p e s m args below meth c ls Q H locs A F w hl htab hA hQ
  have hx := F.1.1
  have hb := F.1.2.1
  have hts := F.1.2.2.2.2
  have hl : lv_has ls 4 [(0, .ref x), (1, .int (nI k)), (2, .ref ot)] := hl
  refine lv_aload_n hx hb dL_pass_0 rfl (lv_at hl 2 rfl) ?_
  refine lv_iconst (v := nI 0) hx hb dL_pass_1 (by decide) ?_
  refine lv_aload_n hx hb dL_pass_2 rfl (lv_at hl 0 rfl) ?_
  refine lv_iload_n hx hb dL_pass_3 rfl (lv_at hl 1 rfl) ?_
  refine kcalli (wc := [cX x nw sn tk hs tx tr, cR nw na nb σ, xI g na 49 (zT σ), xI g nb 49 (zI σ), cH hs hq kn, xQ g hq 4 (rq ρ), cR (ρ 0) (α 0) (β 0) (γ 0), xI g (α 0) 49 (zT (γ 0)), xI g (β 0) 49 (zI (γ 0)), cR (ρ 1) (α 1) (β 1) (γ 1), xI g (α 1) 49 (zT (γ 1)), xI g (β 1) 49 (zI (γ 1)), cR (ρ 2) (α 2) (β 2) (γ 2), xI g (α 2) 49 (zT (γ 2)), xI g (β 2) 49 (zI (γ 2)), cR (ρ 3) (α 3) (β 3) (γ 3), xI g (α 3) 49 (zT (γ 3)), xI g (β 3) 49 (zI (γ 3))]) (wr := [xJ g ot 1 f]) (wn := fun (u : (Nat → Nat) × (Nat → Nat) × (Nat → Nat)) => [cX x nw sn tk hs tx tr, cR nw na nb (passS k σ), xI g na 49 (zT (passS k σ)), xI g nb 49 (zI (passS k σ)), cH hs hq (pushN kn), xQ g hq 4 (rq u.1), cR (u.1 0) (u.2.1 0) (u.2.2 0) ((pushG γ kn σ) 0), xI g (u.2.1 0) 49 (zT ((pushG γ kn σ) 0)), xI g (u.2.2 0) 49 (zI ((pushG γ kn σ) 0)), cR (u.1 1) (u.2.1 1) (u.2.2 1) ((pushG γ kn σ) 1), xI g (u.2.1 1) 49 (zT ((pushG γ kn σ) 1)), xI g (u.2.2 1) 49 (zI ((pushG γ kn σ) 1)), cR (u.1 2) (u.2.1 2) (u.2.2 2) ((pushG γ kn σ) 2), xI g (u.2.1 2) 49 (zT ((pushG γ kn σ) 2)), xI g (u.2.2 2) 49 (zI ((pushG γ kn σ) 2)), cR (u.1 3) (u.2.1 3) (u.2.2 3) ((pushG γ kn σ) 3), xI g (u.2.1 3) 49 (zT ((pushG γ kn σ) 3)), xI g (u.2.2 3) 49 (zI ((pushG γ kn σ) 3)), xJ g ot 1 f]) F w [0, 1, 2, 3, 4, 5, 6, 7, 8, 9, 10, 11, 12, 13, 14, 15, 16, 17] [18] [1, 2, 3, 4, 5, 6, 7, 8, 9, 10, 11, 12, 13, 14, 15, 16, 17, 18, 0] rfl rfl rfl (fun _ => rfl)
    (fun hp => va_runV (As := [.int (nI k)]) (rest := [.int (nI 0), .ref ot]) F.1 (kX5_pass_k l g x nw sn tk hs tx tr na nb σ hq kn ρ α β γ k H.size hk hkn) (cwV 1 hts gL_pass_X5_pass rfl rfl rfl ⟨rfl, hd_X5_pass⟩ ⟨Nat.le_of_ble_eq_true rfl, Nat.le_of_ble_eq_true rfl⟩) ⟨hp.1, va_recv F.2.2.2.1.1 w.1 (q0 := 0) (ci := 5) rfl rfl, hp.2⟩ rfl rfl hl.1 rfl (lv_room (Nat.le_of_ble_eq_true rfl)) dL_pass_4 ⟨Nat.le_of_ble_eq_true rfl, Nat.le_of_ble_eq_true rfl⟩)
    (fun r_1 u H locs h_2 w => ?_)
  try dsimp only at h_2
  obtain ⟨u_3, hu9⟩ : ∃ z, z = u := ⟨_, rfl⟩
  subst hu9
  have w : kW g A s [cX x nw sn tk hs tx tr, cR nw na nb (passS k σ), xI g na 49 (zT (passS k σ)), xI g nb 49 (zI (passS k σ)), cH hs hq (pushN kn), xQ g hq 4 (rq u_3.1), cR (u_3.1 0) (u_3.2.1 0) (u_3.2.2 0) ((pushG γ kn σ) 0), xI g (u_3.2.1 0) 49 (zT ((pushG γ kn σ) 0)), xI g (u_3.2.2 0) 49 (zI ((pushG γ kn σ) 0)), cR (u_3.1 1) (u_3.2.1 1) (u_3.2.2 1) ((pushG γ kn σ) 1), xI g (u_3.2.1 1) 49 (zT ((pushG γ kn σ) 1)), xI g (u_3.2.2 1) 49 (zI ((pushG γ kn σ) 1)), cR (u_3.1 2) (u_3.2.1 2) (u_3.2.2 2) ((pushG γ kn σ) 2), xI g (u_3.2.1 2) 49 (zT ((pushG γ kn σ) 2)), xI g (u_3.2.2 2) 49 (zI ((pushG γ kn σ) 2)), cR (u_3.1 3) (u_3.2.1 3) (u_3.2.2 3) ((pushG γ kn σ) 3), xI g (u_3.2.1 3) 49 (zT ((pushG γ kn σ) 3)), xI g (u_3.2.2 3) 49 (zI ((pushG γ kn σ) 3)), xJ g ot 1 f] H locs := w
  subst h_2
  refine lv_i2l hx hb dL_pass_7 rfl ?_
  refine klast (f' := vp_updL f 0 ((nI (zcnt (zO (passS k σ)) 48)).toInt64)) F w 18 rfl (vp_in_nI (by omega) (by omega)) (congrArg (fun z => vp_updL f z ((nI (zcnt (zO (passS k σ)) 48)).toInt64)) (nI_clamp (n := 0) (by omega))) (wn := [cX x nw sn tk hs tx tr, cR nw na nb (passS k σ), xI g na 49 (zT (passS k σ)), xI g nb 49 (zI (passS k σ)), cH hs hq (pushN kn), xQ g hq 4 (rq u_3.1), cR (u_3.1 0) (u_3.2.1 0) (u_3.2.2 0) ((pushG γ kn σ) 0), xI g (u_3.2.1 0) 49 (zT ((pushG γ kn σ) 0)), xI g (u_3.2.2 0) 49 (zI ((pushG γ kn σ) 0)), cR (u_3.1 1) (u_3.2.1 1) (u_3.2.2 1) ((pushG γ kn σ) 1), xI g (u_3.2.1 1) 49 (zT ((pushG γ kn σ) 1)), xI g (u_3.2.2 1) 49 (zI ((pushG γ kn σ) 1)), cR (u_3.1 2) (u_3.2.1 2) (u_3.2.2 2) ((pushG γ kn σ) 2), xI g (u_3.2.1 2) 49 (zT ((pushG γ kn σ) 2)), xI g (u_3.2.2 2) 49 (zI ((pushG γ kn σ) 2)), cR (u_3.1 3) (u_3.2.1 3) (u_3.2.2 3) ((pushG γ kn σ) 3), xI g (u_3.2.1 3) 49 (zT ((pushG γ kn σ) 3)), xI g (u_3.2.2 3) 49 (zI ((pushG γ kn σ) 3)), xJ g ot 1 (vp_updL f 0 ((nI (zcnt (zO (passS k σ)) 48)).toInt64))]) rfl dL_pass_8 (fun H locs w => ?_)
  refine lv_goto (tgt := 15) hx hb dL_pass_9 (by decide) ?_
  refine lv_iconst (v := nI 0) hx hb dL_pass_15 (by decide) ?_
  subst hA
  subst hQ
  exact kreti F w u_3 [0, 1, 2, 3, 4, 5, 6, 7, 8, 9, 10, 11, 12, 13, 14, 15, 16, 17, 18] rfl rfl (rfl) (Nat.le_of_ble_eq_true rfl) (Nat.le_of_ble_eq_true rfl) dL_pass_16
abbrev rmL_pass_A : Room := { frames := 7, cells := 1, slots := 6, locals := 103 }
set_option maxHeartbeats 4000000 in
set_option maxRecDepth 100000 in
theorem kL_pass_A (l : Launch) (hnl : l.stackTraces = false) (g : GG) (x : Nat) (nw : Nat) (sn : Nat) (tk : Bool) (hs : Nat) (tx : Nat) (tr : Nat) (n : Int32) (ot : Nat) (sz : Nat) (hn : ¬ (1 ≤ n.toInt ∧ n.toInt ≤ 48)) : Met l yL_pass wsL_pass rmL_pass_A (va_Pc [.ref x, .int n, .ref ot] (kPre g [cX x nw sn tk hs tx tr] sz)) (va_Qi (fun (r : Int32) (u : Unit) => r = nI 1) (kB g (va_A [cX x nw sn tk hs tx tr] sz) (fun u => [cX x nw sn tk hs tx tr])) (va_A [cX x nw sn tk hs tx tr] sz)) 1 6 (va_A [cX x nw sn tk hs tx tr] sz) := by
  refine kMetH (hh := [(0, 9, 12, 13)]) (cc := cL_pass) (maxL := 4) (ret := (some .int)) (own := RL) (by decide) rfl rfl (Nat.le_of_ble_eq_true rfl) ?_
  intro p e s m args below meth c ls Q H locs A F w hl htab hA hQ
  have hx := F.1.1
  have hb := F.1.2.1
  have hts := F.1.2.2.2.2
  have hl : lv_has ls 4 [(0, .ref x), (1, .int n), (2, .ref ot)] := hl
  refine lv_aload_n hx hb dL_pass_0 rfl (lv_at hl 2 rfl) ?_
  refine lv_iconst (v := nI 0) hx hb dL_pass_1 (by decide) ?_
  refine lv_aload_n hx hb dL_pass_2 rfl (lv_at hl 0 rfl) ?_
  refine lv_iload_n hx hb dL_pass_3 rfl (lv_at hl 1 rfl) ?_
  refine kcaught (E0 := eIAE) (wc := []) (wr := [cX x nw sn tk hs tx tr]) (wn := fun (u : Unit) => [cX x nw sn tk hs tx tr]) F w [] [0] [0] rfl rfl rfl (fun _ => rfl)
    (fun hp => vx_runV (As := [.int n]) (rest := [.int (nI 0), .ref ot]) F.1 (kX5_pass_A l hnl g x n H.size hn) (cwV 1 hts gL_pass_X5_pass rfl rfl rfl ⟨rfl, hd_X5_pass⟩ ⟨Nat.le_of_ble_eq_true rfl, Nat.le_of_ble_eq_true rfl⟩) ⟨hp.1, va_recv F.2.2.2.1.1 w.1 (q0 := 0) (ci := 5) rfl rfl, hp.2⟩ rfl rfl hl.1 rfl (lv_room (Nat.le_of_ble_eq_true rfl)) dL_pass_4 ⟨Nat.le_of_ble_eq_true rfl, Nat.le_of_ble_eq_true rfl⟩)
    [] ⟨0, 9, 12, 13⟩ [] htab (fun z hz => nomatch hz) (by decide +kernel) (by decide) (by decide +kernel) (by decide +kernel) (fun q_1 _ H locs w => ?_)
  refine lv_astore_n (lv' := [(3, .ref q_1), (0, .ref x), (1, .int n), (2, .ref ot)]) hx hb dL_pass_12 rfl hl (by decide) rfl (fun ls hl => ?_)
  refine lv_iconst (v := nI 1) hx hb dL_pass_13 (by decide) ?_
  subst hA
  subst hQ
  exact kreti F w () [0] rfl rfl (rfl) (Nat.le_of_ble_eq_true rfl) (Nat.le_of_ble_eq_true rfl) dL_pass_14
theorem hd_X5_passRow : yX5_passRow.cls ≠ "java/lang/invoke/MethodHandle" ∧ yX5_passRow.cls ≠ "java/lang/invoke/VarHandle" ∧ (parseMethodDescriptor yX5_passRow.desc).map (fun d => d.parameters.length) = some 2 := by decide +kernel
abbrev rmL_passRow_k : Room := { frames := 5, cells := 0, slots := 0, locals := 112 }
set_option maxHeartbeats 4000000 in
set_option maxRecDepth 100000 in
theorem kL_passRow_k (l : Launch) (g : GG) (x : Nat) (nw : Nat) (sn : Nat) (tk : Bool) (hs : Nat) (tx : Nat) (tr : Nat) (na : Nat) (nb : Nat) (σ : Sg) (hq : Nat) (kn : Nat) (ρ : Nat → Nat) (α : Nat → Nat) (β : Nat → Nat) (γ : Nat → Sg) (n : Nat) (t : Nat) (ot : Nat) (f : Nat → Int64) (sz : Nat) (hn : 1 ≤ n ∧ n ≤ t ∧ t ≤ 48) (hkn : kn ≤ 4) : Met l yL_passRow wsL_passRow rmL_passRow_k (va_Pc [.ref x, .int (nI n), .int (nI t), .ref ot] (kPre g [cX x nw sn tk hs tx tr, cR nw na nb σ, xI g na 49 (zT σ), xI g nb 49 (zI σ), cH hs hq kn, xQ g hq 4 (rq ρ), cR (ρ 0) (α 0) (β 0) (γ 0), xI g (α 0) 49 (zT (γ 0)), xI g (β 0) 49 (zI (γ 0)), cR (ρ 1) (α 1) (β 1) (γ 1), xI g (α 1) 49 (zT (γ 1)), xI g (β 1) 49 (zI (γ 1)), cR (ρ 2) (α 2) (β 2) (γ 2), xI g (α 2) 49 (zT (γ 2)), xI g (β 2) 49 (zI (γ 2)), cR (ρ 3) (α 3) (β 3) (γ 3), xI g (α 3) 49 (zT (γ 3)), xI g (β 3) 49 (zI (γ 3)), xJ g ot 1 f] sz)) (va_Qi (fun (r : Int32) (u : (Nat → Nat) × (Nat → Nat) × (Nat → Nat)) => r = nI 0) (kB g (va_A [cX x nw sn tk hs tx tr, cR nw na nb σ, xI g na 49 (zT σ), xI g nb 49 (zI σ), cH hs hq kn, xQ g hq 4 (rq ρ), cR (ρ 0) (α 0) (β 0) (γ 0), xI g (α 0) 49 (zT (γ 0)), xI g (β 0) 49 (zI (γ 0)), cR (ρ 1) (α 1) (β 1) (γ 1), xI g (α 1) 49 (zT (γ 1)), xI g (β 1) 49 (zI (γ 1)), cR (ρ 2) (α 2) (β 2) (γ 2), xI g (α 2) 49 (zT (γ 2)), xI g (β 2) 49 (zI (γ 2)), cR (ρ 3) (α 3) (β 3) (γ 3), xI g (α 3) 49 (zT (γ 3)), xI g (β 3) 49 (zI (γ 3)), xJ g ot 1 f] sz) (fun u => [cX x nw sn tk hs tx tr, cR nw na nb (rowN n (t + 1 - n) σ), xI g na 49 (zT (rowN n (t + 1 - n) σ)), xI g nb 49 (zI (rowN n (t + 1 - n) σ)), cH hs hq (pushN kn), xQ g hq 4 (rq u.1), cR (u.1 0) (u.2.1 0) (u.2.2 0) ((pushG γ kn σ) 0), xI g (u.2.1 0) 49 (zT ((pushG γ kn σ) 0)), xI g (u.2.2 0) 49 (zI ((pushG γ kn σ) 0)), cR (u.1 1) (u.2.1 1) (u.2.2 1) ((pushG γ kn σ) 1), xI g (u.2.1 1) 49 (zT ((pushG γ kn σ) 1)), xI g (u.2.2 1) 49 (zI ((pushG γ kn σ) 1)), cR (u.1 2) (u.2.1 2) (u.2.2 2) ((pushG γ kn σ) 2), xI g (u.2.1 2) 49 (zT ((pushG γ kn σ) 2)), xI g (u.2.2 2) 49 (zI ((pushG γ kn σ) 2)), cR (u.1 3) (u.2.1 3) (u.2.2 3) ((pushG γ kn σ) 3), xI g (u.2.1 3) 49 (zT ((pushG γ kn σ) 3)), xI g (u.2.2 3) 49 (zI ((pushG γ kn σ) 3)), xJ g ot 1 (vp_updL f 0 ((nI (rowC n (t + 1 - n) σ)).toInt64))])) (va_A [cX x nw sn tk hs tx tr, cR nw na nb σ, xI g na 49 (zT σ), xI g nb 49 (zI σ), cH hs hq kn, xQ g hq 4 (rq ρ), cR (ρ 0) (α 0) (β 0) (γ 0), xI g (α 0) 49 (zT (γ 0)), xI g (β 0) 49 (zI (γ 0)), cR (ρ 1) (α 1) (β 1) (γ 1), xI g (α 1) 49 (zT (γ 1)), xI g (β 1) 49 (zI (γ 1)), cR (ρ 2) (α 2) (β 2) (γ 2), xI g (α 2) 49 (zT (γ 2)), xI g (β 2) 49 (zI (γ 2)), cR (ρ 3) (α 3) (β 3) (γ 3), xI g (α 3) 49 (zT (γ 3)), xI g (β 3) 49 (zI (γ 3)), xJ g ot 1 f] sz)) 0 0 (va_A [cX x nw sn tk hs tx tr, cR nw na nb σ, xI g na 49 (zT σ), xI g nb 49 (zI σ), cH hs hq kn, xQ g hq 4 (rq ρ), cR (ρ 0) (α 0) (β 0) (γ 0), xI g (α 0) 49 (zT (γ 0)), xI g (β 0) 49 (zI (γ 0)), cR (ρ 1) (α 1) (β 1) (γ 1), xI g (α 1) 49 (zT (γ 1)), xI g (β 1) 49 (zI (γ 1)), cR (ρ 2) (α 2) (β 2) (γ 2), xI g (α 2) 49 (zT (γ 2)), xI g (β 2) 49 (zI (γ 2)), cR (ρ 3) (α 3) (β 3) (γ 3), xI g (α 3) 49 (zT (γ 3)), xI g (β 3) 49 (zI (γ 3)), xJ g ot 1 f] sz) := by
  refine kMetH (hh := [(0, 10, 13, 13)]) (cc := cL_passRow) (maxL := 5) (ret := (some .int)) (own := RL) (by decide) rfl rfl (Nat.le_of_ble_eq_true rfl) ?_
  intro p e s m args below meth c ls Q H locs A F w hl htab hA hQ
  have hx := F.1.1
  have hb := F.1.2.1
  have hts := F.1.2.2.2.2
  have hl : lv_has ls 5 [(0, .ref x), (1, .int (nI n)), (2, .int (nI t)), (3, .ref ot)] := hl
  refine lv_aload_n hx hb dL_passRow_0 rfl (lv_at hl 3 rfl) ?_
  refine lv_iconst (v := nI 0) hx hb dL_passRow_1 (by decide) ?_
  refine lv_aload_n hx hb dL_passRow_2 rfl (lv_at hl 0 rfl) ?_
  refine lv_iload_n hx hb dL_passRow_3 rfl (lv_at hl 1 rfl) ?_
  refine lv_iload_n hx hb dL_passRow_4 rfl (lv_at hl 2 rfl) ?_
  refine kcalli (wc := [cX x nw sn tk hs tx tr, cR nw na nb σ, xI g na 49 (zT σ), xI g nb 49 (zI σ), cH hs hq kn, xQ g hq 4 (rq ρ), cR (ρ 0) (α 0) (β 0) (γ 0), xI g (α 0) 49 (zT (γ 0)), xI g (β 0) 49 (zI (γ 0)), cR (ρ 1) (α 1) (β 1) (γ 1), xI g (α 1) 49 (zT (γ 1)), xI g (β 1) 49 (zI (γ 1)), cR (ρ 2) (α 2) (β 2) (γ 2), xI g (α 2) 49 (zT (γ 2)), xI g (β 2) 49 (zI (γ 2)), cR (ρ 3) (α 3) (β 3) (γ 3), xI g (α 3) 49 (zT (γ 3)), xI g (β 3) 49 (zI (γ 3))]) (wr := [xJ g ot 1 f]) (wn := fun (u : (Nat → Nat) × (Nat → Nat) × (Nat → Nat)) => [cX x nw sn tk hs tx tr, cR nw na nb (rowN n (t + 1 - n) σ), xI g na 49 (zT (rowN n (t + 1 - n) σ)), xI g nb 49 (zI (rowN n (t + 1 - n) σ)), cH hs hq (pushN kn), xQ g hq 4 (rq u.1), cR (u.1 0) (u.2.1 0) (u.2.2 0) ((pushG γ kn σ) 0), xI g (u.2.1 0) 49 (zT ((pushG γ kn σ) 0)), xI g (u.2.2 0) 49 (zI ((pushG γ kn σ) 0)), cR (u.1 1) (u.2.1 1) (u.2.2 1) ((pushG γ kn σ) 1), xI g (u.2.1 1) 49 (zT ((pushG γ kn σ) 1)), xI g (u.2.2 1) 49 (zI ((pushG γ kn σ) 1)), cR (u.1 2) (u.2.1 2) (u.2.2 2) ((pushG γ kn σ) 2), xI g (u.2.1 2) 49 (zT ((pushG γ kn σ) 2)), xI g (u.2.2 2) 49 (zI ((pushG γ kn σ) 2)), cR (u.1 3) (u.2.1 3) (u.2.2 3) ((pushG γ kn σ) 3), xI g (u.2.1 3) 49 (zT ((pushG γ kn σ) 3)), xI g (u.2.2 3) 49 (zI ((pushG γ kn σ) 3)), xJ g ot 1 f]) F w [0, 1, 2, 3, 4, 5, 6, 7, 8, 9, 10, 11, 12, 13, 14, 15, 16, 17] [18] [1, 2, 3, 4, 5, 6, 7, 8, 9, 10, 11, 12, 13, 14, 15, 16, 17, 18, 0] rfl rfl rfl (fun _ => rfl)
    (fun hp => va_runV (As := [.int (nI n), .int (nI t)]) (rest := [.int (nI 0), .ref ot]) F.1 (kX5_passRow_k l g x nw sn tk hs tx tr na nb σ hq kn ρ α β γ n t H.size hn hkn) (cwV 2 hts gL_passRow_X5_passRow rfl rfl rfl ⟨rfl, hd_X5_passRow⟩ ⟨Nat.le_of_ble_eq_true rfl, Nat.le_of_ble_eq_true rfl⟩) ⟨hp.1, va_recv F.2.2.2.1.1 w.1 (q0 := 0) (ci := 5) rfl rfl, hp.2⟩ rfl rfl hl.1 rfl (lv_room (Nat.le_of_ble_eq_true rfl)) dL_passRow_5 ⟨Nat.le_of_ble_eq_true rfl, Nat.le_of_ble_eq_true rfl⟩)
    (fun r_1 u H locs h_2 w => ?_)
  try dsimp only at h_2
  obtain ⟨u_3, hu9⟩ : ∃ z, z = u := ⟨_, rfl⟩
  subst hu9
  have w : kW g A s [cX x nw sn tk hs tx tr, cR nw na nb (rowN n (t + 1 - n) σ), xI g na 49 (zT (rowN n (t + 1 - n) σ)), xI g nb 49 (zI (rowN n (t + 1 - n) σ)), cH hs hq (pushN kn), xQ g hq 4 (rq u_3.1), cR (u_3.1 0) (u_3.2.1 0) (u_3.2.2 0) ((pushG γ kn σ) 0), xI g (u_3.2.1 0) 49 (zT ((pushG γ kn σ) 0)), xI g (u_3.2.2 0) 49 (zI ((pushG γ kn σ) 0)), cR (u_3.1 1) (u_3.2.1 1) (u_3.2.2 1) ((pushG γ kn σ) 1), xI g (u_3.2.1 1) 49 (zT ((pushG γ kn σ) 1)), xI g (u_3.2.2 1) 49 (zI ((pushG γ kn σ) 1)), cR (u_3.1 2) (u_3.2.1 2) (u_3.2.2 2) ((pushG γ kn σ) 2), xI g (u_3.2.1 2) 49 (zT ((pushG γ kn σ) 2)), xI g (u_3.2.2 2) 49 (zI ((pushG γ kn σ) 2)), cR (u_3.1 3) (u_3.2.1 3) (u_3.2.2 3) ((pushG γ kn σ) 3), xI g (u_3.2.1 3) 49 (zT ((pushG γ kn σ) 3)), xI g (u_3.2.2 3) 49 (zI ((pushG γ kn σ) 3)), xJ g ot 1 f] H locs := w
  subst h_2
  refine lv_i2l hx hb dL_passRow_8 rfl ?_
  refine klast (f' := vp_updL f 0 ((nI (rowC n (t + 1 - n) σ)).toInt64)) F w 18 rfl (vp_in_nI (by omega) (by omega)) (congrArg (fun z => vp_updL f z ((nI (rowC n (t + 1 - n) σ)).toInt64)) (nI_clamp (n := 0) (by omega))) (wn := [cX x nw sn tk hs tx tr, cR nw na nb (rowN n (t + 1 - n) σ), xI g na 49 (zT (rowN n (t + 1 - n) σ)), xI g nb 49 (zI (rowN n (t + 1 - n) σ)), cH hs hq (pushN kn), xQ g hq 4 (rq u_3.1), cR (u_3.1 0) (u_3.2.1 0) (u_3.2.2 0) ((pushG γ kn σ) 0), xI g (u_3.2.1 0) 49 (zT ((pushG γ kn σ) 0)), xI g (u_3.2.2 0) 49 (zI ((pushG γ kn σ) 0)), cR (u_3.1 1) (u_3.2.1 1) (u_3.2.2 1) ((pushG γ kn σ) 1), xI g (u_3.2.1 1) 49 (zT ((pushG γ kn σ) 1)), xI g (u_3.2.2 1) 49 (zI ((pushG γ kn σ) 1)), cR (u_3.1 2) (u_3.2.1 2) (u_3.2.2 2) ((pushG γ kn σ) 2), xI g (u_3.2.1 2) 49 (zT ((pushG γ kn σ) 2)), xI g (u_3.2.2 2) 49 (zI ((pushG γ kn σ) 2)), cR (u_3.1 3) (u_3.2.1 3) (u_3.2.2 3) ((pushG γ kn σ) 3), xI g (u_3.2.1 3) 49 (zT ((pushG γ kn σ) 3)), xI g (u_3.2.2 3) 49 (zI ((pushG γ kn σ) 3)), xJ g ot 1 (vp_updL f 0 ((nI (rowC n (t + 1 - n) σ)).toInt64))]) rfl dL_passRow_9 (fun H locs w => ?_)
  refine lv_goto (tgt := 17) hx hb dL_passRow_10 (by decide) ?_
  refine lv_iconst (v := nI 0) hx hb dL_passRow_17 (by decide) ?_
  subst hA
  subst hQ
  exact kreti F w u_3 [0, 1, 2, 3, 4, 5, 6, 7, 8, 9, 10, 11, 12, 13, 14, 15, 16, 17, 18] rfl rfl (rfl) (Nat.le_of_ble_eq_true rfl) (Nat.le_of_ble_eq_true rfl) dL_passRow_18
abbrev rmL_passRow_A : Room := { frames := 7, cells := 1, slots := 6, locals := 104 }
set_option maxHeartbeats 4000000 in
set_option maxRecDepth 100000 in
theorem kL_passRow_A (l : Launch) (hnl : l.stackTraces = false) (g : GG) (x : Nat) (nw : Nat) (sn : Nat) (tk : Bool) (hs : Nat) (tx : Nat) (tr : Nat) (n : Int32) (t : Int32) (ot : Nat) (sz : Nat) (hn : ¬ (1 ≤ n.toInt ∧ n.toInt ≤ t.toInt ∧ t.toInt ≤ 48)) : Met l yL_passRow wsL_passRow rmL_passRow_A (va_Pc [.ref x, .int n, .int t, .ref ot] (kPre g [cX x nw sn tk hs tx tr] sz)) (va_Qi (fun (r : Int32) (u : Unit) => r = nI 1) (kB g (va_A [cX x nw sn tk hs tx tr] sz) (fun u => [cX x nw sn tk hs tx tr])) (va_A [cX x nw sn tk hs tx tr] sz)) 1 6 (va_A [cX x nw sn tk hs tx tr] sz) := by
  refine kMetH (hh := [(0, 10, 13, 13)]) (cc := cL_passRow) (maxL := 5) (ret := (some .int)) (own := RL) (by decide) rfl rfl (Nat.le_of_ble_eq_true rfl) ?_
  intro p e s m args below meth c ls Q H locs A F w hl htab hA hQ
  have hx := F.1.1
  have hb := F.1.2.1
  have hts := F.1.2.2.2.2
  have hl : lv_has ls 5 [(0, .ref x), (1, .int n), (2, .int t), (3, .ref ot)] := hl
  refine lv_aload_n hx hb dL_passRow_0 rfl (lv_at hl 3 rfl) ?_
  refine lv_iconst (v := nI 0) hx hb dL_passRow_1 (by decide) ?_
  refine lv_aload_n hx hb dL_passRow_2 rfl (lv_at hl 0 rfl) ?_
  refine lv_iload_n hx hb dL_passRow_3 rfl (lv_at hl 1 rfl) ?_
  refine lv_iload_n hx hb dL_passRow_4 rfl (lv_at hl 2 rfl) ?_
  refine kcaught (E0 := eIAE) (wc := []) (wr := [cX x nw sn tk hs tx tr]) (wn := fun (u : Unit) => [cX x nw sn tk hs tx tr]) F w [] [0] [0] rfl rfl rfl (fun _ => rfl)
    (fun hp => vx_runV (As := [.int n, .int t]) (rest := [.int (nI 0), .ref ot]) F.1 (kX5_passRow_A l hnl g x n t H.size hn) (cwV 2 hts gL_passRow_X5_passRow rfl rfl rfl ⟨rfl, hd_X5_passRow⟩ ⟨Nat.le_of_ble_eq_true rfl, Nat.le_of_ble_eq_true rfl⟩) ⟨hp.1, va_recv F.2.2.2.1.1 w.1 (q0 := 0) (ci := 5) rfl rfl, hp.2⟩ rfl rfl hl.1 rfl (lv_room (Nat.le_of_ble_eq_true rfl)) dL_passRow_5 ⟨Nat.le_of_ble_eq_true rfl, Nat.le_of_ble_eq_true rfl⟩)
    [] ⟨0, 10, 13, 13⟩ [] htab (fun z hz => nomatch hz) (by decide +kernel) (by decide) (by decide +kernel) (by decide +kernel) (fun q_1 _ H locs w => ?_)
  refine lv_astore (lv' := [(4, .ref q_1), (0, .ref x), (1, .int n), (2, .int t), (3, .ref ot)]) hx hb dL_passRow_13 hl (by decide) rfl (fun ls hl => ?_)
  refine lv_iconst (v := nI 1) hx hb dL_passRow_15 (by decide) ?_
  subst hA
  subst hQ
  exact kreti F w () [0] rfl rfl (rfl) (Nat.le_of_ble_eq_true rfl) (Nat.le_of_ble_eq_true rfl) dL_passRow_16
theorem hd_X5_turnDoor : yX5_turnDoor.cls ≠ "java/lang/invoke/MethodHandle" ∧ yX5_turnDoor.cls ≠ "java/lang/invoke/VarHandle" ∧ (parseMethodDescriptor yX5_turnDoor.desc).map (fun d => d.parameters.length) = some 1 := by decide +kernel
abbrev rmL_turnDoor_k : Room := { frames := 4, cells := 0, slots := 0, locals := 86 }
set_option maxHeartbeats 4000000 in
set_option maxRecDepth 100000 in
theorem kL_turnDoor_k (l : Launch) (g : GG) (x : Nat) (nw : Nat) (sn : Nat) (tk : Bool) (hs : Nat) (tx : Nat) (tr : Nat) (na : Nat) (nb : Nat) (σ : Sg) (hq : Nat) (kn : Nat) (ρ : Nat → Nat) (α : Nat → Nat) (β : Nat → Nat) (γ : Nat → Sg) (d : Nat) (ot : Nat) (f : Nat → Int64) (sz : Nat) (hd : 1 ≤ d ∧ d ≤ 48) (hl9 : zL σ d = false) (hkn : kn ≤ 4) : Met l yL_turnDoor wsL_turnDoor rmL_turnDoor_k (va_Pc [.ref x, .int (nI d), .ref ot] (kPre g [cX x nw sn tk hs tx tr, cR nw na nb σ, xI g na 49 (zT σ), xI g nb 49 (zI σ), cH hs hq kn, xQ g hq 4 (rq ρ), cR (ρ 0) (α 0) (β 0) (γ 0), xI g (α 0) 49 (zT (γ 0)), xI g (β 0) 49 (zI (γ 0)), cR (ρ 1) (α 1) (β 1) (γ 1), xI g (α 1) 49 (zT (γ 1)), xI g (β 1) 49 (zI (γ 1)), cR (ρ 2) (α 2) (β 2) (γ 2), xI g (α 2) 49 (zT (γ 2)), xI g (β 2) 49 (zI (γ 2)), cR (ρ 3) (α 3) (β 3) (γ 3), xI g (α 3) 49 (zT (γ 3)), xI g (β 3) 49 (zI (γ 3)), xJ g ot 1 f] sz)) (va_Qi (fun (r : Int32) (u : (Nat → Nat) × (Nat → Nat) × (Nat → Nat)) => r = nI 0) (kB g (va_A [cX x nw sn tk hs tx tr, cR nw na nb σ, xI g na 49 (zT σ), xI g nb 49 (zI σ), cH hs hq kn, xQ g hq 4 (rq ρ), cR (ρ 0) (α 0) (β 0) (γ 0), xI g (α 0) 49 (zT (γ 0)), xI g (β 0) 49 (zI (γ 0)), cR (ρ 1) (α 1) (β 1) (γ 1), xI g (α 1) 49 (zT (γ 1)), xI g (β 1) 49 (zI (γ 1)), cR (ρ 2) (α 2) (β 2) (γ 2), xI g (α 2) 49 (zT (γ 2)), xI g (β 2) 49 (zI (γ 2)), cR (ρ 3) (α 3) (β 3) (γ 3), xI g (α 3) 49 (zT (γ 3)), xI g (β 3) 49 (zI (γ 3)), xJ g ot 1 f] sz) (fun u => [cX x nw sn tk hs tx tr, cR nw na nb (turnS d σ), xI g na 49 (zT (turnS d σ)), xI g nb 49 (zI (turnS d σ)), cH hs hq (pushN kn), xQ g hq 4 (rq u.1), cR (u.1 0) (u.2.1 0) (u.2.2 0) ((pushG γ kn σ) 0), xI g (u.2.1 0) 49 (zT ((pushG γ kn σ) 0)), xI g (u.2.2 0) 49 (zI ((pushG γ kn σ) 0)), cR (u.1 1) (u.2.1 1) (u.2.2 1) ((pushG γ kn σ) 1), xI g (u.2.1 1) 49 (zT ((pushG γ kn σ) 1)), xI g (u.2.2 1) 49 (zI ((pushG γ kn σ) 1)), cR (u.1 2) (u.2.1 2) (u.2.2 2) ((pushG γ kn σ) 2), xI g (u.2.1 2) 49 (zT ((pushG γ kn σ) 2)), xI g (u.2.2 2) 49 (zI ((pushG γ kn σ) 2)), cR (u.1 3) (u.2.1 3) (u.2.2 3) ((pushG γ kn σ) 3), xI g (u.2.1 3) 49 (zT ((pushG γ kn σ) 3)), xI g (u.2.2 3) 49 (zI ((pushG γ kn σ) 3)), xJ g ot 1 (vp_updL f 0 (bL (zO (turnS d σ) d)))])) (va_A [cX x nw sn tk hs tx tr, cR nw na nb σ, xI g na 49 (zT σ), xI g nb 49 (zI σ), cH hs hq kn, xQ g hq 4 (rq ρ), cR (ρ 0) (α 0) (β 0) (γ 0), xI g (α 0) 49 (zT (γ 0)), xI g (β 0) 49 (zI (γ 0)), cR (ρ 1) (α 1) (β 1) (γ 1), xI g (α 1) 49 (zT (γ 1)), xI g (β 1) 49 (zI (γ 1)), cR (ρ 2) (α 2) (β 2) (γ 2), xI g (α 2) 49 (zT (γ 2)), xI g (β 2) 49 (zI (γ 2)), cR (ρ 3) (α 3) (β 3) (γ 3), xI g (α 3) 49 (zT (γ 3)), xI g (β 3) 49 (zI (γ 3)), xJ g ot 1 f] sz)) 0 0 (va_A [cX x nw sn tk hs tx tr, cR nw na nb σ, xI g na 49 (zT σ), xI g nb 49 (zI σ), cH hs hq kn, xQ g hq 4 (rq ρ), cR (ρ 0) (α 0) (β 0) (γ 0), xI g (α 0) 49 (zT (γ 0)), xI g (β 0) 49 (zI (γ 0)), cR (ρ 1) (α 1) (β 1) (γ 1), xI g (α 1) 49 (zT (γ 1)), xI g (β 1) 49 (zI (γ 1)), cR (ρ 2) (α 2) (β 2) (γ 2), xI g (α 2) 49 (zT (γ 2)), xI g (β 2) 49 (zI (γ 2)), cR (ρ 3) (α 3) (β 3) (γ 3), xI g (α 3) 49 (zT (γ 3)), xI g (β 3) 49 (zI (γ 3)), xJ g ot 1 f] sz) := by
  refine kMetH (hh := [(0, 16, 19, 13), (0, 16, 22, 23)]) (cc := cL_turnDoor) (maxL := 4) (ret := (some .int)) (own := RL) (by decide) rfl rfl (Nat.le_of_ble_eq_true rfl) ?_
  intro p e s m args below meth c ls Q H locs A F w hl htab hA hQ
  have hx := F.1.1
  have hb := F.1.2.1
  have hts := F.1.2.2.2.2
  have hl : lv_has ls 4 [(0, .ref x), (1, .int (nI d)), (2, .ref ot)] := hl
  refine lv_aload_n hx hb dL_turnDoor_0 rfl (lv_at hl 2 rfl) ?_
  refine lv_iconst (v := nI 0) hx hb dL_turnDoor_1 (by decide) ?_
  refine lv_aload_n hx hb dL_turnDoor_2 rfl (lv_at hl 0 rfl) ?_
  refine lv_iload_n hx hb dL_turnDoor_3 rfl (lv_at hl 1 rfl) ?_
  refine kcalli (wc := [cX x nw sn tk hs tx tr, cR nw na nb σ, xI g na 49 (zT σ), xI g nb 49 (zI σ), cH hs hq kn, xQ g hq 4 (rq ρ), cR (ρ 0) (α 0) (β 0) (γ 0), xI g (α 0) 49 (zT (γ 0)), xI g (β 0) 49 (zI (γ 0)), cR (ρ 1) (α 1) (β 1) (γ 1), xI g (α 1) 49 (zT (γ 1)), xI g (β 1) 49 (zI (γ 1)), cR (ρ 2) (α 2) (β 2) (γ 2), xI g (α 2) 49 (zT (γ 2)), xI g (β 2) 49 (zI (γ 2)), cR (ρ 3) (α 3) (β 3) (γ 3), xI g (α 3) 49 (zT (γ 3)), xI g (β 3) 49 (zI (γ 3))]) (wr := [xJ g ot 1 f]) (wn := fun (u : (Nat → Nat) × (Nat → Nat) × (Nat → Nat)) => [cX x nw sn tk hs tx tr, cR nw na nb (turnS d σ), xI g na 49 (zT (turnS d σ)), xI g nb 49 (zI (turnS d σ)), cH hs hq (pushN kn), xQ g hq 4 (rq u.1), cR (u.1 0) (u.2.1 0) (u.2.2 0) ((pushG γ kn σ) 0), xI g (u.2.1 0) 49 (zT ((pushG γ kn σ) 0)), xI g (u.2.2 0) 49 (zI ((pushG γ kn σ) 0)), cR (u.1 1) (u.2.1 1) (u.2.2 1) ((pushG γ kn σ) 1), xI g (u.2.1 1) 49 (zT ((pushG γ kn σ) 1)), xI g (u.2.2 1) 49 (zI ((pushG γ kn σ) 1)), cR (u.1 2) (u.2.1 2) (u.2.2 2) ((pushG γ kn σ) 2), xI g (u.2.1 2) 49 (zT ((pushG γ kn σ) 2)), xI g (u.2.2 2) 49 (zI ((pushG γ kn σ) 2)), cR (u.1 3) (u.2.1 3) (u.2.2 3) ((pushG γ kn σ) 3), xI g (u.2.1 3) 49 (zT ((pushG γ kn σ) 3)), xI g (u.2.2 3) 49 (zI ((pushG γ kn σ) 3)), xJ g ot 1 f]) F w [0, 1, 2, 3, 4, 5, 6, 7, 8, 9, 10, 11, 12, 13, 14, 15, 16, 17] [18] [1, 2, 3, 4, 5, 6, 7, 8, 9, 10, 11, 12, 13, 14, 15, 16, 17, 18, 0] rfl rfl rfl (fun _ => rfl)
    (fun hp => va_runV (As := [.int (nI d)]) (rest := [.int (nI 0), .ref ot]) F.1 (kX5_turnDoor_k l g x nw sn tk hs tx tr na nb σ hq kn ρ α β γ d H.size hd hl9 hkn) (cwV 1 hts gL_turnDoor_X5_turnDoor rfl rfl rfl ⟨rfl, hd_X5_turnDoor⟩ ⟨Nat.le_of_ble_eq_true rfl, Nat.le_of_ble_eq_true rfl⟩) ⟨hp.1, va_recv F.2.2.2.1.1 w.1 (q0 := 0) (ci := 5) rfl rfl, hp.2⟩ rfl rfl hl.1 rfl (lv_room (Nat.le_of_ble_eq_true rfl)) dL_turnDoor_4 ⟨Nat.le_of_ble_eq_true rfl, Nat.le_of_ble_eq_true rfl⟩)
    (fun r_1 u H locs h_2 w => ?_)
  try dsimp only at h_2
  obtain ⟨u_3, hu9⟩ : ∃ z, z = u := ⟨_, rfl⟩
  subst hu9
  have w : kW g A s [cX x nw sn tk hs tx tr, cR nw na nb (turnS d σ), xI g na 49 (zT (turnS d σ)), xI g nb 49 (zI (turnS d σ)), cH hs hq (pushN kn), xQ g hq 4 (rq u_3.1), cR (u_3.1 0) (u_3.2.1 0) (u_3.2.2 0) ((pushG γ kn σ) 0), xI g (u_3.2.1 0) 49 (zT ((pushG γ kn σ) 0)), xI g (u_3.2.2 0) 49 (zI ((pushG γ kn σ) 0)), cR (u_3.1 1) (u_3.2.1 1) (u_3.2.2 1) ((pushG γ kn σ) 1), xI g (u_3.2.1 1) 49 (zT ((pushG γ kn σ) 1)), xI g (u_3.2.2 1) 49 (zI ((pushG γ kn σ) 1)), cR (u_3.1 2) (u_3.2.1 2) (u_3.2.2 2) ((pushG γ kn σ) 2), xI g (u_3.2.1 2) 49 (zT ((pushG γ kn σ) 2)), xI g (u_3.2.2 2) 49 (zI ((pushG γ kn σ) 2)), cR (u_3.1 3) (u_3.2.1 3) (u_3.2.2 3) ((pushG γ kn σ) 3), xI g (u_3.2.1 3) 49 (zT ((pushG γ kn σ) 3)), xI g (u_3.2.2 3) 49 (zI ((pushG γ kn σ) 3)), xJ g ot 1 f] H locs := w
  subst h_2
  refine lv_if_eq (tgt := 14) hx hb dL_turnDoor_7 (by decide) (fun h_4 => ?_) (fun h_4 => ?_)
  · have h_4 : (zO (turnS d σ) d) = false := bI_z.mp h_4
    refine lv_lconst (v := 0) hx hb dL_turnDoor_14 (by decide) ?_
    refine ktopl (y := bL (zO (turnS d σ) d)) (by rw [h_4]; rfl) ?_
    refine klast (f' := vp_updL f 0 (bL (zO (turnS d σ) d))) F w 18 rfl (vp_in_nI (by omega) (by omega)) (congrArg (fun z => vp_updL f z (bL (zO (turnS d σ) d))) (nI_clamp (n := 0) (by omega))) (wn := [cX x nw sn tk hs tx tr, cR nw na nb (turnS d σ), xI g na 49 (zT (turnS d σ)), xI g nb 49 (zI (turnS d σ)), cH hs hq (pushN kn), xQ g hq 4 (rq u_3.1), cR (u_3.1 0) (u_3.2.1 0) (u_3.2.2 0) ((pushG γ kn σ) 0), xI g (u_3.2.1 0) 49 (zT ((pushG γ kn σ) 0)), xI g (u_3.2.2 0) 49 (zI ((pushG γ kn σ) 0)), cR (u_3.1 1) (u_3.2.1 1) (u_3.2.2 1) ((pushG γ kn σ) 1), xI g (u_3.2.1 1) 49 (zT ((pushG γ kn σ) 1)), xI g (u_3.2.2 1) 49 (zI ((pushG γ kn σ) 1)), cR (u_3.1 2) (u_3.2.1 2) (u_3.2.2 2) ((pushG γ kn σ) 2), xI g (u_3.2.1 2) 49 (zT ((pushG γ kn σ) 2)), xI g (u_3.2.2 2) 49 (zI ((pushG γ kn σ) 2)), cR (u_3.1 3) (u_3.2.1 3) (u_3.2.2 3) ((pushG γ kn σ) 3), xI g (u_3.2.1 3) 49 (zT ((pushG γ kn σ) 3)), xI g (u_3.2.2 3) 49 (zI ((pushG γ kn σ) 3)), xJ g ot 1 (vp_updL f 0 (bL (zO (turnS d σ) d)))]) rfl dL_turnDoor_15 (fun H locs w => ?_)
    refine lv_goto (tgt := 25) hx hb dL_turnDoor_16 (by decide) ?_
    refine lv_iconst (v := nI 0) hx hb dL_turnDoor_25 (by decide) ?_
    subst hA
    subst hQ
    exact kreti F w u_3 [0, 1, 2, 3, 4, 5, 6, 7, 8, 9, 10, 11, 12, 13, 14, 15, 16, 17, 18] rfl rfl (rfl) (Nat.le_of_ble_eq_true rfl) (Nat.le_of_ble_eq_true rfl) dL_turnDoor_26
  · have h_4 : (zO (turnS d σ) d) = true := bI_o.mp h_4
    refine lv_lconst (v := 1) hx hb dL_turnDoor_10 (by decide) ?_
    refine lv_goto (tgt := 15) hx hb dL_turnDoor_11 (by decide) ?_
    refine ktopl (y := bL (zO (turnS d σ) d)) (by rw [h_4]; rfl) ?_
    refine klast (f' := vp_updL f 0 (bL (zO (turnS d σ) d))) F w 18 rfl (vp_in_nI (by omega) (by omega)) (congrArg (fun z => vp_updL f z (bL (zO (turnS d σ) d))) (nI_clamp (n := 0) (by omega))) (wn := [cX x nw sn tk hs tx tr, cR nw na nb (turnS d σ), xI g na 49 (zT (turnS d σ)), xI g nb 49 (zI (turnS d σ)), cH hs hq (pushN kn), xQ g hq 4 (rq u_3.1), cR (u_3.1 0) (u_3.2.1 0) (u_3.2.2 0) ((pushG γ kn σ) 0), xI g (u_3.2.1 0) 49 (zT ((pushG γ kn σ) 0)), xI g (u_3.2.2 0) 49 (zI ((pushG γ kn σ) 0)), cR (u_3.1 1) (u_3.2.1 1) (u_3.2.2 1) ((pushG γ kn σ) 1), xI g (u_3.2.1 1) 49 (zT ((pushG γ kn σ) 1)), xI g (u_3.2.2 1) 49 (zI ((pushG γ kn σ) 1)), cR (u_3.1 2) (u_3.2.1 2) (u_3.2.2 2) ((pushG γ kn σ) 2), xI g (u_3.2.1 2) 49 (zT ((pushG γ kn σ) 2)), xI g (u_3.2.2 2) 49 (zI ((pushG γ kn σ) 2)), cR (u_3.1 3) (u_3.2.1 3) (u_3.2.2 3) ((pushG γ kn σ) 3), xI g (u_3.2.1 3) 49 (zT ((pushG γ kn σ) 3)), xI g (u_3.2.2 3) 49 (zI ((pushG γ kn σ) 3)), xJ g ot 1 (vp_updL f 0 (bL (zO (turnS d σ) d)))]) rfl dL_turnDoor_15 (fun H locs w => ?_)
    refine lv_goto (tgt := 25) hx hb dL_turnDoor_16 (by decide) ?_
    refine lv_iconst (v := nI 0) hx hb dL_turnDoor_25 (by decide) ?_
    subst hA
    subst hQ
    exact kreti F w u_3 [0, 1, 2, 3, 4, 5, 6, 7, 8, 9, 10, 11, 12, 13, 14, 15, 16, 17, 18] rfl rfl (rfl) (Nat.le_of_ble_eq_true rfl) (Nat.le_of_ble_eq_true rfl) dL_turnDoor_26
abbrev rmL_turnDoor_A : Room := { frames := 7, cells := 1, slots := 6, locals := 103 }
set_option maxHeartbeats 4000000 in
set_option maxRecDepth 100000 in
theorem kL_turnDoor_A (l : Launch) (hnl : l.stackTraces = false) (g : GG) (x : Nat) (nw : Nat) (sn : Nat) (tk : Bool) (hs : Nat) (tx : Nat) (tr : Nat) (n : Int32) (ot : Nat) (sz : Nat) (hn : ¬ (1 ≤ n.toInt ∧ n.toInt ≤ 48)) : Met l yL_turnDoor wsL_turnDoor rmL_turnDoor_A (va_Pc [.ref x, .int n, .ref ot] (kPre g [cX x nw sn tk hs tx tr] sz)) (va_Qi (fun (r : Int32) (u : Unit) => r = nI 1) (kB g (va_A [cX x nw sn tk hs tx tr] sz) (fun u => [cX x nw sn tk hs tx tr])) (va_A [cX x nw sn tk hs tx tr] sz)) 1 6 (va_A [cX x nw sn tk hs tx tr] sz) := by
  refine kMetH (hh := [(0, 16, 19, 13), (0, 16, 22, 23)]) (cc := cL_turnDoor) (maxL := 4) (ret := (some .int)) (own := RL) (by decide) rfl rfl (Nat.le_of_ble_eq_true rfl) ?_
  intro p e s m args below meth c ls Q H locs A F w hl htab hA hQ
  have hx := F.1.1
  have hb := F.1.2.1
  have hts := F.1.2.2.2.2
  have hl : lv_has ls 4 [(0, .ref x), (1, .int n), (2, .ref ot)] := hl
  refine lv_aload_n hx hb dL_turnDoor_0 rfl (lv_at hl 2 rfl) ?_
  refine lv_iconst (v := nI 0) hx hb dL_turnDoor_1 (by decide) ?_
  refine lv_aload_n hx hb dL_turnDoor_2 rfl (lv_at hl 0 rfl) ?_
  refine lv_iload_n hx hb dL_turnDoor_3 rfl (lv_at hl 1 rfl) ?_
  refine kcaught (E0 := eIAE) (wc := []) (wr := [cX x nw sn tk hs tx tr]) (wn := fun (u : Unit) => [cX x nw sn tk hs tx tr]) F w [] [0] [0] rfl rfl rfl (fun _ => rfl)
    (fun hp => vx_runV (As := [.int n]) (rest := [.int (nI 0), .ref ot]) F.1 (kX5_turnDoor_A l hnl g x n H.size hn) (cwV 1 hts gL_turnDoor_X5_turnDoor rfl rfl rfl ⟨rfl, hd_X5_turnDoor⟩ ⟨Nat.le_of_ble_eq_true rfl, Nat.le_of_ble_eq_true rfl⟩) ⟨hp.1, va_recv F.2.2.2.1.1 w.1 (q0 := 0) (ci := 5) rfl rfl, hp.2⟩ rfl rfl hl.1 rfl (lv_room (Nat.le_of_ble_eq_true rfl)) dL_turnDoor_4 ⟨Nat.le_of_ble_eq_true rfl, Nat.le_of_ble_eq_true rfl⟩)
    [] ⟨0, 16, 19, 13⟩ [⟨0, 16, 22, 23⟩] htab (fun z hz => nomatch hz) (by decide +kernel) (by decide) (by decide +kernel) (by decide +kernel) (fun q_1 _ H locs w => ?_)
  refine lv_astore_n (lv' := [(3, .ref q_1), (0, .ref x), (1, .int n), (2, .ref ot)]) hx hb dL_turnDoor_19 rfl hl (by decide) rfl (fun ls hl => ?_)
  refine lv_iconst (v := nI 1) hx hb dL_turnDoor_20 (by decide) ?_
  subst hA
  subst hQ
  exact kreti F w () [0] rfl rfl (rfl) (Nat.le_of_ble_eq_true rfl) (Nat.le_of_ble_eq_true rfl) dL_turnDoor_21
abbrev rmL_turnDoor_S : Room := { frames := 7, cells := 1, slots := 6, locals := 103 }
set_option maxHeartbeats 4000000 in
set_option maxRecDepth 100000 in
theorem kL_turnDoor_S (l : Launch) (hnl : l.stackTraces = false) (g : GG) (x : Nat) (nw : Nat) (sn : Nat) (tk : Bool) (hs : Nat) (tx : Nat) (tr : Nat) (na : Nat) (nb : Nat) (σ : Sg) (d : Nat) (ot : Nat) (sz : Nat) (hd : 1 ≤ d ∧ d ≤ 48) (hl9 : zL σ d = true) : Met l yL_turnDoor wsL_turnDoor rmL_turnDoor_S (va_Pc [.ref x, .int (nI d), .ref ot] (kPre g [cX x nw sn tk hs tx tr, cR nw na nb σ, xI g na 49 (zT σ), xI g nb 49 (zI σ)] sz)) (va_Qi (fun (r : Int32) (u : Unit) => r = nI 2) (kB g (va_A [cX x nw sn tk hs tx tr, cR nw na nb σ, xI g na 49 (zT σ), xI g nb 49 (zI σ)] sz) (fun u => [cX x nw sn tk hs tx tr, cR nw na nb σ, xI g na 49 (zT σ), xI g nb 49 (zI σ)])) (va_A [cX x nw sn tk hs tx tr, cR nw na nb σ, xI g na 49 (zT σ), xI g nb 49 (zI σ)] sz)) 1 6 (va_A [cX x nw sn tk hs tx tr, cR nw na nb σ, xI g na 49 (zT σ), xI g nb 49 (zI σ)] sz) := by
  refine kMetH (hh := [(0, 16, 19, 13), (0, 16, 22, 23)]) (cc := cL_turnDoor) (maxL := 4) (ret := (some .int)) (own := RL) (by decide) rfl rfl (Nat.le_of_ble_eq_true rfl) ?_
  intro p e s m args below meth c ls Q H locs A F w hl htab hA hQ
  have hx := F.1.1
  have hb := F.1.2.1
  have hts := F.1.2.2.2.2
  have hl : lv_has ls 4 [(0, .ref x), (1, .int (nI d)), (2, .ref ot)] := hl
  refine lv_aload_n hx hb dL_turnDoor_0 rfl (lv_at hl 2 rfl) ?_
  refine lv_iconst (v := nI 0) hx hb dL_turnDoor_1 (by decide) ?_
  refine lv_aload_n hx hb dL_turnDoor_2 rfl (lv_at hl 0 rfl) ?_
  refine lv_iload_n hx hb dL_turnDoor_3 rfl (lv_at hl 1 rfl) ?_
  refine kcaught (E0 := eISE) (wc := [cX x nw sn tk hs tx tr, cR nw na nb σ, xI g na 49 (zT σ), xI g nb 49 (zI σ)]) (wr := []) (wn := fun (u : Unit) => [cX x nw sn tk hs tx tr, cR nw na nb σ, xI g na 49 (zT σ), xI g nb 49 (zI σ)]) F w [0, 1, 2, 3] [] [0, 1, 2, 3] rfl rfl rfl (fun _ => rfl)
    (fun hp => vx_runV (As := [.int (nI d)]) (rest := [.int (nI 0), .ref ot]) F.1 (kX5_turnDoor_S l hnl g x nw sn tk hs tx tr na nb σ d H.size hd hl9) (cwV 1 hts gL_turnDoor_X5_turnDoor rfl rfl rfl ⟨rfl, hd_X5_turnDoor⟩ ⟨Nat.le_of_ble_eq_true rfl, Nat.le_of_ble_eq_true rfl⟩) ⟨hp.1, va_recv F.2.2.2.1.1 w.1 (q0 := 0) (ci := 5) rfl rfl, hp.2⟩ rfl rfl hl.1 rfl (lv_room (Nat.le_of_ble_eq_true rfl)) dL_turnDoor_4 ⟨Nat.le_of_ble_eq_true rfl, Nat.le_of_ble_eq_true rfl⟩)
    [⟨0, 16, 19, 13⟩] ⟨0, 16, 22, 23⟩ [] htab (fun z hz => by rcases List.mem_cons.mp hz with rfl | hz; exact ⟨by decide, eIAE, by decide +kernel, by decide +kernel⟩; cases hz) (by decide +kernel) (by decide) (by decide +kernel) (by decide +kernel) (fun q_1 _ H locs w => ?_)
  refine lv_astore_n (lv' := [(3, .ref q_1), (0, .ref x), (1, .int (nI d)), (2, .ref ot)]) hx hb dL_turnDoor_22 rfl hl (by decide) rfl (fun ls hl => ?_)
  refine lv_iconst (v := nI 2) hx hb dL_turnDoor_23 (by decide) ?_
  subst hA
  subst hQ
  exact kreti F w () [0, 1, 2, 3] rfl rfl (rfl) (Nat.le_of_ble_eq_true rfl) (Nat.le_of_ble_eq_true rfl) dL_turnDoor_24
theorem hd_X5_turnLock : yX5_turnLock.cls ≠ "java/lang/invoke/MethodHandle" ∧ yX5_turnLock.cls ≠ "java/lang/invoke/VarHandle" ∧ (parseMethodDescriptor yX5_turnLock.desc).map (fun d => d.parameters.length) = some 1 := by decide +kernel
abbrev rmL_turnLock_k : Room := { frames := 4, cells := 0, slots := 0, locals := 86 }
set_option maxHeartbeats 4000000 in
set_option maxRecDepth 100000 in
theorem kL_turnLock_k (l : Launch) (g : GG) (x : Nat) (nw : Nat) (sn : Nat) (tk : Bool) (hs : Nat) (tx : Nat) (tr : Nat) (na : Nat) (nb : Nat) (σ : Sg) (hq : Nat) (kn : Nat) (ρ : Nat → Nat) (α : Nat → Nat) (β : Nat → Nat) (γ : Nat → Sg) (d : Nat) (ot : Nat) (f : Nat → Int64) (sz : Nat) (hd : 1 ≤ d ∧ d ≤ 48) (hkn : kn ≤ 4) : Met l yL_turnLock wsL_turnLock rmL_turnLock_k (va_Pc [.ref x, .int (nI d), .ref ot] (kPre g [cX x nw sn tk hs tx tr, cR nw na nb σ, xI g na 49 (zT σ), xI g nb 49 (zI σ), cH hs hq kn, xQ g hq 4 (rq ρ), cR (ρ 0) (α 0) (β 0) (γ 0), xI g (α 0) 49 (zT (γ 0)), xI g (β 0) 49 (zI (γ 0)), cR (ρ 1) (α 1) (β 1) (γ 1), xI g (α 1) 49 (zT (γ 1)), xI g (β 1) 49 (zI (γ 1)), cR (ρ 2) (α 2) (β 2) (γ 2), xI g (α 2) 49 (zT (γ 2)), xI g (β 2) 49 (zI (γ 2)), cR (ρ 3) (α 3) (β 3) (γ 3), xI g (α 3) 49 (zT (γ 3)), xI g (β 3) 49 (zI (γ 3)), xJ g ot 1 f] sz)) (va_Qi (fun (r : Int32) (u : (Nat → Nat) × (Nat → Nat) × (Nat → Nat)) => r = nI 0) (kB g (va_A [cX x nw sn tk hs tx tr, cR nw na nb σ, xI g na 49 (zT σ), xI g nb 49 (zI σ), cH hs hq kn, xQ g hq 4 (rq ρ), cR (ρ 0) (α 0) (β 0) (γ 0), xI g (α 0) 49 (zT (γ 0)), xI g (β 0) 49 (zI (γ 0)), cR (ρ 1) (α 1) (β 1) (γ 1), xI g (α 1) 49 (zT (γ 1)), xI g (β 1) 49 (zI (γ 1)), cR (ρ 2) (α 2) (β 2) (γ 2), xI g (α 2) 49 (zT (γ 2)), xI g (β 2) 49 (zI (γ 2)), cR (ρ 3) (α 3) (β 3) (γ 3), xI g (α 3) 49 (zT (γ 3)), xI g (β 3) 49 (zI (γ 3)), xJ g ot 1 f] sz) (fun u => [cX x nw sn tk hs tx tr, cR nw na nb (lockS d σ), xI g na 49 (zT (lockS d σ)), xI g nb 49 (zI (lockS d σ)), cH hs hq (pushN kn), xQ g hq 4 (rq u.1), cR (u.1 0) (u.2.1 0) (u.2.2 0) ((pushG γ kn σ) 0), xI g (u.2.1 0) 49 (zT ((pushG γ kn σ) 0)), xI g (u.2.2 0) 49 (zI ((pushG γ kn σ) 0)), cR (u.1 1) (u.2.1 1) (u.2.2 1) ((pushG γ kn σ) 1), xI g (u.2.1 1) 49 (zT ((pushG γ kn σ) 1)), xI g (u.2.2 1) 49 (zI ((pushG γ kn σ) 1)), cR (u.1 2) (u.2.1 2) (u.2.2 2) ((pushG γ kn σ) 2), xI g (u.2.1 2) 49 (zT ((pushG γ kn σ) 2)), xI g (u.2.2 2) 49 (zI ((pushG γ kn σ) 2)), cR (u.1 3) (u.2.1 3) (u.2.2 3) ((pushG γ kn σ) 3), xI g (u.2.1 3) 49 (zT ((pushG γ kn σ) 3)), xI g (u.2.2 3) 49 (zI ((pushG γ kn σ) 3)), xJ g ot 1 (vp_updL f 0 (bL (zL (lockS d σ) d)))])) (va_A [cX x nw sn tk hs tx tr, cR nw na nb σ, xI g na 49 (zT σ), xI g nb 49 (zI σ), cH hs hq kn, xQ g hq 4 (rq ρ), cR (ρ 0) (α 0) (β 0) (γ 0), xI g (α 0) 49 (zT (γ 0)), xI g (β 0) 49 (zI (γ 0)), cR (ρ 1) (α 1) (β 1) (γ 1), xI g (α 1) 49 (zT (γ 1)), xI g (β 1) 49 (zI (γ 1)), cR (ρ 2) (α 2) (β 2) (γ 2), xI g (α 2) 49 (zT (γ 2)), xI g (β 2) 49 (zI (γ 2)), cR (ρ 3) (α 3) (β 3) (γ 3), xI g (α 3) 49 (zT (γ 3)), xI g (β 3) 49 (zI (γ 3)), xJ g ot 1 f] sz)) 0 0 (va_A [cX x nw sn tk hs tx tr, cR nw na nb σ, xI g na 49 (zT σ), xI g nb 49 (zI σ), cH hs hq kn, xQ g hq 4 (rq ρ), cR (ρ 0) (α 0) (β 0) (γ 0), xI g (α 0) 49 (zT (γ 0)), xI g (β 0) 49 (zI (γ 0)), cR (ρ 1) (α 1) (β 1) (γ 1), xI g (α 1) 49 (zT (γ 1)), xI g (β 1) 49 (zI (γ 1)), cR (ρ 2) (α 2) (β 2) (γ 2), xI g (α 2) 49 (zT (γ 2)), xI g (β 2) 49 (zI (γ 2)), cR (ρ 3) (α 3) (β 3) (γ 3), xI g (α 3) 49 (zT (γ 3)), xI g (β 3) 49 (zI (γ 3)), xJ g ot 1 f] sz) := by
  refine kMetH (hh := [(0, 16, 19, 13)]) (cc := cL_turnLock) (maxL := 4) (ret := (some .int)) (own := RL) (by decide) rfl rfl (Nat.le_of_ble_eq_true rfl) ?_
  intro p e s m args below meth c ls Q H locs A F w hl htab hA hQ
  have hx := F.1.1
  have hb := F.1.2.1
  have hts := F.1.2.2.2.2
  have hl : lv_has ls 4 [(0, .ref x), (1, .int (nI d)), (2, .ref ot)] := hl
  refine lv_aload_n hx hb dL_turnLock_0 rfl (lv_at hl 2 rfl) ?_
  refine lv_iconst (v := nI 0) hx hb dL_turnLock_1 (by decide) ?_
  refine lv_aload_n hx hb dL_turnLock_2 rfl (lv_at hl 0 rfl) ?_
  refine lv_iload_n hx hb dL_turnLock_3 rfl (lv_at hl 1 rfl) ?_
  refine kcalli (wc := [cX x nw sn tk hs tx tr, cR nw na nb σ, xI g na 49 (zT σ), xI g nb 49 (zI σ), cH hs hq kn, xQ g hq 4 (rq ρ), cR (ρ 0) (α 0) (β 0) (γ 0), xI g (α 0) 49 (zT (γ 0)), xI g (β 0) 49 (zI (γ 0)), cR (ρ 1) (α 1) (β 1) (γ 1), xI g (α 1) 49 (zT (γ 1)), xI g (β 1) 49 (zI (γ 1)), cR (ρ 2) (α 2) (β 2) (γ 2), xI g (α 2) 49 (zT (γ 2)), xI g (β 2) 49 (zI (γ 2)), cR (ρ 3) (α 3) (β 3) (γ 3), xI g (α 3) 49 (zT (γ 3)), xI g (β 3) 49 (zI (γ 3))]) (wr := [xJ g ot 1 f]) (wn := fun (u : (Nat → Nat) × (Nat → Nat) × (Nat → Nat)) => [cX x nw sn tk hs tx tr, cR nw na nb (lockS d σ), xI g na 49 (zT (lockS d σ)), xI g nb 49 (zI (lockS d σ)), cH hs hq (pushN kn), xQ g hq 4 (rq u.1), cR (u.1 0) (u.2.1 0) (u.2.2 0) ((pushG γ kn σ) 0), xI g (u.2.1 0) 49 (zT ((pushG γ kn σ) 0)), xI g (u.2.2 0) 49 (zI ((pushG γ kn σ) 0)), cR (u.1 1) (u.2.1 1) (u.2.2 1) ((pushG γ kn σ) 1), xI g (u.2.1 1) 49 (zT ((pushG γ kn σ) 1)), xI g (u.2.2 1) 49 (zI ((pushG γ kn σ) 1)), cR (u.1 2) (u.2.1 2) (u.2.2 2) ((pushG γ kn σ) 2), xI g (u.2.1 2) 49 (zT ((pushG γ kn σ) 2)), xI g (u.2.2 2) 49 (zI ((pushG γ kn σ) 2)), cR (u.1 3) (u.2.1 3) (u.2.2 3) ((pushG γ kn σ) 3), xI g (u.2.1 3) 49 (zT ((pushG γ kn σ) 3)), xI g (u.2.2 3) 49 (zI ((pushG γ kn σ) 3)), xJ g ot 1 f]) F w [0, 1, 2, 3, 4, 5, 6, 7, 8, 9, 10, 11, 12, 13, 14, 15, 16, 17] [18] [1, 2, 3, 4, 5, 6, 7, 8, 9, 10, 11, 12, 13, 14, 15, 16, 17, 18, 0] rfl rfl rfl (fun _ => rfl)
    (fun hp => va_runV (As := [.int (nI d)]) (rest := [.int (nI 0), .ref ot]) F.1 (kX5_turnLock_k l g x nw sn tk hs tx tr na nb σ hq kn ρ α β γ d H.size hd hkn) (cwV 1 hts gL_turnLock_X5_turnLock rfl rfl rfl ⟨rfl, hd_X5_turnLock⟩ ⟨Nat.le_of_ble_eq_true rfl, Nat.le_of_ble_eq_true rfl⟩) ⟨hp.1, va_recv F.2.2.2.1.1 w.1 (q0 := 0) (ci := 5) rfl rfl, hp.2⟩ rfl rfl hl.1 rfl (lv_room (Nat.le_of_ble_eq_true rfl)) dL_turnLock_4 ⟨Nat.le_of_ble_eq_true rfl, Nat.le_of_ble_eq_true rfl⟩)
    (fun r_1 u H locs h_2 w => ?_)
  try dsimp only at h_2
  obtain ⟨u_3, hu9⟩ : ∃ z, z = u := ⟨_, rfl⟩
  subst hu9
  have w : kW g A s [cX x nw sn tk hs tx tr, cR nw na nb (lockS d σ), xI g na 49 (zT (lockS d σ)), xI g nb 49 (zI (lockS d σ)), cH hs hq (pushN kn), xQ g hq 4 (rq u_3.1), cR (u_3.1 0) (u_3.2.1 0) (u_3.2.2 0) ((pushG γ kn σ) 0), xI g (u_3.2.1 0) 49 (zT ((pushG γ kn σ) 0)), xI g (u_3.2.2 0) 49 (zI ((pushG γ kn σ) 0)), cR (u_3.1 1) (u_3.2.1 1) (u_3.2.2 1) ((pushG γ kn σ) 1), xI g (u_3.2.1 1) 49 (zT ((pushG γ kn σ) 1)), xI g (u_3.2.2 1) 49 (zI ((pushG γ kn σ) 1)), cR (u_3.1 2) (u_3.2.1 2) (u_3.2.2 2) ((pushG γ kn σ) 2), xI g (u_3.2.1 2) 49 (zT ((pushG γ kn σ) 2)), xI g (u_3.2.2 2) 49 (zI ((pushG γ kn σ) 2)), cR (u_3.1 3) (u_3.2.1 3) (u_3.2.2 3) ((pushG γ kn σ) 3), xI g (u_3.2.1 3) 49 (zT ((pushG γ kn σ) 3)), xI g (u_3.2.2 3) 49 (zI ((pushG γ kn σ) 3)), xJ g ot 1 f] H locs := w
  subst h_2
  refine lv_if_eq (tgt := 14) hx hb dL_turnLock_7 (by decide) (fun h_4 => ?_) (fun h_4 => ?_)
  · have h_4 : (zL (lockS d σ) d) = false := bI_z.mp h_4
    refine lv_lconst (v := 0) hx hb dL_turnLock_14 (by decide) ?_
    refine ktopl (y := bL (zL (lockS d σ) d)) (by rw [h_4]; rfl) ?_
    refine klast (f' := vp_updL f 0 (bL (zL (lockS d σ) d))) F w 18 rfl (vp_in_nI (by omega) (by omega)) (congrArg (fun z => vp_updL f z (bL (zL (lockS d σ) d))) (nI_clamp (n := 0) (by omega))) (wn := [cX x nw sn tk hs tx tr, cR nw na nb (lockS d σ), xI g na 49 (zT (lockS d σ)), xI g nb 49 (zI (lockS d σ)), cH hs hq (pushN kn), xQ g hq 4 (rq u_3.1), cR (u_3.1 0) (u_3.2.1 0) (u_3.2.2 0) ((pushG γ kn σ) 0), xI g (u_3.2.1 0) 49 (zT ((pushG γ kn σ) 0)), xI g (u_3.2.2 0) 49 (zI ((pushG γ kn σ) 0)), cR (u_3.1 1) (u_3.2.1 1) (u_3.2.2 1) ((pushG γ kn σ) 1), xI g (u_3.2.1 1) 49 (zT ((pushG γ kn σ) 1)), xI g (u_3.2.2 1) 49 (zI ((pushG γ kn σ) 1)), cR (u_3.1 2) (u_3.2.1 2) (u_3.2.2 2) ((pushG γ kn σ) 2), xI g (u_3.2.1 2) 49 (zT ((pushG γ kn σ) 2)), xI g (u_3.2.2 2) 49 (zI ((pushG γ kn σ) 2)), cR (u_3.1 3) (u_3.2.1 3) (u_3.2.2 3) ((pushG γ kn σ) 3), xI g (u_3.2.1 3) 49 (zT ((pushG γ kn σ) 3)), xI g (u_3.2.2 3) 49 (zI ((pushG γ kn σ) 3)), xJ g ot 1 (vp_updL f 0 (bL (zL (lockS d σ) d)))]) rfl dL_turnLock_15 (fun H locs w => ?_)
    refine lv_goto (tgt := 22) hx hb dL_turnLock_16 (by decide) ?_
    refine lv_iconst (v := nI 0) hx hb dL_turnLock_22 (by decide) ?_
    subst hA
    subst hQ
    exact kreti F w u_3 [0, 1, 2, 3, 4, 5, 6, 7, 8, 9, 10, 11, 12, 13, 14, 15, 16, 17, 18] rfl rfl (rfl) (Nat.le_of_ble_eq_true rfl) (Nat.le_of_ble_eq_true rfl) dL_turnLock_23
  · have h_4 : (zL (lockS d σ) d) = true := bI_o.mp h_4
    refine lv_lconst (v := 1) hx hb dL_turnLock_10 (by decide) ?_
    refine lv_goto (tgt := 15) hx hb dL_turnLock_11 (by decide) ?_
    refine ktopl (y := bL (zL (lockS d σ) d)) (by rw [h_4]; rfl) ?_
    refine klast (f' := vp_updL f 0 (bL (zL (lockS d σ) d))) F w 18 rfl (vp_in_nI (by omega) (by omega)) (congrArg (fun z => vp_updL f z (bL (zL (lockS d σ) d))) (nI_clamp (n := 0) (by omega))) (wn := [cX x nw sn tk hs tx tr, cR nw na nb (lockS d σ), xI g na 49 (zT (lockS d σ)), xI g nb 49 (zI (lockS d σ)), cH hs hq (pushN kn), xQ g hq 4 (rq u_3.1), cR (u_3.1 0) (u_3.2.1 0) (u_3.2.2 0) ((pushG γ kn σ) 0), xI g (u_3.2.1 0) 49 (zT ((pushG γ kn σ) 0)), xI g (u_3.2.2 0) 49 (zI ((pushG γ kn σ) 0)), cR (u_3.1 1) (u_3.2.1 1) (u_3.2.2 1) ((pushG γ kn σ) 1), xI g (u_3.2.1 1) 49 (zT ((pushG γ kn σ) 1)), xI g (u_3.2.2 1) 49 (zI ((pushG γ kn σ) 1)), cR (u_3.1 2) (u_3.2.1 2) (u_3.2.2 2) ((pushG γ kn σ) 2), xI g (u_3.2.1 2) 49 (zT ((pushG γ kn σ) 2)), xI g (u_3.2.2 2) 49 (zI ((pushG γ kn σ) 2)), cR (u_3.1 3) (u_3.2.1 3) (u_3.2.2 3) ((pushG γ kn σ) 3), xI g (u_3.2.1 3) 49 (zT ((pushG γ kn σ) 3)), xI g (u_3.2.2 3) 49 (zI ((pushG γ kn σ) 3)), xJ g ot 1 (vp_updL f 0 (bL (zL (lockS d σ) d)))]) rfl dL_turnLock_15 (fun H locs w => ?_)
    refine lv_goto (tgt := 22) hx hb dL_turnLock_16 (by decide) ?_
    refine lv_iconst (v := nI 0) hx hb dL_turnLock_22 (by decide) ?_
    subst hA
    subst hQ
    exact kreti F w u_3 [0, 1, 2, 3, 4, 5, 6, 7, 8, 9, 10, 11, 12, 13, 14, 15, 16, 17, 18] rfl rfl (rfl) (Nat.le_of_ble_eq_true rfl) (Nat.le_of_ble_eq_true rfl) dL_turnLock_23
abbrev rmL_turnLock_A : Room := { frames := 7, cells := 1, slots := 6, locals := 103 }
set_option maxHeartbeats 4000000 in
set_option maxRecDepth 100000 in
theorem kL_turnLock_A (l : Launch) (hnl : l.stackTraces = false) (g : GG) (x : Nat) (nw : Nat) (sn : Nat) (tk : Bool) (hs : Nat) (tx : Nat) (tr : Nat) (n : Int32) (ot : Nat) (sz : Nat) (hn : ¬ (1 ≤ n.toInt ∧ n.toInt ≤ 48)) : Met l yL_turnLock wsL_turnLock rmL_turnLock_A (va_Pc [.ref x, .int n, .ref ot] (kPre g [cX x nw sn tk hs tx tr] sz)) (va_Qi (fun (r : Int32) (u : Unit) => r = nI 1) (kB g (va_A [cX x nw sn tk hs tx tr] sz) (fun u => [cX x nw sn tk hs tx tr])) (va_A [cX x nw sn tk hs tx tr] sz)) 1 6 (va_A [cX x nw sn tk hs tx tr] sz) := by
  refine kMetH (hh := [(0, 16, 19, 13)]) (cc := cL_turnLock) (maxL := 4) (ret := (some .int)) (own := RL) (by decide) rfl rfl (Nat.le_of_ble_eq_true rfl) ?_
  intro p e s m args below meth c ls Q H locs A F w hl htab hA hQ
  have hx := F.1.1
  have hb := F.1.2.1
  have hts := F.1.2.2.2.2
  have hl : lv_has ls 4 [(0, .ref x), (1, .int n), (2, .ref ot)] := hl
  refine lv_aload_n hx hb dL_turnLock_0 rfl (lv_at hl 2 rfl) ?_
  refine lv_iconst (v := nI 0) hx hb dL_turnLock_1 (by decide) ?_
  refine lv_aload_n hx hb dL_turnLock_2 rfl (lv_at hl 0 rfl) ?_
  refine lv_iload_n hx hb dL_turnLock_3 rfl (lv_at hl 1 rfl) ?_
  refine kcaught (E0 := eIAE) (wc := []) (wr := [cX x nw sn tk hs tx tr]) (wn := fun (u : Unit) => [cX x nw sn tk hs tx tr]) F w [] [0] [0] rfl rfl rfl (fun _ => rfl)
    (fun hp => vx_runV (As := [.int n]) (rest := [.int (nI 0), .ref ot]) F.1 (kX5_turnLock_A l hnl g x n H.size hn) (cwV 1 hts gL_turnLock_X5_turnLock rfl rfl rfl ⟨rfl, hd_X5_turnLock⟩ ⟨Nat.le_of_ble_eq_true rfl, Nat.le_of_ble_eq_true rfl⟩) ⟨hp.1, va_recv F.2.2.2.1.1 w.1 (q0 := 0) (ci := 5) rfl rfl, hp.2⟩ rfl rfl hl.1 rfl (lv_room (Nat.le_of_ble_eq_true rfl)) dL_turnLock_4 ⟨Nat.le_of_ble_eq_true rfl, Nat.le_of_ble_eq_true rfl⟩)
    [] ⟨0, 16, 19, 13⟩ [] htab (fun z hz => nomatch hz) (by decide +kernel) (by decide) (by decide +kernel) (by decide +kernel) (fun q_1 _ H locs w => ?_)
  refine lv_astore_n (lv' := [(3, .ref q_1), (0, .ref x), (1, .int n), (2, .ref ot)]) hx hb dL_turnLock_19 rfl hl (by decide) rfl (fun ls hl => ?_)
  refine lv_iconst (v := nI 1) hx hb dL_turnLock_20 (by decide) ?_
  subst hA
  subst hQ
  exact kreti F w () [0] rfl rfl (rfl) (Nat.le_of_ble_eq_true rfl) (Nat.le_of_ble_eq_true rfl) dL_turnLock_21
theorem hd_X5_turnSkip : yX5_turnSkip.cls ≠ "java/lang/invoke/MethodHandle" ∧ yX5_turnSkip.cls ≠ "java/lang/invoke/VarHandle" ∧ (parseMethodDescriptor yX5_turnSkip.desc).map (fun d => d.parameters.length) = some 1 := by decide +kernel
abbrev rmL_turnSkip_k : Room := { frames := 4, cells := 0, slots := 0, locals := 86 }
set_option maxHeartbeats 4000000 in
set_option maxRecDepth 100000 in
theorem kL_turnSkip_k (l : Launch) (g : GG) (x : Nat) (nw : Nat) (sn : Nat) (tk : Bool) (hs : Nat) (tx : Nat) (tr : Nat) (na : Nat) (nb : Nat) (σ : Sg) (hq : Nat) (kn : Nat) (ρ : Nat → Nat) (α : Nat → Nat) (β : Nat → Nat) (γ : Nat → Sg) (d : Nat) (ot : Nat) (f : Nat → Int64) (sz : Nat) (hd : 1 ≤ d ∧ d ≤ 48) (hkn : kn ≤ 4) : Met l yL_turnSkip wsL_turnSkip rmL_turnSkip_k (va_Pc [.ref x, .int (nI d), .ref ot] (kPre g [cX x nw sn tk hs tx tr, cR nw na nb σ, xI g na 49 (zT σ), xI g nb 49 (zI σ), cH hs hq kn, xQ g hq 4 (rq ρ), cR (ρ 0) (α 0) (β 0) (γ 0), xI g (α 0) 49 (zT (γ 0)), xI g (β 0) 49 (zI (γ 0)), cR (ρ 1) (α 1) (β 1) (γ 1), xI g (α 1) 49 (zT (γ 1)), xI g (β 1) 49 (zI (γ 1)), cR (ρ 2) (α 2) (β 2) (γ 2), xI g (α 2) 49 (zT (γ 2)), xI g (β 2) 49 (zI (γ 2)), cR (ρ 3) (α 3) (β 3) (γ 3), xI g (α 3) 49 (zT (γ 3)), xI g (β 3) 49 (zI (γ 3)), xJ g ot 1 f] sz)) (va_Qi (fun (r : Int32) (u : (Nat → Nat) × (Nat → Nat) × (Nat → Nat)) => r = nI 0) (kB g (va_A [cX x nw sn tk hs tx tr, cR nw na nb σ, xI g na 49 (zT σ), xI g nb 49 (zI σ), cH hs hq kn, xQ g hq 4 (rq ρ), cR (ρ 0) (α 0) (β 0) (γ 0), xI g (α 0) 49 (zT (γ 0)), xI g (β 0) 49 (zI (γ 0)), cR (ρ 1) (α 1) (β 1) (γ 1), xI g (α 1) 49 (zT (γ 1)), xI g (β 1) 49 (zI (γ 1)), cR (ρ 2) (α 2) (β 2) (γ 2), xI g (α 2) 49 (zT (γ 2)), xI g (β 2) 49 (zI (γ 2)), cR (ρ 3) (α 3) (β 3) (γ 3), xI g (α 3) 49 (zT (γ 3)), xI g (β 3) 49 (zI (γ 3)), xJ g ot 1 f] sz) (fun u => [cX x nw sn tk hs tx tr, cR nw na nb (skipS d σ), xI g na 49 (zT (skipS d σ)), xI g nb 49 (zI (skipS d σ)), cH hs hq (pushN kn), xQ g hq 4 (rq u.1), cR (u.1 0) (u.2.1 0) (u.2.2 0) ((pushG γ kn σ) 0), xI g (u.2.1 0) 49 (zT ((pushG γ kn σ) 0)), xI g (u.2.2 0) 49 (zI ((pushG γ kn σ) 0)), cR (u.1 1) (u.2.1 1) (u.2.2 1) ((pushG γ kn σ) 1), xI g (u.2.1 1) 49 (zT ((pushG γ kn σ) 1)), xI g (u.2.2 1) 49 (zI ((pushG γ kn σ) 1)), cR (u.1 2) (u.2.1 2) (u.2.2 2) ((pushG γ kn σ) 2), xI g (u.2.1 2) 49 (zT ((pushG γ kn σ) 2)), xI g (u.2.2 2) 49 (zI ((pushG γ kn σ) 2)), cR (u.1 3) (u.2.1 3) (u.2.2 3) ((pushG γ kn σ) 3), xI g (u.2.1 3) 49 (zT ((pushG γ kn σ) 3)), xI g (u.2.2 3) 49 (zI ((pushG γ kn σ) 3)), xJ g ot 1 (vp_updL f 0 (bL (zS (skipS d σ) d)))])) (va_A [cX x nw sn tk hs tx tr, cR nw na nb σ, xI g na 49 (zT σ), xI g nb 49 (zI σ), cH hs hq kn, xQ g hq 4 (rq ρ), cR (ρ 0) (α 0) (β 0) (γ 0), xI g (α 0) 49 (zT (γ 0)), xI g (β 0) 49 (zI (γ 0)), cR (ρ 1) (α 1) (β 1) (γ 1), xI g (α 1) 49 (zT (γ 1)), xI g (β 1) 49 (zI (γ 1)), cR (ρ 2) (α 2) (β 2) (γ 2), xI g (α 2) 49 (zT (γ 2)), xI g (β 2) 49 (zI (γ 2)), cR (ρ 3) (α 3) (β 3) (γ 3), xI g (α 3) 49 (zT (γ 3)), xI g (β 3) 49 (zI (γ 3)), xJ g ot 1 f] sz)) 0 0 (va_A [cX x nw sn tk hs tx tr, cR nw na nb σ, xI g na 49 (zT σ), xI g nb 49 (zI σ), cH hs hq kn, xQ g hq 4 (rq ρ), cR (ρ 0) (α 0) (β 0) (γ 0), xI g (α 0) 49 (zT (γ 0)), xI g (β 0) 49 (zI (γ 0)), cR (ρ 1) (α 1) (β 1) (γ 1), xI g (α 1) 49 (zT (γ 1)), xI g (β 1) 49 (zI (γ 1)), cR (ρ 2) (α 2) (β 2) (γ 2), xI g (α 2) 49 (zT (γ 2)), xI g (β 2) 49 (zI (γ 2)), cR (ρ 3) (α 3) (β 3) (γ 3), xI g (α 3) 49 (zT (γ 3)), xI g (β 3) 49 (zI (γ 3)), xJ g ot 1 f] sz) := by
  refine kMetH (hh := [(0, 16, 19, 13)]) (cc := cL_turnSkip) (maxL := 4) (ret := (some .int)) (own := RL) (by decide) rfl rfl (Nat.le_of_ble_eq_true rfl) ?_
  intro p e s m args below meth c ls Q H locs A F w hl htab hA hQ
  have hx := F.1.1
  have hb := F.1.2.1
  have hts := F.1.2.2.2.2
  have hl : lv_has ls 4 [(0, .ref x), (1, .int (nI d)), (2, .ref ot)] := hl
  refine lv_aload_n hx hb dL_turnSkip_0 rfl (lv_at hl 2 rfl) ?_
  refine lv_iconst (v := nI 0) hx hb dL_turnSkip_1 (by decide) ?_
  refine lv_aload_n hx hb dL_turnSkip_2 rfl (lv_at hl 0 rfl) ?_
  refine lv_iload_n hx hb dL_turnSkip_3 rfl (lv_at hl 1 rfl) ?_
  refine kcalli (wc := [cX x nw sn tk hs tx tr, cR nw na nb σ, xI g na 49 (zT σ), xI g nb 49 (zI σ), cH hs hq kn, xQ g hq 4 (rq ρ), cR (ρ 0) (α 0) (β 0) (γ 0), xI g (α 0) 49 (zT (γ 0)), xI g (β 0) 49 (zI (γ 0)), cR (ρ 1) (α 1) (β 1) (γ 1), xI g (α 1) 49 (zT (γ 1)), xI g (β 1) 49 (zI (γ 1)), cR (ρ 2) (α 2) (β 2) (γ 2), xI g (α 2) 49 (zT (γ 2)), xI g (β 2) 49 (zI (γ 2)), cR (ρ 3) (α 3) (β 3) (γ 3), xI g (α 3) 49 (zT (γ 3)), xI g (β 3) 49 (zI (γ 3))]) (wr := [xJ g ot 1 f]) (wn := fun (u : (Nat → Nat) × (Nat → Nat) × (Nat → Nat)) => [cX x nw sn tk hs tx tr, cR nw na nb (skipS d σ), xI g na 49 (zT (skipS d σ)), xI g nb 49 (zI (skipS d σ)), cH hs hq (pushN kn), xQ g hq 4 (rq u.1), cR (u.1 0) (u.2.1 0) (u.2.2 0) ((pushG γ kn σ) 0), xI g (u.2.1 0) 49 (zT ((pushG γ kn σ) 0)), xI g (u.2.2 0) 49 (zI ((pushG γ kn σ) 0)), cR (u.1 1) (u.2.1 1) (u.2.2 1) ((pushG γ kn σ) 1), xI g (u.2.1 1) 49 (zT ((pushG γ kn σ) 1)), xI g (u.2.2 1) 49 (zI ((pushG γ kn σ) 1)), cR (u.1 2) (u.2.1 2) (u.2.2 2) ((pushG γ kn σ) 2), xI g (u.2.1 2) 49 (zT ((pushG γ kn σ) 2)), xI g (u.2.2 2) 49 (zI ((pushG γ kn σ) 2)), cR (u.1 3) (u.2.1 3) (u.2.2 3) ((pushG γ kn σ) 3), xI g (u.2.1 3) 49 (zT ((pushG γ kn σ) 3)), xI g (u.2.2 3) 49 (zI ((pushG γ kn σ) 3)), xJ g ot 1 f]) F w [0, 1, 2, 3, 4, 5, 6, 7, 8, 9, 10, 11, 12, 13, 14, 15, 16, 17] [18] [1, 2, 3, 4, 5, 6, 7, 8, 9, 10, 11, 12, 13, 14, 15, 16, 17, 18, 0] rfl rfl rfl (fun _ => rfl)
    (fun hp => va_runV (As := [.int (nI d)]) (rest := [.int (nI 0), .ref ot]) F.1 (kX5_turnSkip_k l g x nw sn tk hs tx tr na nb σ hq kn ρ α β γ d H.size hd hkn) (cwV 1 hts gL_turnSkip_X5_turnSkip rfl rfl rfl ⟨rfl, hd_X5_turnSkip⟩ ⟨Nat.le_of_ble_eq_true rfl, Nat.le_of_ble_eq_true rfl⟩) ⟨hp.1, va_recv F.2.2.2.1.1 w.1 (q0 := 0) (ci := 5) rfl rfl, hp.2⟩ rfl rfl hl.1 rfl (lv_room (Nat.le_of_ble_eq_true rfl)) dL_turnSkip_4 ⟨Nat.le_of_ble_eq_true rfl, Nat.le_of_ble_eq_true rfl⟩)
    (fun r_1 u H locs h_2 w => ?_)
  try dsimp only at h_2
  obtain ⟨u_3, hu9⟩ : ∃ z, z = u := ⟨_, rfl⟩
  subst hu9
  have w : kW g A s [cX x nw sn tk hs tx tr, cR nw na nb (skipS d σ), xI g na 49 (zT (skipS d σ)), xI g nb 49 (zI (skipS d σ)), cH hs hq (pushN kn), xQ g hq 4 (rq u_3.1), cR (u_3.1 0) (u_3.2.1 0) (u_3.2.2 0) ((pushG γ kn σ) 0), xI g (u_3.2.1 0) 49 (zT ((pushG γ kn σ) 0)), xI g (u_3.2.2 0) 49 (zI ((pushG γ kn σ) 0)), cR (u_3.1 1) (u_3.2.1 1) (u_3.2.2 1) ((pushG γ kn σ) 1), xI g (u_3.2.1 1) 49 (zT ((pushG γ kn σ) 1)), xI g (u_3.2.2 1) 49 (zI ((pushG γ kn σ) 1)), cR (u_3.1 2) (u_3.2.1 2) (u_3.2.2 2) ((pushG γ kn σ) 2), xI g (u_3.2.1 2) 49 (zT ((pushG γ kn σ) 2)), xI g (u_3.2.2 2) 49 (zI ((pushG γ kn σ) 2)), cR (u_3.1 3) (u_3.2.1 3) (u_3.2.2 3) ((pushG γ kn σ) 3), xI g (u_3.2.1 3) 49 (zT ((pushG γ kn σ) 3)), xI g (u_3.2.2 3) 49 (zI ((pushG γ kn σ) 3)), xJ g ot 1 f] H locs := w
  subst h_2
  refine lv_if_eq (tgt := 14) hx hb dL_turnSkip_7 (by decide) (fun h_4 => ?_) (fun h_4 => ?_)
  · have h_4 : (zS (skipS d σ) d) = false := bI_z.mp h_4
    refine lv_lconst (v := 0) hx hb dL_turnSkip_14 (by decide) ?_
    refine ktopl (y := bL (zS (skipS d σ) d)) (by rw [h_4]; rfl) ?_
    refine klast (f' := vp_updL f 0 (bL (zS (skipS d σ) d))) F w 18 rfl (vp_in_nI (by omega) (by omega)) (congrArg (fun z => vp_updL f z (bL (zS (skipS d σ) d))) (nI_clamp (n := 0) (by omega))) (wn := [cX x nw sn tk hs tx tr, cR nw na nb (skipS d σ), xI g na 49 (zT (skipS d σ)), xI g nb 49 (zI (skipS d σ)), cH hs hq (pushN kn), xQ g hq 4 (rq u_3.1), cR (u_3.1 0) (u_3.2.1 0) (u_3.2.2 0) ((pushG γ kn σ) 0), xI g (u_3.2.1 0) 49 (zT ((pushG γ kn σ) 0)), xI g (u_3.2.2 0) 49 (zI ((pushG γ kn σ) 0)), cR (u_3.1 1) (u_3.2.1 1) (u_3.2.2 1) ((pushG γ kn σ) 1), xI g (u_3.2.1 1) 49 (zT ((pushG γ kn σ) 1)), xI g (u_3.2.2 1) 49 (zI ((pushG γ kn σ) 1)), cR (u_3.1 2) (u_3.2.1 2) (u_3.2.2 2) ((pushG γ kn σ) 2), xI g (u_3.2.1 2) 49 (zT ((pushG γ kn σ) 2)), xI g (u_3.2.2 2) 49 (zI ((pushG γ kn σ) 2)), cR (u_3.1 3) (u_3.2.1 3) (u_3.2.2 3) ((pushG γ kn σ) 3), xI g (u_3.2.1 3) 49 (zT ((pushG γ kn σ) 3)), xI g (u_3.2.2 3) 49 (zI ((pushG γ kn σ) 3)), xJ g ot 1 (vp_updL f 0 (bL (zS (skipS d σ) d)))]) rfl dL_turnSkip_15 (fun H locs w => ?_)
    refine lv_goto (tgt := 22) hx hb dL_turnSkip_16 (by decide) ?_
    refine lv_iconst (v := nI 0) hx hb dL_turnSkip_22 (by decide) ?_
    subst hA
    subst hQ
    exact kreti F w u_3 [0, 1, 2, 3, 4, 5, 6, 7, 8, 9, 10, 11, 12, 13, 14, 15, 16, 17, 18] rfl rfl (rfl) (Nat.le_of_ble_eq_true rfl) (Nat.le_of_ble_eq_true rfl) dL_turnSkip_23
  · have h_4 : (zS (skipS d σ) d) = true := bI_o.mp h_4
    refine lv_lconst (v := 1) hx hb dL_turnSkip_10 (by decide) ?_
    refine lv_goto (tgt := 15) hx hb dL_turnSkip_11 (by decide) ?_
    refine ktopl (y := bL (zS (skipS d σ) d)) (by rw [h_4]; rfl) ?_
    refine klast (f' := vp_updL f 0 (bL (zS (skipS d σ) d))) F w 18 rfl (vp_in_nI (by omega) (by omega)) (congrArg (fun z => vp_updL f z (bL (zS (skipS d σ) d))) (nI_clamp (n := 0) (by omega))) (wn := [cX x nw sn tk hs tx tr, cR nw na nb (skipS d σ), xI g na 49 (zT (skipS d σ)), xI g nb 49 (zI (skipS d σ)), cH hs hq (pushN kn), xQ g hq 4 (rq u_3.1), cR (u_3.1 0) (u_3.2.1 0) (u_3.2.2 0) ((pushG γ kn σ) 0), xI g (u_3.2.1 0) 49 (zT ((pushG γ kn σ) 0)), xI g (u_3.2.2 0) 49 (zI ((pushG γ kn σ) 0)), cR (u_3.1 1) (u_3.2.1 1) (u_3.2.2 1) ((pushG γ kn σ) 1), xI g (u_3.2.1 1) 49 (zT ((pushG γ kn σ) 1)), xI g (u_3.2.2 1) 49 (zI ((pushG γ kn σ) 1)), cR (u_3.1 2) (u_3.2.1 2) (u_3.2.2 2) ((pushG γ kn σ) 2), xI g (u_3.2.1 2) 49 (zT ((pushG γ kn σ) 2)), xI g (u_3.2.2 2) 49 (zI ((pushG γ kn σ) 2)), cR (u_3.1 3) (u_3.2.1 3) (u_3.2.2 3) ((pushG γ kn σ) 3), xI g (u_3.2.1 3) 49 (zT ((pushG γ kn σ) 3)), xI g (u_3.2.2 3) 49 (zI ((pushG γ kn σ) 3)), xJ g ot 1 (vp_updL f 0 (bL (zS (skipS d σ) d)))]) rfl dL_turnSkip_15 (fun H locs w => ?_)
    refine lv_goto (tgt := 22) hx hb dL_turnSkip_16 (by decide) ?_
    refine lv_iconst (v := nI 0) hx hb dL_turnSkip_22 (by decide) ?_
    subst hA
    subst hQ
    exact kreti F w u_3 [0, 1, 2, 3, 4, 5, 6, 7, 8, 9, 10, 11, 12, 13, 14, 15, 16, 17, 18] rfl rfl (rfl) (Nat.le_of_ble_eq_true rfl) (Nat.le_of_ble_eq_true rfl) dL_turnSkip_23
abbrev rmL_turnSkip_A : Room := { frames := 7, cells := 1, slots := 6, locals := 103 }
set_option maxHeartbeats 4000000 in
set_option maxRecDepth 100000 in
theorem kL_turnSkip_A (l : Launch) (hnl : l.stackTraces = false) (g : GG) (x : Nat) (nw : Nat) (sn : Nat) (tk : Bool) (hs : Nat) (tx : Nat) (tr : Nat) (n : Int32) (ot : Nat) (sz : Nat) (hn : ¬ (1 ≤ n.toInt ∧ n.toInt ≤ 48)) : Met l yL_turnSkip wsL_turnSkip rmL_turnSkip_A (va_Pc [.ref x, .int n, .ref ot] (kPre g [cX x nw sn tk hs tx tr] sz)) (va_Qi (fun (r : Int32) (u : Unit) => r = nI 1) (kB g (va_A [cX x nw sn tk hs tx tr] sz) (fun u => [cX x nw sn tk hs tx tr])) (va_A [cX x nw sn tk hs tx tr] sz)) 1 6 (va_A [cX x nw sn tk hs tx tr] sz) := by
  refine kMetH (hh := [(0, 16, 19, 13)]) (cc := cL_turnSkip) (maxL := 4) (ret := (some .int)) (own := RL) (by decide) rfl rfl (Nat.le_of_ble_eq_true rfl) ?_
  intro p e s m args below meth c ls Q H locs A F w hl htab hA hQ
  have hx := F.1.1
  have hb := F.1.2.1
  have hts := F.1.2.2.2.2
  have hl : lv_has ls 4 [(0, .ref x), (1, .int n), (2, .ref ot)] := hl
  refine lv_aload_n hx hb dL_turnSkip_0 rfl (lv_at hl 2 rfl) ?_
  refine lv_iconst (v := nI 0) hx hb dL_turnSkip_1 (by decide) ?_
  refine lv_aload_n hx hb dL_turnSkip_2 rfl (lv_at hl 0 rfl) ?_
  refine lv_iload_n hx hb dL_turnSkip_3 rfl (lv_at hl 1 rfl) ?_
  refine kcaught (E0 := eIAE) (wc := []) (wr := [cX x nw sn tk hs tx tr]) (wn := fun (u : Unit) => [cX x nw sn tk hs tx tr]) F w [] [0] [0] rfl rfl rfl (fun _ => rfl)
    (fun hp => vx_runV (As := [.int n]) (rest := [.int (nI 0), .ref ot]) F.1 (kX5_turnSkip_A l hnl g x n H.size hn) (cwV 1 hts gL_turnSkip_X5_turnSkip rfl rfl rfl ⟨rfl, hd_X5_turnSkip⟩ ⟨Nat.le_of_ble_eq_true rfl, Nat.le_of_ble_eq_true rfl⟩) ⟨hp.1, va_recv F.2.2.2.1.1 w.1 (q0 := 0) (ci := 5) rfl rfl, hp.2⟩ rfl rfl hl.1 rfl (lv_room (Nat.le_of_ble_eq_true rfl)) dL_turnSkip_4 ⟨Nat.le_of_ble_eq_true rfl, Nat.le_of_ble_eq_true rfl⟩)
    [] ⟨0, 16, 19, 13⟩ [] htab (fun z hz => nomatch hz) (by decide +kernel) (by decide) (by decide +kernel) (by decide +kernel) (fun q_1 _ H locs w => ?_)
  refine lv_astore_n (lv' := [(3, .ref q_1), (0, .ref x), (1, .int n), (2, .ref ot)]) hx hb dL_turnSkip_19 rfl hl (by decide) rfl (fun ls hl => ?_)
  refine lv_iconst (v := nI 1) hx hb dL_turnSkip_20 (by decide) ?_
  subst hA
  subst hQ
  exact kreti F w () [0] rfl rfl (rfl) (Nat.le_of_ble_eq_true rfl) (Nat.le_of_ble_eq_true rfl) dL_turnSkip_21
theorem hd_X5_store : yX5_store.cls ≠ "java/lang/invoke/MethodHandle" ∧ yX5_store.cls ≠ "java/lang/invoke/VarHandle" ∧ (parseMethodDescriptor yX5_store.desc).map (fun d => d.parameters.length) = some 2 := by decide +kernel
abbrev rmL_store_k : Room := { frames := 4, cells := 0, slots := 0, locals := 87 }
set_option maxHeartbeats 4000000 in
set_option maxRecDepth 100000 in
theorem kL_store_k (l : Launch) (g : GG) (x : Nat) (nw : Nat) (sn : Nat) (tk : Bool) (hs : Nat) (tx : Nat) (tr : Nat) (na : Nat) (nb : Nat) (σ : Sg) (hq : Nat) (kn : Nat) (ρ : Nat → Nat) (α : Nat → Nat) (β : Nat → Nat) (γ : Nat → Sg) (d : Nat) (kd : Bool) (ot : Nat) (f : Nat → Int64) (sz : Nat) (hd : 1 ≤ d ∧ d ≤ 48) (hr9 : reasZ σ d kd = 0) (hkn : kn ≤ 4) : Met l yL_store wsL_store rmL_store_k (va_Pc [.ref x, .int (nI d), .int (bI kd), .ref ot] (kPre g [cX x nw sn tk hs tx tr, cR nw na nb σ, xI g na 49 (zT σ), xI g nb 49 (zI σ), cH hs hq kn, xQ g hq 4 (rq ρ), cR (ρ 0) (α 0) (β 0) (γ 0), xI g (α 0) 49 (zT (γ 0)), xI g (β 0) 49 (zI (γ 0)), cR (ρ 1) (α 1) (β 1) (γ 1), xI g (α 1) 49 (zT (γ 1)), xI g (β 1) 49 (zI (γ 1)), cR (ρ 2) (α 2) (β 2) (γ 2), xI g (α 2) 49 (zT (γ 2)), xI g (β 2) 49 (zI (γ 2)), cR (ρ 3) (α 3) (β 3) (γ 3), xI g (α 3) 49 (zT (γ 3)), xI g (β 3) 49 (zI (γ 3)), xJ g ot 1 f] sz)) (va_Qi (fun (r : Int32) (u : (Nat → Nat) × (Nat → Nat) × (Nat → Nat)) => r = nI 0) (kB g (va_A [cX x nw sn tk hs tx tr, cR nw na nb σ, xI g na 49 (zT σ), xI g nb 49 (zI σ), cH hs hq kn, xQ g hq 4 (rq ρ), cR (ρ 0) (α 0) (β 0) (γ 0), xI g (α 0) 49 (zT (γ 0)), xI g (β 0) 49 (zI (γ 0)), cR (ρ 1) (α 1) (β 1) (γ 1), xI g (α 1) 49 (zT (γ 1)), xI g (β 1) 49 (zI (γ 1)), cR (ρ 2) (α 2) (β 2) (γ 2), xI g (α 2) 49 (zT (γ 2)), xI g (β 2) 49 (zI (γ 2)), cR (ρ 3) (α 3) (β 3) (γ 3), xI g (α 3) 49 (zT (γ 3)), xI g (β 3) 49 (zI (γ 3)), xJ g ot 1 f] sz) (fun u => [cX x nw sn tk hs tx tr, cR nw na nb (putS d kd σ), xI g na 49 (zT (putS d kd σ)), xI g nb 49 (zI (putS d kd σ)), cH hs hq (pushN kn), xQ g hq 4 (rq u.1), cR (u.1 0) (u.2.1 0) (u.2.2 0) ((pushG γ kn σ) 0), xI g (u.2.1 0) 49 (zT ((pushG γ kn σ) 0)), xI g (u.2.2 0) 49 (zI ((pushG γ kn σ) 0)), cR (u.1 1) (u.2.1 1) (u.2.2 1) ((pushG γ kn σ) 1), xI g (u.2.1 1) 49 (zT ((pushG γ kn σ) 1)), xI g (u.2.2 1) 49 (zI ((pushG γ kn σ) 1)), cR (u.1 2) (u.2.1 2) (u.2.2 2) ((pushG γ kn σ) 2), xI g (u.2.1 2) 49 (zT ((pushG γ kn σ) 2)), xI g (u.2.2 2) 49 (zI ((pushG γ kn σ) 2)), cR (u.1 3) (u.2.1 3) (u.2.2 3) ((pushG γ kn σ) 3), xI g (u.2.1 3) 49 (zT ((pushG γ kn σ) 3)), xI g (u.2.2 3) 49 (zI ((pushG γ kn σ) 3)), xJ g ot 1 (vp_updL f 0 ((nI (zcnt (kindP (putS d kd σ) kd) 48)).toInt64))])) (va_A [cX x nw sn tk hs tx tr, cR nw na nb σ, xI g na 49 (zT σ), xI g nb 49 (zI σ), cH hs hq kn, xQ g hq 4 (rq ρ), cR (ρ 0) (α 0) (β 0) (γ 0), xI g (α 0) 49 (zT (γ 0)), xI g (β 0) 49 (zI (γ 0)), cR (ρ 1) (α 1) (β 1) (γ 1), xI g (α 1) 49 (zT (γ 1)), xI g (β 1) 49 (zI (γ 1)), cR (ρ 2) (α 2) (β 2) (γ 2), xI g (α 2) 49 (zT (γ 2)), xI g (β 2) 49 (zI (γ 2)), cR (ρ 3) (α 3) (β 3) (γ 3), xI g (α 3) 49 (zT (γ 3)), xI g (β 3) 49 (zI (γ 3)), xJ g ot 1 f] sz)) 0 0 (va_A [cX x nw sn tk hs tx tr, cR nw na nb σ, xI g na 49 (zT σ), xI g nb 49 (zI σ), cH hs hq kn, xQ g hq 4 (rq ρ), cR (ρ 0) (α 0) (β 0) (γ 0), xI g (α 0) 49 (zT (γ 0)), xI g (β 0) 49 (zI (γ 0)), cR (ρ 1) (α 1) (β 1) (γ 1), xI g (α 1) 49 (zT (γ 1)), xI g (β 1) 49 (zI (γ 1)), cR (ρ 2) (α 2) (β 2) (γ 2), xI g (α 2) 49 (zT (γ 2)), xI g (β 2) 49 (zI (γ 2)), cR (ρ 3) (α 3) (β 3) (γ 3), xI g (α 3) 49 (zT (γ 3)), xI g (β 3) 49 (zI (γ 3)), xJ g ot 1 f] sz) := by
  refine kMetH (hh := [(0, 10, 13, 13), (0, 10, 17, 23)]) (cc := cL_store) (maxL := 5) (ret := (some .int)) (own := RL) (by decide) rfl rfl (Nat.le_of_ble_eq_true rfl) ?_
  intro p e s m args below meth c ls Q H locs A F w hl htab hA hQ
  have hx := F.1.1
  have hb := F.1.2.1
  have hts := F.1.2.2.2.2
  have hl : lv_has ls 5 [(0, .ref x), (1, .int (nI d)), (2, .int (bI kd)), (3, .ref ot)] := hl
  refine lv_aload_n hx hb dL_store_0 rfl (lv_at hl 3 rfl) ?_
  refine lv_iconst (v := nI 0) hx hb dL_store_1 (by decide) ?_
  refine lv_aload_n hx hb dL_store_2 rfl (lv_at hl 0 rfl) ?_
  refine lv_iload_n hx hb dL_store_3 rfl (lv_at hl 1 rfl) ?_
  refine lv_iload_n hx hb dL_store_4 rfl (lv_at hl 2 rfl) ?_
  refine kcalli (wc := [cX x nw sn tk hs tx tr, cR nw na nb σ, xI g na 49 (zT σ), xI g nb 49 (zI σ), cH hs hq kn, xQ g hq 4 (rq ρ), cR (ρ 0) (α 0) (β 0) (γ 0), xI g (α 0) 49 (zT (γ 0)), xI g (β 0) 49 (zI (γ 0)), cR (ρ 1) (α 1) (β 1) (γ 1), xI g (α 1) 49 (zT (γ 1)), xI g (β 1) 49 (zI (γ 1)), cR (ρ 2) (α 2) (β 2) (γ 2), xI g (α 2) 49 (zT (γ 2)), xI g (β 2) 49 (zI (γ 2)), cR (ρ 3) (α 3) (β 3) (γ 3), xI g (α 3) 49 (zT (γ 3)), xI g (β 3) 49 (zI (γ 3))]) (wr := [xJ g ot 1 f]) (wn := fun (u : (Nat → Nat) × (Nat → Nat) × (Nat → Nat)) => [cX x nw sn tk hs tx tr, cR nw na nb (putS d kd σ), xI g na 49 (zT (putS d kd σ)), xI g nb 49 (zI (putS d kd σ)), cH hs hq (pushN kn), xQ g hq 4 (rq u.1), cR (u.1 0) (u.2.1 0) (u.2.2 0) ((pushG γ kn σ) 0), xI g (u.2.1 0) 49 (zT ((pushG γ kn σ) 0)), xI g (u.2.2 0) 49 (zI ((pushG γ kn σ) 0)), cR (u.1 1) (u.2.1 1) (u.2.2 1) ((pushG γ kn σ) 1), xI g (u.2.1 1) 49 (zT ((pushG γ kn σ) 1)), xI g (u.2.2 1) 49 (zI ((pushG γ kn σ) 1)), cR (u.1 2) (u.2.1 2) (u.2.2 2) ((pushG γ kn σ) 2), xI g (u.2.1 2) 49 (zT ((pushG γ kn σ) 2)), xI g (u.2.2 2) 49 (zI ((pushG γ kn σ) 2)), cR (u.1 3) (u.2.1 3) (u.2.2 3) ((pushG γ kn σ) 3), xI g (u.2.1 3) 49 (zT ((pushG γ kn σ) 3)), xI g (u.2.2 3) 49 (zI ((pushG γ kn σ) 3)), xJ g ot 1 f]) F w [0, 1, 2, 3, 4, 5, 6, 7, 8, 9, 10, 11, 12, 13, 14, 15, 16, 17] [18] [1, 2, 3, 4, 5, 6, 7, 8, 9, 10, 11, 12, 13, 14, 15, 16, 17, 18, 0] rfl rfl rfl (fun _ => rfl)
    (fun hp => va_runV (As := [.int (nI d), .int (bI kd)]) (rest := [.int (nI 0), .ref ot]) F.1 (kX5_store_k l g x nw sn tk hs tx tr na nb σ hq kn ρ α β γ d kd H.size hd hr9 hkn) (cwV 2 hts gL_store_X5_store rfl rfl rfl ⟨rfl, hd_X5_store⟩ ⟨Nat.le_of_ble_eq_true rfl, Nat.le_of_ble_eq_true rfl⟩) ⟨hp.1, va_recv F.2.2.2.1.1 w.1 (q0 := 0) (ci := 5) rfl rfl, hp.2⟩ rfl rfl hl.1 rfl (lv_room (Nat.le_of_ble_eq_true rfl)) dL_store_5 ⟨Nat.le_of_ble_eq_true rfl, Nat.le_of_ble_eq_true rfl⟩)
    (fun r_1 u H locs h_2 w => ?_)
  try dsimp only at h_2
  obtain ⟨u_3, hu9⟩ : ∃ z, z = u := ⟨_, rfl⟩
  subst hu9
  have w : kW g A s [cX x nw sn tk hs tx tr, cR nw na nb (putS d kd σ), xI g na 49 (zT (putS d kd σ)), xI g nb 49 (zI (putS d kd σ)), cH hs hq (pushN kn), xQ g hq 4 (rq u_3.1), cR (u_3.1 0) (u_3.2.1 0) (u_3.2.2 0) ((pushG γ kn σ) 0), xI g (u_3.2.1 0) 49 (zT ((pushG γ kn σ) 0)), xI g (u_3.2.2 0) 49 (zI ((pushG γ kn σ) 0)), cR (u_3.1 1) (u_3.2.1 1) (u_3.2.2 1) ((pushG γ kn σ) 1), xI g (u_3.2.1 1) 49 (zT ((pushG γ kn σ) 1)), xI g (u_3.2.2 1) 49 (zI ((pushG γ kn σ) 1)), cR (u_3.1 2) (u_3.2.1 2) (u_3.2.2 2) ((pushG γ kn σ) 2), xI g (u_3.2.1 2) 49 (zT ((pushG γ kn σ) 2)), xI g (u_3.2.2 2) 49 (zI ((pushG γ kn σ) 2)), cR (u_3.1 3) (u_3.2.1 3) (u_3.2.2 3) ((pushG γ kn σ) 3), xI g (u_3.2.1 3) 49 (zT ((pushG γ kn σ) 3)), xI g (u_3.2.2 3) 49 (zI ((pushG γ kn σ) 3)), xJ g ot 1 f] H locs := w
  subst h_2
  refine lv_i2l hx hb dL_store_8 rfl ?_
  refine klast (f' := vp_updL f 0 ((nI (zcnt (kindP (putS d kd σ) kd) 48)).toInt64)) F w 18 rfl (vp_in_nI (by omega) (by omega)) (congrArg (fun z => vp_updL f z ((nI (zcnt (kindP (putS d kd σ) kd) 48)).toInt64)) (nI_clamp (n := 0) (by omega))) (wn := [cX x nw sn tk hs tx tr, cR nw na nb (putS d kd σ), xI g na 49 (zT (putS d kd σ)), xI g nb 49 (zI (putS d kd σ)), cH hs hq (pushN kn), xQ g hq 4 (rq u_3.1), cR (u_3.1 0) (u_3.2.1 0) (u_3.2.2 0) ((pushG γ kn σ) 0), xI g (u_3.2.1 0) 49 (zT ((pushG γ kn σ) 0)), xI g (u_3.2.2 0) 49 (zI ((pushG γ kn σ) 0)), cR (u_3.1 1) (u_3.2.1 1) (u_3.2.2 1) ((pushG γ kn σ) 1), xI g (u_3.2.1 1) 49 (zT ((pushG γ kn σ) 1)), xI g (u_3.2.2 1) 49 (zI ((pushG γ kn σ) 1)), cR (u_3.1 2) (u_3.2.1 2) (u_3.2.2 2) ((pushG γ kn σ) 2), xI g (u_3.2.1 2) 49 (zT ((pushG γ kn σ) 2)), xI g (u_3.2.2 2) 49 (zI ((pushG γ kn σ) 2)), cR (u_3.1 3) (u_3.2.1 3) (u_3.2.2 3) ((pushG γ kn σ) 3), xI g (u_3.2.1 3) 49 (zT ((pushG γ kn σ) 3)), xI g (u_3.2.2 3) 49 (zI ((pushG γ kn σ) 3)), xJ g ot 1 (vp_updL f 0 ((nI (zcnt (kindP (putS d kd σ) kd) 48)).toInt64))]) rfl dL_store_9 (fun H locs w => ?_)
  refine lv_goto (tgt := 21) hx hb dL_store_10 (by decide) ?_
  refine lv_iconst (v := nI 0) hx hb dL_store_21 (by decide) ?_
  subst hA
  subst hQ
  exact kreti F w u_3 [0, 1, 2, 3, 4, 5, 6, 7, 8, 9, 10, 11, 12, 13, 14, 15, 16, 17, 18] rfl rfl (rfl) (Nat.le_of_ble_eq_true rfl) (Nat.le_of_ble_eq_true rfl) dL_store_22
abbrev rmL_store_A : Room := { frames := 7, cells := 1, slots := 6, locals := 104 }
set_option maxHeartbeats 4000000 in
set_option maxRecDepth 100000 in
theorem kL_store_A (l : Launch) (hnl : l.stackTraces = false) (g : GG) (x : Nat) (nw : Nat) (sn : Nat) (tk : Bool) (hs : Nat) (tx : Nat) (tr : Nat) (n : Int32) (k : Int32) (ot : Nat) (sz : Nat) (hn : ¬ ((1 ≤ n.toInt ∧ n.toInt ≤ 48) ∧ (k = 0 ∨ k = 1))) : Met l yL_store wsL_store rmL_store_A (va_Pc [.ref x, .int n, .int k, .ref ot] (kPre g [cX x nw sn tk hs tx tr] sz)) (va_Qi (fun (r : Int32) (u : Unit) => r = nI 1) (kB g (va_A [cX x nw sn tk hs tx tr] sz) (fun u => [cX x nw sn tk hs tx tr])) (va_A [cX x nw sn tk hs tx tr] sz)) 1 6 (va_A [cX x nw sn tk hs tx tr] sz) := by
  refine kMetH (hh := [(0, 10, 13, 13), (0, 10, 17, 23)]) (cc := cL_store) (maxL := 5) (ret := (some .int)) (own := RL) (by decide) rfl rfl (Nat.le_of_ble_eq_true rfl) ?_
  intro p e s m args below meth c ls Q H locs A F w hl htab hA hQ
  have hx := F.1.1
  have hb := F.1.2.1
  have hts := F.1.2.2.2.2
  have hl : lv_has ls 5 [(0, .ref x), (1, .int n), (2, .int k), (3, .ref ot)] := hl
  refine lv_aload_n hx hb dL_store_0 rfl (lv_at hl 3 rfl) ?_
  refine lv_iconst (v := nI 0) hx hb dL_store_1 (by decide) ?_
  refine lv_aload_n hx hb dL_store_2 rfl (lv_at hl 0 rfl) ?_
  refine lv_iload_n hx hb dL_store_3 rfl (lv_at hl 1 rfl) ?_
  refine lv_iload_n hx hb dL_store_4 rfl (lv_at hl 2 rfl) ?_
  refine kcaught (E0 := eIAE) (wc := []) (wr := [cX x nw sn tk hs tx tr]) (wn := fun (u : Unit) => [cX x nw sn tk hs tx tr]) F w [] [0] [0] rfl rfl rfl (fun _ => rfl)
    (fun hp => vx_runV (As := [.int n, .int k]) (rest := [.int (nI 0), .ref ot]) F.1 (kX5_store_A l hnl g x n k H.size hn) (cwV 2 hts gL_store_X5_store rfl rfl rfl ⟨rfl, hd_X5_store⟩ ⟨Nat.le_of_ble_eq_true rfl, Nat.le_of_ble_eq_true rfl⟩) ⟨hp.1, va_recv F.2.2.2.1.1 w.1 (q0 := 0) (ci := 5) rfl rfl, hp.2⟩ rfl rfl hl.1 rfl (lv_room (Nat.le_of_ble_eq_true rfl)) dL_store_5 ⟨Nat.le_of_ble_eq_true rfl, Nat.le_of_ble_eq_true rfl⟩)
    [] ⟨0, 10, 13, 13⟩ [⟨0, 10, 17, 23⟩] htab (fun z hz => nomatch hz) (by decide +kernel) (by decide) (by decide +kernel) (by decide +kernel) (fun q_1 _ H locs w => ?_)
  refine lv_astore (lv' := [(4, .ref q_1), (0, .ref x), (1, .int n), (2, .int k), (3, .ref ot)]) hx hb dL_store_13 hl (by decide) rfl (fun ls hl => ?_)
  refine lv_iconst (v := nI 1) hx hb dL_store_15 (by decide) ?_
  subst hA
  subst hQ
  exact kreti F w () [0] rfl rfl (rfl) (Nat.le_of_ble_eq_true rfl) (Nat.le_of_ble_eq_true rfl) dL_store_16
abbrev rmL_store_S : Room := { frames := 7, cells := 1, slots := 6, locals := 104 }
set_option maxHeartbeats 4000000 in
set_option maxRecDepth 100000 in
theorem kL_store_S (l : Launch) (hnl : l.stackTraces = false) (g : GG) (x : Nat) (nw : Nat) (sn : Nat) (tk : Bool) (hs : Nat) (tx : Nat) (tr : Nat) (na : Nat) (nb : Nat) (σ : Sg) (d : Nat) (kd : Bool) (ot : Nat) (sz : Nat) (hd : 1 ≤ d ∧ d ≤ 48) (hr9 : reasZ σ d kd ≠ 0) : Met l yL_store wsL_store rmL_store_S (va_Pc [.ref x, .int (nI d), .int (bI kd), .ref ot] (kPre g [cX x nw sn tk hs tx tr, cR nw na nb σ, xI g na 49 (zT σ), xI g nb 49 (zI σ)] sz)) (va_Qi (fun (r : Int32) (u : Unit) => r = nI 2) (kB g (va_A [cX x nw sn tk hs tx tr, cR nw na nb σ, xI g na 49 (zT σ), xI g nb 49 (zI σ)] sz) (fun u => [cX x nw sn tk hs tx tr, cR nw na nb σ, xI g na 49 (zT σ), xI g nb 49 (zI σ)])) (va_A [cX x nw sn tk hs tx tr, cR nw na nb σ, xI g na 49 (zT σ), xI g nb 49 (zI σ)] sz)) 1 6 (va_A [cX x nw sn tk hs tx tr, cR nw na nb σ, xI g na 49 (zT σ), xI g nb 49 (zI σ)] sz) := by
  refine kMetH (hh := [(0, 10, 13, 13), (0, 10, 17, 23)]) (cc := cL_store) (maxL := 5) (ret := (some .int)) (own := RL) (by decide) rfl rfl (Nat.le_of_ble_eq_true rfl) ?_
  intro p e s m args below meth c ls Q H locs A F w hl htab hA hQ
  have hx := F.1.1
  have hb := F.1.2.1
  have hts := F.1.2.2.2.2
  have hl : lv_has ls 5 [(0, .ref x), (1, .int (nI d)), (2, .int (bI kd)), (3, .ref ot)] := hl
  refine lv_aload_n hx hb dL_store_0 rfl (lv_at hl 3 rfl) ?_
  refine lv_iconst (v := nI 0) hx hb dL_store_1 (by decide) ?_
  refine lv_aload_n hx hb dL_store_2 rfl (lv_at hl 0 rfl) ?_
  refine lv_iload_n hx hb dL_store_3 rfl (lv_at hl 1 rfl) ?_
  refine lv_iload_n hx hb dL_store_4 rfl (lv_at hl 2 rfl) ?_
  refine kcaught (E0 := eISE) (wc := [cX x nw sn tk hs tx tr, cR nw na nb σ, xI g na 49 (zT σ), xI g nb 49 (zI σ)]) (wr := []) (wn := fun (u : Unit) => [cX x nw sn tk hs tx tr, cR nw na nb σ, xI g na 49 (zT σ), xI g nb 49 (zI σ)]) F w [0, 1, 2, 3] [] [0, 1, 2, 3] rfl rfl rfl (fun _ => rfl)
    (fun hp => vx_runV (As := [.int (nI d), .int (bI kd)]) (rest := [.int (nI 0), .ref ot]) F.1 (kX5_store_S l hnl g x nw sn tk hs tx tr na nb σ d kd H.size hd hr9) (cwV 2 hts gL_store_X5_store rfl rfl rfl ⟨rfl, hd_X5_store⟩ ⟨Nat.le_of_ble_eq_true rfl, Nat.le_of_ble_eq_true rfl⟩) ⟨hp.1, va_recv F.2.2.2.1.1 w.1 (q0 := 0) (ci := 5) rfl rfl, hp.2⟩ rfl rfl hl.1 rfl (lv_room (Nat.le_of_ble_eq_true rfl)) dL_store_5 ⟨Nat.le_of_ble_eq_true rfl, Nat.le_of_ble_eq_true rfl⟩)
    [⟨0, 10, 13, 13⟩] ⟨0, 10, 17, 23⟩ [] htab (fun z hz => by rcases List.mem_cons.mp hz with rfl | hz; exact ⟨by decide, eIAE, by decide +kernel, by decide +kernel⟩; cases hz) (by decide +kernel) (by decide) (by decide +kernel) (by decide +kernel) (fun q_1 _ H locs w => ?_)
  refine lv_astore (lv' := [(4, .ref q_1), (0, .ref x), (1, .int (nI d)), (2, .int (bI kd)), (3, .ref ot)]) hx hb dL_store_17 hl (by decide) rfl (fun ls hl => ?_)
  refine lv_iconst (v := nI 2) hx hb dL_store_19 (by decide) ?_
  subst hA
  subst hQ
  exact kreti F w () [0, 1, 2, 3] rfl rfl (rfl) (Nat.le_of_ble_eq_true rfl) (Nat.le_of_ble_eq_true rfl) dL_store_20
theorem hd_X5_takeOut : yX5_takeOut.cls ≠ "java/lang/invoke/MethodHandle" ∧ yX5_takeOut.cls ≠ "java/lang/invoke/VarHandle" ∧ (parseMethodDescriptor yX5_takeOut.desc).map (fun d => d.parameters.length) = some 1 := by decide +kernel
abbrev rmL_takeOut_k : Room := { frames := 4, cells := 0, slots := 0, locals := 87 }
set_option maxHeartbeats 4000000 in
set_option maxRecDepth 100000 in
theorem kL_takeOut_k (l : Launch) (g : GG) (x : Nat) (nw : Nat) (sn : Nat) (tk : Bool) (hs : Nat) (tx : Nat) (tr : Nat) (na : Nat) (nb : Nat) (σ : Sg) (hq : Nat) (kn : Nat) (ρ : Nat → Nat) (α : Nat → Nat) (β : Nat → Nat) (γ : Nat → Sg) (d : Nat) (ot : Nat) (f : Nat → Int64) (sz : Nat) (hd : 1 ≤ d ∧ d ≤ 48) (hs9 : zO σ d = true ∧ zF σ d = true) (hkn : kn ≤ 4) : Met l yL_takeOut wsL_takeOut rmL_takeOut_k (va_Pc [.ref x, .int (nI d), .ref ot] (kPre g [cX x nw sn tk hs tx tr, cR nw na nb σ, xI g na 49 (zT σ), xI g nb 49 (zI σ), cH hs hq kn, xQ g hq 4 (rq ρ), cR (ρ 0) (α 0) (β 0) (γ 0), xI g (α 0) 49 (zT (γ 0)), xI g (β 0) 49 (zI (γ 0)), cR (ρ 1) (α 1) (β 1) (γ 1), xI g (α 1) 49 (zT (γ 1)), xI g (β 1) 49 (zI (γ 1)), cR (ρ 2) (α 2) (β 2) (γ 2), xI g (α 2) 49 (zT (γ 2)), xI g (β 2) 49 (zI (γ 2)), cR (ρ 3) (α 3) (β 3) (γ 3), xI g (α 3) 49 (zT (γ 3)), xI g (β 3) 49 (zI (γ 3)), xJ g ot 1 f] sz)) (va_Qi (fun (r : Int32) (u : (Nat → Nat) × (Nat → Nat) × (Nat → Nat)) => r = nI 0) (kB g (va_A [cX x nw sn tk hs tx tr, cR nw na nb σ, xI g na 49 (zT σ), xI g nb 49 (zI σ), cH hs hq kn, xQ g hq 4 (rq ρ), cR (ρ 0) (α 0) (β 0) (γ 0), xI g (α 0) 49 (zT (γ 0)), xI g (β 0) 49 (zI (γ 0)), cR (ρ 1) (α 1) (β 1) (γ 1), xI g (α 1) 49 (zT (γ 1)), xI g (β 1) 49 (zI (γ 1)), cR (ρ 2) (α 2) (β 2) (γ 2), xI g (α 2) 49 (zT (γ 2)), xI g (β 2) 49 (zI (γ 2)), cR (ρ 3) (α 3) (β 3) (γ 3), xI g (α 3) 49 (zT (γ 3)), xI g (β 3) 49 (zI (γ 3)), xJ g ot 1 f] sz) (fun u => [cX x nw sn tk hs tx tr, cR nw na nb (clrS d σ), xI g na 49 (zT (clrS d σ)), xI g nb 49 (zI (clrS d σ)), cH hs hq (pushN kn), xQ g hq 4 (rq u.1), cR (u.1 0) (u.2.1 0) (u.2.2 0) ((pushG γ kn σ) 0), xI g (u.2.1 0) 49 (zT ((pushG γ kn σ) 0)), xI g (u.2.2 0) 49 (zI ((pushG γ kn σ) 0)), cR (u.1 1) (u.2.1 1) (u.2.2 1) ((pushG γ kn σ) 1), xI g (u.2.1 1) 49 (zT ((pushG γ kn σ) 1)), xI g (u.2.2 1) 49 (zI ((pushG γ kn σ) 1)), cR (u.1 2) (u.2.1 2) (u.2.2 2) ((pushG γ kn σ) 2), xI g (u.2.1 2) 49 (zT ((pushG γ kn σ) 2)), xI g (u.2.2 2) 49 (zI ((pushG γ kn σ) 2)), cR (u.1 3) (u.2.1 3) (u.2.2 3) ((pushG γ kn σ) 3), xI g (u.2.1 3) 49 (zT ((pushG γ kn σ) 3)), xI g (u.2.2 3) 49 (zI ((pushG γ kn σ) 3)), xJ g ot 1 (vp_updL f 0 ((bI (zH σ d)).toInt64))])) (va_A [cX x nw sn tk hs tx tr, cR nw na nb σ, xI g na 49 (zT σ), xI g nb 49 (zI σ), cH hs hq kn, xQ g hq 4 (rq ρ), cR (ρ 0) (α 0) (β 0) (γ 0), xI g (α 0) 49 (zT (γ 0)), xI g (β 0) 49 (zI (γ 0)), cR (ρ 1) (α 1) (β 1) (γ 1), xI g (α 1) 49 (zT (γ 1)), xI g (β 1) 49 (zI (γ 1)), cR (ρ 2) (α 2) (β 2) (γ 2), xI g (α 2) 49 (zT (γ 2)), xI g (β 2) 49 (zI (γ 2)), cR (ρ 3) (α 3) (β 3) (γ 3), xI g (α 3) 49 (zT (γ 3)), xI g (β 3) 49 (zI (γ 3)), xJ g ot 1 f] sz)) 0 0 (va_A [cX x nw sn tk hs tx tr, cR nw na nb σ, xI g na 49 (zT σ), xI g nb 49 (zI σ), cH hs hq kn, xQ g hq 4 (rq ρ), cR (ρ 0) (α 0) (β 0) (γ 0), xI g (α 0) 49 (zT (γ 0)), xI g (β 0) 49 (zI (γ 0)), cR (ρ 1) (α 1) (β 1) (γ 1), xI g (α 1) 49 (zT (γ 1)), xI g (β 1) 49 (zI (γ 1)), cR (ρ 2) (α 2) (β 2) (γ 2), xI g (α 2) 49 (zT (γ 2)), xI g (β 2) 49 (zI (γ 2)), cR (ρ 3) (α 3) (β 3) (γ 3), xI g (α 3) 49 (zT (γ 3)), xI g (β 3) 49 (zI (γ 3)), xJ g ot 1 f] sz) := by
  refine kMetH (hh := [(0, 9, 12, 13), (0, 9, 15, 23)]) (cc := cL_takeOut) (maxL := 4) (ret := (some .int)) (own := RL) (by decide) rfl rfl (Nat.le_of_ble_eq_true rfl) ?_
  intro p e s m args below meth c ls Q H locs A F w hl htab hA hQ
  have hx := F.1.1
  have hb := F.1.2.1
  have hts := F.1.2.2.2.2
  have hl : lv_has ls 4 [(0, .ref x), (1, .int (nI d)), (2, .ref ot)] := hl
  refine lv_aload_n hx hb dL_takeOut_0 rfl (lv_at hl 2 rfl) ?_
  refine lv_iconst (v := nI 0) hx hb dL_takeOut_1 (by decide) ?_
  refine lv_aload_n hx hb dL_takeOut_2 rfl (lv_at hl 0 rfl) ?_
  refine lv_iload_n hx hb dL_takeOut_3 rfl (lv_at hl 1 rfl) ?_
  refine kcalli (wc := [cX x nw sn tk hs tx tr, cR nw na nb σ, xI g na 49 (zT σ), xI g nb 49 (zI σ), cH hs hq kn, xQ g hq 4 (rq ρ), cR (ρ 0) (α 0) (β 0) (γ 0), xI g (α 0) 49 (zT (γ 0)), xI g (β 0) 49 (zI (γ 0)), cR (ρ 1) (α 1) (β 1) (γ 1), xI g (α 1) 49 (zT (γ 1)), xI g (β 1) 49 (zI (γ 1)), cR (ρ 2) (α 2) (β 2) (γ 2), xI g (α 2) 49 (zT (γ 2)), xI g (β 2) 49 (zI (γ 2)), cR (ρ 3) (α 3) (β 3) (γ 3), xI g (α 3) 49 (zT (γ 3)), xI g (β 3) 49 (zI (γ 3))]) (wr := [xJ g ot 1 f]) (wn := fun (u : (Nat → Nat) × (Nat → Nat) × (Nat → Nat)) => [cX x nw sn tk hs tx tr, cR nw na nb (clrS d σ), xI g na 49 (zT (clrS d σ)), xI g nb 49 (zI (clrS d σ)), cH hs hq (pushN kn), xQ g hq 4 (rq u.1), cR (u.1 0) (u.2.1 0) (u.2.2 0) ((pushG γ kn σ) 0), xI g (u.2.1 0) 49 (zT ((pushG γ kn σ) 0)), xI g (u.2.2 0) 49 (zI ((pushG γ kn σ) 0)), cR (u.1 1) (u.2.1 1) (u.2.2 1) ((pushG γ kn σ) 1), xI g (u.2.1 1) 49 (zT ((pushG γ kn σ) 1)), xI g (u.2.2 1) 49 (zI ((pushG γ kn σ) 1)), cR (u.1 2) (u.2.1 2) (u.2.2 2) ((pushG γ kn σ) 2), xI g (u.2.1 2) 49 (zT ((pushG γ kn σ) 2)), xI g (u.2.2 2) 49 (zI ((pushG γ kn σ) 2)), cR (u.1 3) (u.2.1 3) (u.2.2 3) ((pushG γ kn σ) 3), xI g (u.2.1 3) 49 (zT ((pushG γ kn σ) 3)), xI g (u.2.2 3) 49 (zI ((pushG γ kn σ) 3)), xJ g ot 1 f]) F w [0, 1, 2, 3, 4, 5, 6, 7, 8, 9, 10, 11, 12, 13, 14, 15, 16, 17] [18] [1, 2, 3, 4, 5, 6, 7, 8, 9, 10, 11, 12, 13, 14, 15, 16, 17, 18, 0] rfl rfl rfl (fun _ => rfl)
    (fun hp => va_runV (As := [.int (nI d)]) (rest := [.int (nI 0), .ref ot]) F.1 (kX5_takeOut_k l g x nw sn tk hs tx tr na nb σ hq kn ρ α β γ d H.size hd hs9 hkn) (cwV 1 hts gL_takeOut_X5_takeOut rfl rfl rfl ⟨rfl, hd_X5_takeOut⟩ ⟨Nat.le_of_ble_eq_true rfl, Nat.le_of_ble_eq_true rfl⟩) ⟨hp.1, va_recv F.2.2.2.1.1 w.1 (q0 := 0) (ci := 5) rfl rfl, hp.2⟩ rfl rfl hl.1 rfl (lv_room (Nat.le_of_ble_eq_true rfl)) dL_takeOut_4 ⟨Nat.le_of_ble_eq_true rfl, Nat.le_of_ble_eq_true rfl⟩)
    (fun r_1 u H locs h_2 w => ?_)
  try dsimp only at h_2
  obtain ⟨u_3, hu9⟩ : ∃ z, z = u := ⟨_, rfl⟩
  subst hu9
  have w : kW g A s [cX x nw sn tk hs tx tr, cR nw na nb (clrS d σ), xI g na 49 (zT (clrS d σ)), xI g nb 49 (zI (clrS d σ)), cH hs hq (pushN kn), xQ g hq 4 (rq u_3.1), cR (u_3.1 0) (u_3.2.1 0) (u_3.2.2 0) ((pushG γ kn σ) 0), xI g (u_3.2.1 0) 49 (zT ((pushG γ kn σ) 0)), xI g (u_3.2.2 0) 49 (zI ((pushG γ kn σ) 0)), cR (u_3.1 1) (u_3.2.1 1) (u_3.2.2 1) ((pushG γ kn σ) 1), xI g (u_3.2.1 1) 49 (zT ((pushG γ kn σ) 1)), xI g (u_3.2.2 1) 49 (zI ((pushG γ kn σ) 1)), cR (u_3.1 2) (u_3.2.1 2) (u_3.2.2 2) ((pushG γ kn σ) 2), xI g (u_3.2.1 2) 49 (zT ((pushG γ kn σ) 2)), xI g (u_3.2.2 2) 49 (zI ((pushG γ kn σ) 2)), cR (u_3.1 3) (u_3.2.1 3) (u_3.2.2 3) ((pushG γ kn σ) 3), xI g (u_3.2.1 3) 49 (zT ((pushG γ kn σ) 3)), xI g (u_3.2.2 3) 49 (zI ((pushG γ kn σ) 3)), xJ g ot 1 f] H locs := w
  subst h_2
  refine lv_i2l hx hb dL_takeOut_7 rfl ?_
  refine klast (f' := vp_updL f 0 ((bI (zH σ d)).toInt64)) F w 18 rfl (vp_in_nI (by omega) (by omega)) (congrArg (fun z => vp_updL f z ((bI (zH σ d)).toInt64)) (nI_clamp (n := 0) (by omega))) (wn := [cX x nw sn tk hs tx tr, cR nw na nb (clrS d σ), xI g na 49 (zT (clrS d σ)), xI g nb 49 (zI (clrS d σ)), cH hs hq (pushN kn), xQ g hq 4 (rq u_3.1), cR (u_3.1 0) (u_3.2.1 0) (u_3.2.2 0) ((pushG γ kn σ) 0), xI g (u_3.2.1 0) 49 (zT ((pushG γ kn σ) 0)), xI g (u_3.2.2 0) 49 (zI ((pushG γ kn σ) 0)), cR (u_3.1 1) (u_3.2.1 1) (u_3.2.2 1) ((pushG γ kn σ) 1), xI g (u_3.2.1 1) 49 (zT ((pushG γ kn σ) 1)), xI g (u_3.2.2 1) 49 (zI ((pushG γ kn σ) 1)), cR (u_3.1 2) (u_3.2.1 2) (u_3.2.2 2) ((pushG γ kn σ) 2), xI g (u_3.2.1 2) 49 (zT ((pushG γ kn σ) 2)), xI g (u_3.2.2 2) 49 (zI ((pushG γ kn σ) 2)), cR (u_3.1 3) (u_3.2.1 3) (u_3.2.2 3) ((pushG γ kn σ) 3), xI g (u_3.2.1 3) 49 (zT ((pushG γ kn σ) 3)), xI g (u_3.2.2 3) 49 (zI ((pushG γ kn σ) 3)), xJ g ot 1 (vp_updL f 0 ((bI (zH σ d)).toInt64))]) rfl dL_takeOut_8 (fun H locs w => ?_)
  refine lv_goto (tgt := 18) hx hb dL_takeOut_9 (by decide) ?_
  refine lv_iconst (v := nI 0) hx hb dL_takeOut_18 (by decide) ?_
  subst hA
  subst hQ
  exact kreti F w u_3 [0, 1, 2, 3, 4, 5, 6, 7, 8, 9, 10, 11, 12, 13, 14, 15, 16, 17, 18] rfl rfl (rfl) (Nat.le_of_ble_eq_true rfl) (Nat.le_of_ble_eq_true rfl) dL_takeOut_19
abbrev rmL_takeOut_A : Room := { frames := 7, cells := 1, slots := 6, locals := 104 }
set_option maxHeartbeats 4000000 in
set_option maxRecDepth 100000 in
theorem kL_takeOut_A (l : Launch) (hnl : l.stackTraces = false) (g : GG) (x : Nat) (nw : Nat) (sn : Nat) (tk : Bool) (hs : Nat) (tx : Nat) (tr : Nat) (n : Int32) (ot : Nat) (sz : Nat) (hn : ¬ (1 ≤ n.toInt ∧ n.toInt ≤ 48)) : Met l yL_takeOut wsL_takeOut rmL_takeOut_A (va_Pc [.ref x, .int n, .ref ot] (kPre g [cX x nw sn tk hs tx tr] sz)) (va_Qi (fun (r : Int32) (u : Unit) => r = nI 1) (kB g (va_A [cX x nw sn tk hs tx tr] sz) (fun u => [cX x nw sn tk hs tx tr])) (va_A [cX x nw sn tk hs tx tr] sz)) 1 6 (va_A [cX x nw sn tk hs tx tr] sz) := by
  refine kMetH (hh := [(0, 9, 12, 13), (0, 9, 15, 23)]) (cc := cL_takeOut) (maxL := 4) (ret := (some .int)) (own := RL) (by decide) rfl rfl (Nat.le_of_ble_eq_true rfl) ?_
  intro p e s m args below meth c ls Q H locs A F w hl htab hA hQ
  have hx := F.1.1
  have hb := F.1.2.1
  have hts := F.1.2.2.2.2
  have hl : lv_has ls 4 [(0, .ref x), (1, .int n), (2, .ref ot)] := hl
  refine lv_aload_n hx hb dL_takeOut_0 rfl (lv_at hl 2 rfl) ?_
  refine lv_iconst (v := nI 0) hx hb dL_takeOut_1 (by decide) ?_
  refine lv_aload_n hx hb dL_takeOut_2 rfl (lv_at hl 0 rfl) ?_
  refine lv_iload_n hx hb dL_takeOut_3 rfl (lv_at hl 1 rfl) ?_
  refine kcaught (E0 := eIAE) (wc := []) (wr := [cX x nw sn tk hs tx tr]) (wn := fun (u : Unit) => [cX x nw sn tk hs tx tr]) F w [] [0] [0] rfl rfl rfl (fun _ => rfl)
    (fun hp => vx_runV (As := [.int n]) (rest := [.int (nI 0), .ref ot]) F.1 (kX5_takeOut_A l hnl g x n H.size hn) (cwV 1 hts gL_takeOut_X5_takeOut rfl rfl rfl ⟨rfl, hd_X5_takeOut⟩ ⟨Nat.le_of_ble_eq_true rfl, Nat.le_of_ble_eq_true rfl⟩) ⟨hp.1, va_recv F.2.2.2.1.1 w.1 (q0 := 0) (ci := 5) rfl rfl, hp.2⟩ rfl rfl hl.1 rfl (lv_room (Nat.le_of_ble_eq_true rfl)) dL_takeOut_4 ⟨Nat.le_of_ble_eq_true rfl, Nat.le_of_ble_eq_true rfl⟩)
    [] ⟨0, 9, 12, 13⟩ [⟨0, 9, 15, 23⟩] htab (fun z hz => nomatch hz) (by decide +kernel) (by decide) (by decide +kernel) (by decide +kernel) (fun q_1 _ H locs w => ?_)
  refine lv_astore_n (lv' := [(3, .ref q_1), (0, .ref x), (1, .int n), (2, .ref ot)]) hx hb dL_takeOut_12 rfl hl (by decide) rfl (fun ls hl => ?_)
  refine lv_iconst (v := nI 1) hx hb dL_takeOut_13 (by decide) ?_
  subst hA
  subst hQ
  exact kreti F w () [0] rfl rfl (rfl) (Nat.le_of_ble_eq_true rfl) (Nat.le_of_ble_eq_true rfl) dL_takeOut_14
abbrev rmL_takeOut_S : Room := { frames := 7, cells := 1, slots := 6, locals := 104 }
set_option maxHeartbeats 4000000 in
set_option maxRecDepth 100000 in
theorem kL_takeOut_S (l : Launch) (hnl : l.stackTraces = false) (g : GG) (x : Nat) (nw : Nat) (sn : Nat) (tk : Bool) (hs : Nat) (tx : Nat) (tr : Nat) (na : Nat) (nb : Nat) (σ : Sg) (d : Nat) (ot : Nat) (sz : Nat) (hd : 1 ≤ d ∧ d ≤ 48) (hs9 : zO σ d = false ∨ zF σ d = false) : Met l yL_takeOut wsL_takeOut rmL_takeOut_S (va_Pc [.ref x, .int (nI d), .ref ot] (kPre g [cX x nw sn tk hs tx tr, cR nw na nb σ, xI g na 49 (zT σ), xI g nb 49 (zI σ)] sz)) (va_Qi (fun (r : Int32) (u : Unit) => r = nI 2) (kB g (va_A [cX x nw sn tk hs tx tr, cR nw na nb σ, xI g na 49 (zT σ), xI g nb 49 (zI σ)] sz) (fun u => [cX x nw sn tk hs tx tr, cR nw na nb σ, xI g na 49 (zT σ), xI g nb 49 (zI σ)])) (va_A [cX x nw sn tk hs tx tr, cR nw na nb σ, xI g na 49 (zT σ), xI g nb 49 (zI σ)] sz)) 1 6 (va_A [cX x nw sn tk hs tx tr, cR nw na nb σ, xI g na 49 (zT σ), xI g nb 49 (zI σ)] sz) := by
  refine kMetH (hh := [(0, 9, 12, 13), (0, 9, 15, 23)]) (cc := cL_takeOut) (maxL := 4) (ret := (some .int)) (own := RL) (by decide) rfl rfl (Nat.le_of_ble_eq_true rfl) ?_
  intro p e s m args below meth c ls Q H locs A F w hl htab hA hQ
  have hx := F.1.1
  have hb := F.1.2.1
  have hts := F.1.2.2.2.2
  have hl : lv_has ls 4 [(0, .ref x), (1, .int (nI d)), (2, .ref ot)] := hl
  refine lv_aload_n hx hb dL_takeOut_0 rfl (lv_at hl 2 rfl) ?_
  refine lv_iconst (v := nI 0) hx hb dL_takeOut_1 (by decide) ?_
  refine lv_aload_n hx hb dL_takeOut_2 rfl (lv_at hl 0 rfl) ?_
  refine lv_iload_n hx hb dL_takeOut_3 rfl (lv_at hl 1 rfl) ?_
  refine kcaught (E0 := eISE) (wc := [cX x nw sn tk hs tx tr, cR nw na nb σ, xI g na 49 (zT σ), xI g nb 49 (zI σ)]) (wr := []) (wn := fun (u : Unit) => [cX x nw sn tk hs tx tr, cR nw na nb σ, xI g na 49 (zT σ), xI g nb 49 (zI σ)]) F w [0, 1, 2, 3] [] [0, 1, 2, 3] rfl rfl rfl (fun _ => rfl)
    (fun hp => vx_runV (As := [.int (nI d)]) (rest := [.int (nI 0), .ref ot]) F.1 (kX5_takeOut_S l hnl g x nw sn tk hs tx tr na nb σ d H.size hd hs9) (cwV 1 hts gL_takeOut_X5_takeOut rfl rfl rfl ⟨rfl, hd_X5_takeOut⟩ ⟨Nat.le_of_ble_eq_true rfl, Nat.le_of_ble_eq_true rfl⟩) ⟨hp.1, va_recv F.2.2.2.1.1 w.1 (q0 := 0) (ci := 5) rfl rfl, hp.2⟩ rfl rfl hl.1 rfl (lv_room (Nat.le_of_ble_eq_true rfl)) dL_takeOut_4 ⟨Nat.le_of_ble_eq_true rfl, Nat.le_of_ble_eq_true rfl⟩)
    [⟨0, 9, 12, 13⟩] ⟨0, 9, 15, 23⟩ [] htab (fun z hz => by rcases List.mem_cons.mp hz with rfl | hz; exact ⟨by decide, eIAE, by decide +kernel, by decide +kernel⟩; cases hz) (by decide +kernel) (by decide) (by decide +kernel) (by decide +kernel) (fun q_1 _ H locs w => ?_)
  refine lv_astore_n (lv' := [(3, .ref q_1), (0, .ref x), (1, .int (nI d)), (2, .ref ot)]) hx hb dL_takeOut_15 rfl hl (by decide) rfl (fun ls hl => ?_)
  refine lv_iconst (v := nI 2) hx hb dL_takeOut_16 (by decide) ?_
  subst hA
  subst hQ
  exact kreti F w () [0, 1, 2, 3] rfl rfl (rfl) (Nat.le_of_ble_eq_true rfl) (Nat.le_of_ble_eq_true rfl) dL_takeOut_17
theorem hd_X5_isOpen : yX5_isOpen.cls ≠ "java/lang/invoke/MethodHandle" ∧ yX5_isOpen.cls ≠ "java/lang/invoke/VarHandle" ∧ (parseMethodDescriptor yX5_isOpen.desc).map (fun d => d.parameters.length) = some 1 := by decide +kernel
abbrev rmL_isOpen_k : Room := { frames := 2, cells := 0, slots := 0, locals := 43 }
set_option maxHeartbeats 4000000 in
set_option maxRecDepth 100000 in
theorem kL_isOpen_k (l : Launch) (g : GG) (x : Nat) (nw : Nat) (sn : Nat) (tk : Bool) (hs : Nat) (tx : Nat) (tr : Nat) (na : Nat) (nb : Nat) (σ : Sg) (d : Nat) (ot : Nat) (f : Nat → Int64) (sz : Nat) (hd : 1 ≤ d ∧ d ≤ 48) : Met l yL_isOpen wsL_isOpen rmL_isOpen_k (va_Pc [.ref x, .int (nI d), .ref ot] (kPre g [cX x nw sn tk hs tx tr, cR nw na nb σ, xI g na 49 (zT σ), xI g nb 49 (zI σ), xJ g ot 1 f] sz)) (va_Qi (fun (r : Int32) (u : Unit) => r = nI 0) (kB g (va_A [cX x nw sn tk hs tx tr, cR nw na nb σ, xI g na 49 (zT σ), xI g nb 49 (zI σ), xJ g ot 1 f] sz) (fun u => [cX x nw sn tk hs tx tr, cR nw na nb σ, xI g na 49 (zT σ), xI g nb 49 (zI σ), xJ g ot 1 (vp_updL f 0 (bL (zO σ d)))])) (va_A [cX x nw sn tk hs tx tr, cR nw na nb σ, xI g na 49 (zT σ), xI g nb 49 (zI σ), xJ g ot 1 f] sz)) 0 0 (va_A [cX x nw sn tk hs tx tr, cR nw na nb σ, xI g na 49 (zT σ), xI g nb 49 (zI σ), xJ g ot 1 f] sz) := by
  refine kMetH (hh := [(0, 16, 19, 13)]) (cc := cL_isOpen) (maxL := 4) (ret := (some .int)) (own := RL) (by decide) rfl rfl (Nat.le_of_ble_eq_true rfl) ?_
  intro p e s m args below meth c ls Q H locs A F w hl htab hA hQ
  have hx := F.1.1
  have hb := F.1.2.1
  have hts := F.1.2.2.2.2
  have hl : lv_has ls 4 [(0, .ref x), (1, .int (nI d)), (2, .ref ot)] := hl
  refine lv_aload_n hx hb dL_isOpen_0 rfl (lv_at hl 2 rfl) ?_
  refine lv_iconst (v := nI 0) hx hb dL_isOpen_1 (by decide) ?_
  refine lv_aload_n hx hb dL_isOpen_2 rfl (lv_at hl 0 rfl) ?_
  refine lv_iload_n hx hb dL_isOpen_3 rfl (lv_at hl 1 rfl) ?_
  refine kcalli (wc := [cX x nw sn tk hs tx tr, cR nw na nb σ, xI g na 49 (zT σ), xI g nb 49 (zI σ)]) (wr := [xJ g ot 1 f]) (wn := fun (u : Unit) => [cX x nw sn tk hs tx tr, cR nw na nb σ, xI g na 49 (zT σ), xI g nb 49 (zI σ), xJ g ot 1 f]) F w [0, 1, 2, 3] [4] [1, 2, 3, 4, 0] rfl rfl rfl (fun _ => rfl)
    (fun hp => va_runV (As := [.int (nI d)]) (rest := [.int (nI 0), .ref ot]) F.1 (kX5_isOpen_k l g x nw sn tk hs tx tr na nb σ d H.size hd) (cwV 1 hts gL_isOpen_X5_isOpen rfl rfl rfl ⟨rfl, hd_X5_isOpen⟩ ⟨Nat.le_of_ble_eq_true rfl, Nat.le_of_ble_eq_true rfl⟩) ⟨hp.1, va_recv F.2.2.2.1.1 w.1 (q0 := 0) (ci := 5) rfl rfl, hp.2⟩ rfl rfl hl.1 rfl (lv_room (Nat.le_of_ble_eq_true rfl)) dL_isOpen_4 ⟨Nat.le_of_ble_eq_true rfl, Nat.le_of_ble_eq_true rfl⟩)
    (fun r_1 _ H locs h_2 w => ?_)
  subst h_2
  refine lv_if_eq (tgt := 14) hx hb dL_isOpen_7 (by decide) (fun h_3 => ?_) (fun h_3 => ?_)
  · have h_3 : (zO σ d) = false := bI_z.mp h_3
    refine lv_lconst (v := 0) hx hb dL_isOpen_14 (by decide) ?_
    refine ktopl (y := bL (zO σ d)) (by rw [h_3]; rfl) ?_
    refine klast (f' := vp_updL f 0 (bL (zO σ d))) F w 4 rfl (vp_in_nI (by omega) (by omega)) (congrArg (fun z => vp_updL f z (bL (zO σ d))) (nI_clamp (n := 0) (by omega))) (wn := [cX x nw sn tk hs tx tr, cR nw na nb σ, xI g na 49 (zT σ), xI g nb 49 (zI σ), xJ g ot 1 (vp_updL f 0 (bL (zO σ d)))]) rfl dL_isOpen_15 (fun H locs w => ?_)
    refine lv_goto (tgt := 22) hx hb dL_isOpen_16 (by decide) ?_
    refine lv_iconst (v := nI 0) hx hb dL_isOpen_22 (by decide) ?_
    subst hA
    subst hQ
    exact kreti F w () [0, 1, 2, 3, 4] rfl rfl (rfl) (Nat.le_of_ble_eq_true rfl) (Nat.le_of_ble_eq_true rfl) dL_isOpen_23
  · have h_3 : (zO σ d) = true := bI_o.mp h_3
    refine lv_lconst (v := 1) hx hb dL_isOpen_10 (by decide) ?_
    refine lv_goto (tgt := 15) hx hb dL_isOpen_11 (by decide) ?_
    refine ktopl (y := bL (zO σ d)) (by rw [h_3]; rfl) ?_
    refine klast (f' := vp_updL f 0 (bL (zO σ d))) F w 4 rfl (vp_in_nI (by omega) (by omega)) (congrArg (fun z => vp_updL f z (bL (zO σ d))) (nI_clamp (n := 0) (by omega))) (wn := [cX x nw sn tk hs tx tr, cR nw na nb σ, xI g na 49 (zT σ), xI g nb 49 (zI σ), xJ g ot 1 (vp_updL f 0 (bL (zO σ d)))]) rfl dL_isOpen_15 (fun H locs w => ?_)
    refine lv_goto (tgt := 22) hx hb dL_isOpen_16 (by decide) ?_
    refine lv_iconst (v := nI 0) hx hb dL_isOpen_22 (by decide) ?_
    subst hA
    subst hQ
    exact kreti F w () [0, 1, 2, 3, 4] rfl rfl (rfl) (Nat.le_of_ble_eq_true rfl) (Nat.le_of_ble_eq_true rfl) dL_isOpen_23
abbrev rmL_isOpen_A : Room := { frames := 7, cells := 1, slots := 6, locals := 103 }
set_option maxHeartbeats 4000000 in
set_option maxRecDepth 100000 in
theorem kL_isOpen_A (l : Launch) (hnl : l.stackTraces = false) (g : GG) (x : Nat) (nw : Nat) (sn : Nat) (tk : Bool) (hs : Nat) (tx : Nat) (tr : Nat) (n : Int32) (ot : Nat) (sz : Nat) (hn : ¬ (1 ≤ n.toInt ∧ n.toInt ≤ 48)) : Met l yL_isOpen wsL_isOpen rmL_isOpen_A (va_Pc [.ref x, .int n, .ref ot] (kPre g [cX x nw sn tk hs tx tr] sz)) (va_Qi (fun (r : Int32) (u : Unit) => r = nI 1) (kB g (va_A [cX x nw sn tk hs tx tr] sz) (fun u => [cX x nw sn tk hs tx tr])) (va_A [cX x nw sn tk hs tx tr] sz)) 1 6 (va_A [cX x nw sn tk hs tx tr] sz) := by
  refine kMetH (hh := [(0, 16, 19, 13)]) (cc := cL_isOpen) (maxL := 4) (ret := (some .int)) (own := RL) (by decide) rfl rfl (Nat.le_of_ble_eq_true rfl) ?_
  intro p e s m args below meth c ls Q H locs A F w hl htab hA hQ
  have hx := F.1.1
  have hb := F.1.2.1
  have hts := F.1.2.2.2.2
  have hl : lv_has ls 4 [(0, .ref x), (1, .int n), (2, .ref ot)] := hl
  refine lv_aload_n hx hb dL_isOpen_0 rfl (lv_at hl 2 rfl) ?_
  refine lv_iconst (v := nI 0) hx hb dL_isOpen_1 (by decide) ?_
  refine lv_aload_n hx hb dL_isOpen_2 rfl (lv_at hl 0 rfl) ?_
  refine lv_iload_n hx hb dL_isOpen_3 rfl (lv_at hl 1 rfl) ?_
  refine kcaught (E0 := eIAE) (wc := []) (wr := [cX x nw sn tk hs tx tr]) (wn := fun (u : Unit) => [cX x nw sn tk hs tx tr]) F w [] [0] [0] rfl rfl rfl (fun _ => rfl)
    (fun hp => vx_runV (As := [.int n]) (rest := [.int (nI 0), .ref ot]) F.1 (kX5_isOpen_A l hnl g x n H.size hn) (cwV 1 hts gL_isOpen_X5_isOpen rfl rfl rfl ⟨rfl, hd_X5_isOpen⟩ ⟨Nat.le_of_ble_eq_true rfl, Nat.le_of_ble_eq_true rfl⟩) ⟨hp.1, va_recv F.2.2.2.1.1 w.1 (q0 := 0) (ci := 5) rfl rfl, hp.2⟩ rfl rfl hl.1 rfl (lv_room (Nat.le_of_ble_eq_true rfl)) dL_isOpen_4 ⟨Nat.le_of_ble_eq_true rfl, Nat.le_of_ble_eq_true rfl⟩)
    [] ⟨0, 16, 19, 13⟩ [] htab (fun z hz => nomatch hz) (by decide +kernel) (by decide) (by decide +kernel) (by decide +kernel) (fun q_1 _ H locs w => ?_)
  refine lv_astore_n (lv' := [(3, .ref q_1), (0, .ref x), (1, .int n), (2, .ref ot)]) hx hb dL_isOpen_19 rfl hl (by decide) rfl (fun ls hl => ?_)
  refine lv_iconst (v := nI 1) hx hb dL_isOpen_20 (by decide) ?_
  subst hA
  subst hQ
  exact kreti F w () [0] rfl rfl (rfl) (Nat.le_of_ble_eq_true rfl) (Nat.le_of_ble_eq_true rfl) dL_isOpen_21
theorem hd_X5_isLocked : yX5_isLocked.cls ≠ "java/lang/invoke/MethodHandle" ∧ yX5_isLocked.cls ≠ "java/lang/invoke/VarHandle" ∧ (parseMethodDescriptor yX5_isLocked.desc).map (fun d => d.parameters.length) = some 1 := by decide +kernel
abbrev rmL_isLocked_k : Room := { frames := 2, cells := 0, slots := 0, locals := 43 }
set_option maxHeartbeats 4000000 in
set_option maxRecDepth 100000 in
theorem kL_isLocked_k (l : Launch) (g : GG) (x : Nat) (nw : Nat) (sn : Nat) (tk : Bool) (hs : Nat) (tx : Nat) (tr : Nat) (na : Nat) (nb : Nat) (σ : Sg) (d : Nat) (ot : Nat) (f : Nat → Int64) (sz : Nat) (hd : 1 ≤ d ∧ d ≤ 48) : Met l yL_isLocked wsL_isLocked rmL_isLocked_k (va_Pc [.ref x, .int (nI d), .ref ot] (kPre g [cX x nw sn tk hs tx tr, cR nw na nb σ, xI g na 49 (zT σ), xI g nb 49 (zI σ), xJ g ot 1 f] sz)) (va_Qi (fun (r : Int32) (u : Unit) => r = nI 0) (kB g (va_A [cX x nw sn tk hs tx tr, cR nw na nb σ, xI g na 49 (zT σ), xI g nb 49 (zI σ), xJ g ot 1 f] sz) (fun u => [cX x nw sn tk hs tx tr, cR nw na nb σ, xI g na 49 (zT σ), xI g nb 49 (zI σ), xJ g ot 1 (vp_updL f 0 (bL (zL σ d)))])) (va_A [cX x nw sn tk hs tx tr, cR nw na nb σ, xI g na 49 (zT σ), xI g nb 49 (zI σ), xJ g ot 1 f] sz)) 0 0 (va_A [cX x nw sn tk hs tx tr, cR nw na nb σ, xI g na 49 (zT σ), xI g nb 49 (zI σ), xJ g ot 1 f] sz) := by
  refine kMetH (hh := [(0, 16, 19, 13)]) (cc := cL_isLocked) (maxL := 4) (ret := (some .int)) (own := RL) (by decide) rfl rfl (Nat.le_of_ble_eq_true rfl) ?_
  intro p e s m args below meth c ls Q H locs A F w hl htab hA hQ
  have hx := F.1.1
  have hb := F.1.2.1
  have hts := F.1.2.2.2.2
  have hl : lv_has ls 4 [(0, .ref x), (1, .int (nI d)), (2, .ref ot)] := hl
  refine lv_aload_n hx hb dL_isLocked_0 rfl (lv_at hl 2 rfl) ?_
  refine lv_iconst (v := nI 0) hx hb dL_isLocked_1 (by decide) ?_
  refine lv_aload_n hx hb dL_isLocked_2 rfl (lv_at hl 0 rfl) ?_
  refine lv_iload_n hx hb dL_isLocked_3 rfl (lv_at hl 1 rfl) ?_
  refine kcalli (wc := [cX x nw sn tk hs tx tr, cR nw na nb σ, xI g na 49 (zT σ), xI g nb 49 (zI σ)]) (wr := [xJ g ot 1 f]) (wn := fun (u : Unit) => [cX x nw sn tk hs tx tr, cR nw na nb σ, xI g na 49 (zT σ), xI g nb 49 (zI σ), xJ g ot 1 f]) F w [0, 1, 2, 3] [4] [1, 2, 3, 4, 0] rfl rfl rfl (fun _ => rfl)
    (fun hp => va_runV (As := [.int (nI d)]) (rest := [.int (nI 0), .ref ot]) F.1 (kX5_isLocked_k l g x nw sn tk hs tx tr na nb σ d H.size hd) (cwV 1 hts gL_isLocked_X5_isLocked rfl rfl rfl ⟨rfl, hd_X5_isLocked⟩ ⟨Nat.le_of_ble_eq_true rfl, Nat.le_of_ble_eq_true rfl⟩) ⟨hp.1, va_recv F.2.2.2.1.1 w.1 (q0 := 0) (ci := 5) rfl rfl, hp.2⟩ rfl rfl hl.1 rfl (lv_room (Nat.le_of_ble_eq_true rfl)) dL_isLocked_4 ⟨Nat.le_of_ble_eq_true rfl, Nat.le_of_ble_eq_true rfl⟩)
    (fun r_1 _ H locs h_2 w => ?_)
  subst h_2
  refine lv_if_eq (tgt := 14) hx hb dL_isLocked_7 (by decide) (fun h_3 => ?_) (fun h_3 => ?_)
  · have h_3 : (zL σ d) = false := bI_z.mp h_3
    refine lv_lconst (v := 0) hx hb dL_isLocked_14 (by decide) ?_
    refine ktopl (y := bL (zL σ d)) (by rw [h_3]; rfl) ?_
    refine klast (f' := vp_updL f 0 (bL (zL σ d))) F w 4 rfl (vp_in_nI (by omega) (by omega)) (congrArg (fun z => vp_updL f z (bL (zL σ d))) (nI_clamp (n := 0) (by omega))) (wn := [cX x nw sn tk hs tx tr, cR nw na nb σ, xI g na 49 (zT σ), xI g nb 49 (zI σ), xJ g ot 1 (vp_updL f 0 (bL (zL σ d)))]) rfl dL_isLocked_15 (fun H locs w => ?_)
    refine lv_goto (tgt := 22) hx hb dL_isLocked_16 (by decide) ?_
    refine lv_iconst (v := nI 0) hx hb dL_isLocked_22 (by decide) ?_
    subst hA
    subst hQ
    exact kreti F w () [0, 1, 2, 3, 4] rfl rfl (rfl) (Nat.le_of_ble_eq_true rfl) (Nat.le_of_ble_eq_true rfl) dL_isLocked_23
  · have h_3 : (zL σ d) = true := bI_o.mp h_3
    refine lv_lconst (v := 1) hx hb dL_isLocked_10 (by decide) ?_
    refine lv_goto (tgt := 15) hx hb dL_isLocked_11 (by decide) ?_
    refine ktopl (y := bL (zL σ d)) (by rw [h_3]; rfl) ?_
    refine klast (f' := vp_updL f 0 (bL (zL σ d))) F w 4 rfl (vp_in_nI (by omega) (by omega)) (congrArg (fun z => vp_updL f z (bL (zL σ d))) (nI_clamp (n := 0) (by omega))) (wn := [cX x nw sn tk hs tx tr, cR nw na nb σ, xI g na 49 (zT σ), xI g nb 49 (zI σ), xJ g ot 1 (vp_updL f 0 (bL (zL σ d)))]) rfl dL_isLocked_15 (fun H locs w => ?_)
    refine lv_goto (tgt := 22) hx hb dL_isLocked_16 (by decide) ?_
    refine lv_iconst (v := nI 0) hx hb dL_isLocked_22 (by decide) ?_
    subst hA
    subst hQ
    exact kreti F w () [0, 1, 2, 3, 4] rfl rfl (rfl) (Nat.le_of_ble_eq_true rfl) (Nat.le_of_ble_eq_true rfl) dL_isLocked_23
abbrev rmL_isLocked_A : Room := { frames := 7, cells := 1, slots := 6, locals := 103 }
set_option maxHeartbeats 4000000 in
set_option maxRecDepth 100000 in
theorem kL_isLocked_A (l : Launch) (hnl : l.stackTraces = false) (g : GG) (x : Nat) (nw : Nat) (sn : Nat) (tk : Bool) (hs : Nat) (tx : Nat) (tr : Nat) (n : Int32) (ot : Nat) (sz : Nat) (hn : ¬ (1 ≤ n.toInt ∧ n.toInt ≤ 48)) : Met l yL_isLocked wsL_isLocked rmL_isLocked_A (va_Pc [.ref x, .int n, .ref ot] (kPre g [cX x nw sn tk hs tx tr] sz)) (va_Qi (fun (r : Int32) (u : Unit) => r = nI 1) (kB g (va_A [cX x nw sn tk hs tx tr] sz) (fun u => [cX x nw sn tk hs tx tr])) (va_A [cX x nw sn tk hs tx tr] sz)) 1 6 (va_A [cX x nw sn tk hs tx tr] sz) := by
  refine kMetH (hh := [(0, 16, 19, 13)]) (cc := cL_isLocked) (maxL := 4) (ret := (some .int)) (own := RL) (by decide) rfl rfl (Nat.le_of_ble_eq_true rfl) ?_
  intro p e s m args below meth c ls Q H locs A F w hl htab hA hQ
  have hx := F.1.1
  have hb := F.1.2.1
  have hts := F.1.2.2.2.2
  have hl : lv_has ls 4 [(0, .ref x), (1, .int n), (2, .ref ot)] := hl
  refine lv_aload_n hx hb dL_isLocked_0 rfl (lv_at hl 2 rfl) ?_
  refine lv_iconst (v := nI 0) hx hb dL_isLocked_1 (by decide) ?_
  refine lv_aload_n hx hb dL_isLocked_2 rfl (lv_at hl 0 rfl) ?_
  refine lv_iload_n hx hb dL_isLocked_3 rfl (lv_at hl 1 rfl) ?_
  refine kcaught (E0 := eIAE) (wc := []) (wr := [cX x nw sn tk hs tx tr]) (wn := fun (u : Unit) => [cX x nw sn tk hs tx tr]) F w [] [0] [0] rfl rfl rfl (fun _ => rfl)
    (fun hp => vx_runV (As := [.int n]) (rest := [.int (nI 0), .ref ot]) F.1 (kX5_isLocked_A l hnl g x n H.size hn) (cwV 1 hts gL_isLocked_X5_isLocked rfl rfl rfl ⟨rfl, hd_X5_isLocked⟩ ⟨Nat.le_of_ble_eq_true rfl, Nat.le_of_ble_eq_true rfl⟩) ⟨hp.1, va_recv F.2.2.2.1.1 w.1 (q0 := 0) (ci := 5) rfl rfl, hp.2⟩ rfl rfl hl.1 rfl (lv_room (Nat.le_of_ble_eq_true rfl)) dL_isLocked_4 ⟨Nat.le_of_ble_eq_true rfl, Nat.le_of_ble_eq_true rfl⟩)
    [] ⟨0, 16, 19, 13⟩ [] htab (fun z hz => nomatch hz) (by decide +kernel) (by decide) (by decide +kernel) (by decide +kernel) (fun q_1 _ H locs w => ?_)
  refine lv_astore_n (lv' := [(3, .ref q_1), (0, .ref x), (1, .int n), (2, .ref ot)]) hx hb dL_isLocked_19 rfl hl (by decide) rfl (fun ls hl => ?_)
  refine lv_iconst (v := nI 1) hx hb dL_isLocked_20 (by decide) ?_
  subst hA
  subst hQ
  exact kreti F w () [0] rfl rfl (rfl) (Nat.le_of_ble_eq_true rfl) (Nat.le_of_ble_eq_true rfl) dL_isLocked_21
theorem hd_X5_turnsOf : yX5_turnsOf.cls ≠ "java/lang/invoke/MethodHandle" ∧ yX5_turnsOf.cls ≠ "java/lang/invoke/VarHandle" ∧ (parseMethodDescriptor yX5_turnsOf.desc).map (fun d => d.parameters.length) = some 1 := by decide +kernel
abbrev rmL_turnsOf_k : Room := { frames := 2, cells := 0, slots := 0, locals := 42 }
set_option maxHeartbeats 4000000 in
set_option maxRecDepth 100000 in
theorem kL_turnsOf_k (l : Launch) (g : GG) (x : Nat) (nw : Nat) (sn : Nat) (tk : Bool) (hs : Nat) (tx : Nat) (tr : Nat) (na : Nat) (nb : Nat) (σ : Sg) (d : Nat) (ot : Nat) (f : Nat → Int64) (sz : Nat) (hd : 1 ≤ d ∧ d ≤ 48) : Met l yL_turnsOf wsL_turnsOf rmL_turnsOf_k (va_Pc [.ref x, .int (nI d), .ref ot] (kPre g [cX x nw sn tk hs tx tr, cR nw na nb σ, xI g na 49 (zT σ), xI g nb 49 (zI σ), xJ g ot 1 f] sz)) (va_Qi (fun (r : Int32) (u : Unit) => r = nI 0) (kB g (va_A [cX x nw sn tk hs tx tr, cR nw na nb σ, xI g na 49 (zT σ), xI g nb 49 (zI σ), xJ g ot 1 f] sz) (fun u => [cX x nw sn tk hs tx tr, cR nw na nb σ, xI g na 49 (zT σ), xI g nb 49 (zI σ), xJ g ot 1 (vp_updL f 0 ((zT σ d).toInt64))])) (va_A [cX x nw sn tk hs tx tr, cR nw na nb σ, xI g na 49 (zT σ), xI g nb 49 (zI σ), xJ g ot 1 f] sz)) 0 0 (va_A [cX x nw sn tk hs tx tr, cR nw na nb σ, xI g na 49 (zT σ), xI g nb 49 (zI σ), xJ g ot 1 f] sz) := by
  refine kMetH (hh := [(0, 9, 12, 13)]) (cc := cL_turnsOf) (maxL := 4) (ret := (some .int)) (own := RL) (by decide) rfl rfl (Nat.le_of_ble_eq_true rfl) ?_
  intro p e s m args below meth c ls Q H locs A F w hl htab hA hQ
  have hx := F.1.1
  have hb := F.1.2.1
  have hts := F.1.2.2.2.2
  have hl : lv_has ls 4 [(0, .ref x), (1, .int (nI d)), (2, .ref ot)] := hl
  refine lv_aload_n hx hb dL_turnsOf_0 rfl (lv_at hl 2 rfl) ?_
  refine lv_iconst (v := nI 0) hx hb dL_turnsOf_1 (by decide) ?_
  refine lv_aload_n hx hb dL_turnsOf_2 rfl (lv_at hl 0 rfl) ?_
  refine lv_iload_n hx hb dL_turnsOf_3 rfl (lv_at hl 1 rfl) ?_
  refine kcalli (wc := [cX x nw sn tk hs tx tr, cR nw na nb σ, xI g na 49 (zT σ), xI g nb 49 (zI σ)]) (wr := [xJ g ot 1 f]) (wn := fun (u : Unit) => [cX x nw sn tk hs tx tr, cR nw na nb σ, xI g na 49 (zT σ), xI g nb 49 (zI σ), xJ g ot 1 f]) F w [0, 1, 2, 3] [4] [1, 2, 3, 4, 0] rfl rfl rfl (fun _ => rfl)
    (fun hp => va_runV (As := [.int (nI d)]) (rest := [.int (nI 0), .ref ot]) F.1 (kX5_turnsOf_k l g x nw sn tk hs tx tr na nb σ d H.size hd) (cwV 1 hts gL_turnsOf_X5_turnsOf rfl rfl rfl ⟨rfl, hd_X5_turnsOf⟩ ⟨Nat.le_of_ble_eq_true rfl, Nat.le_of_ble_eq_true rfl⟩) ⟨hp.1, va_recv F.2.2.2.1.1 w.1 (q0 := 0) (ci := 5) rfl rfl, hp.2⟩ rfl rfl hl.1 rfl (lv_room (Nat.le_of_ble_eq_true rfl)) dL_turnsOf_4 ⟨Nat.le_of_ble_eq_true rfl, Nat.le_of_ble_eq_true rfl⟩)
    (fun r_1 _ H locs h_2 w => ?_)
  subst h_2
  refine lv_i2l hx hb dL_turnsOf_7 rfl ?_
  refine klast (f' := vp_updL f 0 ((zT σ d).toInt64)) F w 4 rfl (vp_in_nI (by omega) (by omega)) (congrArg (fun z => vp_updL f z ((zT σ d).toInt64)) (nI_clamp (n := 0) (by omega))) (wn := [cX x nw sn tk hs tx tr, cR nw na nb σ, xI g na 49 (zT σ), xI g nb 49 (zI σ), xJ g ot 1 (vp_updL f 0 ((zT σ d).toInt64))]) rfl dL_turnsOf_8 (fun H locs w => ?_)
  refine lv_goto (tgt := 15) hx hb dL_turnsOf_9 (by decide) ?_
  refine lv_iconst (v := nI 0) hx hb dL_turnsOf_15 (by decide) ?_
  subst hA
  subst hQ
  exact kreti F w () [0, 1, 2, 3, 4] rfl rfl (rfl) (Nat.le_of_ble_eq_true rfl) (Nat.le_of_ble_eq_true rfl) dL_turnsOf_16
abbrev rmL_turnsOf_A : Room := { frames := 7, cells := 1, slots := 6, locals := 103 }
set_option maxHeartbeats 4000000 in
set_option maxRecDepth 100000 in
theorem kL_turnsOf_A (l : Launch) (hnl : l.stackTraces = false) (g : GG) (x : Nat) (nw : Nat) (sn : Nat) (tk : Bool) (hs : Nat) (tx : Nat) (tr : Nat) (n : Int32) (ot : Nat) (sz : Nat) (hn : ¬ (1 ≤ n.toInt ∧ n.toInt ≤ 48)) : Met l yL_turnsOf wsL_turnsOf rmL_turnsOf_A (va_Pc [.ref x, .int n, .ref ot] (kPre g [cX x nw sn tk hs tx tr] sz)) (va_Qi (fun (r : Int32) (u : Unit) => r = nI 1) (kB g (va_A [cX x nw sn tk hs tx tr] sz) (fun u => [cX x nw sn tk hs tx tr])) (va_A [cX x nw sn tk hs tx tr] sz)) 1 6 (va_A [cX x nw sn tk hs tx tr] sz) := by
  refine kMetH (hh := [(0, 9, 12, 13)]) (cc := cL_turnsOf) (maxL := 4) (ret := (some .int)) (own := RL) (by decide) rfl rfl (Nat.le_of_ble_eq_true rfl) ?_
  intro p e s m args below meth c ls Q H locs A F w hl htab hA hQ
  have hx := F.1.1
  have hb := F.1.2.1
  have hts := F.1.2.2.2.2
  have hl : lv_has ls 4 [(0, .ref x), (1, .int n), (2, .ref ot)] := hl
  refine lv_aload_n hx hb dL_turnsOf_0 rfl (lv_at hl 2 rfl) ?_
  refine lv_iconst (v := nI 0) hx hb dL_turnsOf_1 (by decide) ?_
  refine lv_aload_n hx hb dL_turnsOf_2 rfl (lv_at hl 0 rfl) ?_
  refine lv_iload_n hx hb dL_turnsOf_3 rfl (lv_at hl 1 rfl) ?_
  refine kcaught (E0 := eIAE) (wc := []) (wr := [cX x nw sn tk hs tx tr]) (wn := fun (u : Unit) => [cX x nw sn tk hs tx tr]) F w [] [0] [0] rfl rfl rfl (fun _ => rfl)
    (fun hp => vx_runV (As := [.int n]) (rest := [.int (nI 0), .ref ot]) F.1 (kX5_turnsOf_A l hnl g x n H.size hn) (cwV 1 hts gL_turnsOf_X5_turnsOf rfl rfl rfl ⟨rfl, hd_X5_turnsOf⟩ ⟨Nat.le_of_ble_eq_true rfl, Nat.le_of_ble_eq_true rfl⟩) ⟨hp.1, va_recv F.2.2.2.1.1 w.1 (q0 := 0) (ci := 5) rfl rfl, hp.2⟩ rfl rfl hl.1 rfl (lv_room (Nat.le_of_ble_eq_true rfl)) dL_turnsOf_4 ⟨Nat.le_of_ble_eq_true rfl, Nat.le_of_ble_eq_true rfl⟩)
    [] ⟨0, 9, 12, 13⟩ [] htab (fun z hz => nomatch hz) (by decide +kernel) (by decide) (by decide +kernel) (by decide +kernel) (fun q_1 _ H locs w => ?_)
  refine lv_astore_n (lv' := [(3, .ref q_1), (0, .ref x), (1, .int n), (2, .ref ot)]) hx hb dL_turnsOf_12 rfl hl (by decide) rfl (fun ls hl => ?_)
  refine lv_iconst (v := nI 1) hx hb dL_turnsOf_13 (by decide) ?_
  subst hA
  subst hQ
  exact kreti F w () [0] rfl rfl (rfl) (Nat.le_of_ble_eq_true rfl) (Nat.le_of_ble_eq_true rfl) dL_turnsOf_14
theorem hd_X5_isSkipped : yX5_isSkipped.cls ≠ "java/lang/invoke/MethodHandle" ∧ yX5_isSkipped.cls ≠ "java/lang/invoke/VarHandle" ∧ (parseMethodDescriptor yX5_isSkipped.desc).map (fun d => d.parameters.length) = some 1 := by decide +kernel
abbrev rmL_isSkipped_k : Room := { frames := 2, cells := 0, slots := 0, locals := 43 }
set_option maxHeartbeats 4000000 in
set_option maxRecDepth 100000 in
theorem kL_isSkipped_k (l : Launch) (g : GG) (x : Nat) (nw : Nat) (sn : Nat) (tk : Bool) (hs : Nat) (tx : Nat) (tr : Nat) (na : Nat) (nb : Nat) (σ : Sg) (d : Nat) (ot : Nat) (f : Nat → Int64) (sz : Nat) (hd : 1 ≤ d ∧ d ≤ 48) : Met l yL_isSkipped wsL_isSkipped rmL_isSkipped_k (va_Pc [.ref x, .int (nI d), .ref ot] (kPre g [cX x nw sn tk hs tx tr, cR nw na nb σ, xI g na 49 (zT σ), xI g nb 49 (zI σ), xJ g ot 1 f] sz)) (va_Qi (fun (r : Int32) (u : Unit) => r = nI 0) (kB g (va_A [cX x nw sn tk hs tx tr, cR nw na nb σ, xI g na 49 (zT σ), xI g nb 49 (zI σ), xJ g ot 1 f] sz) (fun u => [cX x nw sn tk hs tx tr, cR nw na nb σ, xI g na 49 (zT σ), xI g nb 49 (zI σ), xJ g ot 1 (vp_updL f 0 (bL (zS σ d)))])) (va_A [cX x nw sn tk hs tx tr, cR nw na nb σ, xI g na 49 (zT σ), xI g nb 49 (zI σ), xJ g ot 1 f] sz)) 0 0 (va_A [cX x nw sn tk hs tx tr, cR nw na nb σ, xI g na 49 (zT σ), xI g nb 49 (zI σ), xJ g ot 1 f] sz) := by
  refine kMetH (hh := [(0, 16, 19, 13)]) (cc := cL_isSkipped) (maxL := 4) (ret := (some .int)) (own := RL) (by decide) rfl rfl (Nat.le_of_ble_eq_true rfl) ?_
  intro p e s m args below meth c ls Q H locs A F w hl htab hA hQ
  have hx := F.1.1
  have hb := F.1.2.1
  have hts := F.1.2.2.2.2
  have hl : lv_has ls 4 [(0, .ref x), (1, .int (nI d)), (2, .ref ot)] := hl
  refine lv_aload_n hx hb dL_isSkipped_0 rfl (lv_at hl 2 rfl) ?_
  refine lv_iconst (v := nI 0) hx hb dL_isSkipped_1 (by decide) ?_
  refine lv_aload_n hx hb dL_isSkipped_2 rfl (lv_at hl 0 rfl) ?_
  refine lv_iload_n hx hb dL_isSkipped_3 rfl (lv_at hl 1 rfl) ?_
  refine kcalli (wc := [cX x nw sn tk hs tx tr, cR nw na nb σ, xI g na 49 (zT σ), xI g nb 49 (zI σ)]) (wr := [xJ g ot 1 f]) (wn := fun (u : Unit) => [cX x nw sn tk hs tx tr, cR nw na nb σ, xI g na 49 (zT σ), xI g nb 49 (zI σ), xJ g ot 1 f]) F w [0, 1, 2, 3] [4] [1, 2, 3, 4, 0] rfl rfl rfl (fun _ => rfl)
    (fun hp => va_runV (As := [.int (nI d)]) (rest := [.int (nI 0), .ref ot]) F.1 (kX5_isSkipped_k l g x nw sn tk hs tx tr na nb σ d H.size hd) (cwV 1 hts gL_isSkipped_X5_isSkipped rfl rfl rfl ⟨rfl, hd_X5_isSkipped⟩ ⟨Nat.le_of_ble_eq_true rfl, Nat.le_of_ble_eq_true rfl⟩) ⟨hp.1, va_recv F.2.2.2.1.1 w.1 (q0 := 0) (ci := 5) rfl rfl, hp.2⟩ rfl rfl hl.1 rfl (lv_room (Nat.le_of_ble_eq_true rfl)) dL_isSkipped_4 ⟨Nat.le_of_ble_eq_true rfl, Nat.le_of_ble_eq_true rfl⟩)
    (fun r_1 _ H locs h_2 w => ?_)
  subst h_2
  refine lv_if_eq (tgt := 14) hx hb dL_isSkipped_7 (by decide) (fun h_3 => ?_) (fun h_3 => ?_)
  · have h_3 : (zS σ d) = false := bI_z.mp h_3
    refine lv_lconst (v := 0) hx hb dL_isSkipped_14 (by decide) ?_
    refine ktopl (y := bL (zS σ d)) (by rw [h_3]; rfl) ?_
    refine klast (f' := vp_updL f 0 (bL (zS σ d))) F w 4 rfl (vp_in_nI (by omega) (by omega)) (congrArg (fun z => vp_updL f z (bL (zS σ d))) (nI_clamp (n := 0) (by omega))) (wn := [cX x nw sn tk hs tx tr, cR nw na nb σ, xI g na 49 (zT σ), xI g nb 49 (zI σ), xJ g ot 1 (vp_updL f 0 (bL (zS σ d)))]) rfl dL_isSkipped_15 (fun H locs w => ?_)
    refine lv_goto (tgt := 22) hx hb dL_isSkipped_16 (by decide) ?_
    refine lv_iconst (v := nI 0) hx hb dL_isSkipped_22 (by decide) ?_
    subst hA
    subst hQ
    exact kreti F w () [0, 1, 2, 3, 4] rfl rfl (rfl) (Nat.le_of_ble_eq_true rfl) (Nat.le_of_ble_eq_true rfl) dL_isSkipped_23
  · have h_3 : (zS σ d) = true := bI_o.mp h_3
    refine lv_lconst (v := 1) hx hb dL_isSkipped_10 (by decide) ?_
    refine lv_goto (tgt := 15) hx hb dL_isSkipped_11 (by decide) ?_
    refine ktopl (y := bL (zS σ d)) (by rw [h_3]; rfl) ?_
    refine klast (f' := vp_updL f 0 (bL (zS σ d))) F w 4 rfl (vp_in_nI (by omega) (by omega)) (congrArg (fun z => vp_updL f z (bL (zS σ d))) (nI_clamp (n := 0) (by omega))) (wn := [cX x nw sn tk hs tx tr, cR nw na nb σ, xI g na 49 (zT σ), xI g nb 49 (zI σ), xJ g ot 1 (vp_updL f 0 (bL (zS σ d)))]) rfl dL_isSkipped_15 (fun H locs w => ?_)
    refine lv_goto (tgt := 22) hx hb dL_isSkipped_16 (by decide) ?_
    refine lv_iconst (v := nI 0) hx hb dL_isSkipped_22 (by decide) ?_
    subst hA
    subst hQ
    exact kreti F w () [0, 1, 2, 3, 4] rfl rfl (rfl) (Nat.le_of_ble_eq_true rfl) (Nat.le_of_ble_eq_true rfl) dL_isSkipped_23
abbrev rmL_isSkipped_A : Room := { frames := 7, cells := 1, slots := 6, locals := 103 }
set_option maxHeartbeats 4000000 in
set_option maxRecDepth 100000 in
theorem kL_isSkipped_A (l : Launch) (hnl : l.stackTraces = false) (g : GG) (x : Nat) (nw : Nat) (sn : Nat) (tk : Bool) (hs : Nat) (tx : Nat) (tr : Nat) (n : Int32) (ot : Nat) (sz : Nat) (hn : ¬ (1 ≤ n.toInt ∧ n.toInt ≤ 48)) : Met l yL_isSkipped wsL_isSkipped rmL_isSkipped_A (va_Pc [.ref x, .int n, .ref ot] (kPre g [cX x nw sn tk hs tx tr] sz)) (va_Qi (fun (r : Int32) (u : Unit) => r = nI 1) (kB g (va_A [cX x nw sn tk hs tx tr] sz) (fun u => [cX x nw sn tk hs tx tr])) (va_A [cX x nw sn tk hs tx tr] sz)) 1 6 (va_A [cX x nw sn tk hs tx tr] sz) := by
  refine kMetH (hh := [(0, 16, 19, 13)]) (cc := cL_isSkipped) (maxL := 4) (ret := (some .int)) (own := RL) (by decide) rfl rfl (Nat.le_of_ble_eq_true rfl) ?_
  intro p e s m args below meth c ls Q H locs A F w hl htab hA hQ
  have hx := F.1.1
  have hb := F.1.2.1
  have hts := F.1.2.2.2.2
  have hl : lv_has ls 4 [(0, .ref x), (1, .int n), (2, .ref ot)] := hl
  refine lv_aload_n hx hb dL_isSkipped_0 rfl (lv_at hl 2 rfl) ?_
  refine lv_iconst (v := nI 0) hx hb dL_isSkipped_1 (by decide) ?_
  refine lv_aload_n hx hb dL_isSkipped_2 rfl (lv_at hl 0 rfl) ?_
  refine lv_iload_n hx hb dL_isSkipped_3 rfl (lv_at hl 1 rfl) ?_
  refine kcaught (E0 := eIAE) (wc := []) (wr := [cX x nw sn tk hs tx tr]) (wn := fun (u : Unit) => [cX x nw sn tk hs tx tr]) F w [] [0] [0] rfl rfl rfl (fun _ => rfl)
    (fun hp => vx_runV (As := [.int n]) (rest := [.int (nI 0), .ref ot]) F.1 (kX5_isSkipped_A l hnl g x n H.size hn) (cwV 1 hts gL_isSkipped_X5_isSkipped rfl rfl rfl ⟨rfl, hd_X5_isSkipped⟩ ⟨Nat.le_of_ble_eq_true rfl, Nat.le_of_ble_eq_true rfl⟩) ⟨hp.1, va_recv F.2.2.2.1.1 w.1 (q0 := 0) (ci := 5) rfl rfl, hp.2⟩ rfl rfl hl.1 rfl (lv_room (Nat.le_of_ble_eq_true rfl)) dL_isSkipped_4 ⟨Nat.le_of_ble_eq_true rfl, Nat.le_of_ble_eq_true rfl⟩)
    [] ⟨0, 16, 19, 13⟩ [] htab (fun z hz => nomatch hz) (by decide +kernel) (by decide) (by decide +kernel) (by decide +kernel) (fun q_1 _ H locs w => ?_)
  refine lv_astore_n (lv' := [(3, .ref q_1), (0, .ref x), (1, .int n), (2, .ref ot)]) hx hb dL_isSkipped_19 rfl hl (by decide) rfl (fun ls hl => ?_)
  refine lv_iconst (v := nI 1) hx hb dL_isSkipped_20 (by decide) ?_
  subst hA
  subst hQ
  exact kreti F w () [0] rfl rfl (rfl) (Nat.le_of_ble_eq_true rfl) (Nat.le_of_ble_eq_true rfl) dL_isSkipped_21
theorem hd_X5_timesOf : yX5_timesOf.cls ≠ "java/lang/invoke/MethodHandle" ∧ yX5_timesOf.cls ≠ "java/lang/invoke/VarHandle" ∧ (parseMethodDescriptor yX5_timesOf.desc).map (fun d => d.parameters.length) = some 1 := by decide +kernel
abbrev rmL_timesOf_k : Room := { frames := 2, cells := 0, slots := 0, locals := 42 }
set_option maxHeartbeats 4000000 in
set_option maxRecDepth 100000 in
theorem kL_timesOf_k (l : Launch) (g : GG) (x : Nat) (nw : Nat) (sn : Nat) (tk : Bool) (hs : Nat) (tx : Nat) (tr : Nat) (na : Nat) (nb : Nat) (σ : Sg) (d : Nat) (ot : Nat) (f : Nat → Int64) (sz : Nat) (hd : 1 ≤ d ∧ d ≤ 48) : Met l yL_timesOf wsL_timesOf rmL_timesOf_k (va_Pc [.ref x, .int (nI d), .ref ot] (kPre g [cX x nw sn tk hs tx tr, cR nw na nb σ, xI g na 49 (zT σ), xI g nb 49 (zI σ), xJ g ot 1 f] sz)) (va_Qi (fun (r : Int32) (u : Unit) => r = nI 0) (kB g (va_A [cX x nw sn tk hs tx tr, cR nw na nb σ, xI g na 49 (zT σ), xI g nb 49 (zI σ), xJ g ot 1 f] sz) (fun u => [cX x nw sn tk hs tx tr, cR nw na nb σ, xI g na 49 (zT σ), xI g nb 49 (zI σ), xJ g ot 1 (vp_updL f 0 ((zI σ d).toInt64))])) (va_A [cX x nw sn tk hs tx tr, cR nw na nb σ, xI g na 49 (zT σ), xI g nb 49 (zI σ), xJ g ot 1 f] sz)) 0 0 (va_A [cX x nw sn tk hs tx tr, cR nw na nb σ, xI g na 49 (zT σ), xI g nb 49 (zI σ), xJ g ot 1 f] sz) := by
  refine kMetH (hh := [(0, 9, 12, 13)]) (cc := cL_timesOf) (maxL := 4) (ret := (some .int)) (own := RL) (by decide) rfl rfl (Nat.le_of_ble_eq_true rfl) ?_
  intro p e s m args below meth c ls Q H locs A F w hl htab hA hQ
  have hx := F.1.1
  have hb := F.1.2.1
  have hts := F.1.2.2.2.2
  have hl : lv_has ls 4 [(0, .ref x), (1, .int (nI d)), (2, .ref ot)] := hl
  refine lv_aload_n hx hb dL_timesOf_0 rfl (lv_at hl 2 rfl) ?_
  refine lv_iconst (v := nI 0) hx hb dL_timesOf_1 (by decide) ?_
  refine lv_aload_n hx hb dL_timesOf_2 rfl (lv_at hl 0 rfl) ?_
  refine lv_iload_n hx hb dL_timesOf_3 rfl (lv_at hl 1 rfl) ?_
  refine kcalli (wc := [cX x nw sn tk hs tx tr, cR nw na nb σ, xI g na 49 (zT σ), xI g nb 49 (zI σ)]) (wr := [xJ g ot 1 f]) (wn := fun (u : Unit) => [cX x nw sn tk hs tx tr, cR nw na nb σ, xI g na 49 (zT σ), xI g nb 49 (zI σ), xJ g ot 1 f]) F w [0, 1, 2, 3] [4] [1, 2, 3, 4, 0] rfl rfl rfl (fun _ => rfl)
    (fun hp => va_runV (As := [.int (nI d)]) (rest := [.int (nI 0), .ref ot]) F.1 (kX5_timesOf_k l g x nw sn tk hs tx tr na nb σ d H.size hd) (cwV 1 hts gL_timesOf_X5_timesOf rfl rfl rfl ⟨rfl, hd_X5_timesOf⟩ ⟨Nat.le_of_ble_eq_true rfl, Nat.le_of_ble_eq_true rfl⟩) ⟨hp.1, va_recv F.2.2.2.1.1 w.1 (q0 := 0) (ci := 5) rfl rfl, hp.2⟩ rfl rfl hl.1 rfl (lv_room (Nat.le_of_ble_eq_true rfl)) dL_timesOf_4 ⟨Nat.le_of_ble_eq_true rfl, Nat.le_of_ble_eq_true rfl⟩)
    (fun r_1 _ H locs h_2 w => ?_)
  subst h_2
  refine lv_i2l hx hb dL_timesOf_7 rfl ?_
  refine klast (f' := vp_updL f 0 ((zI σ d).toInt64)) F w 4 rfl (vp_in_nI (by omega) (by omega)) (congrArg (fun z => vp_updL f z ((zI σ d).toInt64)) (nI_clamp (n := 0) (by omega))) (wn := [cX x nw sn tk hs tx tr, cR nw na nb σ, xI g na 49 (zT σ), xI g nb 49 (zI σ), xJ g ot 1 (vp_updL f 0 ((zI σ d).toInt64))]) rfl dL_timesOf_8 (fun H locs w => ?_)
  refine lv_goto (tgt := 15) hx hb dL_timesOf_9 (by decide) ?_
  refine lv_iconst (v := nI 0) hx hb dL_timesOf_15 (by decide) ?_
  subst hA
  subst hQ
  exact kreti F w () [0, 1, 2, 3, 4] rfl rfl (rfl) (Nat.le_of_ble_eq_true rfl) (Nat.le_of_ble_eq_true rfl) dL_timesOf_16
abbrev rmL_timesOf_A : Room := { frames := 7, cells := 1, slots := 6, locals := 103 }
set_option maxHeartbeats 4000000 in
set_option maxRecDepth 100000 in
theorem kL_timesOf_A (l : Launch) (hnl : l.stackTraces = false) (g : GG) (x : Nat) (nw : Nat) (sn : Nat) (tk : Bool) (hs : Nat) (tx : Nat) (tr : Nat) (n : Int32) (ot : Nat) (sz : Nat) (hn : ¬ (1 ≤ n.toInt ∧ n.toInt ≤ 48)) : Met l yL_timesOf wsL_timesOf rmL_timesOf_A (va_Pc [.ref x, .int n, .ref ot] (kPre g [cX x nw sn tk hs tx tr] sz)) (va_Qi (fun (r : Int32) (u : Unit) => r = nI 1) (kB g (va_A [cX x nw sn tk hs tx tr] sz) (fun u => [cX x nw sn tk hs tx tr])) (va_A [cX x nw sn tk hs tx tr] sz)) 1 6 (va_A [cX x nw sn tk hs tx tr] sz) := by
  refine kMetH (hh := [(0, 9, 12, 13)]) (cc := cL_timesOf) (maxL := 4) (ret := (some .int)) (own := RL) (by decide) rfl rfl (Nat.le_of_ble_eq_true rfl) ?_
  intro p e s m args below meth c ls Q H locs A F w hl htab hA hQ
  have hx := F.1.1
  have hb := F.1.2.1
  have hts := F.1.2.2.2.2
  have hl : lv_has ls 4 [(0, .ref x), (1, .int n), (2, .ref ot)] := hl
  refine lv_aload_n hx hb dL_timesOf_0 rfl (lv_at hl 2 rfl) ?_
  refine lv_iconst (v := nI 0) hx hb dL_timesOf_1 (by decide) ?_
  refine lv_aload_n hx hb dL_timesOf_2 rfl (lv_at hl 0 rfl) ?_
  refine lv_iload_n hx hb dL_timesOf_3 rfl (lv_at hl 1 rfl) ?_
  refine kcaught (E0 := eIAE) (wc := []) (wr := [cX x nw sn tk hs tx tr]) (wn := fun (u : Unit) => [cX x nw sn tk hs tx tr]) F w [] [0] [0] rfl rfl rfl (fun _ => rfl)
    (fun hp => vx_runV (As := [.int n]) (rest := [.int (nI 0), .ref ot]) F.1 (kX5_timesOf_A l hnl g x n H.size hn) (cwV 1 hts gL_timesOf_X5_timesOf rfl rfl rfl ⟨rfl, hd_X5_timesOf⟩ ⟨Nat.le_of_ble_eq_true rfl, Nat.le_of_ble_eq_true rfl⟩) ⟨hp.1, va_recv F.2.2.2.1.1 w.1 (q0 := 0) (ci := 5) rfl rfl, hp.2⟩ rfl rfl hl.1 rfl (lv_room (Nat.le_of_ble_eq_true rfl)) dL_timesOf_4 ⟨Nat.le_of_ble_eq_true rfl, Nat.le_of_ble_eq_true rfl⟩)
    [] ⟨0, 9, 12, 13⟩ [] htab (fun z hz => nomatch hz) (by decide +kernel) (by decide) (by decide +kernel) (by decide +kernel) (fun q_1 _ H locs w => ?_)
  refine lv_astore_n (lv' := [(3, .ref q_1), (0, .ref x), (1, .int n), (2, .ref ot)]) hx hb dL_timesOf_12 rfl hl (by decide) rfl (fun ls hl => ?_)
  refine lv_iconst (v := nI 1) hx hb dL_timesOf_13 (by decide) ?_
  subst hA
  subst hQ
  exact kreti F w () [0] rfl rfl (rfl) (Nat.le_of_ble_eq_true rfl) (Nat.le_of_ble_eq_true rfl) dL_timesOf_14
theorem hd_X5_divisorsOf : yX5_divisorsOf.cls ≠ "java/lang/invoke/MethodHandle" ∧ yX5_divisorsOf.cls ≠ "java/lang/invoke/VarHandle" ∧ (parseMethodDescriptor yX5_divisorsOf.desc).map (fun d => d.parameters.length) = some 1 := by decide +kernel
abbrev rmL_divisorsOf_k : Room := { frames := 2, cells := 0, slots := 0, locals := 44 }
set_option maxHeartbeats 4000000 in
set_option maxRecDepth 100000 in
theorem kL_divisorsOf_k (l : Launch) (g : GG) (x : Nat) (nw : Nat) (sn : Nat) (tk : Bool) (hs : Nat) (tx : Nat) (tr : Nat) (d : Nat) (ot : Nat) (f : Nat → Int64) (sz : Nat) (hd : 1 ≤ d ∧ d ≤ 48) : Met l yL_divisorsOf wsL_divisorsOf rmL_divisorsOf_k (va_Pc [.ref x, .int (nI d), .ref ot] (kPre g [cX x nw sn tk hs tx tr, xJ g ot 1 f] sz)) (va_Qi (fun (r : Int32) (u : Unit) => r = nI 0) (kB g (va_A [cX x nw sn tk hs tx tr, xJ g ot 1 f] sz) (fun u => [cX x nw sn tk hs tx tr, xJ g ot 1 (vp_updL f 0 ((nI (zcnt (dvP d) 48)).toInt64))])) (va_A [cX x nw sn tk hs tx tr, xJ g ot 1 f] sz)) 0 0 (va_A [cX x nw sn tk hs tx tr, xJ g ot 1 f] sz) := by
  refine kMetH (hh := [(0, 9, 12, 13)]) (cc := cL_divisorsOf) (maxL := 4) (ret := (some .int)) (own := RL) (by decide) rfl rfl (Nat.le_of_ble_eq_true rfl) ?_
  intro p e s m args below meth c ls Q H locs A F w hl htab hA hQ
  have hx := F.1.1
  have hb := F.1.2.1
  have hts := F.1.2.2.2.2
  have hl : lv_has ls 4 [(0, .ref x), (1, .int (nI d)), (2, .ref ot)] := hl
  refine lv_aload_n hx hb dL_divisorsOf_0 rfl (lv_at hl 2 rfl) ?_
  refine lv_iconst (v := nI 0) hx hb dL_divisorsOf_1 (by decide) ?_
  refine lv_aload_n hx hb dL_divisorsOf_2 rfl (lv_at hl 0 rfl) ?_
  refine lv_iload_n hx hb dL_divisorsOf_3 rfl (lv_at hl 1 rfl) ?_
  refine kcalli (wc := []) (wr := [cX x nw sn tk hs tx tr, xJ g ot 1 f]) (wn := fun (u : Unit) => [cX x nw sn tk hs tx tr, xJ g ot 1 f]) F w [] [0, 1] [0, 1] rfl rfl rfl (fun _ => rfl)
    (fun hp => va_runV (As := [.int (nI d)]) (rest := [.int (nI 0), .ref ot]) F.1 (kX5_divisorsOf_k l g x d H.size hd) (cwV 1 hts gL_divisorsOf_X5_divisorsOf rfl rfl rfl ⟨rfl, hd_X5_divisorsOf⟩ ⟨Nat.le_of_ble_eq_true rfl, Nat.le_of_ble_eq_true rfl⟩) ⟨hp.1, va_recv F.2.2.2.1.1 w.1 (q0 := 0) (ci := 5) rfl rfl, hp.2⟩ rfl rfl hl.1 rfl (lv_room (Nat.le_of_ble_eq_true rfl)) dL_divisorsOf_4 ⟨Nat.le_of_ble_eq_true rfl, Nat.le_of_ble_eq_true rfl⟩)
    (fun r_1 _ H locs h_2 w => ?_)
  subst h_2
  refine lv_i2l hx hb dL_divisorsOf_7 rfl ?_
  refine klast (f' := vp_updL f 0 ((nI (zcnt (dvP d) 48)).toInt64)) F w 1 rfl (vp_in_nI (by omega) (by omega)) (congrArg (fun z => vp_updL f z ((nI (zcnt (dvP d) 48)).toInt64)) (nI_clamp (n := 0) (by omega))) (wn := [cX x nw sn tk hs tx tr, xJ g ot 1 (vp_updL f 0 ((nI (zcnt (dvP d) 48)).toInt64))]) rfl dL_divisorsOf_8 (fun H locs w => ?_)
  refine lv_goto (tgt := 15) hx hb dL_divisorsOf_9 (by decide) ?_
  refine lv_iconst (v := nI 0) hx hb dL_divisorsOf_15 (by decide) ?_
  subst hA
  subst hQ
  exact kreti F w () [0, 1] rfl rfl (rfl) (Nat.le_of_ble_eq_true rfl) (Nat.le_of_ble_eq_true rfl) dL_divisorsOf_16
abbrev rmL_divisorsOf_A : Room := { frames := 7, cells := 1, slots := 6, locals := 105 }
set_option maxHeartbeats 4000000 in
set_option maxRecDepth 100000 in
theorem kL_divisorsOf_A (l : Launch) (hnl : l.stackTraces = false) (g : GG) (x : Nat) (nw : Nat) (sn : Nat) (tk : Bool) (hs : Nat) (tx : Nat) (tr : Nat) (n : Int32) (ot : Nat) (sz : Nat) (hn : ¬ (1 ≤ n.toInt ∧ n.toInt ≤ 48)) : Met l yL_divisorsOf wsL_divisorsOf rmL_divisorsOf_A (va_Pc [.ref x, .int n, .ref ot] (kPre g [cX x nw sn tk hs tx tr] sz)) (va_Qi (fun (r : Int32) (u : Unit) => r = nI 1) (kB g (va_A [cX x nw sn tk hs tx tr] sz) (fun u => [cX x nw sn tk hs tx tr])) (va_A [cX x nw sn tk hs tx tr] sz)) 1 6 (va_A [cX x nw sn tk hs tx tr] sz) := by
  refine kMetH (hh := [(0, 9, 12, 13)]) (cc := cL_divisorsOf) (maxL := 4) (ret := (some .int)) (own := RL) (by decide) rfl rfl (Nat.le_of_ble_eq_true rfl) ?_
  intro p e s m args below meth c ls Q H locs A F w hl htab hA hQ
  have hx := F.1.1
  have hb := F.1.2.1
  have hts := F.1.2.2.2.2
  have hl : lv_has ls 4 [(0, .ref x), (1, .int n), (2, .ref ot)] := hl
  refine lv_aload_n hx hb dL_divisorsOf_0 rfl (lv_at hl 2 rfl) ?_
  refine lv_iconst (v := nI 0) hx hb dL_divisorsOf_1 (by decide) ?_
  refine lv_aload_n hx hb dL_divisorsOf_2 rfl (lv_at hl 0 rfl) ?_
  refine lv_iload_n hx hb dL_divisorsOf_3 rfl (lv_at hl 1 rfl) ?_
  refine kcaught (E0 := eIAE) (wc := []) (wr := [cX x nw sn tk hs tx tr]) (wn := fun (u : Unit) => [cX x nw sn tk hs tx tr]) F w [] [0] [0] rfl rfl rfl (fun _ => rfl)
    (fun hp => vx_runV (As := [.int n]) (rest := [.int (nI 0), .ref ot]) F.1 (kX5_divisorsOf_A l hnl g x n H.size hn) (cwV 1 hts gL_divisorsOf_X5_divisorsOf rfl rfl rfl ⟨rfl, hd_X5_divisorsOf⟩ ⟨Nat.le_of_ble_eq_true rfl, Nat.le_of_ble_eq_true rfl⟩) ⟨hp.1, va_recv F.2.2.2.1.1 w.1 (q0 := 0) (ci := 5) rfl rfl, hp.2⟩ rfl rfl hl.1 rfl (lv_room (Nat.le_of_ble_eq_true rfl)) dL_divisorsOf_4 ⟨Nat.le_of_ble_eq_true rfl, Nat.le_of_ble_eq_true rfl⟩)
    [] ⟨0, 9, 12, 13⟩ [] htab (fun z hz => nomatch hz) (by decide +kernel) (by decide) (by decide +kernel) (by decide +kernel) (fun q_1 _ H locs w => ?_)
  refine lv_astore_n (lv' := [(3, .ref q_1), (0, .ref x), (1, .int n), (2, .ref ot)]) hx hb dL_divisorsOf_12 rfl hl (by decide) rfl (fun ls hl => ?_)
  refine lv_iconst (v := nI 1) hx hb dL_divisorsOf_13 (by decide) ?_
  subst hA
  subst hQ
  exact kreti F w () [0] rfl rfl (rfl) (Nat.le_of_ble_eq_true rfl) (Nat.le_of_ble_eq_true rfl) dL_divisorsOf_14
theorem hd_X5_nextOpen : yX5_nextOpen.cls ≠ "java/lang/invoke/MethodHandle" ∧ yX5_nextOpen.cls ≠ "java/lang/invoke/VarHandle" ∧ (parseMethodDescriptor yX5_nextOpen.desc).map (fun d => d.parameters.length) = some 1 := by decide +kernel
abbrev rmL_nextOpen_k : Room := { frames := 2, cells := 0, slots := 0, locals := 44 }
set_option maxHeartbeats 4000000 in
set_option maxRecDepth 100000 in
theorem kL_nextOpen_k (l : Launch) (g : GG) (x : Nat) (nw : Nat) (sn : Nat) (tk : Bool) (hs : Nat) (tx : Nat) (tr : Nat) (na : Nat) (nb : Nat) (σ : Sg) (d : Nat) (q : Nat) (ot : Nat) (f : Nat → Int64) (sz : Nat) (hd : 1 ≤ d ∧ d ≤ 48) (he : d ≤ q ∧ q ≤ 48) (he2 : ∀ j, d ≤ j → j < q → zO σ j = false) (hz9 : zO σ q = true) : Met l yL_nextOpen wsL_nextOpen rmL_nextOpen_k (va_Pc [.ref x, .int (nI d), .ref ot] (kPre g [cX x nw sn tk hs tx tr, cR nw na nb σ, xI g na 49 (zT σ), xI g nb 49 (zI σ), xJ g ot 1 f] sz)) (va_Qi (fun (r : Int32) (u : Unit) => r = nI 0) (kB g (va_A [cX x nw sn tk hs tx tr, cR nw na nb σ, xI g na 49 (zT σ), xI g nb 49 (zI σ), xJ g ot 1 f] sz) (fun u => [cX x nw sn tk hs tx tr, cR nw na nb σ, xI g na 49 (zT σ), xI g nb 49 (zI σ), xJ g ot 1 (vp_updL f 0 ((nI q).toInt64))])) (va_A [cX x nw sn tk hs tx tr, cR nw na nb σ, xI g na 49 (zT σ), xI g nb 49 (zI σ), xJ g ot 1 f] sz)) 0 0 (va_A [cX x nw sn tk hs tx tr, cR nw na nb σ, xI g na 49 (zT σ), xI g nb 49 (zI σ), xJ g ot 1 f] sz) := by
  refine kMetH (hh := [(0, 9, 12, 13), (0, 9, 15, 58)]) (cc := cL_nextOpen) (maxL := 4) (ret := (some .int)) (own := RL) (by decide) rfl rfl (Nat.le_of_ble_eq_true rfl) ?_
  intro p e s m args below meth c ls Q H locs A F w hl htab hA hQ
  have hx := F.1.1
  have hb := F.1.2.1
  have hts := F.1.2.2.2.2
  have hl : lv_has ls 4 [(0, .ref x), (1, .int (nI d)), (2, .ref ot)] := hl
  refine lv_aload_n hx hb dL_nextOpen_0 rfl (lv_at hl 2 rfl) ?_
  refine lv_iconst (v := nI 0) hx hb dL_nextOpen_1 (by decide) ?_
  refine lv_aload_n hx hb dL_nextOpen_2 rfl (lv_at hl 0 rfl) ?_
  refine lv_iload_n hx hb dL_nextOpen_3 rfl (lv_at hl 1 rfl) ?_
  refine kcalli (wc := [cX x nw sn tk hs tx tr, cR nw na nb σ, xI g na 49 (zT σ), xI g nb 49 (zI σ)]) (wr := [xJ g ot 1 f]) (wn := fun (u : Unit) => [cX x nw sn tk hs tx tr, cR nw na nb σ, xI g na 49 (zT σ), xI g nb 49 (zI σ), xJ g ot 1 f]) F w [0, 1, 2, 3] [4] [1, 2, 3, 4, 0] rfl rfl rfl (fun _ => rfl)
    (fun hp => va_runV (As := [.int (nI d)]) (rest := [.int (nI 0), .ref ot]) F.1 (kX5_nextOpen_k l g x nw sn tk hs tx tr na nb σ d q H.size hd he he2 hz9) (cwV 1 hts gL_nextOpen_X5_nextOpen rfl rfl rfl ⟨rfl, hd_X5_nextOpen⟩ ⟨Nat.le_of_ble_eq_true rfl, Nat.le_of_ble_eq_true rfl⟩) ⟨hp.1, va_recv F.2.2.2.1.1 w.1 (q0 := 0) (ci := 5) rfl rfl, hp.2⟩ rfl rfl hl.1 rfl (lv_room (Nat.le_of_ble_eq_true rfl)) dL_nextOpen_4 ⟨Nat.le_of_ble_eq_true rfl, Nat.le_of_ble_eq_true rfl⟩)
    (fun r_1 _ H locs h_2 w => ?_)
  subst h_2
  refine lv_i2l hx hb dL_nextOpen_7 rfl ?_
  refine klast (f' := vp_updL f 0 ((nI q).toInt64)) F w 4 rfl (vp_in_nI (by omega) (by omega)) (congrArg (fun z => vp_updL f z ((nI q).toInt64)) (nI_clamp (n := 0) (by omega))) (wn := [cX x nw sn tk hs tx tr, cR nw na nb σ, xI g na 49 (zT σ), xI g nb 49 (zI σ), xJ g ot 1 (vp_updL f 0 ((nI q).toInt64))]) rfl dL_nextOpen_8 (fun H locs w => ?_)
  refine lv_goto (tgt := 18) hx hb dL_nextOpen_9 (by decide) ?_
  refine lv_iconst (v := nI 0) hx hb dL_nextOpen_18 (by decide) ?_
  subst hA
  subst hQ
  exact kreti F w () [0, 1, 2, 3, 4] rfl rfl (rfl) (Nat.le_of_ble_eq_true rfl) (Nat.le_of_ble_eq_true rfl) dL_nextOpen_19
abbrev rmL_nextOpen_A : Room := { frames := 7, cells := 1, slots := 6, locals := 104 }
set_option maxHeartbeats 4000000 in
set_option maxRecDepth 100000 in
theorem kL_nextOpen_A (l : Launch) (hnl : l.stackTraces = false) (g : GG) (x : Nat) (nw : Nat) (sn : Nat) (tk : Bool) (hs : Nat) (tx : Nat) (tr : Nat) (n : Int32) (ot : Nat) (sz : Nat) (hn : ¬ (1 ≤ n.toInt ∧ n.toInt ≤ 48)) : Met l yL_nextOpen wsL_nextOpen rmL_nextOpen_A (va_Pc [.ref x, .int n, .ref ot] (kPre g [cX x nw sn tk hs tx tr] sz)) (va_Qi (fun (r : Int32) (u : Unit) => r = nI 1) (kB g (va_A [cX x nw sn tk hs tx tr] sz) (fun u => [cX x nw sn tk hs tx tr])) (va_A [cX x nw sn tk hs tx tr] sz)) 1 6 (va_A [cX x nw sn tk hs tx tr] sz) := by
  refine kMetH (hh := [(0, 9, 12, 13), (0, 9, 15, 58)]) (cc := cL_nextOpen) (maxL := 4) (ret := (some .int)) (own := RL) (by decide) rfl rfl (Nat.le_of_ble_eq_true rfl) ?_
  intro p e s m args below meth c ls Q H locs A F w hl htab hA hQ
  have hx := F.1.1
  have hb := F.1.2.1
  have hts := F.1.2.2.2.2
  have hl : lv_has ls 4 [(0, .ref x), (1, .int n), (2, .ref ot)] := hl
  refine lv_aload_n hx hb dL_nextOpen_0 rfl (lv_at hl 2 rfl) ?_
  refine lv_iconst (v := nI 0) hx hb dL_nextOpen_1 (by decide) ?_
  refine lv_aload_n hx hb dL_nextOpen_2 rfl (lv_at hl 0 rfl) ?_
  refine lv_iload_n hx hb dL_nextOpen_3 rfl (lv_at hl 1 rfl) ?_
  refine kcaught (E0 := eIAE) (wc := []) (wr := [cX x nw sn tk hs tx tr]) (wn := fun (u : Unit) => [cX x nw sn tk hs tx tr]) F w [] [0] [0] rfl rfl rfl (fun _ => rfl)
    (fun hp => vx_runV (As := [.int n]) (rest := [.int (nI 0), .ref ot]) F.1 (kX5_nextOpen_A l hnl g x n H.size hn) (cwV 1 hts gL_nextOpen_X5_nextOpen rfl rfl rfl ⟨rfl, hd_X5_nextOpen⟩ ⟨Nat.le_of_ble_eq_true rfl, Nat.le_of_ble_eq_true rfl⟩) ⟨hp.1, va_recv F.2.2.2.1.1 w.1 (q0 := 0) (ci := 5) rfl rfl, hp.2⟩ rfl rfl hl.1 rfl (lv_room (Nat.le_of_ble_eq_true rfl)) dL_nextOpen_4 ⟨Nat.le_of_ble_eq_true rfl, Nat.le_of_ble_eq_true rfl⟩)
    [] ⟨0, 9, 12, 13⟩ [⟨0, 9, 15, 58⟩] htab (fun z hz => nomatch hz) (by decide +kernel) (by decide) (by decide +kernel) (by decide +kernel) (fun q_1 _ H locs w => ?_)
  refine lv_astore_n (lv' := [(3, .ref q_1), (0, .ref x), (1, .int n), (2, .ref ot)]) hx hb dL_nextOpen_12 rfl hl (by decide) rfl (fun ls hl => ?_)
  refine lv_iconst (v := nI 1) hx hb dL_nextOpen_13 (by decide) ?_
  subst hA
  subst hQ
  exact kreti F w () [0] rfl rfl (rfl) (Nat.le_of_ble_eq_true rfl) (Nat.le_of_ble_eq_true rfl) dL_nextOpen_14
abbrev rmL_nextOpen_N : Room := { frames := 7, cells := 1, slots := 6, locals := 104 }
set_option maxHeartbeats 4000000 in
set_option maxRecDepth 100000 in
theorem kL_nextOpen_N (l : Launch) (hnl : l.stackTraces = false) (g : GG) (x : Nat) (nw : Nat) (sn : Nat) (tk : Bool) (hs : Nat) (tx : Nat) (tr : Nat) (na : Nat) (nb : Nat) (σ : Sg) (d : Nat) (ot : Nat) (sz : Nat) (hd : 1 ≤ d ∧ d ≤ 48) (he2 : ∀ j, d ≤ j → j < 49 → zO σ j = false) : Met l yL_nextOpen wsL_nextOpen rmL_nextOpen_N (va_Pc [.ref x, .int (nI d), .ref ot] (kPre g [cX x nw sn tk hs tx tr, cR nw na nb σ, xI g na 49 (zT σ), xI g nb 49 (zI σ)] sz)) (va_Qi (fun (r : Int32) (u : Unit) => r = nI 2) (kB g (va_A [cX x nw sn tk hs tx tr, cR nw na nb σ, xI g na 49 (zT σ), xI g nb 49 (zI σ)] sz) (fun u => [cX x nw sn tk hs tx tr, cR nw na nb σ, xI g na 49 (zT σ), xI g nb 49 (zI σ)])) (va_A [cX x nw sn tk hs tx tr, cR nw na nb σ, xI g na 49 (zT σ), xI g nb 49 (zI σ)] sz)) 1 6 (va_A [cX x nw sn tk hs tx tr, cR nw na nb σ, xI g na 49 (zT σ), xI g nb 49 (zI σ)] sz) := by
  refine kMetH (hh := [(0, 9, 12, 13), (0, 9, 15, 58)]) (cc := cL_nextOpen) (maxL := 4) (ret := (some .int)) (own := RL) (by decide) rfl rfl (Nat.le_of_ble_eq_true rfl) ?_
  intro p e s m args below meth c ls Q H locs A F w hl htab hA hQ
  have hx := F.1.1
  have hb := F.1.2.1
  have hts := F.1.2.2.2.2
  have hl : lv_has ls 4 [(0, .ref x), (1, .int (nI d)), (2, .ref ot)] := hl
  refine lv_aload_n hx hb dL_nextOpen_0 rfl (lv_at hl 2 rfl) ?_
  refine lv_iconst (v := nI 0) hx hb dL_nextOpen_1 (by decide) ?_
  refine lv_aload_n hx hb dL_nextOpen_2 rfl (lv_at hl 0 rfl) ?_
  refine lv_iload_n hx hb dL_nextOpen_3 rfl (lv_at hl 1 rfl) ?_
  refine kcaught (E0 := eNSE) (wc := [cX x nw sn tk hs tx tr, cR nw na nb σ, xI g na 49 (zT σ), xI g nb 49 (zI σ)]) (wr := []) (wn := fun (u : Unit) => [cX x nw sn tk hs tx tr, cR nw na nb σ, xI g na 49 (zT σ), xI g nb 49 (zI σ)]) F w [0, 1, 2, 3] [] [0, 1, 2, 3] rfl rfl rfl (fun _ => rfl)
    (fun hp => vx_runV (As := [.int (nI d)]) (rest := [.int (nI 0), .ref ot]) F.1 (kX5_nextOpen_N l hnl g x nw sn tk hs tx tr na nb σ d H.size hd he2) (cwV 1 hts gL_nextOpen_X5_nextOpen rfl rfl rfl ⟨rfl, hd_X5_nextOpen⟩ ⟨Nat.le_of_ble_eq_true rfl, Nat.le_of_ble_eq_true rfl⟩) ⟨hp.1, va_recv F.2.2.2.1.1 w.1 (q0 := 0) (ci := 5) rfl rfl, hp.2⟩ rfl rfl hl.1 rfl (lv_room (Nat.le_of_ble_eq_true rfl)) dL_nextOpen_4 ⟨Nat.le_of_ble_eq_true rfl, Nat.le_of_ble_eq_true rfl⟩)
    [⟨0, 9, 12, 13⟩] ⟨0, 9, 15, 58⟩ [] htab (fun z hz => by rcases List.mem_cons.mp hz with rfl | hz; exact ⟨by decide, eIAE, by decide +kernel, by decide +kernel⟩; cases hz) (by decide +kernel) (by decide) (by decide +kernel) (by decide +kernel) (fun q_1 _ H locs w => ?_)
  refine lv_astore_n (lv' := [(3, .ref q_1), (0, .ref x), (1, .int (nI d)), (2, .ref ot)]) hx hb dL_nextOpen_15 rfl hl (by decide) rfl (fun ls hl => ?_)
  refine lv_iconst (v := nI 2) hx hb dL_nextOpen_16 (by decide) ?_
  subst hA
  subst hQ
  exact kreti F w () [0, 1, 2, 3] rfl rfl (rfl) (Nat.le_of_ble_eq_true rfl) (Nat.le_of_ble_eq_true rfl) dL_nextOpen_17
theorem hd_X5_wouldBeOpen : yX5_wouldBeOpen.cls ≠ "java/lang/invoke/MethodHandle" ∧ yX5_wouldBeOpen.cls ≠ "java/lang/invoke/VarHandle" ∧ (parseMethodDescriptor yX5_wouldBeOpen.desc).map (fun d => d.parameters.length) = some 2 := by decide +kernel
abbrev rmL_wouldBeOpen_k : Room := { frames := 4, cells := 0, slots := 0, locals := 90 }
set_option maxHeartbeats 4000000 in
set_option maxRecDepth 100000 in
theorem kL_wouldBeOpen_k (l : Launch) (g : GG) (x : Nat) (nw : Nat) (sn : Nat) (tk : Bool) (hs : Nat) (tx : Nat) (tr : Nat) (na : Nat) (nb : Nat) (σ : Sg) (n : Nat) (t : Nat) (ot : Nat) (f : Nat → Int64) (sz : Nat) (hn : 1 ≤ n ∧ n ≤ t ∧ t ≤ 48) : Met l yL_wouldBeOpen wsL_wouldBeOpen rmL_wouldBeOpen_k (va_Pc [.ref x, .int (nI n), .int (nI t), .ref ot] (kPre g [cX x nw sn tk hs tx tr, cR nw na nb σ, xI g na 49 (zT σ), xI g nb 49 (zI σ), xJ g ot 1 f] sz)) (va_Qi (fun (r : Int32) (u : Unit) => r = nI 0) (kB g (va_A [cX x nw sn tk hs tx tr, cR nw na nb σ, xI g na 49 (zT σ), xI g nb 49 (zI σ), xJ g ot 1 f] sz) (fun u => [cX x nw sn tk hs tx tr, cR nw na nb σ, xI g na 49 (zT σ), xI g nb 49 (zI σ), xJ g ot 1 (vp_updL f 0 ((nI (zcnt (zO (rowN n (t + 1 - n) σ)) 48)).toInt64))])) (va_A [cX x nw sn tk hs tx tr, cR nw na nb σ, xI g na 49 (zT σ), xI g nb 49 (zI σ), xJ g ot 1 f] sz)) 0 0 (va_A [cX x nw sn tk hs tx tr, cR nw na nb σ, xI g na 49 (zT σ), xI g nb 49 (zI σ), xJ g ot 1 f] sz) := by
  refine kMetH (hh := [(0, 10, 13, 13)]) (cc := cL_wouldBeOpen) (maxL := 5) (ret := (some .int)) (own := RL) (by decide) rfl rfl (Nat.le_of_ble_eq_true rfl) ?_
  intro p e s m args below meth c ls Q H locs A F w hl htab hA hQ
  have hx := F.1.1
  have hb := F.1.2.1
  have hts := F.1.2.2.2.2
  have hl : lv_has ls 5 [(0, .ref x), (1, .int (nI n)), (2, .int (nI t)), (3, .ref ot)] := hl
  refine lv_aload_n hx hb dL_wouldBeOpen_0 rfl (lv_at hl 3 rfl) ?_
  refine lv_iconst (v := nI 0) hx hb dL_wouldBeOpen_1 (by decide) ?_
  refine lv_aload_n hx hb dL_wouldBeOpen_2 rfl (lv_at hl 0 rfl) ?_
  refine lv_iload_n hx hb dL_wouldBeOpen_3 rfl (lv_at hl 1 rfl) ?_
  refine lv_iload_n hx hb dL_wouldBeOpen_4 rfl (lv_at hl 2 rfl) ?_
  refine kcalli (wc := [cX x nw sn tk hs tx tr, cR nw na nb σ, xI g na 49 (zT σ), xI g nb 49 (zI σ)]) (wr := [xJ g ot 1 f]) (wn := fun (u : Unit) => [cX x nw sn tk hs tx tr, cR nw na nb σ, xI g na 49 (zT σ), xI g nb 49 (zI σ), xJ g ot 1 f]) F w [0, 1, 2, 3] [4] [1, 2, 3, 4, 0] rfl rfl rfl (fun _ => rfl)
    (fun hp => va_runV (As := [.int (nI n), .int (nI t)]) (rest := [.int (nI 0), .ref ot]) F.1 (kX5_wouldBeOpen_k l g x nw sn tk hs tx tr na nb σ n t H.size hn) (cwV 2 hts gL_wouldBeOpen_X5_wouldBeOpen rfl rfl rfl ⟨rfl, hd_X5_wouldBeOpen⟩ ⟨Nat.le_of_ble_eq_true rfl, Nat.le_of_ble_eq_true rfl⟩) ⟨hp.1, va_recv F.2.2.2.1.1 w.1 (q0 := 0) (ci := 5) rfl rfl, hp.2⟩ rfl rfl hl.1 rfl (lv_room (Nat.le_of_ble_eq_true rfl)) dL_wouldBeOpen_5 ⟨Nat.le_of_ble_eq_true rfl, Nat.le_of_ble_eq_true rfl⟩)
    (fun r_1 _ H locs h_2 w => ?_)
  subst h_2
  refine lv_i2l hx hb dL_wouldBeOpen_8 rfl ?_
  refine klast (f' := vp_updL f 0 ((nI (zcnt (zO (rowN n (t + 1 - n) σ)) 48)).toInt64)) F w 4 rfl (vp_in_nI (by omega) (by omega)) (congrArg (fun z => vp_updL f z ((nI (zcnt (zO (rowN n (t + 1 - n) σ)) 48)).toInt64)) (nI_clamp (n := 0) (by omega))) (wn := [cX x nw sn tk hs tx tr, cR nw na nb σ, xI g na 49 (zT σ), xI g nb 49 (zI σ), xJ g ot 1 (vp_updL f 0 ((nI (zcnt (zO (rowN n (t + 1 - n) σ)) 48)).toInt64))]) rfl dL_wouldBeOpen_9 (fun H locs w => ?_)
  refine lv_goto (tgt := 17) hx hb dL_wouldBeOpen_10 (by decide) ?_
  refine lv_iconst (v := nI 0) hx hb dL_wouldBeOpen_17 (by decide) ?_
  subst hA
  subst hQ
  exact kreti F w () [0, 1, 2, 3, 4] rfl rfl (rfl) (Nat.le_of_ble_eq_true rfl) (Nat.le_of_ble_eq_true rfl) dL_wouldBeOpen_18
abbrev rmL_wouldBeOpen_A : Room := { frames := 7, cells := 1, slots := 6, locals := 107 }
set_option maxHeartbeats 4000000 in
set_option maxRecDepth 100000 in
theorem kL_wouldBeOpen_A (l : Launch) (hnl : l.stackTraces = false) (g : GG) (x : Nat) (nw : Nat) (sn : Nat) (tk : Bool) (hs : Nat) (tx : Nat) (tr : Nat) (n : Int32) (t : Int32) (ot : Nat) (sz : Nat) (hn : ¬ (1 ≤ n.toInt ∧ n.toInt ≤ t.toInt ∧ t.toInt ≤ 48)) : Met l yL_wouldBeOpen wsL_wouldBeOpen rmL_wouldBeOpen_A (va_Pc [.ref x, .int n, .int t, .ref ot] (kPre g [cX x nw sn tk hs tx tr] sz)) (va_Qi (fun (r : Int32) (u : Unit) => r = nI 1) (kB g (va_A [cX x nw sn tk hs tx tr] sz) (fun u => [cX x nw sn tk hs tx tr])) (va_A [cX x nw sn tk hs tx tr] sz)) 1 6 (va_A [cX x nw sn tk hs tx tr] sz) := by
  refine kMetH (hh := [(0, 10, 13, 13)]) (cc := cL_wouldBeOpen) (maxL := 5) (ret := (some .int)) (own := RL) (by decide) rfl rfl (Nat.le_of_ble_eq_true rfl) ?_
  intro p e s m args below meth c ls Q H locs A F w hl htab hA hQ
  have hx := F.1.1
  have hb := F.1.2.1
  have hts := F.1.2.2.2.2
  have hl : lv_has ls 5 [(0, .ref x), (1, .int n), (2, .int t), (3, .ref ot)] := hl
  refine lv_aload_n hx hb dL_wouldBeOpen_0 rfl (lv_at hl 3 rfl) ?_
  refine lv_iconst (v := nI 0) hx hb dL_wouldBeOpen_1 (by decide) ?_
  refine lv_aload_n hx hb dL_wouldBeOpen_2 rfl (lv_at hl 0 rfl) ?_
  refine lv_iload_n hx hb dL_wouldBeOpen_3 rfl (lv_at hl 1 rfl) ?_
  refine lv_iload_n hx hb dL_wouldBeOpen_4 rfl (lv_at hl 2 rfl) ?_
  refine kcaught (E0 := eIAE) (wc := []) (wr := [cX x nw sn tk hs tx tr]) (wn := fun (u : Unit) => [cX x nw sn tk hs tx tr]) F w [] [0] [0] rfl rfl rfl (fun _ => rfl)
    (fun hp => vx_runV (As := [.int n, .int t]) (rest := [.int (nI 0), .ref ot]) F.1 (kX5_wouldBeOpen_A l hnl g x n t H.size hn) (cwV 2 hts gL_wouldBeOpen_X5_wouldBeOpen rfl rfl rfl ⟨rfl, hd_X5_wouldBeOpen⟩ ⟨Nat.le_of_ble_eq_true rfl, Nat.le_of_ble_eq_true rfl⟩) ⟨hp.1, va_recv F.2.2.2.1.1 w.1 (q0 := 0) (ci := 5) rfl rfl, hp.2⟩ rfl rfl hl.1 rfl (lv_room (Nat.le_of_ble_eq_true rfl)) dL_wouldBeOpen_5 ⟨Nat.le_of_ble_eq_true rfl, Nat.le_of_ble_eq_true rfl⟩)
    [] ⟨0, 10, 13, 13⟩ [] htab (fun z hz => nomatch hz) (by decide +kernel) (by decide) (by decide +kernel) (by decide +kernel) (fun q_1 _ H locs w => ?_)
  refine lv_astore (lv' := [(4, .ref q_1), (0, .ref x), (1, .int n), (2, .int t), (3, .ref ot)]) hx hb dL_wouldBeOpen_13 hl (by decide) rfl (fun ls hl => ?_)
  refine lv_iconst (v := nI 1) hx hb dL_wouldBeOpen_15 (by decide) ?_
  subst hA
  subst hQ
  exact kreti F w () [0] rfl rfl (rfl) (Nat.le_of_ble_eq_true rfl) (Nat.le_of_ble_eq_true rfl) dL_wouldBeOpen_16
theorem hd_X5_whyNot : yX5_whyNot.cls ≠ "java/lang/invoke/MethodHandle" ∧ yX5_whyNot.cls ≠ "java/lang/invoke/VarHandle" ∧ (parseMethodDescriptor yX5_whyNot.desc).map (fun d => d.parameters.length) = some 2 := by decide +kernel
abbrev rmL_whyNot_k : Room := { frames := 3, cells := 0, slots := 0, locals := 66 }
set_option maxHeartbeats 4000000 in
set_option maxRecDepth 100000 in
theorem kL_whyNot_k (l : Launch) (g : GG) (x : Nat) (nw : Nat) (sn : Nat) (tk : Bool) (hs : Nat) (tx : Nat) (tr : Nat) (na : Nat) (nb : Nat) (σ : Sg) (d : Nat) (kd : Bool) (ot : Nat) (f : Nat → Int64) (sz : Nat) (hd : 1 ≤ d ∧ d ≤ 48) : Met l yL_whyNot wsL_whyNot rmL_whyNot_k (va_Pc [.ref x, .int (nI d), .int (bI kd), .ref ot] (kPre g [cX x nw sn tk hs tx tr, cR nw na nb σ, xI g na 49 (zT σ), xI g nb 49 (zI σ), xJ g ot 1 f] sz)) (va_Qi (fun (r : Int32) (u : Unit) => r = nI 0) (kB g (va_A [cX x nw sn tk hs tx tr, cR nw na nb σ, xI g na 49 (zT σ), xI g nb 49 (zI σ), xJ g ot 1 f] sz) (fun u => [cX x nw sn tk hs tx tr, cR nw na nb σ, xI g na 49 (zT σ), xI g nb 49 (zI σ), xJ g ot 1 (vp_updL f 0 ((nI (reasZ σ d kd)).toInt64))])) (va_A [cX x nw sn tk hs tx tr, cR nw na nb σ, xI g na 49 (zT σ), xI g nb 49 (zI σ), xJ g ot 1 f] sz)) 0 0 (va_A [cX x nw sn tk hs tx tr, cR nw na nb σ, xI g na 49 (zT σ), xI g nb 49 (zI σ), xJ g ot 1 f] sz) := by
  refine kMetH (hh := [(0, 10, 13, 13)]) (cc := cL_whyNot) (maxL := 5) (ret := (some .int)) (own := RL) (by decide) rfl rfl (Nat.le_of_ble_eq_true rfl) ?_
  intro p e s m args below meth c ls Q H locs A F w hl htab hA hQ
  have hx := F.1.1
  have hb := F.1.2.1
  have hts := F.1.2.2.2.2
  have hl : lv_has ls 5 [(0, .ref x), (1, .int (nI d)), (2, .int (bI kd)), (3, .ref ot)] := hl
  refine lv_aload_n hx hb dL_whyNot_0 rfl (lv_at hl 3 rfl) ?_
  refine lv_iconst (v := nI 0) hx hb dL_whyNot_1 (by decide) ?_
  refine lv_aload_n hx hb dL_whyNot_2 rfl (lv_at hl 0 rfl) ?_
  refine lv_iload_n hx hb dL_whyNot_3 rfl (lv_at hl 1 rfl) ?_
  refine lv_iload_n hx hb dL_whyNot_4 rfl (lv_at hl 2 rfl) ?_
  refine kcalli (wc := [cX x nw sn tk hs tx tr, cR nw na nb σ, xI g na 49 (zT σ), xI g nb 49 (zI σ)]) (wr := [xJ g ot 1 f]) (wn := fun (u : Unit) => [cX x nw sn tk hs tx tr, cR nw na nb σ, xI g na 49 (zT σ), xI g nb 49 (zI σ), xJ g ot 1 f]) F w [0, 1, 2, 3] [4] [1, 2, 3, 4, 0] rfl rfl rfl (fun _ => rfl)
    (fun hp => va_runV (As := [.int (nI d), .int (bI kd)]) (rest := [.int (nI 0), .ref ot]) F.1 (kX5_whyNot_k l g x nw sn tk hs tx tr na nb σ d kd H.size hd) (cwV 2 hts gL_whyNot_X5_whyNot rfl rfl rfl ⟨rfl, hd_X5_whyNot⟩ ⟨Nat.le_of_ble_eq_true rfl, Nat.le_of_ble_eq_true rfl⟩) ⟨hp.1, va_recv F.2.2.2.1.1 w.1 (q0 := 0) (ci := 5) rfl rfl, hp.2⟩ rfl rfl hl.1 rfl (lv_room (Nat.le_of_ble_eq_true rfl)) dL_whyNot_5 ⟨Nat.le_of_ble_eq_true rfl, Nat.le_of_ble_eq_true rfl⟩)
    (fun r_1 _ H locs h_2 w => ?_)
  subst h_2
  refine lv_i2l hx hb dL_whyNot_8 rfl ?_
  refine klast (f' := vp_updL f 0 ((nI (reasZ σ d kd)).toInt64)) F w 4 rfl (vp_in_nI (by omega) (by omega)) (congrArg (fun z => vp_updL f z ((nI (reasZ σ d kd)).toInt64)) (nI_clamp (n := 0) (by omega))) (wn := [cX x nw sn tk hs tx tr, cR nw na nb σ, xI g na 49 (zT σ), xI g nb 49 (zI σ), xJ g ot 1 (vp_updL f 0 ((nI (reasZ σ d kd)).toInt64))]) rfl dL_whyNot_9 (fun H locs w => ?_)
  refine lv_goto (tgt := 17) hx hb dL_whyNot_10 (by decide) ?_
  refine lv_iconst (v := nI 0) hx hb dL_whyNot_17 (by decide) ?_
  subst hA
  subst hQ
  exact kreti F w () [0, 1, 2, 3, 4] rfl rfl (rfl) (Nat.le_of_ble_eq_true rfl) (Nat.le_of_ble_eq_true rfl) dL_whyNot_18
abbrev rmL_whyNot_A : Room := { frames := 7, cells := 1, slots := 6, locals := 104 }
set_option maxHeartbeats 4000000 in
set_option maxRecDepth 100000 in
theorem kL_whyNot_A (l : Launch) (hnl : l.stackTraces = false) (g : GG) (x : Nat) (nw : Nat) (sn : Nat) (tk : Bool) (hs : Nat) (tx : Nat) (tr : Nat) (n : Int32) (k : Int32) (ot : Nat) (sz : Nat) (hn : ¬ ((1 ≤ n.toInt ∧ n.toInt ≤ 48) ∧ (k = 0 ∨ k = 1))) : Met l yL_whyNot wsL_whyNot rmL_whyNot_A (va_Pc [.ref x, .int n, .int k, .ref ot] (kPre g [cX x nw sn tk hs tx tr] sz)) (va_Qi (fun (r : Int32) (u : Unit) => r = nI 1) (kB g (va_A [cX x nw sn tk hs tx tr] sz) (fun u => [cX x nw sn tk hs tx tr])) (va_A [cX x nw sn tk hs tx tr] sz)) 1 6 (va_A [cX x nw sn tk hs tx tr] sz) := by
  refine kMetH (hh := [(0, 10, 13, 13)]) (cc := cL_whyNot) (maxL := 5) (ret := (some .int)) (own := RL) (by decide) rfl rfl (Nat.le_of_ble_eq_true rfl) ?_
  intro p e s m args below meth c ls Q H locs A F w hl htab hA hQ
  have hx := F.1.1
  have hb := F.1.2.1
  have hts := F.1.2.2.2.2
  have hl : lv_has ls 5 [(0, .ref x), (1, .int n), (2, .int k), (3, .ref ot)] := hl
  refine lv_aload_n hx hb dL_whyNot_0 rfl (lv_at hl 3 rfl) ?_
  refine lv_iconst (v := nI 0) hx hb dL_whyNot_1 (by decide) ?_
  refine lv_aload_n hx hb dL_whyNot_2 rfl (lv_at hl 0 rfl) ?_
  refine lv_iload_n hx hb dL_whyNot_3 rfl (lv_at hl 1 rfl) ?_
  refine lv_iload_n hx hb dL_whyNot_4 rfl (lv_at hl 2 rfl) ?_
  refine kcaught (E0 := eIAE) (wc := []) (wr := [cX x nw sn tk hs tx tr]) (wn := fun (u : Unit) => [cX x nw sn tk hs tx tr]) F w [] [0] [0] rfl rfl rfl (fun _ => rfl)
    (fun hp => vx_runV (As := [.int n, .int k]) (rest := [.int (nI 0), .ref ot]) F.1 (kX5_whyNot_A l hnl g x n k H.size hn) (cwV 2 hts gL_whyNot_X5_whyNot rfl rfl rfl ⟨rfl, hd_X5_whyNot⟩ ⟨Nat.le_of_ble_eq_true rfl, Nat.le_of_ble_eq_true rfl⟩) ⟨hp.1, va_recv F.2.2.2.1.1 w.1 (q0 := 0) (ci := 5) rfl rfl, hp.2⟩ rfl rfl hl.1 rfl (lv_room (Nat.le_of_ble_eq_true rfl)) dL_whyNot_5 ⟨Nat.le_of_ble_eq_true rfl, Nat.le_of_ble_eq_true rfl⟩)
    [] ⟨0, 10, 13, 13⟩ [] htab (fun z hz => nomatch hz) (by decide +kernel) (by decide) (by decide +kernel) (by decide +kernel) (fun q_1 _ H locs w => ?_)
  refine lv_astore (lv' := [(4, .ref q_1), (0, .ref x), (1, .int n), (2, .int k), (3, .ref ot)]) hx hb dL_whyNot_13 hl (by decide) rfl (fun ls hl => ?_)
  refine lv_iconst (v := nI 1) hx hb dL_whyNot_15 (by decide) ?_
  subst hA
  subst hQ
  exact kreti F w () [0] rfl rfl (rfl) (Nat.le_of_ble_eq_true rfl) (Nat.le_of_ble_eq_true rfl) dL_whyNot_16
theorem hd_X5_thingAt : yX5_thingAt.cls ≠ "java/lang/invoke/MethodHandle" ∧ yX5_thingAt.cls ≠ "java/lang/invoke/VarHandle" ∧ (parseMethodDescriptor yX5_thingAt.desc).map (fun d => d.parameters.length) = some 1 := by decide +kernel
abbrev rmL_thingAt_k : Room := { frames := 3, cells := 0, slots := 0, locals := 64 }
set_option maxHeartbeats 4000000 in
set_option maxRecDepth 100000 in
theorem kL_thingAt_k (l : Launch) (g : GG) (x : Nat) (nw : Nat) (sn : Nat) (tk : Bool) (hs : Nat) (tx : Nat) (tr : Nat) (na : Nat) (nb : Nat) (σ : Sg) (d : Nat) (ot : Nat) (f : Nat → Int64) (sz : Nat) (hd : 1 ≤ d ∧ d ≤ 48) (hf9 : zF σ d = true) : Met l yL_thingAt wsL_thingAt rmL_thingAt_k (va_Pc [.ref x, .int (nI d), .ref ot] (kPre g [cX x nw sn tk hs tx tr, cR nw na nb σ, xI g na 49 (zT σ), xI g nb 49 (zI σ), xJ g ot 1 f] sz)) (va_Qi (fun (r : Int32) (u : Unit) => r = nI 0) (kB g (va_A [cX x nw sn tk hs tx tr, cR nw na nb σ, xI g na 49 (zT σ), xI g nb 49 (zI σ), xJ g ot 1 f] sz) (fun u => [cX x nw sn tk hs tx tr, cR nw na nb σ, xI g na 49 (zT σ), xI g nb 49 (zI σ), xJ g ot 1 (vp_updL f 0 ((bI (zH σ d)).toInt64))])) (va_A [cX x nw sn tk hs tx tr, cR nw na nb σ, xI g na 49 (zT σ), xI g nb 49 (zI σ), xJ g ot 1 f] sz)) 0 0 (va_A [cX x nw sn tk hs tx tr, cR nw na nb σ, xI g na 49 (zT σ), xI g nb 49 (zI σ), xJ g ot 1 f] sz) := by
  refine kMetH (hh := [(0, 9, 12, 13), (0, 9, 15, 58)]) (cc := cL_thingAt) (maxL := 4) (ret := (some .int)) (own := RL) (by decide) rfl rfl (Nat.le_of_ble_eq_true rfl) ?_
  intro p e s m args below meth c ls Q H locs A F w hl htab hA hQ
  have hx := F.1.1
  have hb := F.1.2.1
  have hts := F.1.2.2.2.2
  have hl : lv_has ls 4 [(0, .ref x), (1, .int (nI d)), (2, .ref ot)] := hl
  refine lv_aload_n hx hb dL_thingAt_0 rfl (lv_at hl 2 rfl) ?_
  refine lv_iconst (v := nI 0) hx hb dL_thingAt_1 (by decide) ?_
  refine lv_aload_n hx hb dL_thingAt_2 rfl (lv_at hl 0 rfl) ?_
  refine lv_iload_n hx hb dL_thingAt_3 rfl (lv_at hl 1 rfl) ?_
  refine kcalli (wc := [cX x nw sn tk hs tx tr, cR nw na nb σ, xI g na 49 (zT σ), xI g nb 49 (zI σ)]) (wr := [xJ g ot 1 f]) (wn := fun (u : Unit) => [cX x nw sn tk hs tx tr, cR nw na nb σ, xI g na 49 (zT σ), xI g nb 49 (zI σ), xJ g ot 1 f]) F w [0, 1, 2, 3] [4] [1, 2, 3, 4, 0] rfl rfl rfl (fun _ => rfl)
    (fun hp => va_runV (As := [.int (nI d)]) (rest := [.int (nI 0), .ref ot]) F.1 (kX5_thingAt_k l g x nw sn tk hs tx tr na nb σ d H.size hd hf9) (cwV 1 hts gL_thingAt_X5_thingAt rfl rfl rfl ⟨rfl, hd_X5_thingAt⟩ ⟨Nat.le_of_ble_eq_true rfl, Nat.le_of_ble_eq_true rfl⟩) ⟨hp.1, va_recv F.2.2.2.1.1 w.1 (q0 := 0) (ci := 5) rfl rfl, hp.2⟩ rfl rfl hl.1 rfl (lv_room (Nat.le_of_ble_eq_true rfl)) dL_thingAt_4 ⟨Nat.le_of_ble_eq_true rfl, Nat.le_of_ble_eq_true rfl⟩)
    (fun r_1 _ H locs h_2 w => ?_)
  subst h_2
  refine lv_i2l hx hb dL_thingAt_7 rfl ?_
  refine klast (f' := vp_updL f 0 ((bI (zH σ d)).toInt64)) F w 4 rfl (vp_in_nI (by omega) (by omega)) (congrArg (fun z => vp_updL f z ((bI (zH σ d)).toInt64)) (nI_clamp (n := 0) (by omega))) (wn := [cX x nw sn tk hs tx tr, cR nw na nb σ, xI g na 49 (zT σ), xI g nb 49 (zI σ), xJ g ot 1 (vp_updL f 0 ((bI (zH σ d)).toInt64))]) rfl dL_thingAt_8 (fun H locs w => ?_)
  refine lv_goto (tgt := 18) hx hb dL_thingAt_9 (by decide) ?_
  refine lv_iconst (v := nI 0) hx hb dL_thingAt_18 (by decide) ?_
  subst hA
  subst hQ
  exact kreti F w () [0, 1, 2, 3, 4] rfl rfl (rfl) (Nat.le_of_ble_eq_true rfl) (Nat.le_of_ble_eq_true rfl) dL_thingAt_19
abbrev rmL_thingAt_A : Room := { frames := 7, cells := 1, slots := 6, locals := 103 }
set_option maxHeartbeats 4000000 in
set_option maxRecDepth 100000 in
theorem kL_thingAt_A (l : Launch) (hnl : l.stackTraces = false) (g : GG) (x : Nat) (nw : Nat) (sn : Nat) (tk : Bool) (hs : Nat) (tx : Nat) (tr : Nat) (n : Int32) (ot : Nat) (sz : Nat) (hn : ¬ (1 ≤ n.toInt ∧ n.toInt ≤ 48)) : Met l yL_thingAt wsL_thingAt rmL_thingAt_A (va_Pc [.ref x, .int n, .ref ot] (kPre g [cX x nw sn tk hs tx tr] sz)) (va_Qi (fun (r : Int32) (u : Unit) => r = nI 1) (kB g (va_A [cX x nw sn tk hs tx tr] sz) (fun u => [cX x nw sn tk hs tx tr])) (va_A [cX x nw sn tk hs tx tr] sz)) 1 6 (va_A [cX x nw sn tk hs tx tr] sz) := by
  refine kMetH (hh := [(0, 9, 12, 13), (0, 9, 15, 58)]) (cc := cL_thingAt) (maxL := 4) (ret := (some .int)) (own := RL) (by decide) rfl rfl (Nat.le_of_ble_eq_true rfl) ?_
  intro p e s m args below meth c ls Q H locs A F w hl htab hA hQ
  have hx := F.1.1
  have hb := F.1.2.1
  have hts := F.1.2.2.2.2
  have hl : lv_has ls 4 [(0, .ref x), (1, .int n), (2, .ref ot)] := hl
  refine lv_aload_n hx hb dL_thingAt_0 rfl (lv_at hl 2 rfl) ?_
  refine lv_iconst (v := nI 0) hx hb dL_thingAt_1 (by decide) ?_
  refine lv_aload_n hx hb dL_thingAt_2 rfl (lv_at hl 0 rfl) ?_
  refine lv_iload_n hx hb dL_thingAt_3 rfl (lv_at hl 1 rfl) ?_
  refine kcaught (E0 := eIAE) (wc := []) (wr := [cX x nw sn tk hs tx tr]) (wn := fun (u : Unit) => [cX x nw sn tk hs tx tr]) F w [] [0] [0] rfl rfl rfl (fun _ => rfl)
    (fun hp => vx_runV (As := [.int n]) (rest := [.int (nI 0), .ref ot]) F.1 (kX5_thingAt_A l hnl g x n H.size hn) (cwV 1 hts gL_thingAt_X5_thingAt rfl rfl rfl ⟨rfl, hd_X5_thingAt⟩ ⟨Nat.le_of_ble_eq_true rfl, Nat.le_of_ble_eq_true rfl⟩) ⟨hp.1, va_recv F.2.2.2.1.1 w.1 (q0 := 0) (ci := 5) rfl rfl, hp.2⟩ rfl rfl hl.1 rfl (lv_room (Nat.le_of_ble_eq_true rfl)) dL_thingAt_4 ⟨Nat.le_of_ble_eq_true rfl, Nat.le_of_ble_eq_true rfl⟩)
    [] ⟨0, 9, 12, 13⟩ [⟨0, 9, 15, 58⟩] htab (fun z hz => nomatch hz) (by decide +kernel) (by decide) (by decide +kernel) (by decide +kernel) (fun q_1 _ H locs w => ?_)
  refine lv_astore_n (lv' := [(3, .ref q_1), (0, .ref x), (1, .int n), (2, .ref ot)]) hx hb dL_thingAt_12 rfl hl (by decide) rfl (fun ls hl => ?_)
  refine lv_iconst (v := nI 1) hx hb dL_thingAt_13 (by decide) ?_
  subst hA
  subst hQ
  exact kreti F w () [0] rfl rfl (rfl) (Nat.le_of_ble_eq_true rfl) (Nat.le_of_ble_eq_true rfl) dL_thingAt_14
abbrev rmL_thingAt_N : Room := { frames := 7, cells := 1, slots := 6, locals := 103 }
set_option maxHeartbeats 4000000 in
set_option maxRecDepth 100000 in
theorem kL_thingAt_N (l : Launch) (hnl : l.stackTraces = false) (g : GG) (x : Nat) (nw : Nat) (sn : Nat) (tk : Bool) (hs : Nat) (tx : Nat) (tr : Nat) (na : Nat) (nb : Nat) (σ : Sg) (d : Nat) (ot : Nat) (sz : Nat) (hd : 1 ≤ d ∧ d ≤ 48) (hf9 : zF σ d = false) : Met l yL_thingAt wsL_thingAt rmL_thingAt_N (va_Pc [.ref x, .int (nI d), .ref ot] (kPre g [cX x nw sn tk hs tx tr, cR nw na nb σ, xI g na 49 (zT σ), xI g nb 49 (zI σ)] sz)) (va_Qi (fun (r : Int32) (u : Unit) => r = nI 2) (kB g (va_A [cX x nw sn tk hs tx tr, cR nw na nb σ, xI g na 49 (zT σ), xI g nb 49 (zI σ)] sz) (fun u => [cX x nw sn tk hs tx tr, cR nw na nb σ, xI g na 49 (zT σ), xI g nb 49 (zI σ)])) (va_A [cX x nw sn tk hs tx tr, cR nw na nb σ, xI g na 49 (zT σ), xI g nb 49 (zI σ)] sz)) 1 6 (va_A [cX x nw sn tk hs tx tr, cR nw na nb σ, xI g na 49 (zT σ), xI g nb 49 (zI σ)] sz) := by
  refine kMetH (hh := [(0, 9, 12, 13), (0, 9, 15, 58)]) (cc := cL_thingAt) (maxL := 4) (ret := (some .int)) (own := RL) (by decide) rfl rfl (Nat.le_of_ble_eq_true rfl) ?_
  intro p e s m args below meth c ls Q H locs A F w hl htab hA hQ
  have hx := F.1.1
  have hb := F.1.2.1
  have hts := F.1.2.2.2.2
  have hl : lv_has ls 4 [(0, .ref x), (1, .int (nI d)), (2, .ref ot)] := hl
  refine lv_aload_n hx hb dL_thingAt_0 rfl (lv_at hl 2 rfl) ?_
  refine lv_iconst (v := nI 0) hx hb dL_thingAt_1 (by decide) ?_
  refine lv_aload_n hx hb dL_thingAt_2 rfl (lv_at hl 0 rfl) ?_
  refine lv_iload_n hx hb dL_thingAt_3 rfl (lv_at hl 1 rfl) ?_
  refine kcaught (E0 := eNSE) (wc := [cX x nw sn tk hs tx tr, cR nw na nb σ, xI g na 49 (zT σ), xI g nb 49 (zI σ)]) (wr := []) (wn := fun (u : Unit) => [cX x nw sn tk hs tx tr, cR nw na nb σ, xI g na 49 (zT σ), xI g nb 49 (zI σ)]) F w [0, 1, 2, 3] [] [0, 1, 2, 3] rfl rfl rfl (fun _ => rfl)
    (fun hp => vx_runV (As := [.int (nI d)]) (rest := [.int (nI 0), .ref ot]) F.1 (kX5_thingAt_N l hnl g x nw sn tk hs tx tr na nb σ d H.size hd hf9) (cwV 1 hts gL_thingAt_X5_thingAt rfl rfl rfl ⟨rfl, hd_X5_thingAt⟩ ⟨Nat.le_of_ble_eq_true rfl, Nat.le_of_ble_eq_true rfl⟩) ⟨hp.1, va_recv F.2.2.2.1.1 w.1 (q0 := 0) (ci := 5) rfl rfl, hp.2⟩ rfl rfl hl.1 rfl (lv_room (Nat.le_of_ble_eq_true rfl)) dL_thingAt_4 ⟨Nat.le_of_ble_eq_true rfl, Nat.le_of_ble_eq_true rfl⟩)
    [⟨0, 9, 12, 13⟩] ⟨0, 9, 15, 58⟩ [] htab (fun z hz => by rcases List.mem_cons.mp hz with rfl | hz; exact ⟨by decide, eIAE, by decide +kernel, by decide +kernel⟩; cases hz) (by decide +kernel) (by decide) (by decide +kernel) (by decide +kernel) (fun q_1 _ H locs w => ?_)
  refine lv_astore_n (lv' := [(3, .ref q_1), (0, .ref x), (1, .int (nI d)), (2, .ref ot)]) hx hb dL_thingAt_15 rfl hl (by decide) rfl (fun ls hl => ?_)
  refine lv_iconst (v := nI 2) hx hb dL_thingAt_16 (by decide) ?_
  subst hA
  subst hQ
  exact kreti F w () [0, 1, 2, 3] rfl rfl (rfl) (Nat.le_of_ble_eq_true rfl) (Nat.le_of_ble_eq_true rfl) dL_thingAt_17
theorem hd_X5_thingsOf : yX5_thingsOf.cls ≠ "java/lang/invoke/MethodHandle" ∧ yX5_thingsOf.cls ≠ "java/lang/invoke/VarHandle" ∧ (parseMethodDescriptor yX5_thingsOf.desc).map (fun d => d.parameters.length) = some 1 := by decide +kernel
abbrev rmL_thingsOf_k : Room := { frames := 2, cells := 0, slots := 0, locals := 42 }
set_option maxHeartbeats 4000000 in
set_option maxRecDepth 100000 in
theorem kL_thingsOf_k (l : Launch) (g : GG) (x : Nat) (nw : Nat) (sn : Nat) (tk : Bool) (hs : Nat) (tx : Nat) (tr : Nat) (na : Nat) (nb : Nat) (σ : Sg) (kd : Bool) (ot : Nat) (f : Nat → Int64) (sz : Nat)  : Met l yL_thingsOf wsL_thingsOf rmL_thingsOf_k (va_Pc [.ref x, .int (bI kd), .ref ot] (kPre g [cX x nw sn tk hs tx tr, cR nw na nb σ, xI g na 49 (zT σ), xI g nb 49 (zI σ), xJ g ot 1 f] sz)) (va_Qi (fun (r : Int32) (u : Unit) => r = nI 0) (kB g (va_A [cX x nw sn tk hs tx tr, cR nw na nb σ, xI g na 49 (zT σ), xI g nb 49 (zI σ), xJ g ot 1 f] sz) (fun u => [cX x nw sn tk hs tx tr, cR nw na nb σ, xI g na 49 (zT σ), xI g nb 49 (zI σ), xJ g ot 1 (vp_updL f 0 ((nI (zcnt (kindP σ kd) 48)).toInt64))])) (va_A [cX x nw sn tk hs tx tr, cR nw na nb σ, xI g na 49 (zT σ), xI g nb 49 (zI σ), xJ g ot 1 f] sz)) 0 0 (va_A [cX x nw sn tk hs tx tr, cR nw na nb σ, xI g na 49 (zT σ), xI g nb 49 (zI σ), xJ g ot 1 f] sz) := by
  refine kMetH (hh := [(0, 9, 12, 13)]) (cc := cL_thingsOf) (maxL := 4) (ret := (some .int)) (own := RL) (by decide) rfl rfl (Nat.le_of_ble_eq_true rfl) ?_
  intro p e s m args below meth c ls Q H locs A F w hl htab hA hQ
  have hx := F.1.1
  have hb := F.1.2.1
  have hts := F.1.2.2.2.2
  have hl : lv_has ls 4 [(0, .ref x), (1, .int (bI kd)), (2, .ref ot)] := hl
  refine lv_aload_n hx hb dL_thingsOf_0 rfl (lv_at hl 2 rfl) ?_
  refine lv_iconst (v := nI 0) hx hb dL_thingsOf_1 (by decide) ?_
  refine lv_aload_n hx hb dL_thingsOf_2 rfl (lv_at hl 0 rfl) ?_
  refine lv_iload_n hx hb dL_thingsOf_3 rfl (lv_at hl 1 rfl) ?_
  refine kcalli (wc := [cX x nw sn tk hs tx tr, cR nw na nb σ, xI g na 49 (zT σ), xI g nb 49 (zI σ)]) (wr := [xJ g ot 1 f]) (wn := fun (u : Unit) => [cX x nw sn tk hs tx tr, cR nw na nb σ, xI g na 49 (zT σ), xI g nb 49 (zI σ), xJ g ot 1 f]) F w [0, 1, 2, 3] [4] [1, 2, 3, 4, 0] rfl rfl rfl (fun _ => rfl)
    (fun hp => va_runV (As := [.int (bI kd)]) (rest := [.int (nI 0), .ref ot]) F.1 (kX5_thingsOf_k l g x nw sn tk hs tx tr na nb σ kd H.size ) (cwV 1 hts gL_thingsOf_X5_thingsOf rfl rfl rfl ⟨rfl, hd_X5_thingsOf⟩ ⟨Nat.le_of_ble_eq_true rfl, Nat.le_of_ble_eq_true rfl⟩) ⟨hp.1, va_recv F.2.2.2.1.1 w.1 (q0 := 0) (ci := 5) rfl rfl, hp.2⟩ rfl rfl hl.1 rfl (lv_room (Nat.le_of_ble_eq_true rfl)) dL_thingsOf_4 ⟨Nat.le_of_ble_eq_true rfl, Nat.le_of_ble_eq_true rfl⟩)
    (fun r_1 _ H locs h_2 w => ?_)
  subst h_2
  refine lv_i2l hx hb dL_thingsOf_7 rfl ?_
  refine klast (f' := vp_updL f 0 ((nI (zcnt (kindP σ kd) 48)).toInt64)) F w 4 rfl (vp_in_nI (by omega) (by omega)) (congrArg (fun z => vp_updL f z ((nI (zcnt (kindP σ kd) 48)).toInt64)) (nI_clamp (n := 0) (by omega))) (wn := [cX x nw sn tk hs tx tr, cR nw na nb σ, xI g na 49 (zT σ), xI g nb 49 (zI σ), xJ g ot 1 (vp_updL f 0 ((nI (zcnt (kindP σ kd) 48)).toInt64))]) rfl dL_thingsOf_8 (fun H locs w => ?_)
  refine lv_goto (tgt := 15) hx hb dL_thingsOf_9 (by decide) ?_
  refine lv_iconst (v := nI 0) hx hb dL_thingsOf_15 (by decide) ?_
  subst hA
  subst hQ
  exact kreti F w () [0, 1, 2, 3, 4] rfl rfl (rfl) (Nat.le_of_ble_eq_true rfl) (Nat.le_of_ble_eq_true rfl) dL_thingsOf_16
abbrev rmL_thingsOf_A : Room := { frames := 7, cells := 1, slots := 6, locals := 103 }
set_option maxHeartbeats 4000000 in
set_option maxRecDepth 100000 in
theorem kL_thingsOf_A (l : Launch) (hnl : l.stackTraces = false) (g : GG) (x : Nat) (nw : Nat) (sn : Nat) (tk : Bool) (hs : Nat) (tx : Nat) (tr : Nat) (k : Int32) (ot : Nat) (sz : Nat) (hk9 : ¬ (k = 0 ∨ k = 1)) : Met l yL_thingsOf wsL_thingsOf rmL_thingsOf_A (va_Pc [.ref x, .int k, .ref ot] (kPre g [cX x nw sn tk hs tx tr] sz)) (va_Qi (fun (r : Int32) (u : Unit) => r = nI 1) (kB g (va_A [cX x nw sn tk hs tx tr] sz) (fun u => [cX x nw sn tk hs tx tr])) (va_A [cX x nw sn tk hs tx tr] sz)) 1 6 (va_A [cX x nw sn tk hs tx tr] sz) := by
  refine kMetH (hh := [(0, 9, 12, 13)]) (cc := cL_thingsOf) (maxL := 4) (ret := (some .int)) (own := RL) (by decide) rfl rfl (Nat.le_of_ble_eq_true rfl) ?_
  intro p e s m args below meth c ls Q H locs A F w hl htab hA hQ
  have hx := F.1.1
  have hb := F.1.2.1
  have hts := F.1.2.2.2.2
  have hl : lv_has ls 4 [(0, .ref x), (1, .int k), (2, .ref ot)] := hl
  refine lv_aload_n hx hb dL_thingsOf_0 rfl (lv_at hl 2 rfl) ?_
  refine lv_iconst (v := nI 0) hx hb dL_thingsOf_1 (by decide) ?_
  refine lv_aload_n hx hb dL_thingsOf_2 rfl (lv_at hl 0 rfl) ?_
  refine lv_iload_n hx hb dL_thingsOf_3 rfl (lv_at hl 1 rfl) ?_
  refine kcaught (E0 := eIAE) (wc := []) (wr := [cX x nw sn tk hs tx tr]) (wn := fun (u : Unit) => [cX x nw sn tk hs tx tr]) F w [] [0] [0] rfl rfl rfl (fun _ => rfl)
    (fun hp => vx_runV (As := [.int k]) (rest := [.int (nI 0), .ref ot]) F.1 (kX5_thingsOf_A l hnl g x k H.size hk9) (cwV 1 hts gL_thingsOf_X5_thingsOf rfl rfl rfl ⟨rfl, hd_X5_thingsOf⟩ ⟨Nat.le_of_ble_eq_true rfl, Nat.le_of_ble_eq_true rfl⟩) ⟨hp.1, va_recv F.2.2.2.1.1 w.1 (q0 := 0) (ci := 5) rfl rfl, hp.2⟩ rfl rfl hl.1 rfl (lv_room (Nat.le_of_ble_eq_true rfl)) dL_thingsOf_4 ⟨Nat.le_of_ble_eq_true rfl, Nat.le_of_ble_eq_true rfl⟩)
    [] ⟨0, 9, 12, 13⟩ [] htab (fun z hz => nomatch hz) (by decide +kernel) (by decide) (by decide +kernel) (by decide +kernel) (fun q_1 _ H locs w => ?_)
  refine lv_astore_n (lv' := [(3, .ref q_1), (0, .ref x), (1, .int k), (2, .ref ot)]) hx hb dL_thingsOf_12 rfl hl (by decide) rfl (fun ls hl => ?_)
  refine lv_iconst (v := nI 1) hx hb dL_thingsOf_13 (by decide) ?_
  subst hA
  subst hQ
  exact kreti F w () [0] rfl rfl (rfl) (Nat.le_of_ble_eq_true rfl) (Nat.le_of_ble_eq_true rfl) dL_thingsOf_14
theorem hd_X5_goBack : yX5_goBack.cls ≠ "java/lang/invoke/MethodHandle" ∧ yX5_goBack.cls ≠ "java/lang/invoke/VarHandle" ∧ (parseMethodDescriptor yX5_goBack.desc).map (fun d => d.parameters.length) = some 0 := by decide +kernel
abbrev rmL_goBack_k : Room := { frames := 4, cells := 0, slots := 0, locals := 85 }
set_option maxHeartbeats 4000000 in
set_option maxRecDepth 100000 in
theorem kL_goBack_k (l : Launch) (g : GG) (x : Nat) (nw : Nat) (sn : Nat) (tk : Bool) (hs : Nat) (tx : Nat) (tr : Nat) (na : Nat) (nb : Nat) (σ : Sg) (hq : Nat) (kn : Nat) (ρ : Nat → Nat) (α : Nat → Nat) (β : Nat → Nat) (γ : Nat → Sg) (sa : Nat) (sb : Nat) (κ : Sg) (ot : Nat) (f : Nat → Int64) (sz : Nat) (hkn : kn ≤ 4) : Met l yL_goBack wsL_goBack rmL_goBack_k (va_Pc [.ref x, .ref ot] (kPre g [cX x nw sn true hs tx tr, cR nw na nb σ, xI g na 49 (zT σ), xI g nb 49 (zI σ), cH hs hq kn, xQ g hq 4 (rq ρ), cR (ρ 0) (α 0) (β 0) (γ 0), xI g (α 0) 49 (zT (γ 0)), xI g (β 0) 49 (zI (γ 0)), cR (ρ 1) (α 1) (β 1) (γ 1), xI g (α 1) 49 (zT (γ 1)), xI g (β 1) 49 (zI (γ 1)), cR (ρ 2) (α 2) (β 2) (γ 2), xI g (α 2) 49 (zT (γ 2)), xI g (β 2) 49 (zI (γ 2)), cR (ρ 3) (α 3) (β 3) (γ 3), xI g (α 3) 49 (zT (γ 3)), xI g (β 3) 49 (zI (γ 3)), cR sn sa sb κ, xI g sa 49 (zT κ), xI g sb 49 (zI κ), xJ g ot 1 f] sz)) (va_Qi (fun (r : Int32) (u : (Nat → Nat) × (Nat → Nat) × (Nat → Nat)) => r = nI 0) (kB g (va_A [cX x nw sn true hs tx tr, cR nw na nb σ, xI g na 49 (zT σ), xI g nb 49 (zI σ), cH hs hq kn, xQ g hq 4 (rq ρ), cR (ρ 0) (α 0) (β 0) (γ 0), xI g (α 0) 49 (zT (γ 0)), xI g (β 0) 49 (zI (γ 0)), cR (ρ 1) (α 1) (β 1) (γ 1), xI g (α 1) 49 (zT (γ 1)), xI g (β 1) 49 (zI (γ 1)), cR (ρ 2) (α 2) (β 2) (γ 2), xI g (α 2) 49 (zT (γ 2)), xI g (β 2) 49 (zI (γ 2)), cR (ρ 3) (α 3) (β 3) (γ 3), xI g (α 3) 49 (zT (γ 3)), xI g (β 3) 49 (zI (γ 3)), cR sn sa sb κ, xI g sa 49 (zT κ), xI g sb 49 (zI κ), xJ g ot 1 f] sz) (fun u => [cX x nw sn true hs tx tr, cR nw na nb κ, xI g na 49 (zT κ), xI g nb 49 (zI κ), cH hs hq (pushN kn), xQ g hq 4 (rq u.1), cR (u.1 0) (u.2.1 0) (u.2.2 0) ((pushG γ kn σ) 0), xI g (u.2.1 0) 49 (zT ((pushG γ kn σ) 0)), xI g (u.2.2 0) 49 (zI ((pushG γ kn σ) 0)), cR (u.1 1) (u.2.1 1) (u.2.2 1) ((pushG γ kn σ) 1), xI g (u.2.1 1) 49 (zT ((pushG γ kn σ) 1)), xI g (u.2.2 1) 49 (zI ((pushG γ kn σ) 1)), cR (u.1 2) (u.2.1 2) (u.2.2 2) ((pushG γ kn σ) 2), xI g (u.2.1 2) 49 (zT ((pushG γ kn σ) 2)), xI g (u.2.2 2) 49 (zI ((pushG γ kn σ) 2)), cR (u.1 3) (u.2.1 3) (u.2.2 3) ((pushG γ kn σ) 3), xI g (u.2.1 3) 49 (zT ((pushG γ kn σ) 3)), xI g (u.2.2 3) 49 (zI ((pushG γ kn σ) 3)), cR sn sa sb κ, xI g sa 49 (zT κ), xI g sb 49 (zI κ), xJ g ot 1 (vp_updL f 0 ((nI (zcnt (zO κ) 48)).toInt64))])) (va_A [cX x nw sn true hs tx tr, cR nw na nb σ, xI g na 49 (zT σ), xI g nb 49 (zI σ), cH hs hq kn, xQ g hq 4 (rq ρ), cR (ρ 0) (α 0) (β 0) (γ 0), xI g (α 0) 49 (zT (γ 0)), xI g (β 0) 49 (zI (γ 0)), cR (ρ 1) (α 1) (β 1) (γ 1), xI g (α 1) 49 (zT (γ 1)), xI g (β 1) 49 (zI (γ 1)), cR (ρ 2) (α 2) (β 2) (γ 2), xI g (α 2) 49 (zT (γ 2)), xI g (β 2) 49 (zI (γ 2)), cR (ρ 3) (α 3) (β 3) (γ 3), xI g (α 3) 49 (zT (γ 3)), xI g (β 3) 49 (zI (γ 3)), cR sn sa sb κ, xI g sa 49 (zT κ), xI g sb 49 (zI κ), xJ g ot 1 f] sz)) 0 0 (va_A [cX x nw sn true hs tx tr, cR nw na nb σ, xI g na 49 (zT σ), xI g nb 49 (zI σ), cH hs hq kn, xQ g hq 4 (rq ρ), cR (ρ 0) (α 0) (β 0) (γ 0), xI g (α 0) 49 (zT (γ 0)), xI g (β 0) 49 (zI (γ 0)), cR (ρ 1) (α 1) (β 1) (γ 1), xI g (α 1) 49 (zT (γ 1)), xI g (β 1) 49 (zI (γ 1)), cR (ρ 2) (α 2) (β 2) (γ 2), xI g (α 2) 49 (zT (γ 2)), xI g (β 2) 49 (zI (γ 2)), cR (ρ 3) (α 3) (β 3) (γ 3), xI g (α 3) 49 (zT (γ 3)), xI g (β 3) 49 (zI (γ 3)), cR sn sa sb κ, xI g sa 49 (zT κ), xI g sb 49 (zI κ), xJ g ot 1 f] sz) := by
  refine kMetH (hh := [(0, 8, 11, 23)]) (cc := cL_goBack) (maxL := 3) (ret := (some .int)) (own := RL) (by decide) rfl rfl (Nat.le_of_ble_eq_true rfl) ?_
  intro p e s m args below meth c ls Q H locs A F w hl htab hA hQ
  have hx := F.1.1
  have hb := F.1.2.1
  have hts := F.1.2.2.2.2
  have hl : lv_has ls 3 [(0, .ref x), (1, .ref ot)] := hl
  refine lv_aload_n hx hb dL_goBack_0 rfl (lv_at hl 1 rfl) ?_
  refine lv_iconst (v := nI 0) hx hb dL_goBack_1 (by decide) ?_
  refine lv_aload_n hx hb dL_goBack_2 rfl (lv_at hl 0 rfl) ?_
  refine kcalli (wc := [cX x nw sn true hs tx tr, cR nw na nb σ, xI g na 49 (zT σ), xI g nb 49 (zI σ), cH hs hq kn, xQ g hq 4 (rq ρ), cR (ρ 0) (α 0) (β 0) (γ 0), xI g (α 0) 49 (zT (γ 0)), xI g (β 0) 49 (zI (γ 0)), cR (ρ 1) (α 1) (β 1) (γ 1), xI g (α 1) 49 (zT (γ 1)), xI g (β 1) 49 (zI (γ 1)), cR (ρ 2) (α 2) (β 2) (γ 2), xI g (α 2) 49 (zT (γ 2)), xI g (β 2) 49 (zI (γ 2)), cR (ρ 3) (α 3) (β 3) (γ 3), xI g (α 3) 49 (zT (γ 3)), xI g (β 3) 49 (zI (γ 3)), cR sn sa sb κ, xI g sa 49 (zT κ), xI g sb 49 (zI κ)]) (wr := [xJ g ot 1 f]) (wn := fun (u : (Nat → Nat) × (Nat → Nat) × (Nat → Nat)) => [cX x nw sn true hs tx tr, cR nw na nb κ, xI g na 49 (zT κ), xI g nb 49 (zI κ), cH hs hq (pushN kn), xQ g hq 4 (rq u.1), cR (u.1 0) (u.2.1 0) (u.2.2 0) ((pushG γ kn σ) 0), xI g (u.2.1 0) 49 (zT ((pushG γ kn σ) 0)), xI g (u.2.2 0) 49 (zI ((pushG γ kn σ) 0)), cR (u.1 1) (u.2.1 1) (u.2.2 1) ((pushG γ kn σ) 1), xI g (u.2.1 1) 49 (zT ((pushG γ kn σ) 1)), xI g (u.2.2 1) 49 (zI ((pushG γ kn σ) 1)), cR (u.1 2) (u.2.1 2) (u.2.2 2) ((pushG γ kn σ) 2), xI g (u.2.1 2) 49 (zT ((pushG γ kn σ) 2)), xI g (u.2.2 2) 49 (zI ((pushG γ kn σ) 2)), cR (u.1 3) (u.2.1 3) (u.2.2 3) ((pushG γ kn σ) 3), xI g (u.2.1 3) 49 (zT ((pushG γ kn σ) 3)), xI g (u.2.2 3) 49 (zI ((pushG γ kn σ) 3)), cR sn sa sb κ, xI g sa 49 (zT κ), xI g sb 49 (zI κ), xJ g ot 1 f]) F w [0, 1, 2, 3, 4, 5, 6, 7, 8, 9, 10, 11, 12, 13, 14, 15, 16, 17, 18, 19, 20] [21] [1, 2, 3, 4, 5, 6, 7, 8, 9, 10, 11, 12, 13, 14, 15, 16, 17, 18, 19, 20, 21, 0] rfl rfl rfl (fun _ => rfl)
    (fun hp => va_runV (As := []) (rest := [.int (nI 0), .ref ot]) F.1 (kX5_goBack_k l g x nw sn false hs tx tr na nb σ hq kn ρ α β γ sa sb κ H.size hkn) (cwV 0 hts gL_goBack_X5_goBack rfl rfl rfl ⟨rfl, hd_X5_goBack⟩ ⟨Nat.le_of_ble_eq_true rfl, Nat.le_of_ble_eq_true rfl⟩) ⟨hp.1, va_recv F.2.2.2.1.1 w.1 (q0 := 0) (ci := 5) rfl rfl, hp.2⟩ rfl rfl hl.1 rfl (lv_room (Nat.le_of_ble_eq_true rfl)) dL_goBack_3 ⟨Nat.le_of_ble_eq_true rfl, Nat.le_of_ble_eq_true rfl⟩)
    (fun r_1 u H locs h_2 w => ?_)
  try dsimp only at h_2
  obtain ⟨u_3, hu9⟩ : ∃ z, z = u := ⟨_, rfl⟩
  subst hu9
  have w : kW g A s [cX x nw sn true hs tx tr, cR nw na nb κ, xI g na 49 (zT κ), xI g nb 49 (zI κ), cH hs hq (pushN kn), xQ g hq 4 (rq u_3.1), cR (u_3.1 0) (u_3.2.1 0) (u_3.2.2 0) ((pushG γ kn σ) 0), xI g (u_3.2.1 0) 49 (zT ((pushG γ kn σ) 0)), xI g (u_3.2.2 0) 49 (zI ((pushG γ kn σ) 0)), cR (u_3.1 1) (u_3.2.1 1) (u_3.2.2 1) ((pushG γ kn σ) 1), xI g (u_3.2.1 1) 49 (zT ((pushG γ kn σ) 1)), xI g (u_3.2.2 1) 49 (zI ((pushG γ kn σ) 1)), cR (u_3.1 2) (u_3.2.1 2) (u_3.2.2 2) ((pushG γ kn σ) 2), xI g (u_3.2.1 2) 49 (zT ((pushG γ kn σ) 2)), xI g (u_3.2.2 2) 49 (zI ((pushG γ kn σ) 2)), cR (u_3.1 3) (u_3.2.1 3) (u_3.2.2 3) ((pushG γ kn σ) 3), xI g (u_3.2.1 3) 49 (zT ((pushG γ kn σ) 3)), xI g (u_3.2.2 3) 49 (zI ((pushG γ kn σ) 3)), cR sn sa sb κ, xI g sa 49 (zT κ), xI g sb 49 (zI κ), xJ g ot 1 f] H locs := w
  subst h_2
  refine lv_i2l hx hb dL_goBack_6 rfl ?_
  refine klast (f' := vp_updL f 0 ((nI (zcnt (zO κ) 48)).toInt64)) F w 21 rfl (vp_in_nI (by omega) (by omega)) (congrArg (fun z => vp_updL f z ((nI (zcnt (zO κ) 48)).toInt64)) (nI_clamp (n := 0) (by omega))) (wn := [cX x nw sn true hs tx tr, cR nw na nb κ, xI g na 49 (zT κ), xI g nb 49 (zI κ), cH hs hq (pushN kn), xQ g hq 4 (rq u_3.1), cR (u_3.1 0) (u_3.2.1 0) (u_3.2.2 0) ((pushG γ kn σ) 0), xI g (u_3.2.1 0) 49 (zT ((pushG γ kn σ) 0)), xI g (u_3.2.2 0) 49 (zI ((pushG γ kn σ) 0)), cR (u_3.1 1) (u_3.2.1 1) (u_3.2.2 1) ((pushG γ kn σ) 1), xI g (u_3.2.1 1) 49 (zT ((pushG γ kn σ) 1)), xI g (u_3.2.2 1) 49 (zI ((pushG γ kn σ) 1)), cR (u_3.1 2) (u_3.2.1 2) (u_3.2.2 2) ((pushG γ kn σ) 2), xI g (u_3.2.1 2) 49 (zT ((pushG γ kn σ) 2)), xI g (u_3.2.2 2) 49 (zI ((pushG γ kn σ) 2)), cR (u_3.1 3) (u_3.2.1 3) (u_3.2.2 3) ((pushG γ kn σ) 3), xI g (u_3.2.1 3) 49 (zT ((pushG γ kn σ) 3)), xI g (u_3.2.2 3) 49 (zI ((pushG γ kn σ) 3)), cR sn sa sb κ, xI g sa 49 (zT κ), xI g sb 49 (zI κ), xJ g ot 1 (vp_updL f 0 ((nI (zcnt (zO κ) 48)).toInt64))]) rfl dL_goBack_7 (fun H locs w => ?_)
  refine lv_goto (tgt := 14) hx hb dL_goBack_8 (by decide) ?_
  refine lv_iconst (v := nI 0) hx hb dL_goBack_14 (by decide) ?_
  subst hA
  subst hQ
  exact kreti F w u_3 [0, 1, 2, 3, 4, 5, 6, 7, 8, 9, 10, 11, 12, 13, 14, 15, 16, 17, 18, 19, 20, 21] rfl rfl (rfl) (Nat.le_of_ble_eq_true rfl) (Nat.le_of_ble_eq_true rfl) dL_goBack_15
abbrev rmL_goBack_S : Room := { frames := 7, cells := 1, slots := 6, locals := 102 }
set_option maxHeartbeats 4000000 in
set_option maxRecDepth 100000 in
theorem kL_goBack_S (l : Launch) (hnl : l.stackTraces = false) (g : GG) (x : Nat) (nw : Nat) (sn : Nat) (hs : Nat) (tx : Nat) (tr : Nat) (ot : Nat) (sz : Nat)  : Met l yL_goBack wsL_goBack rmL_goBack_S (va_Pc [.ref x, .ref ot] (kPre g [cX x nw sn false hs tx tr] sz)) (va_Qi (fun (r : Int32) (u : Unit) => r = nI 1) (kB g (va_A [cX x nw sn false hs tx tr] sz) (fun u => [cX x nw sn false hs tx tr])) (va_A [cX x nw sn false hs tx tr] sz)) 1 6 (va_A [cX x nw sn false hs tx tr] sz) := by
  refine kMetH (hh := [(0, 8, 11, 23)]) (cc := cL_goBack) (maxL := 3) (ret := (some .int)) (own := RL) (by decide) rfl rfl (Nat.le_of_ble_eq_true rfl) ?_
  intro p e s m args below meth c ls Q H locs A F w hl htab hA hQ
  have hx := F.1.1
  have hb := F.1.2.1
  have hts := F.1.2.2.2.2
  have hl : lv_has ls 3 [(0, .ref x), (1, .ref ot)] := hl
  refine lv_aload_n hx hb dL_goBack_0 rfl (lv_at hl 1 rfl) ?_
  refine lv_iconst (v := nI 0) hx hb dL_goBack_1 (by decide) ?_
  refine lv_aload_n hx hb dL_goBack_2 rfl (lv_at hl 0 rfl) ?_
  refine kcaught (E0 := eISE) (wc := [cX x nw sn false hs tx tr]) (wr := []) (wn := fun (u : Unit) => [cX x nw sn false hs tx tr]) F w [0] [] [0] rfl rfl rfl (fun _ => rfl)
    (fun hp => vx_runV (As := []) (rest := [.int (nI 0), .ref ot]) F.1 (kX5_goBack_S l hnl g x nw sn hs tx tr H.size ) (cwV 0 hts gL_goBack_X5_goBack rfl rfl rfl ⟨rfl, hd_X5_goBack⟩ ⟨Nat.le_of_ble_eq_true rfl, Nat.le_of_ble_eq_true rfl⟩) ⟨hp.1, va_recv F.2.2.2.1.1 w.1 (q0 := 0) (ci := 5) rfl rfl, hp.2⟩ rfl rfl hl.1 rfl (lv_room (Nat.le_of_ble_eq_true rfl)) dL_goBack_3 ⟨Nat.le_of_ble_eq_true rfl, Nat.le_of_ble_eq_true rfl⟩)
    [] ⟨0, 8, 11, 23⟩ [] htab (fun z hz => nomatch hz) (by decide +kernel) (by decide) (by decide +kernel) (by decide +kernel) (fun q_1 _ H locs w => ?_)
  refine lv_astore_n (lv' := [(2, .ref q_1), (0, .ref x), (1, .ref ot)]) hx hb dL_goBack_11 rfl hl (by decide) rfl (fun ls hl => ?_)
  refine lv_iconst (v := nI 1) hx hb dL_goBack_12 (by decide) ?_
  subst hA
  subst hQ
  exact kreti F w () [0] rfl rfl (rfl) (Nat.le_of_ble_eq_true rfl) (Nat.le_of_ble_eq_true rfl) dL_goBack_13
theorem hd_X5_undo : yX5_undo.cls ≠ "java/lang/invoke/MethodHandle" ∧ yX5_undo.cls ≠ "java/lang/invoke/VarHandle" ∧ (parseMethodDescriptor yX5_undo.desc).map (fun d => d.parameters.length) = some 0 := by decide +kernel
abbrev rmL_undo_k : Room := { frames := 4, cells := 0, slots := 0, locals := 84 }
set_option maxHeartbeats 4000000 in
set_option maxRecDepth 100000 in
theorem kL_undo_k (l : Launch) (g : GG) (x : Nat) (nw : Nat) (sn : Nat) (tk : Bool) (hs : Nat) (tx : Nat) (tr : Nat) (na : Nat) (nb : Nat) (σ : Sg) (hq : Nat) (kn : Nat) (ρ : Nat → Nat) (α : Nat → Nat) (β : Nat → Nat) (γ : Nat → Sg) (ot : Nat) (f : Nat → Int64) (sz : Nat) (hkn : kn < 4) : Met l yL_undo wsL_undo rmL_undo_k (va_Pc [.ref x, .ref ot] (kPre g [cX x nw sn tk hs tx tr, cR nw na nb σ, xI g na 49 (zT σ), xI g nb 49 (zI σ), cH hs hq (kn + 1), xQ g hq 4 (rq ρ), cR (ρ 0) (α 0) (β 0) (γ 0), xI g (α 0) 49 (zT (γ 0)), xI g (β 0) 49 (zI (γ 0)), cR (ρ 1) (α 1) (β 1) (γ 1), xI g (α 1) 49 (zT (γ 1)), xI g (β 1) 49 (zI (γ 1)), cR (ρ 2) (α 2) (β 2) (γ 2), xI g (α 2) 49 (zT (γ 2)), xI g (β 2) 49 (zI (γ 2)), cR (ρ 3) (α 3) (β 3) (γ 3), xI g (α 3) 49 (zT (γ 3)), xI g (β 3) 49 (zI (γ 3)), xJ g ot 1 f] sz)) (va_Qi (fun (r : Int32) (u : Unit) => r = nI 0) (kB g (va_A [cX x nw sn tk hs tx tr, cR nw na nb σ, xI g na 49 (zT σ), xI g nb 49 (zI σ), cH hs hq (kn + 1), xQ g hq 4 (rq ρ), cR (ρ 0) (α 0) (β 0) (γ 0), xI g (α 0) 49 (zT (γ 0)), xI g (β 0) 49 (zI (γ 0)), cR (ρ 1) (α 1) (β 1) (γ 1), xI g (α 1) 49 (zT (γ 1)), xI g (β 1) 49 (zI (γ 1)), cR (ρ 2) (α 2) (β 2) (γ 2), xI g (α 2) 49 (zT (γ 2)), xI g (β 2) 49 (zI (γ 2)), cR (ρ 3) (α 3) (β 3) (γ 3), xI g (α 3) 49 (zT (γ 3)), xI g (β 3) 49 (zI (γ 3)), xJ g ot 1 f] sz) (fun u => [cX x nw sn tk hs tx tr, cR nw na nb (γ kn), xI g na 49 (zT (γ kn)), xI g nb 49 (zI (γ kn)), cH hs hq kn, xQ g hq 4 (rq ρ), cR (ρ 0) (α 0) (β 0) (γ 0), xI g (α 0) 49 (zT (γ 0)), xI g (β 0) 49 (zI (γ 0)), cR (ρ 1) (α 1) (β 1) (γ 1), xI g (α 1) 49 (zT (γ 1)), xI g (β 1) 49 (zI (γ 1)), cR (ρ 2) (α 2) (β 2) (γ 2), xI g (α 2) 49 (zT (γ 2)), xI g (β 2) 49 (zI (γ 2)), cR (ρ 3) (α 3) (β 3) (γ 3), xI g (α 3) 49 (zT (γ 3)), xI g (β 3) 49 (zI (γ 3)), xJ g ot 1 (vp_updL f 0 ((nI kn).toInt64))])) (va_A [cX x nw sn tk hs tx tr, cR nw na nb σ, xI g na 49 (zT σ), xI g nb 49 (zI σ), cH hs hq (kn + 1), xQ g hq 4 (rq ρ), cR (ρ 0) (α 0) (β 0) (γ 0), xI g (α 0) 49 (zT (γ 0)), xI g (β 0) 49 (zI (γ 0)), cR (ρ 1) (α 1) (β 1) (γ 1), xI g (α 1) 49 (zT (γ 1)), xI g (β 1) 49 (zI (γ 1)), cR (ρ 2) (α 2) (β 2) (γ 2), xI g (α 2) 49 (zT (γ 2)), xI g (β 2) 49 (zI (γ 2)), cR (ρ 3) (α 3) (β 3) (γ 3), xI g (α 3) 49 (zT (γ 3)), xI g (β 3) 49 (zI (γ 3)), xJ g ot 1 f] sz)) 0 0 (va_A [cX x nw sn tk hs tx tr, cR nw na nb σ, xI g na 49 (zT σ), xI g nb 49 (zI σ), cH hs hq (kn + 1), xQ g hq 4 (rq ρ), cR (ρ 0) (α 0) (β 0) (γ 0), xI g (α 0) 49 (zT (γ 0)), xI g (β 0) 49 (zI (γ 0)), cR (ρ 1) (α 1) (β 1) (γ 1), xI g (α 1) 49 (zT (γ 1)), xI g (β 1) 49 (zI (γ 1)), cR (ρ 2) (α 2) (β 2) (γ 2), xI g (α 2) 49 (zT (γ 2)), xI g (β 2) 49 (zI (γ 2)), cR (ρ 3) (α 3) (β 3) (γ 3), xI g (α 3) 49 (zT (γ 3)), xI g (β 3) 49 (zI (γ 3)), xJ g ot 1 f] sz) := by
  refine kMetH (hh := [(0, 8, 11, 23)]) (cc := cL_undo) (maxL := 3) (ret := (some .int)) (own := RL) (by decide) rfl rfl (Nat.le_of_ble_eq_true rfl) ?_
  intro p e s m args below meth c ls Q H locs A F w hl htab hA hQ
  have hx := F.1.1
  have hb := F.1.2.1
  have hts := F.1.2.2.2.2
  have hl : lv_has ls 3 [(0, .ref x), (1, .ref ot)] := hl
  refine lv_aload_n hx hb dL_undo_0 rfl (lv_at hl 1 rfl) ?_
  refine lv_iconst (v := nI 0) hx hb dL_undo_1 (by decide) ?_
  refine lv_aload_n hx hb dL_undo_2 rfl (lv_at hl 0 rfl) ?_
  refine kcalli (wc := [cX x nw sn tk hs tx tr, cR nw na nb σ, xI g na 49 (zT σ), xI g nb 49 (zI σ), cH hs hq (kn + 1), xQ g hq 4 (rq ρ), cR (ρ 0) (α 0) (β 0) (γ 0), xI g (α 0) 49 (zT (γ 0)), xI g (β 0) 49 (zI (γ 0)), cR (ρ 1) (α 1) (β 1) (γ 1), xI g (α 1) 49 (zT (γ 1)), xI g (β 1) 49 (zI (γ 1)), cR (ρ 2) (α 2) (β 2) (γ 2), xI g (α 2) 49 (zT (γ 2)), xI g (β 2) 49 (zI (γ 2)), cR (ρ 3) (α 3) (β 3) (γ 3), xI g (α 3) 49 (zT (γ 3)), xI g (β 3) 49 (zI (γ 3))]) (wr := [xJ g ot 1 f]) (wn := fun (u : Unit) => [cX x nw sn tk hs tx tr, cR nw na nb (γ kn), xI g na 49 (zT (γ kn)), xI g nb 49 (zI (γ kn)), cH hs hq kn, xQ g hq 4 (rq ρ), cR (ρ 0) (α 0) (β 0) (γ 0), xI g (α 0) 49 (zT (γ 0)), xI g (β 0) 49 (zI (γ 0)), cR (ρ 1) (α 1) (β 1) (γ 1), xI g (α 1) 49 (zT (γ 1)), xI g (β 1) 49 (zI (γ 1)), cR (ρ 2) (α 2) (β 2) (γ 2), xI g (α 2) 49 (zT (γ 2)), xI g (β 2) 49 (zI (γ 2)), cR (ρ 3) (α 3) (β 3) (γ 3), xI g (α 3) 49 (zT (γ 3)), xI g (β 3) 49 (zI (γ 3)), xJ g ot 1 f]) F w [0, 1, 2, 3, 4, 5, 6, 7, 8, 9, 10, 11, 12, 13, 14, 15, 16, 17] [18] [1, 2, 3, 4, 5, 6, 7, 8, 9, 10, 11, 12, 13, 14, 15, 16, 17, 18, 0] rfl rfl rfl (fun _ => rfl)
    (fun hp => va_runV (As := []) (rest := [.int (nI 0), .ref ot]) F.1 (kX5_undo_k l g x nw sn tk hs tx tr na nb σ hq kn ρ α β γ H.size hkn) (cwV 0 hts gL_undo_X5_undo rfl rfl rfl ⟨rfl, hd_X5_undo⟩ ⟨Nat.le_of_ble_eq_true rfl, Nat.le_of_ble_eq_true rfl⟩) ⟨hp.1, va_recv F.2.2.2.1.1 w.1 (q0 := 0) (ci := 5) rfl rfl, hp.2⟩ rfl rfl hl.1 rfl (lv_room (Nat.le_of_ble_eq_true rfl)) dL_undo_3 ⟨Nat.le_of_ble_eq_true rfl, Nat.le_of_ble_eq_true rfl⟩)
    (fun r_1 _ H locs h_2 w => ?_)
  subst h_2
  refine lv_i2l hx hb dL_undo_6 rfl ?_
  refine klast (f' := vp_updL f 0 ((nI kn).toInt64)) F w 18 rfl (vp_in_nI (by omega) (by omega)) (congrArg (fun z => vp_updL f z ((nI kn).toInt64)) (nI_clamp (n := 0) (by omega))) (wn := [cX x nw sn tk hs tx tr, cR nw na nb (γ kn), xI g na 49 (zT (γ kn)), xI g nb 49 (zI (γ kn)), cH hs hq kn, xQ g hq 4 (rq ρ), cR (ρ 0) (α 0) (β 0) (γ 0), xI g (α 0) 49 (zT (γ 0)), xI g (β 0) 49 (zI (γ 0)), cR (ρ 1) (α 1) (β 1) (γ 1), xI g (α 1) 49 (zT (γ 1)), xI g (β 1) 49 (zI (γ 1)), cR (ρ 2) (α 2) (β 2) (γ 2), xI g (α 2) 49 (zT (γ 2)), xI g (β 2) 49 (zI (γ 2)), cR (ρ 3) (α 3) (β 3) (γ 3), xI g (α 3) 49 (zT (γ 3)), xI g (β 3) 49 (zI (γ 3)), xJ g ot 1 (vp_updL f 0 ((nI kn).toInt64))]) rfl dL_undo_7 (fun H locs w => ?_)
  refine lv_goto (tgt := 14) hx hb dL_undo_8 (by decide) ?_
  refine lv_iconst (v := nI 0) hx hb dL_undo_14 (by decide) ?_
  subst hA
  subst hQ
  exact kreti F w () [0, 1, 2, 3, 4, 5, 6, 7, 8, 9, 10, 11, 12, 13, 14, 15, 16, 17, 18] rfl rfl (rfl) (Nat.le_of_ble_eq_true rfl) (Nat.le_of_ble_eq_true rfl) dL_undo_15
abbrev rmL_undo_S : Room := { frames := 7, cells := 1, slots := 6, locals := 102 }
set_option maxHeartbeats 4000000 in
set_option maxRecDepth 100000 in
theorem kL_undo_S (l : Launch) (hnl : l.stackTraces = false) (g : GG) (x : Nat) (nw : Nat) (sn : Nat) (tk : Bool) (hs : Nat) (tx : Nat) (tr : Nat) (hq : Nat) (ot : Nat) (sz : Nat)  : Met l yL_undo wsL_undo rmL_undo_S (va_Pc [.ref x, .ref ot] (kPre g [cX x nw sn tk hs tx tr, cH hs hq 0] sz)) (va_Qi (fun (r : Int32) (u : Unit) => r = nI 1) (kB g (va_A [cX x nw sn tk hs tx tr, cH hs hq 0] sz) (fun u => [cX x nw sn tk hs tx tr, cH hs hq 0])) (va_A [cX x nw sn tk hs tx tr, cH hs hq 0] sz)) 1 6 (va_A [cX x nw sn tk hs tx tr, cH hs hq 0] sz) := by
  refine kMetH (hh := [(0, 8, 11, 23)]) (cc := cL_undo) (maxL := 3) (ret := (some .int)) (own := RL) (by decide) rfl rfl (Nat.le_of_ble_eq_true rfl) ?_
  intro p e s m args below meth c ls Q H locs A F w hl htab hA hQ
  have hx := F.1.1
  have hb := F.1.2.1
  have hts := F.1.2.2.2.2
  have hl : lv_has ls 3 [(0, .ref x), (1, .ref ot)] := hl
  refine lv_aload_n hx hb dL_undo_0 rfl (lv_at hl 1 rfl) ?_
  refine lv_iconst (v := nI 0) hx hb dL_undo_1 (by decide) ?_
  refine lv_aload_n hx hb dL_undo_2 rfl (lv_at hl 0 rfl) ?_
  refine kcaught (E0 := eISE) (wc := [cX x nw sn tk hs tx tr, cH hs hq 0]) (wr := []) (wn := fun (u : Unit) => [cX x nw sn tk hs tx tr, cH hs hq 0]) F w [0, 1] [] [0, 1] rfl rfl rfl (fun _ => rfl)
    (fun hp => vx_runV (As := []) (rest := [.int (nI 0), .ref ot]) F.1 (kX5_undo_S l hnl g x nw sn tk hs tx tr hq H.size ) (cwV 0 hts gL_undo_X5_undo rfl rfl rfl ⟨rfl, hd_X5_undo⟩ ⟨Nat.le_of_ble_eq_true rfl, Nat.le_of_ble_eq_true rfl⟩) ⟨hp.1, va_recv F.2.2.2.1.1 w.1 (q0 := 0) (ci := 5) rfl rfl, hp.2⟩ rfl rfl hl.1 rfl (lv_room (Nat.le_of_ble_eq_true rfl)) dL_undo_3 ⟨Nat.le_of_ble_eq_true rfl, Nat.le_of_ble_eq_true rfl⟩)
    [] ⟨0, 8, 11, 23⟩ [] htab (fun z hz => nomatch hz) (by decide +kernel) (by decide) (by decide +kernel) (by decide +kernel) (fun q_1 _ H locs w => ?_)
  refine lv_astore_n (lv' := [(2, .ref q_1), (0, .ref x), (1, .ref ot)]) hx hb dL_undo_11 rfl hl (by decide) rfl (fun ls hl => ?_)
  refine lv_iconst (v := nI 1) hx hb dL_undo_12 (by decide) ?_
  subst hA
  subst hQ
  exact kreti F w () [0, 1] rfl rfl (rfl) (Nat.le_of_ble_eq_true rfl) (Nat.le_of_ble_eq_true rfl) dL_undo_13
theorem hd_X5_type : yX5_type.cls ≠ "java/lang/invoke/MethodHandle" ∧ yX5_type.cls ≠ "java/lang/invoke/VarHandle" ∧ (parseMethodDescriptor yX5_type.desc).map (fun d => d.parameters.length) = some 1 := by decide +kernel
abbrev rmL_type_k : Room := { frames := 2, cells := 0, slots := 0, locals := 42 }
set_option maxHeartbeats 4000000 in
set_option maxRecDepth 100000 in
theorem kL_type_k (l : Launch) (g : GG) (x : Nat) (nw : Nat) (sn : Nat) (tk : Bool) (hs : Nat) (tx : Nat) (tr : Nat) (ch : Nat) (L : Nat) (T : Nat → Int32) (k : Nat) (ot : Nat) (f : Nat → Int64) (sz : Nat) (hk : 32 ≤ k ∧ k ≤ 126) (hL : L < 60) : Met l yL_type wsL_type rmL_type_k (va_Pc [.ref x, .int (nI k), .ref ot] (kPre g [cX x nw sn tk hs tx tr, cT tx ch L, xC g ch 60 T, xJ g ot 1 f] sz)) (va_Qi (fun (r : Int32) (u : Unit) => r = nI 0) (kB g (va_A [cX x nw sn tk hs tx tr, cT tx ch L, xC g ch 60 T, xJ g ot 1 f] sz) (fun u => [cX x nw sn tk hs tx tr, cT tx ch (L + 1), xC g ch 60 (upd T L (nI k)), xJ g ot 1 (vp_updL f 0 ((nI (L + 1)).toInt64))])) (va_A [cX x nw sn tk hs tx tr, cT tx ch L, xC g ch 60 T, xJ g ot 1 f] sz)) 0 0 (va_A [cX x nw sn tk hs tx tr, cT tx ch L, xC g ch 60 T, xJ g ot 1 f] sz) := by
  refine kMetH (hh := [(0, 9, 12, 13), (0, 9, 15, 23)]) (cc := cL_type) (maxL := 4) (ret := (some .int)) (own := RL) (by decide) rfl rfl (Nat.le_of_ble_eq_true rfl) ?_
  intro p e s m args below meth c ls Q H locs A F w hl htab hA hQ
  have hx := F.1.1
  have hb := F.1.2.1
  have hts := F.1.2.2.2.2
  have hl : lv_has ls 4 [(0, .ref x), (1, .int (nI k)), (2, .ref ot)] := hl
  refine lv_aload_n hx hb dL_type_0 rfl (lv_at hl 2 rfl) ?_
  refine lv_iconst (v := nI 0) hx hb dL_type_1 (by decide) ?_
  refine lv_aload_n hx hb dL_type_2 rfl (lv_at hl 0 rfl) ?_
  refine lv_iload_n hx hb dL_type_3 rfl (lv_at hl 1 rfl) ?_
  refine kcalli (wc := [cX x nw sn tk hs tx tr, cT tx ch L, xC g ch 60 T]) (wr := [xJ g ot 1 f]) (wn := fun (u : Unit) => [cX x nw sn tk hs tx tr, cT tx ch (L + 1), xC g ch 60 (upd T L (nI k)), xJ g ot 1 f]) F w [0, 1, 2] [3] [1, 2, 3, 0] rfl rfl rfl (fun _ => rfl)
    (fun hp => va_runV (As := [.int (nI k)]) (rest := [.int (nI 0), .ref ot]) F.1 (kX5_type_k l g x nw sn tk hs tx tr ch L T k H.size hk hL) (cwV 1 hts gL_type_X5_type rfl rfl rfl ⟨rfl, hd_X5_type⟩ ⟨Nat.le_of_ble_eq_true rfl, Nat.le_of_ble_eq_true rfl⟩) ⟨hp.1, va_recv F.2.2.2.1.1 w.1 (q0 := 0) (ci := 5) rfl rfl, hp.2⟩ rfl rfl hl.1 rfl (lv_room (Nat.le_of_ble_eq_true rfl)) dL_type_4 ⟨Nat.le_of_ble_eq_true rfl, Nat.le_of_ble_eq_true rfl⟩)
    (fun r_1 _ H locs h_2 w => ?_)
  subst h_2
  refine lv_i2l hx hb dL_type_7 rfl ?_
  refine klast (f' := vp_updL f 0 ((nI (L + 1)).toInt64)) F w 3 rfl (vp_in_nI (by omega) (by omega)) (congrArg (fun z => vp_updL f z ((nI (L + 1)).toInt64)) (nI_clamp (n := 0) (by omega))) (wn := [cX x nw sn tk hs tx tr, cT tx ch (L + 1), xC g ch 60 (upd T L (nI k)), xJ g ot 1 (vp_updL f 0 ((nI (L + 1)).toInt64))]) rfl dL_type_8 (fun H locs w => ?_)
  refine lv_goto (tgt := 18) hx hb dL_type_9 (by decide) ?_
  refine lv_iconst (v := nI 0) hx hb dL_type_18 (by decide) ?_
  subst hA
  subst hQ
  exact kreti F w () [0, 1, 2, 3] rfl rfl (rfl) (Nat.le_of_ble_eq_true rfl) (Nat.le_of_ble_eq_true rfl) dL_type_19
abbrev rmL_type_A : Room := { frames := 7, cells := 1, slots := 6, locals := 103 }
set_option maxHeartbeats 4000000 in
set_option maxRecDepth 100000 in
theorem kL_type_A (l : Launch) (hnl : l.stackTraces = false) (g : GG) (x : Nat) (nw : Nat) (sn : Nat) (tk : Bool) (hs : Nat) (tx : Nat) (tr : Nat) (n : Int32) (ot : Nat) (sz : Nat) (hn : ¬ (32 ≤ n.toInt ∧ n.toInt ≤ 126)) : Met l yL_type wsL_type rmL_type_A (va_Pc [.ref x, .int n, .ref ot] (kPre g [cX x nw sn tk hs tx tr] sz)) (va_Qi (fun (r : Int32) (u : Unit) => r = nI 1) (kB g (va_A [cX x nw sn tk hs tx tr] sz) (fun u => [cX x nw sn tk hs tx tr])) (va_A [cX x nw sn tk hs tx tr] sz)) 1 6 (va_A [cX x nw sn tk hs tx tr] sz) := by
  refine kMetH (hh := [(0, 9, 12, 13), (0, 9, 15, 23)]) (cc := cL_type) (maxL := 4) (ret := (some .int)) (own := RL) (by decide) rfl rfl (Nat.le_of_ble_eq_true rfl) ?_
  intro p e s m args below meth c ls Q H locs A F w hl htab hA hQ
  have hx := F.1.1
  have hb := F.1.2.1
  have hts := F.1.2.2.2.2
  have hl : lv_has ls 4 [(0, .ref x), (1, .int n), (2, .ref ot)] := hl
  refine lv_aload_n hx hb dL_type_0 rfl (lv_at hl 2 rfl) ?_
  refine lv_iconst (v := nI 0) hx hb dL_type_1 (by decide) ?_
  refine lv_aload_n hx hb dL_type_2 rfl (lv_at hl 0 rfl) ?_
  refine lv_iload_n hx hb dL_type_3 rfl (lv_at hl 1 rfl) ?_
  refine kcaught (E0 := eIAE) (wc := []) (wr := [cX x nw sn tk hs tx tr]) (wn := fun (u : Unit) => [cX x nw sn tk hs tx tr]) F w [] [0] [0] rfl rfl rfl (fun _ => rfl)
    (fun hp => vx_runV (As := [.int n]) (rest := [.int (nI 0), .ref ot]) F.1 (kX5_type_A l hnl g x n H.size hn) (cwV 1 hts gL_type_X5_type rfl rfl rfl ⟨rfl, hd_X5_type⟩ ⟨Nat.le_of_ble_eq_true rfl, Nat.le_of_ble_eq_true rfl⟩) ⟨hp.1, va_recv F.2.2.2.1.1 w.1 (q0 := 0) (ci := 5) rfl rfl, hp.2⟩ rfl rfl hl.1 rfl (lv_room (Nat.le_of_ble_eq_true rfl)) dL_type_4 ⟨Nat.le_of_ble_eq_true rfl, Nat.le_of_ble_eq_true rfl⟩)
    [] ⟨0, 9, 12, 13⟩ [⟨0, 9, 15, 23⟩] htab (fun z hz => nomatch hz) (by decide +kernel) (by decide) (by decide +kernel) (by decide +kernel) (fun q_1 _ H locs w => ?_)
  refine lv_astore_n (lv' := [(3, .ref q_1), (0, .ref x), (1, .int n), (2, .ref ot)]) hx hb dL_type_12 rfl hl (by decide) rfl (fun ls hl => ?_)
  refine lv_iconst (v := nI 1) hx hb dL_type_13 (by decide) ?_
  subst hA
  subst hQ
  exact kreti F w () [0] rfl rfl (rfl) (Nat.le_of_ble_eq_true rfl) (Nat.le_of_ble_eq_true rfl) dL_type_14
abbrev rmL_type_S : Room := { frames := 7, cells := 1, slots := 6, locals := 103 }
set_option maxHeartbeats 4000000 in
set_option maxRecDepth 100000 in
theorem kL_type_S (l : Launch) (hnl : l.stackTraces = false) (g : GG) (x : Nat) (nw : Nat) (sn : Nat) (tk : Bool) (hs : Nat) (tx : Nat) (tr : Nat) (ch : Nat) (k : Nat) (ot : Nat) (sz : Nat) (hk : 32 ≤ k ∧ k ≤ 126) : Met l yL_type wsL_type rmL_type_S (va_Pc [.ref x, .int (nI k), .ref ot] (kPre g [cX x nw sn tk hs tx tr, cT tx ch 60] sz)) (va_Qi (fun (r : Int32) (u : Unit) => r = nI 2) (kB g (va_A [cX x nw sn tk hs tx tr, cT tx ch 60] sz) (fun u => [cX x nw sn tk hs tx tr, cT tx ch 60])) (va_A [cX x nw sn tk hs tx tr, cT tx ch 60] sz)) 1 6 (va_A [cX x nw sn tk hs tx tr, cT tx ch 60] sz) := by
  refine kMetH (hh := [(0, 9, 12, 13), (0, 9, 15, 23)]) (cc := cL_type) (maxL := 4) (ret := (some .int)) (own := RL) (by decide) rfl rfl (Nat.le_of_ble_eq_true rfl) ?_
  intro p e s m args below meth c ls Q H locs A F w hl htab hA hQ
  have hx := F.1.1
  have hb := F.1.2.1
  have hts := F.1.2.2.2.2
  have hl : lv_has ls 4 [(0, .ref x), (1, .int (nI k)), (2, .ref ot)] := hl
  refine lv_aload_n hx hb dL_type_0 rfl (lv_at hl 2 rfl) ?_
  refine lv_iconst (v := nI 0) hx hb dL_type_1 (by decide) ?_
  refine lv_aload_n hx hb dL_type_2 rfl (lv_at hl 0 rfl) ?_
  refine lv_iload_n hx hb dL_type_3 rfl (lv_at hl 1 rfl) ?_
  refine kcaught (E0 := eISE) (wc := [cX x nw sn tk hs tx tr, cT tx ch 60]) (wr := []) (wn := fun (u : Unit) => [cX x nw sn tk hs tx tr, cT tx ch 60]) F w [0, 1] [] [0, 1] rfl rfl rfl (fun _ => rfl)
    (fun hp => vx_runV (As := [.int (nI k)]) (rest := [.int (nI 0), .ref ot]) F.1 (kX5_type_S l hnl g x nw sn tk hs tx tr ch k H.size hk) (cwV 1 hts gL_type_X5_type rfl rfl rfl ⟨rfl, hd_X5_type⟩ ⟨Nat.le_of_ble_eq_true rfl, Nat.le_of_ble_eq_true rfl⟩) ⟨hp.1, va_recv F.2.2.2.1.1 w.1 (q0 := 0) (ci := 5) rfl rfl, hp.2⟩ rfl rfl hl.1 rfl (lv_room (Nat.le_of_ble_eq_true rfl)) dL_type_4 ⟨Nat.le_of_ble_eq_true rfl, Nat.le_of_ble_eq_true rfl⟩)
    [⟨0, 9, 12, 13⟩] ⟨0, 9, 15, 23⟩ [] htab (fun z hz => by rcases List.mem_cons.mp hz with rfl | hz; exact ⟨by decide, eIAE, by decide +kernel, by decide +kernel⟩; cases hz) (by decide +kernel) (by decide) (by decide +kernel) (by decide +kernel) (fun q_1 _ H locs w => ?_)
  refine lv_astore_n (lv' := [(3, .ref q_1), (0, .ref x), (1, .int (nI k)), (2, .ref ot)]) hx hb dL_type_15 rfl hl (by decide) rfl (fun ls hl => ?_)
  refine lv_iconst (v := nI 2) hx hb dL_type_16 (by decide) ?_
  subst hA
  subst hQ
  exact kreti F w () [0, 1] rfl rfl (rfl) (Nat.le_of_ble_eq_true rfl) (Nat.le_of_ble_eq_true rfl) dL_type_17
theorem hd_X5_faultPosition : yX5_faultPosition.cls ≠ "java/lang/invoke/MethodHandle" ∧ yX5_faultPosition.cls ≠ "java/lang/invoke/VarHandle" ∧ (parseMethodDescriptor yX5_faultPosition.desc).map (fun d => d.parameters.length) = some 0 := by decide +kernel
abbrev rmL_faultPosition_k : Room := { frames := 7, cells := 0, slots := 0, locals := 154 }
set_option maxHeartbeats 4000000 in
set_option maxRecDepth 100000 in
theorem kL_faultPosition_k (l : Launch) (g : GG) (x : Nat) (nw : Nat) (sn : Nat) (tk : Bool) (hs : Nat) (tx : Nat) (tr : Nat) (na : Nat) (nb : Nat) (σ : Sg) (ch : Nat) (L : Nat) (T : Nat → Int32) (tw : Nat) (od : Nat) (os : Nat) (po : Nat) (re : Nat) (ca : Nat) (ta : Nat) (tb : Nat) (τ : Sg) (vb : Int32) (n1 : Nat) (n2 : Nat) (nm : Nat) (en : Nat) (ot : Nat) (f : Nat → Int64) (sz : Nat) (hL : L ≤ 60) (hz9 : zRe T L σ ≠ 0) : Met l yL_faultPosition wsL_faultPosition rmL_faultPosition_k (va_Pc [.ref x, .ref ot] (kPre g [cX x nw sn tk hs tx tr, cR nw na nb σ, xI g na 49 (zT σ), xI g nb 49 (zI σ), cT tx ch L, xC g ch 60 T, cTr tr tw od os po re ca, cR tw ta tb τ, xI g ta 49 (zT τ), xI g tb 49 (zI τ), cO od vb n1 n2 nm en, xJ g ot 1 f] sz)) (va_Qi (fun (r : Int32) (u : Int32 × Nat × Nat × Nat × Nat) => r = nI 0) (kB g (va_A [cX x nw sn tk hs tx tr, cR nw na nb σ, xI g na 49 (zT σ), xI g nb 49 (zI σ), cT tx ch L, xC g ch 60 T, cTr tr tw od os po re ca, cR tw ta tb τ, xI g ta 49 (zT τ), xI g tb 49 (zI τ), cO od vb n1 n2 nm en, xJ g ot 1 f] sz) (fun u => [cX x nw sn tk hs tx tr, cR nw na nb σ, xI g na 49 (zT σ), xI g nb 49 (zI σ), cT tx ch L, xC g ch 60 T, cTr tr tw od (zOs T L σ) (zPo T L σ) (zRe T L σ) (zCa T L σ), cR tw ta tb (zSt T L σ), xI g ta 49 (zT (zSt T L σ)), xI g tb 49 (zI (zSt T L σ)), cO od u.1 u.2.1 u.2.2.1 u.2.2.2.1 u.2.2.2.2, xJ g ot 1 (vp_updL f 0 ((nI (zPo T L σ)).toInt64))])) (va_A [cX x nw sn tk hs tx tr, cR nw na nb σ, xI g na 49 (zT σ), xI g nb 49 (zI σ), cT tx ch L, xC g ch 60 T, cTr tr tw od os po re ca, cR tw ta tb τ, xI g ta 49 (zT τ), xI g tb 49 (zI τ), cO od vb n1 n2 nm en, xJ g ot 1 f] sz)) 0 0 (va_A [cX x nw sn tk hs tx tr, cR nw na nb σ, xI g na 49 (zT σ), xI g nb 49 (zI σ), cT tx ch L, xC g ch 60 T, cTr tr tw od os po re ca, cR tw ta tb τ, xI g ta 49 (zT τ), xI g tb 49 (zI τ), cO od vb n1 n2 nm en, xJ g ot 1 f] sz) := by
  refine kMetH (hh := [(0, 8, 11, 58)]) (cc := cL_faultPosition) (maxL := 3) (ret := (some .int)) (own := RL) (by decide) rfl rfl (Nat.le_of_ble_eq_true rfl) ?_
  intro p e s m args below meth c ls Q H locs A F w hl htab hA hQ
  have hx := F.1.1
  have hb := F.1.2.1
  have hts := F.1.2.2.2.2
  have hl : lv_has ls 3 [(0, .ref x), (1, .ref ot)] := hl
  refine lv_aload_n hx hb dL_faultPosition_0 rfl (lv_at hl 1 rfl) ?_
  refine lv_iconst (v := nI 0) hx hb dL_faultPosition_1 (by decide) ?_
  refine lv_aload_n hx hb dL_faultPosition_2 rfl (lv_at hl 0 rfl) ?_
  refine kcalli (wc := [cX x nw sn tk hs tx tr, cR nw na nb σ, xI g na 49 (zT σ), xI g nb 49 (zI σ), cT tx ch L, xC g ch 60 T, cTr tr tw od os po re ca, cR tw ta tb τ, xI g ta 49 (zT τ), xI g tb 49 (zI τ), cO od vb n1 n2 nm en]) (wr := [xJ g ot 1 f]) (wn := fun (u : Int32 × Nat × Nat × Nat × Nat) => [cX x nw sn tk hs tx tr, cR nw na nb σ, xI g na 49 (zT σ), xI g nb 49 (zI σ), cT tx ch L, xC g ch 60 T, cTr tr tw od (zOs T L σ) (zPo T L σ) (zRe T L σ) (zCa T L σ), cR tw ta tb (zSt T L σ), xI g ta 49 (zT (zSt T L σ)), xI g tb 49 (zI (zSt T L σ)), cO od u.1 u.2.1 u.2.2.1 u.2.2.2.1 u.2.2.2.2, xJ g ot 1 f]) F w [0, 1, 2, 3, 4, 5, 6, 7, 8, 9, 10] [11] [1, 2, 3, 4, 5, 6, 7, 8, 9, 10, 11, 0] rfl rfl rfl (fun _ => rfl)
    (fun hp => va_runV (As := []) (rest := [.int (nI 0), .ref ot]) F.1 (kX5_faultPosition_k l g x nw sn tk hs tx tr na nb σ ch L T tw od os po re ca ta tb τ vb n1 n2 nm en H.size hL hz9) (cwV 0 hts gL_faultPosition_X5_faultPosition rfl rfl rfl ⟨rfl, hd_X5_faultPosition⟩ ⟨Nat.le_of_ble_eq_true rfl, Nat.le_of_ble_eq_true rfl⟩) ⟨hp.1, va_recv F.2.2.2.1.1 w.1 (q0 := 0) (ci := 5) rfl rfl, hp.2⟩ rfl rfl hl.1 rfl (lv_room (Nat.le_of_ble_eq_true rfl)) dL_faultPosition_3 ⟨Nat.le_of_ble_eq_true rfl, Nat.le_of_ble_eq_true rfl⟩)
    (fun r_1 u H locs h_2 w => ?_)
  try dsimp only at h_2
  obtain ⟨u_3, hu9⟩ : ∃ z, z = u := ⟨_, rfl⟩
  subst hu9
  have w : kW g A s [cX x nw sn tk hs tx tr, cR nw na nb σ, xI g na 49 (zT σ), xI g nb 49 (zI σ), cT tx ch L, xC g ch 60 T, cTr tr tw od (zOs T L σ) (zPo T L σ) (zRe T L σ) (zCa T L σ), cR tw ta tb (zSt T L σ), xI g ta 49 (zT (zSt T L σ)), xI g tb 49 (zI (zSt T L σ)), cO od u_3.1 u_3.2.1 u_3.2.2.1 u_3.2.2.2.1 u_3.2.2.2.2, xJ g ot 1 f] H locs := w
  subst h_2
  refine lv_i2l hx hb dL_faultPosition_6 rfl ?_
  refine klast (f' := vp_updL f 0 ((nI (zPo T L σ)).toInt64)) F w 11 rfl (vp_in_nI (by omega) (by omega)) (congrArg (fun z => vp_updL f z ((nI (zPo T L σ)).toInt64)) (nI_clamp (n := 0) (by omega))) (wn := [cX x nw sn tk hs tx tr, cR nw na nb σ, xI g na 49 (zT σ), xI g nb 49 (zI σ), cT tx ch L, xC g ch 60 T, cTr tr tw od (zOs T L σ) (zPo T L σ) (zRe T L σ) (zCa T L σ), cR tw ta tb (zSt T L σ), xI g ta 49 (zT (zSt T L σ)), xI g tb 49 (zI (zSt T L σ)), cO od u_3.1 u_3.2.1 u_3.2.2.1 u_3.2.2.2.1 u_3.2.2.2.2, xJ g ot 1 (vp_updL f 0 ((nI (zPo T L σ)).toInt64))]) rfl dL_faultPosition_7 (fun H locs w => ?_)
  refine lv_goto (tgt := 14) hx hb dL_faultPosition_8 (by decide) ?_
  refine lv_iconst (v := nI 0) hx hb dL_faultPosition_14 (by decide) ?_
  subst hA
  subst hQ
  exact kreti F w u_3 [0, 1, 2, 3, 4, 5, 6, 7, 8, 9, 10, 11] rfl rfl (rfl) (Nat.le_of_ble_eq_true rfl) (Nat.le_of_ble_eq_true rfl) dL_faultPosition_15
abbrev rmL_faultPosition_N : Room := { frames := 7, cells := 1, slots := 6, locals := 154 }
set_option maxHeartbeats 4000000 in
set_option maxRecDepth 100000 in
theorem kL_faultPosition_N (l : Launch) (hnl : l.stackTraces = false) (g : GG) (x : Nat) (nw : Nat) (sn : Nat) (tk : Bool) (hs : Nat) (tx : Nat) (tr : Nat) (na : Nat) (nb : Nat) (σ : Sg) (ch : Nat) (L : Nat) (T : Nat → Int32) (tw : Nat) (od : Nat) (os : Nat) (po : Nat) (re : Nat) (ca : Nat) (ta : Nat) (tb : Nat) (τ : Sg) (vb : Int32) (n1 : Nat) (n2 : Nat) (nm : Nat) (en : Nat) (ot : Nat) (sz : Nat) (hL : L ≤ 60) (hz9 : zRe T L σ = 0) : Met l yL_faultPosition wsL_faultPosition rmL_faultPosition_N (va_Pc [.ref x, .ref ot] (kPre g [cX x nw sn tk hs tx tr, cR nw na nb σ, xI g na 49 (zT σ), xI g nb 49 (zI σ), cT tx ch L, xC g ch 60 T, cTr tr tw od os po re ca, cR tw ta tb τ, xI g ta 49 (zT τ), xI g tb 49 (zI τ), cO od vb n1 n2 nm en] sz)) (va_Qi (fun (r : Int32) (u : Int32 × Nat × Nat × Nat × Nat) => r = nI 1) (kB g (va_A [cX x nw sn tk hs tx tr, cR nw na nb σ, xI g na 49 (zT σ), xI g nb 49 (zI σ), cT tx ch L, xC g ch 60 T, cTr tr tw od os po re ca, cR tw ta tb τ, xI g ta 49 (zT τ), xI g tb 49 (zI τ), cO od vb n1 n2 nm en] sz) (fun u => [cX x nw sn tk hs tx tr, cR nw na nb σ, xI g na 49 (zT σ), xI g nb 49 (zI σ), cT tx ch L, xC g ch 60 T, cTr tr tw od (zOs T L σ) (zPo T L σ) (zRe T L σ) (zCa T L σ), cR tw ta tb (zSt T L σ), xI g ta 49 (zT (zSt T L σ)), xI g tb 49 (zI (zSt T L σ)), cO od u.1 u.2.1 u.2.2.1 u.2.2.2.1 u.2.2.2.2])) (va_A [cX x nw sn tk hs tx tr, cR nw na nb σ, xI g na 49 (zT σ), xI g nb 49 (zI σ), cT tx ch L, xC g ch 60 T, cTr tr tw od os po re ca, cR tw ta tb τ, xI g ta 49 (zT τ), xI g tb 49 (zI τ), cO od vb n1 n2 nm en] sz)) 1 6 (va_A [cX x nw sn tk hs tx tr, cR nw na nb σ, xI g na 49 (zT σ), xI g nb 49 (zI σ), cT tx ch L, xC g ch 60 T, cTr tr tw od os po re ca, cR tw ta tb τ, xI g ta 49 (zT τ), xI g tb 49 (zI τ), cO od vb n1 n2 nm en] sz) := by
  refine kMetH (hh := [(0, 8, 11, 58)]) (cc := cL_faultPosition) (maxL := 3) (ret := (some .int)) (own := RL) (by decide) rfl rfl (Nat.le_of_ble_eq_true rfl) ?_
  intro p e s m args below meth c ls Q H locs A F w hl htab hA hQ
  have hx := F.1.1
  have hb := F.1.2.1
  have hts := F.1.2.2.2.2
  have hl : lv_has ls 3 [(0, .ref x), (1, .ref ot)] := hl
  refine lv_aload_n hx hb dL_faultPosition_0 rfl (lv_at hl 1 rfl) ?_
  refine lv_iconst (v := nI 0) hx hb dL_faultPosition_1 (by decide) ?_
  refine lv_aload_n hx hb dL_faultPosition_2 rfl (lv_at hl 0 rfl) ?_
  refine kcaught (E0 := eNSE) (wc := [cX x nw sn tk hs tx tr, cR nw na nb σ, xI g na 49 (zT σ), xI g nb 49 (zI σ), cT tx ch L, xC g ch 60 T, cTr tr tw od os po re ca, cR tw ta tb τ, xI g ta 49 (zT τ), xI g tb 49 (zI τ), cO od vb n1 n2 nm en]) (wr := []) (wn := fun (u : Int32 × Nat × Nat × Nat × Nat) => [cX x nw sn tk hs tx tr, cR nw na nb σ, xI g na 49 (zT σ), xI g nb 49 (zI σ), cT tx ch L, xC g ch 60 T, cTr tr tw od (zOs T L σ) (zPo T L σ) (zRe T L σ) (zCa T L σ), cR tw ta tb (zSt T L σ), xI g ta 49 (zT (zSt T L σ)), xI g tb 49 (zI (zSt T L σ)), cO od u.1 u.2.1 u.2.2.1 u.2.2.2.1 u.2.2.2.2]) F w [0, 1, 2, 3, 4, 5, 6, 7, 8, 9, 10] [] [0, 1, 2, 3, 4, 5, 6, 7, 8, 9, 10] rfl rfl rfl (fun _ => rfl)
    (fun hp => vx_runV (As := []) (rest := [.int (nI 0), .ref ot]) F.1 (kX5_faultPosition_N l hnl g x nw sn tk hs tx tr na nb σ ch L T tw od os po re ca ta tb τ vb n1 n2 nm en H.size hL hz9) (cwV 0 hts gL_faultPosition_X5_faultPosition rfl rfl rfl ⟨rfl, hd_X5_faultPosition⟩ ⟨Nat.le_of_ble_eq_true rfl, Nat.le_of_ble_eq_true rfl⟩) ⟨hp.1, va_recv F.2.2.2.1.1 w.1 (q0 := 0) (ci := 5) rfl rfl, hp.2⟩ rfl rfl hl.1 rfl (lv_room (Nat.le_of_ble_eq_true rfl)) dL_faultPosition_3 ⟨Nat.le_of_ble_eq_true rfl, Nat.le_of_ble_eq_true rfl⟩)
    [] ⟨0, 8, 11, 58⟩ [] htab (fun z hz => nomatch hz) (by decide +kernel) (by decide) (by decide +kernel) (by decide +kernel) (fun q_1 u H locs w => ?_)
  obtain ⟨u_2, hu9⟩ : ∃ z, z = u := ⟨_, rfl⟩
  subst hu9
  have w : kW g A s [cX x nw sn tk hs tx tr, cR nw na nb σ, xI g na 49 (zT σ), xI g nb 49 (zI σ), cT tx ch L, xC g ch 60 T, cTr tr tw od (zOs T L σ) (zPo T L σ) (zRe T L σ) (zCa T L σ), cR tw ta tb (zSt T L σ), xI g ta 49 (zT (zSt T L σ)), xI g tb 49 (zI (zSt T L σ)), cO od u_2.1 u_2.2.1 u_2.2.2.1 u_2.2.2.2.1 u_2.2.2.2.2] H locs := w
  refine lv_astore_n (lv' := [(2, .ref q_1), (0, .ref x), (1, .ref ot)]) hx hb dL_faultPosition_11 rfl hl (by decide) rfl (fun ls hl => ?_)
  refine lv_iconst (v := nI 1) hx hb dL_faultPosition_12 (by decide) ?_
  subst hA
  subst hQ
  exact kreti F w u_2 [0, 1, 2, 3, 4, 5, 6, 7, 8, 9, 10] rfl rfl (rfl) (Nat.le_of_ble_eq_true rfl) (Nat.le_of_ble_eq_true rfl) dL_faultPosition_13
theorem hd_X5_faultReason : yX5_faultReason.cls ≠ "java/lang/invoke/MethodHandle" ∧ yX5_faultReason.cls ≠ "java/lang/invoke/VarHandle" ∧ (parseMethodDescriptor yX5_faultReason.desc).map (fun d => d.parameters.length) = some 0 := by decide +kernel
abbrev rmL_faultReason_k : Room := { frames := 7, cells := 0, slots := 0, locals := 154 }
set_option maxHeartbeats 4000000 in
set_option maxRecDepth 100000 in
theorem kL_faultReason_k (l : Launch) (g : GG) (x : Nat) (nw : Nat) (sn : Nat) (tk : Bool) (hs : Nat) (tx : Nat) (tr : Nat) (na : Nat) (nb : Nat) (σ : Sg) (ch : Nat) (L : Nat) (T : Nat → Int32) (tw : Nat) (od : Nat) (os : Nat) (po : Nat) (re : Nat) (ca : Nat) (ta : Nat) (tb : Nat) (τ : Sg) (vb : Int32) (n1 : Nat) (n2 : Nat) (nm : Nat) (en : Nat) (ot : Nat) (f : Nat → Int64) (sz : Nat) (hL : L ≤ 60) (hz9 : zRe T L σ ≠ 0) : Met l yL_faultReason wsL_faultReason rmL_faultReason_k (va_Pc [.ref x, .ref ot] (kPre g [cX x nw sn tk hs tx tr, cR nw na nb σ, xI g na 49 (zT σ), xI g nb 49 (zI σ), cT tx ch L, xC g ch 60 T, cTr tr tw od os po re ca, cR tw ta tb τ, xI g ta 49 (zT τ), xI g tb 49 (zI τ), cO od vb n1 n2 nm en, xJ g ot 1 f] sz)) (va_Qi (fun (r : Int32) (u : Int32 × Nat × Nat × Nat × Nat) => r = nI 0) (kB g (va_A [cX x nw sn tk hs tx tr, cR nw na nb σ, xI g na 49 (zT σ), xI g nb 49 (zI σ), cT tx ch L, xC g ch 60 T, cTr tr tw od os po re ca, cR tw ta tb τ, xI g ta 49 (zT τ), xI g tb 49 (zI τ), cO od vb n1 n2 nm en, xJ g ot 1 f] sz) (fun u => [cX x nw sn tk hs tx tr, cR nw na nb σ, xI g na 49 (zT σ), xI g nb 49 (zI σ), cT tx ch L, xC g ch 60 T, cTr tr tw od (zOs T L σ) (zPo T L σ) (zRe T L σ) (zCa T L σ), cR tw ta tb (zSt T L σ), xI g ta 49 (zT (zSt T L σ)), xI g tb 49 (zI (zSt T L σ)), cO od u.1 u.2.1 u.2.2.1 u.2.2.2.1 u.2.2.2.2, xJ g ot 1 (vp_updL f 0 ((nI (zRe T L σ)).toInt64))])) (va_A [cX x nw sn tk hs tx tr, cR nw na nb σ, xI g na 49 (zT σ), xI g nb 49 (zI σ), cT tx ch L, xC g ch 60 T, cTr tr tw od os po re ca, cR tw ta tb τ, xI g ta 49 (zT τ), xI g tb 49 (zI τ), cO od vb n1 n2 nm en, xJ g ot 1 f] sz)) 0 0 (va_A [cX x nw sn tk hs tx tr, cR nw na nb σ, xI g na 49 (zT σ), xI g nb 49 (zI σ), cT tx ch L, xC g ch 60 T, cTr tr tw od os po re ca, cR tw ta tb τ, xI g ta 49 (zT τ), xI g tb 49 (zI τ), cO od vb n1 n2 nm en, xJ g ot 1 f] sz) := by
  refine kMetH (hh := [(0, 8, 11, 58)]) (cc := cL_faultReason) (maxL := 3) (ret := (some .int)) (own := RL) (by decide) rfl rfl (Nat.le_of_ble_eq_true rfl) ?_
  intro p e s m args below meth c ls Q H locs A F w hl htab hA hQ
  have hx := F.1.1
  have hb := F.1.2.1
  have hts := F.1.2.2.2.2
  have hl : lv_has ls 3 [(0, .ref x), (1, .ref ot)] := hl
  refine lv_aload_n hx hb dL_faultReason_0 rfl (lv_at hl 1 rfl) ?_
  refine lv_iconst (v := nI 0) hx hb dL_faultReason_1 (by decide) ?_
  refine lv_aload_n hx hb dL_faultReason_2 rfl (lv_at hl 0 rfl) ?_
  refine kcalli (wc := [cX x nw sn tk hs tx tr, cR nw na nb σ, xI g na 49 (zT σ), xI g nb 49 (zI σ), cT tx ch L, xC g ch 60 T, cTr tr tw od os po re ca, cR tw ta tb τ, xI g ta 49 (zT τ), xI g tb 49 (zI τ), cO od vb n1 n2 nm en]) (wr := [xJ g ot 1 f]) (wn := fun (u : Int32 × Nat × Nat × Nat × Nat) => [cX x nw sn tk hs tx tr, cR nw na nb σ, xI g na 49 (zT σ), xI g nb 49 (zI σ), cT tx ch L, xC g ch 60 T, cTr tr tw od (zOs T L σ) (zPo T L σ) (zRe T L σ) (zCa T L σ), cR tw ta tb (zSt T L σ), xI g ta 49 (zT (zSt T L σ)), xI g tb 49 (zI (zSt T L σ)), cO od u.1 u.2.1 u.2.2.1 u.2.2.2.1 u.2.2.2.2, xJ g ot 1 f]) F w [0, 1, 2, 3, 4, 5, 6, 7, 8, 9, 10] [11] [1, 2, 3, 4, 5, 6, 7, 8, 9, 10, 11, 0] rfl rfl rfl (fun _ => rfl)
    (fun hp => va_runV (As := []) (rest := [.int (nI 0), .ref ot]) F.1 (kX5_faultReason_k l g x nw sn tk hs tx tr na nb σ ch L T tw od os po re ca ta tb τ vb n1 n2 nm en H.size hL hz9) (cwV 0 hts gL_faultReason_X5_faultReason rfl rfl rfl ⟨rfl, hd_X5_faultReason⟩ ⟨Nat.le_of_ble_eq_true rfl, Nat.le_of_ble_eq_true rfl⟩) ⟨hp.1, va_recv F.2.2.2.1.1 w.1 (q0 := 0) (ci := 5) rfl rfl, hp.2⟩ rfl rfl hl.1 rfl (lv_room (Nat.le_of_ble_eq_true rfl)) dL_faultReason_3 ⟨Nat.le_of_ble_eq_true rfl, Nat.le_of_ble_eq_true rfl⟩)
    (fun r_1 u H locs h_2 w => ?_)
  try dsimp only at h_2
  obtain ⟨u_3, hu9⟩ : ∃ z, z = u := ⟨_, rfl⟩
  subst hu9
  have w : kW g A s [cX x nw sn tk hs tx tr, cR nw na nb σ, xI g na 49 (zT σ), xI g nb 49 (zI σ), cT tx ch L, xC g ch 60 T, cTr tr tw od (zOs T L σ) (zPo T L σ) (zRe T L σ) (zCa T L σ), cR tw ta tb (zSt T L σ), xI g ta 49 (zT (zSt T L σ)), xI g tb 49 (zI (zSt T L σ)), cO od u_3.1 u_3.2.1 u_3.2.2.1 u_3.2.2.2.1 u_3.2.2.2.2, xJ g ot 1 f] H locs := w
  subst h_2
  refine lv_i2l hx hb dL_faultReason_6 rfl ?_
  refine klast (f' := vp_updL f 0 ((nI (zRe T L σ)).toInt64)) F w 11 rfl (vp_in_nI (by omega) (by omega)) (congrArg (fun z => vp_updL f z ((nI (zRe T L σ)).toInt64)) (nI_clamp (n := 0) (by omega))) (wn := [cX x nw sn tk hs tx tr, cR nw na nb σ, xI g na 49 (zT σ), xI g nb 49 (zI σ), cT tx ch L, xC g ch 60 T, cTr tr tw od (zOs T L σ) (zPo T L σ) (zRe T L σ) (zCa T L σ), cR tw ta tb (zSt T L σ), xI g ta 49 (zT (zSt T L σ)), xI g tb 49 (zI (zSt T L σ)), cO od u_3.1 u_3.2.1 u_3.2.2.1 u_3.2.2.2.1 u_3.2.2.2.2, xJ g ot 1 (vp_updL f 0 ((nI (zRe T L σ)).toInt64))]) rfl dL_faultReason_7 (fun H locs w => ?_)
  refine lv_goto (tgt := 14) hx hb dL_faultReason_8 (by decide) ?_
  refine lv_iconst (v := nI 0) hx hb dL_faultReason_14 (by decide) ?_
  subst hA
  subst hQ
  exact kreti F w u_3 [0, 1, 2, 3, 4, 5, 6, 7, 8, 9, 10, 11] rfl rfl (rfl) (Nat.le_of_ble_eq_true rfl) (Nat.le_of_ble_eq_true rfl) dL_faultReason_15
abbrev rmL_faultReason_N : Room := { frames := 7, cells := 1, slots := 6, locals := 154 }
set_option maxHeartbeats 4000000 in
set_option maxRecDepth 100000 in
theorem kL_faultReason_N (l : Launch) (hnl : l.stackTraces = false) (g : GG) (x : Nat) (nw : Nat) (sn : Nat) (tk : Bool) (hs : Nat) (tx : Nat) (tr : Nat) (na : Nat) (nb : Nat) (σ : Sg) (ch : Nat) (L : Nat) (T : Nat → Int32) (tw : Nat) (od : Nat) (os : Nat) (po : Nat) (re : Nat) (ca : Nat) (ta : Nat) (tb : Nat) (τ : Sg) (vb : Int32) (n1 : Nat) (n2 : Nat) (nm : Nat) (en : Nat) (ot : Nat) (sz : Nat) (hL : L ≤ 60) (hz9 : zRe T L σ = 0) : Met l yL_faultReason wsL_faultReason rmL_faultReason_N (va_Pc [.ref x, .ref ot] (kPre g [cX x nw sn tk hs tx tr, cR nw na nb σ, xI g na 49 (zT σ), xI g nb 49 (zI σ), cT tx ch L, xC g ch 60 T, cTr tr tw od os po re ca, cR tw ta tb τ, xI g ta 49 (zT τ), xI g tb 49 (zI τ), cO od vb n1 n2 nm en] sz)) (va_Qi (fun (r : Int32) (u : Int32 × Nat × Nat × Nat × Nat) => r = nI 1) (kB g (va_A [cX x nw sn tk hs tx tr, cR nw na nb σ, xI g na 49 (zT σ), xI g nb 49 (zI σ), cT tx ch L, xC g ch 60 T, cTr tr tw od os po re ca, cR tw ta tb τ, xI g ta 49 (zT τ), xI g tb 49 (zI τ), cO od vb n1 n2 nm en] sz) (fun u => [cX x nw sn tk hs tx tr, cR nw na nb σ, xI g na 49 (zT σ), xI g nb 49 (zI σ), cT tx ch L, xC g ch 60 T, cTr tr tw od (zOs T L σ) (zPo T L σ) (zRe T L σ) (zCa T L σ), cR tw ta tb (zSt T L σ), xI g ta 49 (zT (zSt T L σ)), xI g tb 49 (zI (zSt T L σ)), cO od u.1 u.2.1 u.2.2.1 u.2.2.2.1 u.2.2.2.2])) (va_A [cX x nw sn tk hs tx tr, cR nw na nb σ, xI g na 49 (zT σ), xI g nb 49 (zI σ), cT tx ch L, xC g ch 60 T, cTr tr tw od os po re ca, cR tw ta tb τ, xI g ta 49 (zT τ), xI g tb 49 (zI τ), cO od vb n1 n2 nm en] sz)) 1 6 (va_A [cX x nw sn tk hs tx tr, cR nw na nb σ, xI g na 49 (zT σ), xI g nb 49 (zI σ), cT tx ch L, xC g ch 60 T, cTr tr tw od os po re ca, cR tw ta tb τ, xI g ta 49 (zT τ), xI g tb 49 (zI τ), cO od vb n1 n2 nm en] sz) := by
  refine kMetH (hh := [(0, 8, 11, 58)]) (cc := cL_faultReason) (maxL := 3) (ret := (some .int)) (own := RL) (by decide) rfl rfl (Nat.le_of_ble_eq_true rfl) ?_
  intro p e s m args below meth c ls Q H locs A F w hl htab hA hQ
  have hx := F.1.1
  have hb := F.1.2.1
  have hts := F.1.2.2.2.2
  have hl : lv_has ls 3 [(0, .ref x), (1, .ref ot)] := hl
  refine lv_aload_n hx hb dL_faultReason_0 rfl (lv_at hl 1 rfl) ?_
  refine lv_iconst (v := nI 0) hx hb dL_faultReason_1 (by decide) ?_
  refine lv_aload_n hx hb dL_faultReason_2 rfl (lv_at hl 0 rfl) ?_
  refine kcaught (E0 := eNSE) (wc := [cX x nw sn tk hs tx tr, cR nw na nb σ, xI g na 49 (zT σ), xI g nb 49 (zI σ), cT tx ch L, xC g ch 60 T, cTr tr tw od os po re ca, cR tw ta tb τ, xI g ta 49 (zT τ), xI g tb 49 (zI τ), cO od vb n1 n2 nm en]) (wr := []) (wn := fun (u : Int32 × Nat × Nat × Nat × Nat) => [cX x nw sn tk hs tx tr, cR nw na nb σ, xI g na 49 (zT σ), xI g nb 49 (zI σ), cT tx ch L, xC g ch 60 T, cTr tr tw od (zOs T L σ) (zPo T L σ) (zRe T L σ) (zCa T L σ), cR tw ta tb (zSt T L σ), xI g ta 49 (zT (zSt T L σ)), xI g tb 49 (zI (zSt T L σ)), cO od u.1 u.2.1 u.2.2.1 u.2.2.2.1 u.2.2.2.2]) F w [0, 1, 2, 3, 4, 5, 6, 7, 8, 9, 10] [] [0, 1, 2, 3, 4, 5, 6, 7, 8, 9, 10] rfl rfl rfl (fun _ => rfl)
    (fun hp => vx_runV (As := []) (rest := [.int (nI 0), .ref ot]) F.1 (kX5_faultReason_N l hnl g x nw sn tk hs tx tr na nb σ ch L T tw od os po re ca ta tb τ vb n1 n2 nm en H.size hL hz9) (cwV 0 hts gL_faultReason_X5_faultReason rfl rfl rfl ⟨rfl, hd_X5_faultReason⟩ ⟨Nat.le_of_ble_eq_true rfl, Nat.le_of_ble_eq_true rfl⟩) ⟨hp.1, va_recv F.2.2.2.1.1 w.1 (q0 := 0) (ci := 5) rfl rfl, hp.2⟩ rfl rfl hl.1 rfl (lv_room (Nat.le_of_ble_eq_true rfl)) dL_faultReason_3 ⟨Nat.le_of_ble_eq_true rfl, Nat.le_of_ble_eq_true rfl⟩)
    [] ⟨0, 8, 11, 58⟩ [] htab (fun z hz => nomatch hz) (by decide +kernel) (by decide) (by decide +kernel) (by decide +kernel) (fun q_1 u H locs w => ?_)
  obtain ⟨u_2, hu9⟩ : ∃ z, z = u := ⟨_, rfl⟩
  subst hu9
  have w : kW g A s [cX x nw sn tk hs tx tr, cR nw na nb σ, xI g na 49 (zT σ), xI g nb 49 (zI σ), cT tx ch L, xC g ch 60 T, cTr tr tw od (zOs T L σ) (zPo T L σ) (zRe T L σ) (zCa T L σ), cR tw ta tb (zSt T L σ), xI g ta 49 (zT (zSt T L σ)), xI g tb 49 (zI (zSt T L σ)), cO od u_2.1 u_2.2.1 u_2.2.2.1 u_2.2.2.2.1 u_2.2.2.2.2] H locs := w
  refine lv_astore_n (lv' := [(2, .ref q_1), (0, .ref x), (1, .ref ot)]) hx hb dL_faultReason_11 rfl hl (by decide) rfl (fun ls hl => ?_)
  refine lv_iconst (v := nI 1) hx hb dL_faultReason_12 (by decide) ?_
  subst hA
  subst hQ
  exact kreti F w u_2 [0, 1, 2, 3, 4, 5, 6, 7, 8, 9, 10] rfl rfl (rfl) (Nat.le_of_ble_eq_true rfl) (Nat.le_of_ble_eq_true rfl) dL_faultReason_13
theorem hd_X5_faultCause : yX5_faultCause.cls ≠ "java/lang/invoke/MethodHandle" ∧ yX5_faultCause.cls ≠ "java/lang/invoke/VarHandle" ∧ (parseMethodDescriptor yX5_faultCause.desc).map (fun d => d.parameters.length) = some 0 := by decide +kernel
abbrev rmL_faultCause_k : Room := { frames := 7, cells := 0, slots := 0, locals := 154 }
set_option maxHeartbeats 4000000 in
set_option maxRecDepth 100000 in
theorem kL_faultCause_k (l : Launch) (g : GG) (x : Nat) (nw : Nat) (sn : Nat) (tk : Bool) (hs : Nat) (tx : Nat) (tr : Nat) (na : Nat) (nb : Nat) (σ : Sg) (ch : Nat) (L : Nat) (T : Nat → Int32) (tw : Nat) (od : Nat) (os : Nat) (po : Nat) (re : Nat) (ca : Nat) (ta : Nat) (tb : Nat) (τ : Sg) (vb : Int32) (n1 : Nat) (n2 : Nat) (nm : Nat) (en : Nat) (ot : Nat) (f : Nat → Int64) (sz : Nat) (hL : L ≤ 60) (hz9 : zRe T L σ ≠ 0) : Met l yL_faultCause wsL_faultCause rmL_faultCause_k (va_Pc [.ref x, .ref ot] (kPre g [cX x nw sn tk hs tx tr, cR nw na nb σ, xI g na 49 (zT σ), xI g nb 49 (zI σ), cT tx ch L, xC g ch 60 T, cTr tr tw od os po re ca, cR tw ta tb τ, xI g ta 49 (zT τ), xI g tb 49 (zI τ), cO od vb n1 n2 nm en, xJ g ot 1 f] sz)) (va_Qi (fun (r : Int32) (u : Int32 × Nat × Nat × Nat × Nat) => r = nI 0) (kB g (va_A [cX x nw sn tk hs tx tr, cR nw na nb σ, xI g na 49 (zT σ), xI g nb 49 (zI σ), cT tx ch L, xC g ch 60 T, cTr tr tw od os po re ca, cR tw ta tb τ, xI g ta 49 (zT τ), xI g tb 49 (zI τ), cO od vb n1 n2 nm en, xJ g ot 1 f] sz) (fun u => [cX x nw sn tk hs tx tr, cR nw na nb σ, xI g na 49 (zT σ), xI g nb 49 (zI σ), cT tx ch L, xC g ch 60 T, cTr tr tw od (zOs T L σ) (zPo T L σ) (zRe T L σ) (zCa T L σ), cR tw ta tb (zSt T L σ), xI g ta 49 (zT (zSt T L σ)), xI g tb 49 (zI (zSt T L σ)), cO od u.1 u.2.1 u.2.2.1 u.2.2.2.1 u.2.2.2.2, xJ g ot 1 (vp_updL f 0 ((nI (zCa T L σ)).toInt64))])) (va_A [cX x nw sn tk hs tx tr, cR nw na nb σ, xI g na 49 (zT σ), xI g nb 49 (zI σ), cT tx ch L, xC g ch 60 T, cTr tr tw od os po re ca, cR tw ta tb τ, xI g ta 49 (zT τ), xI g tb 49 (zI τ), cO od vb n1 n2 nm en, xJ g ot 1 f] sz)) 0 0 (va_A [cX x nw sn tk hs tx tr, cR nw na nb σ, xI g na 49 (zT σ), xI g nb 49 (zI σ), cT tx ch L, xC g ch 60 T, cTr tr tw od os po re ca, cR tw ta tb τ, xI g ta 49 (zT τ), xI g tb 49 (zI τ), cO od vb n1 n2 nm en, xJ g ot 1 f] sz) := by
  refine kMetH (hh := [(0, 8, 11, 58)]) (cc := cL_faultCause) (maxL := 3) (ret := (some .int)) (own := RL) (by decide) rfl rfl (Nat.le_of_ble_eq_true rfl) ?_
  intro p e s m args below meth c ls Q H locs A F w hl htab hA hQ
  have hx := F.1.1
  have hb := F.1.2.1
  have hts := F.1.2.2.2.2
  have hl : lv_has ls 3 [(0, .ref x), (1, .ref ot)] := hl
  refine lv_aload_n hx hb dL_faultCause_0 rfl (lv_at hl 1 rfl) ?_
  refine lv_iconst (v := nI 0) hx hb dL_faultCause_1 (by decide) ?_
  refine lv_aload_n hx hb dL_faultCause_2 rfl (lv_at hl 0 rfl) ?_
  refine kcalli (wc := [cX x nw sn tk hs tx tr, cR nw na nb σ, xI g na 49 (zT σ), xI g nb 49 (zI σ), cT tx ch L, xC g ch 60 T, cTr tr tw od os po re ca, cR tw ta tb τ, xI g ta 49 (zT τ), xI g tb 49 (zI τ), cO od vb n1 n2 nm en]) (wr := [xJ g ot 1 f]) (wn := fun (u : Int32 × Nat × Nat × Nat × Nat) => [cX x nw sn tk hs tx tr, cR nw na nb σ, xI g na 49 (zT σ), xI g nb 49 (zI σ), cT tx ch L, xC g ch 60 T, cTr tr tw od (zOs T L σ) (zPo T L σ) (zRe T L σ) (zCa T L σ), cR tw ta tb (zSt T L σ), xI g ta 49 (zT (zSt T L σ)), xI g tb 49 (zI (zSt T L σ)), cO od u.1 u.2.1 u.2.2.1 u.2.2.2.1 u.2.2.2.2, xJ g ot 1 f]) F w [0, 1, 2, 3, 4, 5, 6, 7, 8, 9, 10] [11] [1, 2, 3, 4, 5, 6, 7, 8, 9, 10, 11, 0] rfl rfl rfl (fun _ => rfl)
    (fun hp => va_runV (As := []) (rest := [.int (nI 0), .ref ot]) F.1 (kX5_faultCause_k l g x nw sn tk hs tx tr na nb σ ch L T tw od os po re ca ta tb τ vb n1 n2 nm en H.size hL hz9) (cwV 0 hts gL_faultCause_X5_faultCause rfl rfl rfl ⟨rfl, hd_X5_faultCause⟩ ⟨Nat.le_of_ble_eq_true rfl, Nat.le_of_ble_eq_true rfl⟩) ⟨hp.1, va_recv F.2.2.2.1.1 w.1 (q0 := 0) (ci := 5) rfl rfl, hp.2⟩ rfl rfl hl.1 rfl (lv_room (Nat.le_of_ble_eq_true rfl)) dL_faultCause_3 ⟨Nat.le_of_ble_eq_true rfl, Nat.le_of_ble_eq_true rfl⟩)
    (fun r_1 u H locs h_2 w => ?_)
  try dsimp only at h_2
  obtain ⟨u_3, hu9⟩ : ∃ z, z = u := ⟨_, rfl⟩
  subst hu9
  have w : kW g A s [cX x nw sn tk hs tx tr, cR nw na nb σ, xI g na 49 (zT σ), xI g nb 49 (zI σ), cT tx ch L, xC g ch 60 T, cTr tr tw od (zOs T L σ) (zPo T L σ) (zRe T L σ) (zCa T L σ), cR tw ta tb (zSt T L σ), xI g ta 49 (zT (zSt T L σ)), xI g tb 49 (zI (zSt T L σ)), cO od u_3.1 u_3.2.1 u_3.2.2.1 u_3.2.2.2.1 u_3.2.2.2.2, xJ g ot 1 f] H locs := w
  subst h_2
  refine lv_i2l hx hb dL_faultCause_6 rfl ?_
  refine klast (f' := vp_updL f 0 ((nI (zCa T L σ)).toInt64)) F w 11 rfl (vp_in_nI (by omega) (by omega)) (congrArg (fun z => vp_updL f z ((nI (zCa T L σ)).toInt64)) (nI_clamp (n := 0) (by omega))) (wn := [cX x nw sn tk hs tx tr, cR nw na nb σ, xI g na 49 (zT σ), xI g nb 49 (zI σ), cT tx ch L, xC g ch 60 T, cTr tr tw od (zOs T L σ) (zPo T L σ) (zRe T L σ) (zCa T L σ), cR tw ta tb (zSt T L σ), xI g ta 49 (zT (zSt T L σ)), xI g tb 49 (zI (zSt T L σ)), cO od u_3.1 u_3.2.1 u_3.2.2.1 u_3.2.2.2.1 u_3.2.2.2.2, xJ g ot 1 (vp_updL f 0 ((nI (zCa T L σ)).toInt64))]) rfl dL_faultCause_7 (fun H locs w => ?_)
  refine lv_goto (tgt := 14) hx hb dL_faultCause_8 (by decide) ?_
  refine lv_iconst (v := nI 0) hx hb dL_faultCause_14 (by decide) ?_
  subst hA
  subst hQ
  exact kreti F w u_3 [0, 1, 2, 3, 4, 5, 6, 7, 8, 9, 10, 11] rfl rfl (rfl) (Nat.le_of_ble_eq_true rfl) (Nat.le_of_ble_eq_true rfl) dL_faultCause_15
abbrev rmL_faultCause_N : Room := { frames := 7, cells := 1, slots := 6, locals := 154 }
set_option maxHeartbeats 4000000 in
set_option maxRecDepth 100000 in
theorem kL_faultCause_N (l : Launch) (hnl : l.stackTraces = false) (g : GG) (x : Nat) (nw : Nat) (sn : Nat) (tk : Bool) (hs : Nat) (tx : Nat) (tr : Nat) (na : Nat) (nb : Nat) (σ : Sg) (ch : Nat) (L : Nat) (T : Nat → Int32) (tw : Nat) (od : Nat) (os : Nat) (po : Nat) (re : Nat) (ca : Nat) (ta : Nat) (tb : Nat) (τ : Sg) (vb : Int32) (n1 : Nat) (n2 : Nat) (nm : Nat) (en : Nat) (ot : Nat) (sz : Nat) (hL : L ≤ 60) (hz9 : zRe T L σ = 0) : Met l yL_faultCause wsL_faultCause rmL_faultCause_N (va_Pc [.ref x, .ref ot] (kPre g [cX x nw sn tk hs tx tr, cR nw na nb σ, xI g na 49 (zT σ), xI g nb 49 (zI σ), cT tx ch L, xC g ch 60 T, cTr tr tw od os po re ca, cR tw ta tb τ, xI g ta 49 (zT τ), xI g tb 49 (zI τ), cO od vb n1 n2 nm en] sz)) (va_Qi (fun (r : Int32) (u : Int32 × Nat × Nat × Nat × Nat) => r = nI 1) (kB g (va_A [cX x nw sn tk hs tx tr, cR nw na nb σ, xI g na 49 (zT σ), xI g nb 49 (zI σ), cT tx ch L, xC g ch 60 T, cTr tr tw od os po re ca, cR tw ta tb τ, xI g ta 49 (zT τ), xI g tb 49 (zI τ), cO od vb n1 n2 nm en] sz) (fun u => [cX x nw sn tk hs tx tr, cR nw na nb σ, xI g na 49 (zT σ), xI g nb 49 (zI σ), cT tx ch L, xC g ch 60 T, cTr tr tw od (zOs T L σ) (zPo T L σ) (zRe T L σ) (zCa T L σ), cR tw ta tb (zSt T L σ), xI g ta 49 (zT (zSt T L σ)), xI g tb 49 (zI (zSt T L σ)), cO od u.1 u.2.1 u.2.2.1 u.2.2.2.1 u.2.2.2.2])) (va_A [cX x nw sn tk hs tx tr, cR nw na nb σ, xI g na 49 (zT σ), xI g nb 49 (zI σ), cT tx ch L, xC g ch 60 T, cTr tr tw od os po re ca, cR tw ta tb τ, xI g ta 49 (zT τ), xI g tb 49 (zI τ), cO od vb n1 n2 nm en] sz)) 1 6 (va_A [cX x nw sn tk hs tx tr, cR nw na nb σ, xI g na 49 (zT σ), xI g nb 49 (zI σ), cT tx ch L, xC g ch 60 T, cTr tr tw od os po re ca, cR tw ta tb τ, xI g ta 49 (zT τ), xI g tb 49 (zI τ), cO od vb n1 n2 nm en] sz) := by
  refine kMetH (hh := [(0, 8, 11, 58)]) (cc := cL_faultCause) (maxL := 3) (ret := (some .int)) (own := RL) (by decide) rfl rfl (Nat.le_of_ble_eq_true rfl) ?_
  intro p e s m args below meth c ls Q H locs A F w hl htab hA hQ
  have hx := F.1.1
  have hb := F.1.2.1
  have hts := F.1.2.2.2.2
  have hl : lv_has ls 3 [(0, .ref x), (1, .ref ot)] := hl
  refine lv_aload_n hx hb dL_faultCause_0 rfl (lv_at hl 1 rfl) ?_
  refine lv_iconst (v := nI 0) hx hb dL_faultCause_1 (by decide) ?_
  refine lv_aload_n hx hb dL_faultCause_2 rfl (lv_at hl 0 rfl) ?_
  refine kcaught (E0 := eNSE) (wc := [cX x nw sn tk hs tx tr, cR nw na nb σ, xI g na 49 (zT σ), xI g nb 49 (zI σ), cT tx ch L, xC g ch 60 T, cTr tr tw od os po re ca, cR tw ta tb τ, xI g ta 49 (zT τ), xI g tb 49 (zI τ), cO od vb n1 n2 nm en]) (wr := []) (wn := fun (u : Int32 × Nat × Nat × Nat × Nat) => [cX x nw sn tk hs tx tr, cR nw na nb σ, xI g na 49 (zT σ), xI g nb 49 (zI σ), cT tx ch L, xC g ch 60 T, cTr tr tw od (zOs T L σ) (zPo T L σ) (zRe T L σ) (zCa T L σ), cR tw ta tb (zSt T L σ), xI g ta 49 (zT (zSt T L σ)), xI g tb 49 (zI (zSt T L σ)), cO od u.1 u.2.1 u.2.2.1 u.2.2.2.1 u.2.2.2.2]) F w [0, 1, 2, 3, 4, 5, 6, 7, 8, 9, 10] [] [0, 1, 2, 3, 4, 5, 6, 7, 8, 9, 10] rfl rfl rfl (fun _ => rfl)
    (fun hp => vx_runV (As := []) (rest := [.int (nI 0), .ref ot]) F.1 (kX5_faultCause_N l hnl g x nw sn tk hs tx tr na nb σ ch L T tw od os po re ca ta tb τ vb n1 n2 nm en H.size hL hz9) (cwV 0 hts gL_faultCause_X5_faultCause rfl rfl rfl ⟨rfl, hd_X5_faultCause⟩ ⟨Nat.le_of_ble_eq_true rfl, Nat.le_of_ble_eq_true rfl⟩) ⟨hp.1, va_recv F.2.2.2.1.1 w.1 (q0 := 0) (ci := 5) rfl rfl, hp.2⟩ rfl rfl hl.1 rfl (lv_room (Nat.le_of_ble_eq_true rfl)) dL_faultCause_3 ⟨Nat.le_of_ble_eq_true rfl, Nat.le_of_ble_eq_true rfl⟩)
    [] ⟨0, 8, 11, 58⟩ [] htab (fun z hz => nomatch hz) (by decide +kernel) (by decide) (by decide +kernel) (by decide +kernel) (fun q_1 u H locs w => ?_)
  obtain ⟨u_2, hu9⟩ : ∃ z, z = u := ⟨_, rfl⟩
  subst hu9
  have w : kW g A s [cX x nw sn tk hs tx tr, cR nw na nb σ, xI g na 49 (zT σ), xI g nb 49 (zI σ), cT tx ch L, xC g ch 60 T, cTr tr tw od (zOs T L σ) (zPo T L σ) (zRe T L σ) (zCa T L σ), cR tw ta tb (zSt T L σ), xI g ta 49 (zT (zSt T L σ)), xI g tb 49 (zI (zSt T L σ)), cO od u_2.1 u_2.2.1 u_2.2.2.1 u_2.2.2.2.1 u_2.2.2.2.2] H locs := w
  refine lv_astore_n (lv' := [(2, .ref q_1), (0, .ref x), (1, .ref ot)]) hx hb dL_faultCause_11 rfl hl (by decide) rfl (fun ls hl => ?_)
  refine lv_iconst (v := nI 1) hx hb dL_faultCause_12 (by decide) ?_
  subst hA
  subst hQ
  exact kreti F w u_2 [0, 1, 2, 3, 4, 5, 6, 7, 8, 9, 10] rfl rfl (rfl) (Nat.le_of_ble_eq_true rfl) (Nat.le_of_ble_eq_true rfl) dL_faultCause_13
theorem hd_X5_play : yX5_play.cls ≠ "java/lang/invoke/MethodHandle" ∧ yX5_play.cls ≠ "java/lang/invoke/VarHandle" ∧ (parseMethodDescriptor yX5_play.desc).map (fun d => d.parameters.length) = some 0 := by decide +kernel
abbrev rmL_play_k : Room := { frames := 7, cells := 0, slots := 0, locals := 154 }
set_option maxHeartbeats 4000000 in
set_option maxRecDepth 100000 in
theorem kL_play_k (l : Launch) (g : GG) (x : Nat) (nw : Nat) (sn : Nat) (tk : Bool) (hs : Nat) (tx : Nat) (tr : Nat) (na : Nat) (nb : Nat) (σ : Sg) (hq : Nat) (kn : Nat) (ρ : Nat → Nat) (α : Nat → Nat) (β : Nat → Nat) (γ : Nat → Sg) (ch : Nat) (L : Nat) (T : Nat → Int32) (tw : Nat) (od : Nat) (os : Nat) (po : Nat) (re : Nat) (ca : Nat) (ta : Nat) (tb : Nat) (τ : Sg) (vb : Int32) (n1 : Nat) (n2 : Nat) (nm : Nat) (en : Nat) (ot : Nat) (f : Nat → Int64) (sz : Nat) (hL : L ≤ 60) (hz9 : zRe T L σ = 0) (hkn : kn ≤ 4) : Met l yL_play wsL_play rmL_play_k (va_Pc [.ref x, .ref ot] (kPre g [cX x nw sn tk hs tx tr, cR nw na nb σ, xI g na 49 (zT σ), xI g nb 49 (zI σ), cH hs hq kn, xQ g hq 4 (rq ρ), cR (ρ 0) (α 0) (β 0) (γ 0), xI g (α 0) 49 (zT (γ 0)), xI g (β 0) 49 (zI (γ 0)), cR (ρ 1) (α 1) (β 1) (γ 1), xI g (α 1) 49 (zT (γ 1)), xI g (β 1) 49 (zI (γ 1)), cR (ρ 2) (α 2) (β 2) (γ 2), xI g (α 2) 49 (zT (γ 2)), xI g (β 2) 49 (zI (γ 2)), cR (ρ 3) (α 3) (β 3) (γ 3), xI g (α 3) 49 (zT (γ 3)), xI g (β 3) 49 (zI (γ 3)), cT tx ch L, xC g ch 60 T, cTr tr tw od os po re ca, cR tw ta tb τ, xI g ta 49 (zT τ), xI g tb 49 (zI τ), cO od vb n1 n2 nm en, xJ g ot 1 f] sz)) (va_Qi (fun (r : Int32) (u : (Int32 × Nat × Nat × Nat × Nat) × ((Nat → Nat) × (Nat → Nat) × (Nat → Nat))) => r = nI 0) (kB g (va_A [cX x nw sn tk hs tx tr, cR nw na nb σ, xI g na 49 (zT σ), xI g nb 49 (zI σ), cH hs hq kn, xQ g hq 4 (rq ρ), cR (ρ 0) (α 0) (β 0) (γ 0), xI g (α 0) 49 (zT (γ 0)), xI g (β 0) 49 (zI (γ 0)), cR (ρ 1) (α 1) (β 1) (γ 1), xI g (α 1) 49 (zT (γ 1)), xI g (β 1) 49 (zI (γ 1)), cR (ρ 2) (α 2) (β 2) (γ 2), xI g (α 2) 49 (zT (γ 2)), xI g (β 2) 49 (zI (γ 2)), cR (ρ 3) (α 3) (β 3) (γ 3), xI g (α 3) 49 (zT (γ 3)), xI g (β 3) 49 (zI (γ 3)), cT tx ch L, xC g ch 60 T, cTr tr tw od os po re ca, cR tw ta tb τ, xI g ta 49 (zT τ), xI g tb 49 (zI τ), cO od vb n1 n2 nm en, xJ g ot 1 f] sz) (fun u => [cX x nw sn tk hs tx tr, cR nw na nb (zSt T L σ), xI g na 49 (zT (zSt T L σ)), xI g nb 49 (zI (zSt T L σ)), cH hs hq (pushN kn), xQ g hq 4 (rq u.2.1), cR (u.2.1 0) (u.2.2.1 0) (u.2.2.2 0) ((pushG γ kn σ) 0), xI g (u.2.2.1 0) 49 (zT ((pushG γ kn σ) 0)), xI g (u.2.2.2 0) 49 (zI ((pushG γ kn σ) 0)), cR (u.2.1 1) (u.2.2.1 1) (u.2.2.2 1) ((pushG γ kn σ) 1), xI g (u.2.2.1 1) 49 (zT ((pushG γ kn σ) 1)), xI g (u.2.2.2 1) 49 (zI ((pushG γ kn σ) 1)), cR (u.2.1 2) (u.2.2.1 2) (u.2.2.2 2) ((pushG γ kn σ) 2), xI g (u.2.2.1 2) 49 (zT ((pushG γ kn σ) 2)), xI g (u.2.2.2 2) 49 (zI ((pushG γ kn σ) 2)), cR (u.2.1 3) (u.2.2.1 3) (u.2.2.2 3) ((pushG γ kn σ) 3), xI g (u.2.2.1 3) 49 (zT ((pushG γ kn σ) 3)), xI g (u.2.2.2 3) 49 (zI ((pushG γ kn σ) 3)), cT tx ch L, xC g ch 60 T, cTr tr tw od (zOs T L σ) (zPo T L σ) (zRe T L σ) (zCa T L σ), cR tw ta tb (zSt T L σ), xI g ta 49 (zT (zSt T L σ)), xI g tb 49 (zI (zSt T L σ)), cO od u.1.1 u.1.2.1 u.1.2.2.1 u.1.2.2.2.1 u.1.2.2.2.2, xJ g ot 1 (vp_updL f 0 ((nI (zOs T L σ)).toInt64))])) (va_A [cX x nw sn tk hs tx tr, cR nw na nb σ, xI g na 49 (zT σ), xI g nb 49 (zI σ), cH hs hq kn, xQ g hq 4 (rq ρ), cR (ρ 0) (α 0) (β 0) (γ 0), xI g (α 0) 49 (zT (γ 0)), xI g (β 0) 49 (zI (γ 0)), cR (ρ 1) (α 1) (β 1) (γ 1), xI g (α 1) 49 (zT (γ 1)), xI g (β 1) 49 (zI (γ 1)), cR (ρ 2) (α 2) (β 2) (γ 2), xI g (α 2) 49 (zT (γ 2)), xI g (β 2) 49 (zI (γ 2)), cR (ρ 3) (α 3) (β 3) (γ 3), xI g (α 3) 49 (zT (γ 3)), xI g (β 3) 49 (zI (γ 3)), cT tx ch L, xC g ch 60 T, cTr tr tw od os po re ca, cR tw ta tb τ, xI g ta 49 (zT τ), xI g tb 49 (zI τ), cO od vb n1 n2 nm en, xJ g ot 1 f] sz)) 0 0 (va_A [cX x nw sn tk hs tx tr, cR nw na nb σ, xI g na 49 (zT σ), xI g nb 49 (zI σ), cH hs hq kn, xQ g hq 4 (rq ρ), cR (ρ 0) (α 0) (β 0) (γ 0), xI g (α 0) 49 (zT (γ 0)), xI g (β 0) 49 (zI (γ 0)), cR (ρ 1) (α 1) (β 1) (γ 1), xI g (α 1) 49 (zT (γ 1)), xI g (β 1) 49 (zI (γ 1)), cR (ρ 2) (α 2) (β 2) (γ 2), xI g (α 2) 49 (zT (γ 2)), xI g (β 2) 49 (zI (γ 2)), cR (ρ 3) (α 3) (β 3) (γ 3), xI g (α 3) 49 (zT (γ 3)), xI g (β 3) 49 (zI (γ 3)), cT tx ch L, xC g ch 60 T, cTr tr tw od os po re ca, cR tw ta tb τ, xI g ta 49 (zT τ), xI g tb 49 (zI τ), cO od vb n1 n2 nm en, xJ g ot 1 f] sz) := by
  refine kMetH (hh := [(0, 8, 11, 23)]) (cc := cL_play) (maxL := 3) (ret := (some .int)) (own := RL) (by decide) rfl rfl (Nat.le_of_ble_eq_true rfl) ?_
  intro p e s m args below meth c ls Q H locs A F w hl htab hA hQ
  have hx := F.1.1
  have hb := F.1.2.1
  have hts := F.1.2.2.2.2
  have hl : lv_has ls 3 [(0, .ref x), (1, .ref ot)] := hl
  refine lv_aload_n hx hb dL_play_0 rfl (lv_at hl 1 rfl) ?_
  refine lv_iconst (v := nI 0) hx hb dL_play_1 (by decide) ?_
  refine lv_aload_n hx hb dL_play_2 rfl (lv_at hl 0 rfl) ?_
  refine kcalli (wc := [cX x nw sn tk hs tx tr, cR nw na nb σ, xI g na 49 (zT σ), xI g nb 49 (zI σ), cH hs hq kn, xQ g hq 4 (rq ρ), cR (ρ 0) (α 0) (β 0) (γ 0), xI g (α 0) 49 (zT (γ 0)), xI g (β 0) 49 (zI (γ 0)), cR (ρ 1) (α 1) (β 1) (γ 1), xI g (α 1) 49 (zT (γ 1)), xI g (β 1) 49 (zI (γ 1)), cR (ρ 2) (α 2) (β 2) (γ 2), xI g (α 2) 49 (zT (γ 2)), xI g (β 2) 49 (zI (γ 2)), cR (ρ 3) (α 3) (β 3) (γ 3), xI g (α 3) 49 (zT (γ 3)), xI g (β 3) 49 (zI (γ 3)), cT tx ch L, xC g ch 60 T, cTr tr tw od os po re ca, cR tw ta tb τ, xI g ta 49 (zT τ), xI g tb 49 (zI τ), cO od vb n1 n2 nm en]) (wr := [xJ g ot 1 f]) (wn := fun (u : (Int32 × Nat × Nat × Nat × Nat) × ((Nat → Nat) × (Nat → Nat) × (Nat → Nat))) => [cX x nw sn tk hs tx tr, cR nw na nb (zSt T L σ), xI g na 49 (zT (zSt T L σ)), xI g nb 49 (zI (zSt T L σ)), cH hs hq (pushN kn), xQ g hq 4 (rq u.2.1), cR (u.2.1 0) (u.2.2.1 0) (u.2.2.2 0) ((pushG γ kn σ) 0), xI g (u.2.2.1 0) 49 (zT ((pushG γ kn σ) 0)), xI g (u.2.2.2 0) 49 (zI ((pushG γ kn σ) 0)), cR (u.2.1 1) (u.2.2.1 1) (u.2.2.2 1) ((pushG γ kn σ) 1), xI g (u.2.2.1 1) 49 (zT ((pushG γ kn σ) 1)), xI g (u.2.2.2 1) 49 (zI ((pushG γ kn σ) 1)), cR (u.2.1 2) (u.2.2.1 2) (u.2.2.2 2) ((pushG γ kn σ) 2), xI g (u.2.2.1 2) 49 (zT ((pushG γ kn σ) 2)), xI g (u.2.2.2 2) 49 (zI ((pushG γ kn σ) 2)), cR (u.2.1 3) (u.2.2.1 3) (u.2.2.2 3) ((pushG γ kn σ) 3), xI g (u.2.2.1 3) 49 (zT ((pushG γ kn σ) 3)), xI g (u.2.2.2 3) 49 (zI ((pushG γ kn σ) 3)), cT tx ch L, xC g ch 60 T, cTr tr tw od (zOs T L σ) (zPo T L σ) (zRe T L σ) (zCa T L σ), cR tw ta tb (zSt T L σ), xI g ta 49 (zT (zSt T L σ)), xI g tb 49 (zI (zSt T L σ)), cO od u.1.1 u.1.2.1 u.1.2.2.1 u.1.2.2.2.1 u.1.2.2.2.2, xJ g ot 1 f]) F w [0, 1, 2, 3, 4, 5, 6, 7, 8, 9, 10, 11, 12, 13, 14, 15, 16, 17, 18, 19, 20, 21, 22, 23, 24] [25] [1, 2, 3, 4, 5, 6, 7, 8, 9, 10, 11, 12, 13, 14, 15, 16, 17, 18, 19, 20, 21, 22, 23, 24, 25, 0] rfl rfl rfl (fun _ => rfl)
    (fun hp => va_runV (As := []) (rest := [.int (nI 0), .ref ot]) F.1 (kX5_play_k l g x nw sn tk hs tx tr na nb σ hq kn ρ α β γ ch L T tw od os po re ca ta tb τ vb n1 n2 nm en H.size hL hz9 hkn) (cwV 0 hts gL_play_X5_play rfl rfl rfl ⟨rfl, hd_X5_play⟩ ⟨Nat.le_of_ble_eq_true rfl, Nat.le_of_ble_eq_true rfl⟩) ⟨hp.1, va_recv F.2.2.2.1.1 w.1 (q0 := 0) (ci := 5) rfl rfl, hp.2⟩ rfl rfl hl.1 rfl (lv_room (Nat.le_of_ble_eq_true rfl)) dL_play_3 ⟨Nat.le_of_ble_eq_true rfl, Nat.le_of_ble_eq_true rfl⟩)
    (fun r_1 u H locs h_2 w => ?_)
  try dsimp only at h_2
  obtain ⟨u_3, hu9⟩ : ∃ z, z = u := ⟨_, rfl⟩
  subst hu9
  have w : kW g A s [cX x nw sn tk hs tx tr, cR nw na nb (zSt T L σ), xI g na 49 (zT (zSt T L σ)), xI g nb 49 (zI (zSt T L σ)), cH hs hq (pushN kn), xQ g hq 4 (rq u_3.2.1), cR (u_3.2.1 0) (u_3.2.2.1 0) (u_3.2.2.2 0) ((pushG γ kn σ) 0), xI g (u_3.2.2.1 0) 49 (zT ((pushG γ kn σ) 0)), xI g (u_3.2.2.2 0) 49 (zI ((pushG γ kn σ) 0)), cR (u_3.2.1 1) (u_3.2.2.1 1) (u_3.2.2.2 1) ((pushG γ kn σ) 1), xI g (u_3.2.2.1 1) 49 (zT ((pushG γ kn σ) 1)), xI g (u_3.2.2.2 1) 49 (zI ((pushG γ kn σ) 1)), cR (u_3.2.1 2) (u_3.2.2.1 2) (u_3.2.2.2 2) ((pushG γ kn σ) 2), xI g (u_3.2.2.1 2) 49 (zT ((pushG γ kn σ) 2)), xI g (u_3.2.2.2 2) 49 (zI ((pushG γ kn σ) 2)), cR (u_3.2.1 3) (u_3.2.2.1 3) (u_3.2.2.2 3) ((pushG γ kn σ) 3), xI g (u_3.2.2.1 3) 49 (zT ((pushG γ kn σ) 3)), xI g (u_3.2.2.2 3) 49 (zI ((pushG γ kn σ) 3)), cT tx ch L, xC g ch 60 T, cTr tr tw od (zOs T L σ) (zPo T L σ) (zRe T L σ) (zCa T L σ), cR tw ta tb (zSt T L σ), xI g ta 49 (zT (zSt T L σ)), xI g tb 49 (zI (zSt T L σ)), cO od u_3.1.1 u_3.1.2.1 u_3.1.2.2.1 u_3.1.2.2.2.1 u_3.1.2.2.2.2, xJ g ot 1 f] H locs := w
  subst h_2
  refine lv_i2l hx hb dL_play_6 rfl ?_
  refine klast (f' := vp_updL f 0 ((nI (zOs T L σ)).toInt64)) F w 25 rfl (vp_in_nI (by omega) (by omega)) (congrArg (fun z => vp_updL f z ((nI (zOs T L σ)).toInt64)) (nI_clamp (n := 0) (by omega))) (wn := [cX x nw sn tk hs tx tr, cR nw na nb (zSt T L σ), xI g na 49 (zT (zSt T L σ)), xI g nb 49 (zI (zSt T L σ)), cH hs hq (pushN kn), xQ g hq 4 (rq u_3.2.1), cR (u_3.2.1 0) (u_3.2.2.1 0) (u_3.2.2.2 0) ((pushG γ kn σ) 0), xI g (u_3.2.2.1 0) 49 (zT ((pushG γ kn σ) 0)), xI g (u_3.2.2.2 0) 49 (zI ((pushG γ kn σ) 0)), cR (u_3.2.1 1) (u_3.2.2.1 1) (u_3.2.2.2 1) ((pushG γ kn σ) 1), xI g (u_3.2.2.1 1) 49 (zT ((pushG γ kn σ) 1)), xI g (u_3.2.2.2 1) 49 (zI ((pushG γ kn σ) 1)), cR (u_3.2.1 2) (u_3.2.2.1 2) (u_3.2.2.2 2) ((pushG γ kn σ) 2), xI g (u_3.2.2.1 2) 49 (zT ((pushG γ kn σ) 2)), xI g (u_3.2.2.2 2) 49 (zI ((pushG γ kn σ) 2)), cR (u_3.2.1 3) (u_3.2.2.1 3) (u_3.2.2.2 3) ((pushG γ kn σ) 3), xI g (u_3.2.2.1 3) 49 (zT ((pushG γ kn σ) 3)), xI g (u_3.2.2.2 3) 49 (zI ((pushG γ kn σ) 3)), cT tx ch L, xC g ch 60 T, cTr tr tw od (zOs T L σ) (zPo T L σ) (zRe T L σ) (zCa T L σ), cR tw ta tb (zSt T L σ), xI g ta 49 (zT (zSt T L σ)), xI g tb 49 (zI (zSt T L σ)), cO od u_3.1.1 u_3.1.2.1 u_3.1.2.2.1 u_3.1.2.2.2.1 u_3.1.2.2.2.2, xJ g ot 1 (vp_updL f 0 ((nI (zOs T L σ)).toInt64))]) rfl dL_play_7 (fun H locs w => ?_)
  refine lv_goto (tgt := 14) hx hb dL_play_8 (by decide) ?_
  refine lv_iconst (v := nI 0) hx hb dL_play_14 (by decide) ?_
  subst hA
  subst hQ
  exact kreti F w u_3 [0, 1, 2, 3, 4, 5, 6, 7, 8, 9, 10, 11, 12, 13, 14, 15, 16, 17, 18, 19, 20, 21, 22, 23, 24, 25] rfl rfl (rfl) (Nat.le_of_ble_eq_true rfl) (Nat.le_of_ble_eq_true rfl) dL_play_15
abbrev rmL_play_S : Room := { frames := 7, cells := 1, slots := 6, locals := 154 }
set_option maxHeartbeats 4000000 in
set_option maxRecDepth 100000 in
theorem kL_play_S (l : Launch) (hnl : l.stackTraces = false) (g : GG) (x : Nat) (nw : Nat) (sn : Nat) (tk : Bool) (hs : Nat) (tx : Nat) (tr : Nat) (na : Nat) (nb : Nat) (σ : Sg) (ch : Nat) (L : Nat) (T : Nat → Int32) (tw : Nat) (od : Nat) (os : Nat) (po : Nat) (re : Nat) (ca : Nat) (ta : Nat) (tb : Nat) (τ : Sg) (vb : Int32) (n1 : Nat) (n2 : Nat) (nm : Nat) (en : Nat) (ot : Nat) (sz : Nat) (hL : L ≤ 60) (hz9 : zRe T L σ ≠ 0) : Met l yL_play wsL_play rmL_play_S (va_Pc [.ref x, .ref ot] (kPre g [cX x nw sn tk hs tx tr, cR nw na nb σ, xI g na 49 (zT σ), xI g nb 49 (zI σ), cT tx ch L, xC g ch 60 T, cTr tr tw od os po re ca, cR tw ta tb τ, xI g ta 49 (zT τ), xI g tb 49 (zI τ), cO od vb n1 n2 nm en] sz)) (va_Qi (fun (r : Int32) (u : Int32 × Nat × Nat × Nat × Nat) => r = nI 1) (kB g (va_A [cX x nw sn tk hs tx tr, cR nw na nb σ, xI g na 49 (zT σ), xI g nb 49 (zI σ), cT tx ch L, xC g ch 60 T, cTr tr tw od os po re ca, cR tw ta tb τ, xI g ta 49 (zT τ), xI g tb 49 (zI τ), cO od vb n1 n2 nm en] sz) (fun u => [cX x nw sn tk hs tx tr, cR nw na nb σ, xI g na 49 (zT σ), xI g nb 49 (zI σ), cT tx ch L, xC g ch 60 T, cTr tr tw od (zOs T L σ) (zPo T L σ) (zRe T L σ) (zCa T L σ), cR tw ta tb (zSt T L σ), xI g ta 49 (zT (zSt T L σ)), xI g tb 49 (zI (zSt T L σ)), cO od u.1 u.2.1 u.2.2.1 u.2.2.2.1 u.2.2.2.2])) (va_A [cX x nw sn tk hs tx tr, cR nw na nb σ, xI g na 49 (zT σ), xI g nb 49 (zI σ), cT tx ch L, xC g ch 60 T, cTr tr tw od os po re ca, cR tw ta tb τ, xI g ta 49 (zT τ), xI g tb 49 (zI τ), cO od vb n1 n2 nm en] sz)) 1 6 (va_A [cX x nw sn tk hs tx tr, cR nw na nb σ, xI g na 49 (zT σ), xI g nb 49 (zI σ), cT tx ch L, xC g ch 60 T, cTr tr tw od os po re ca, cR tw ta tb τ, xI g ta 49 (zT τ), xI g tb 49 (zI τ), cO od vb n1 n2 nm en] sz) := by
  refine kMetH (hh := [(0, 8, 11, 23)]) (cc := cL_play) (maxL := 3) (ret := (some .int)) (own := RL) (by decide) rfl rfl (Nat.le_of_ble_eq_true rfl) ?_
  intro p e s m args below meth c ls Q H locs A F w hl htab hA hQ
  have hx := F.1.1
  have hb := F.1.2.1
  have hts := F.1.2.2.2.2
  have hl : lv_has ls 3 [(0, .ref x), (1, .ref ot)] := hl
  refine lv_aload_n hx hb dL_play_0 rfl (lv_at hl 1 rfl) ?_
  refine lv_iconst (v := nI 0) hx hb dL_play_1 (by decide) ?_
  refine lv_aload_n hx hb dL_play_2 rfl (lv_at hl 0 rfl) ?_
  refine kcaught (E0 := eISE) (wc := [cX x nw sn tk hs tx tr, cR nw na nb σ, xI g na 49 (zT σ), xI g nb 49 (zI σ), cT tx ch L, xC g ch 60 T, cTr tr tw od os po re ca, cR tw ta tb τ, xI g ta 49 (zT τ), xI g tb 49 (zI τ), cO od vb n1 n2 nm en]) (wr := []) (wn := fun (u : Int32 × Nat × Nat × Nat × Nat) => [cX x nw sn tk hs tx tr, cR nw na nb σ, xI g na 49 (zT σ), xI g nb 49 (zI σ), cT tx ch L, xC g ch 60 T, cTr tr tw od (zOs T L σ) (zPo T L σ) (zRe T L σ) (zCa T L σ), cR tw ta tb (zSt T L σ), xI g ta 49 (zT (zSt T L σ)), xI g tb 49 (zI (zSt T L σ)), cO od u.1 u.2.1 u.2.2.1 u.2.2.2.1 u.2.2.2.2]) F w [0, 1, 2, 3, 4, 5, 6, 7, 8, 9, 10] [] [0, 1, 2, 3, 4, 5, 6, 7, 8, 9, 10] rfl rfl rfl (fun _ => rfl)
    (fun hp => vx_runV (As := []) (rest := [.int (nI 0), .ref ot]) F.1 (kX5_play_S l hnl g x nw sn tk hs tx tr na nb σ ch L T tw od os po re ca ta tb τ vb n1 n2 nm en H.size hL hz9) (cwV 0 hts gL_play_X5_play rfl rfl rfl ⟨rfl, hd_X5_play⟩ ⟨Nat.le_of_ble_eq_true rfl, Nat.le_of_ble_eq_true rfl⟩) ⟨hp.1, va_recv F.2.2.2.1.1 w.1 (q0 := 0) (ci := 5) rfl rfl, hp.2⟩ rfl rfl hl.1 rfl (lv_room (Nat.le_of_ble_eq_true rfl)) dL_play_3 ⟨Nat.le_of_ble_eq_true rfl, Nat.le_of_ble_eq_true rfl⟩)
    [] ⟨0, 8, 11, 23⟩ [] htab (fun z hz => nomatch hz) (by decide +kernel) (by decide) (by decide +kernel) (by decide +kernel) (fun q_1 u H locs w => ?_)
  obtain ⟨u_2, hu9⟩ : ∃ z, z = u := ⟨_, rfl⟩
  subst hu9
  have w : kW g A s [cX x nw sn tk hs tx tr, cR nw na nb σ, xI g na 49 (zT σ), xI g nb 49 (zI σ), cT tx ch L, xC g ch 60 T, cTr tr tw od (zOs T L σ) (zPo T L σ) (zRe T L σ) (zCa T L σ), cR tw ta tb (zSt T L σ), xI g ta 49 (zT (zSt T L σ)), xI g tb 49 (zI (zSt T L σ)), cO od u_2.1 u_2.2.1 u_2.2.2.1 u_2.2.2.2.1 u_2.2.2.2.2] H locs := w
  refine lv_astore_n (lv' := [(2, .ref q_1), (0, .ref x), (1, .ref ot)]) hx hb dL_play_11 rfl hl (by decide) rfl (fun ls hl => ?_)
  refine lv_iconst (v := nI 1) hx hb dL_play_12 (by decide) ?_
  subst hA
  subst hQ
  exact kreti F w u_2 [0, 1, 2, 3, 4, 5, 6, 7, 8, 9, 10] rfl rfl (rfl) (Nat.le_of_ble_eq_true rfl) (Nat.le_of_ble_eq_true rfl) dL_play_13
