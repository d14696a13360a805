/-! ===== the law: its script, its loop ===== -/
theorem kPreX_blind {av : List Value} {g : GG} {ws : va_W} {sz b n0 : Nat} {xs : Nat → Int32} : FrameBlind (va_Pc av (fun U => kPre g ws sz U ∧ va_X b n0 xs U U.heap)) := fun a U gg mk h =>
  ⟨h.1, (kPre_blind (av := av) a U gg mk ⟨h.1, h.2.1⟩).2, va_X.moved (u := U) (U := U.calling gg mk a) (Vm.Alike.refl U.vm) h.2.2⟩
theorem kpreX {s : State} {H : Heap} {locs : List Loc} {g : GG} {A : Nat → Prop} {ws wc : va_W} {As : List Value} {b n0 : Nat} {xs : Nat → Int32} (w : kW g A s ws H locs) (hX : va_X b n0 xs s s.heap) (hbl : b < s.heap.size) (hbA : ¬ A b) (hp : PreS s H (va_Pc As (kPre g wc H.size)) As) : PreS s H (va_Pc As (fun U => kPre g wc H.size U ∧ va_X b n0 xs U U.heap)) As :=
  ⟨kPreX_blind, fun U hU hW => ⟨(hp.2 U hU hW).1, (hp.2 U hU hW).2, by rw [hU]; exact (hX.kept (w.2.2.2.1 b hbl hbA)).moved hW.alike⟩⟩
theorem kMetX9 {l : Launch} {y : MethodName} {ws ws' : List Cond} {rm : Room} {av : List Value} {g : GG} {w : va_W} {sz : Nat} {Qc : Array Value → State → Outcome → State → Prop} {mc ms : Nat} {cc : ByteArray} {maxL : Nat} {ret : Option FieldType} {own : String} {b n0 : Nat} {xs : Nat → Int32}
    (hy : plainName y.cls = true) (hw : ws = Cond.code y cc maxL ret :: ws') (ho : y.cls = own) (hlen : (lg_sl av).length ≤ maxL) (hw0 : w = [])
    (body : ∀ (p : Program) (e : Env) (s : State) (m : MethodId) (args : Array Value) (below : List Frame) (meth : Method) (c : Code) (ls : Array Slot) (Q : State → Prop) (H : Heap) (locs : List Loc) (A : Nat → Prop), kF p m c cc maxL s args ws own meth ret g A → kW g A s w H locs → lv_has ls maxL (lv_args 0 av) → meth.name = y.name → A = va_A w sz → Q = MQ below Qc args s mc ms (va_A w sz) → va_X b n0 xs s s.heap → b < s.heap.size → ¬ A b →
      W p l e rm s m args below meth c H locs 0 0 Q (F0 m 0 ls [])) : Met l y ws rm (va_Pc av (fun U => kPre g w sz U ∧ va_X b n0 xs U U.heap)) Qc mc ms (va_A w sz) := by
  refine Met.ofW (cc := cc) (maxL := maxL) (ret := ret) hy hw ?_
  intro p e s m args below meth c s₁ B hml hv
  obtain ⟨rfl, ⟨hsz, hP, hD, hG, hZ⟩, hX⟩ := hv
  subst hsz
  have hl := lv_entry av (n := maxL) hlen
  rw [lg_entry_eq]
  have hbl : b < s.heap.size := by
    obtain ⟨scr, h1, -⟩ := hX
    exact (Array.getElem?_eq_some_iff.mp h1).1
  refine body p e s m _ below meth c _ _ s.heap [] _ ⟨⟨B.exec, B.bytes, hml, by rw [← ho]; exact findClass_of_methodNamed B.named, atoms_spec (ws := ws) B.pre⟩, B.returns, B.notSynchronized, hG, hZ, fun q h => Or.inr h⟩ ⟨hP, hD.self, va_S.rf⟩ hl (name_of_methodNamed B.named B.method).1 rfl rfl hX hbl ?_
  intro hc
  rcases hc with ⟨k, e0, h⟩ | h
  · rw [hw0] at h; simp at h
  · exact absurd hbl (Nat.not_lt.mpr h)
abbrev rmL_law : Room := room_1
theorem pushN_eq {kn : Nat} (h : kn ≤ 4) (he : pushN kn = kn + 1) : kn < 4 := by
  unfold pushN at he
  split at he <;> omega
theorem pushG_at {γ : Nat → Sg} {kn : Nat} {σ : Sg} (h : kn < 4) : pushG γ kn σ kn = σ := by rw [pushG_l h]; exact sup_s
theorem gB_push {B : Nat} {γ : Nat → Sg} {σ : Sg} (hg : ∀ j, gB B (γ j)) (h : gB B σ) (kn : Nat) : ∀ j, gB B (pushG γ kn σ j) := fun j => by
  unfold pushG
  split
  · unfold sup; split
    · exact h
    · exact hg j
  · unfold sup; split
    · exact h
    · unfold shG; split
      · exact hg _
      · exact hg _
/-- what the acts leave: the history's bounds -/
theorem actP_g {B : Nat} {σ σ' : Sg} {kn kn' : Nat} {γ γ' : Nat → Sg} {L' : Nat} (h : actP σ kn γ σ' kn' γ' L') (hg : ∀ j, gB B (γ j)) (hs : gB B σ) : gB (B + 288000) σ' ∧ ∀ j, gB (B + 288000) (γ' j) := by
  refine ⟨h.2.2 B hs, fun j => ?_⟩
  rcases h.1 with ⟨-, -, h3⟩ | ⟨-, h3⟩
  · rw [h3]; exact (hg j).mono (by omega)
  · rw [h3]; exact (gB_push hg hs kn j).mono (by omega)
theorem actP_k {σ σ' : Sg} {kn kn' : Nat} {γ γ' : Nat → Sg} {L' : Nat} (h : actP σ kn γ σ' kn' γ' L') (hk : kn ≤ 4) : kn' ≤ 4 ∧ (kn' = kn → kn ≠ 4 → σ' = σ) ∧ (kn' ≠ kn → kn' = kn + 1) ∧ (kn' = kn + 1 → kn < 4 ∧ γ' kn = σ) := by
  rcases h.1 with ⟨h1, h2, h3⟩ | ⟨h2, h3⟩
  · exact ⟨by omega, fun _ _ => h1, fun hc => absurd h2 hc, fun hc => by omega⟩
  · have hp : kn' = if kn < 4 then kn + 1 else 4 := h2
    refine ⟨by rw [h2]; exact pushN_le, fun hc h4 => ?_, fun hc => ?_, fun hc => ?_⟩
    · split at hp <;> omega
    · split at hp <;> omega
    · have h4 : kn < 4 := by split at hp <;> omega
      exact ⟨h4, by rw [h3]; exact pushG_at h4⟩
theorem gB_big {B : Nat} {σ : Sg} (h : gB B σ) (hB : B ≤ 2147483647) : gB 2147483647 σ := h.mono hB
abbrev rmL_lot : Room := { frames := 0, cells := 0, slots := 0, locals := 0 }
set_option maxHeartbeats 4000000 in
set_option maxRecDepth 100000 in
theorem kL_lot (l : Launch) (g : GG) (b : Nat) (n0 : Nat) (xs : Nat → Int32) (i : Nat) (sz : Nat) (hi : i < 1000 ∧ n0 ≤ 260) : Met l yL_lot wsL_lot rmL_lot (va_Pc [.ref b, .int (nI i)] (fun U => kPre g [] sz U ∧ va_X b n0 xs U U.heap)) (va_Qi (fun (r : Int32) (u : Unit) => True) (kB g (va_A [] sz) (fun u => [])) (va_A [] sz)) 0 0 (va_A [] sz) := by
  refine kMetX9 (b := b) (n0 := n0) (xs := xs) (cc := cL_lot) (maxL := 2) (ret := (some .int)) (own := RL) (by decide) rfl rfl (Nat.le_of_ble_eq_true rfl) rfl ?_
  intro p e s m args below meth c ls Q H locs A F w hl hnm hA hQ hX9 hbl9 hbA9
  have hx := F.1.1
  have hb := F.1.2.1
  have hts := F.1.2.2.2.2
  have hl : lv_has ls 2 [(0, .ref b), (1, .int (nI i))] := hl
  refine lv_iload_n hx hb dL_lot_0 rfl (lv_at hl 1 rfl) ?_
  refine lv_aload_n hx hb dL_lot_1 rfl (lv_at hl 0 rfl) ?_
  refine va_slen hx hb hX9 hbl9 hbA9 w.2.2 dL_lot_2 ?_
  refine lv_icmp_ge (tgt := 12) hx hb dL_lot_3 (by decide) (fun h_1 => ?_) (fun h_1 => ?_)
  · have h_1 : i ≥ n0 := (kc_ge_t (by omega) (by omega)).mp h_1
    refine lv_ldc (v := (-1155658131)) hx hb F.1.2.2.2.1 (hts (.constant RL 7 (-1155658131)) (by decide +kernel)) dL_lot_12 ?_
    refine lv_iload_n hx hb dL_lot_14 rfl (lv_at hl 1 rfl) ?_
    refine lv_sipush (v := nI 6131) hx hb dL_lot_15 (by decide) ?_
    refine lv_iadd hx hb dL_lot_18 ?_
    refine ktopi (y := nI (i + 6131)) (nI_add i 6131) ?_
    refine lv_imul hx hb dL_lot_19 ?_
    refine lv_sipush (v := nI 5869) hx hb dL_lot_20 (by decide) ?_
    refine lv_iadd hx hb dL_lot_23 ?_
    subst hA
    subst hQ
    exact kreti F w () [] rfl rfl (trivial) (Nat.le_of_ble_eq_true rfl) (Nat.le_of_ble_eq_true rfl) dL_lot_24
  · have h_1 : i < n0 := (kc_ge_f (by omega) (by omega)).mp h_1
    refine lv_aload_n hx hb dL_lot_6 rfl (lv_at hl 0 rfl) ?_
    refine lv_iload_n hx hb dL_lot_7 rfl (lv_at hl 1 rfl) ?_
    refine va_sld hx hb hX9 hbl9 hbA9 w.2.2 (vp_in_nI (by omega) (by omega)) dL_lot_8 ?_
    refine lv_goto (tgt := 24) hx hb dL_lot_9 (by decide) ?_
    subst hA
    subst hQ
    exact kreti F w () [] rfl rfl (trivial) (Nat.le_of_ble_eq_true rfl) (Nat.le_of_ble_eq_true rfl) dL_lot_24
theorem hd_L_acts : yL_acts.cls ≠ "java/lang/invoke/MethodHandle" ∧ yL_acts.cls ≠ "java/lang/invoke/VarHandle" ∧ (parseMethodDescriptor yL_acts.desc).map (fun d => d.parameters.length) = some 3 := by decide +kernel
theorem hd_L_goBack : yL_goBack.cls ≠ "java/lang/invoke/MethodHandle" ∧ yL_goBack.cls ≠ "java/lang/invoke/VarHandle" ∧ (parseMethodDescriptor yL_goBack.desc).map (fun d => d.parameters.length) = some 1 := by decide +kernel
theorem hd_L_holds : yL_holds.cls ≠ "java/lang/invoke/MethodHandle" ∧ yL_holds.cls ≠ "java/lang/invoke/VarHandle" ∧ (parseMethodDescriptor yL_holds.desc).map (fun d => d.parameters.length) = some 2 := by decide +kernel
theorem hd_L_look : yL_look.cls ≠ "java/lang/invoke/MethodHandle" ∧ yL_look.cls ≠ "java/lang/invoke/VarHandle" ∧ (parseMethodDescriptor yL_look.desc).map (fun d => d.parameters.length) = some 1 := by decide +kernel
theorem hd_L_lot : yL_lot.cls ≠ "java/lang/invoke/MethodHandle" ∧ yL_lot.cls ≠ "java/lang/invoke/VarHandle" ∧ (parseMethodDescriptor yL_lot.desc).map (fun d => d.parameters.length) = some 2 := by decide +kernel
theorem hd_L_undo : yL_undo.cls ≠ "java/lang/invoke/MethodHandle" ∧ yL_undo.cls ≠ "java/lang/invoke/VarHandle" ∧ (parseMethodDescriptor yL_undo.desc).map (fun d => d.parameters.length) = some 1 := by decide +kernel
theorem hd_X5_keep : yX5_keep.cls ≠ "java/lang/invoke/MethodHandle" ∧ yX5_keep.cls ≠ "java/lang/invoke/VarHandle" ∧ (parseMethodDescriptor yX5_keep.desc).map (fun d => d.parameters.length) = some 0 := by decide +kernel
set_option maxHeartbeats 40000000 in
set_option maxRecDepth 100000 in
theorem law_loop {p : Program} {l : Launch} {e : Env} {s : State} {m : MethodId} {args : Array Value} {below : List Frame} {meth : Method} {c : Code} {Q : State → Prop} {g : GG} {A : Nat → Prop} {b n0 : Nat} {xs : Nat → Int32} {x nw sn hs tx tr na nb sa sb hq ch tw od ta tb : Nat} (hnl : l.stackTraces = false) (F : kF p m c code 13 s args wsL_law RL meth ret g A) (hX : va_X b n0 xs s s.heap) (hbl : b < s.heap.size) (hbA : ¬ A b) (hn0 : n0 ≤ 260)
    (hend : ∀ (H : Heap) (locs : List Loc) (ls : Array Slot), (∀ z ∈ locs, A z.base) → W p l e rmL_law s m args below meth c H locs 610012 7271146 Q (F0 m 383 ls [.int (nI 1)]))
    (n : Nat) (tk : Bool) (σ : Sg) (kn : Nat) (ρ : Nat → Nat) (α : Nat → Nat) (β : Nat → Nat) (γ : Nat → Sg) (κ : Sg) (L : Nat) (T : Nat → Int32) (os : Nat) (po : Nat) (re : Nat) (ca : Nat) (τ : Sg) (vb : Int32) (n1 : Nat) (n2 : Nat) (nm : Nat) (en : Nat) (kp : Int64) (hn : n ≤ 58) (hkn : kn ≤ 4) (hL : L ≤ 60) (hBs : gB (288000 * n) σ) (hGs : ∀ j, gB (288000 * n) (γ j)) (hKs : gB (288000 * n) κ) (hkp : 10 ≤ n → tk = true ∧ kp = LK κ) (H : Heap) (locs : List Loc) (ls : Array Slot) (w : kW g A s [cX x nw sn tk hs tx tr, cR nw na nb σ, xI g na 49 (zT σ), xI g nb 49 (zI σ), cR sn sa sb κ, xI g sa 49 (zT κ), xI g sb 49 (zI κ), cH hs hq kn, xQ g hq 4 (rq ρ), cR (ρ 0) (α 0) (β 0) (γ 0), xI g (α 0) 49 (zT (γ 0)), xI g (β 0) 49 (zI (γ 0)), cR (ρ 1) (α 1) (β 1) (γ 1), xI g (α 1) 49 (zT (γ 1)), xI g (β 1) 49 (zI (γ 1)), cR (ρ 2) (α 2) (β 2) (γ 2), xI g (α 2) 49 (zT (γ 2)), xI g (β 2) 49 (zI (γ 2)), cR (ρ 3) (α 3) (β 3) (γ 3), xI g (α 3) 49 (zT (γ 3)), xI g (β 3) 49 (zI (γ 3)), cT tx ch L, xC g ch 60 T, cTr tr tw od os po re ca, cR tw ta tb τ, xI g ta 49 (zT τ), xI g tb 49 (zI τ), cO od vb n1 n2 nm en] H locs) (hl : lv_has ls 13 [(5, .int (nI n)), (4, .int (nI 1)), (2, .long kp), (1, .ref x), (0, .ref b)]) :
    W p l e rmL_law s m args below meth c H locs (133 + 404 * n) (1450 + 2424 * n) Q (F0 m 46 ls []) := by
  have hx := F.1.1
  have hb := F.1.2.1
  have hts := F.1.2.2.2.2
  have LP_1 : ∀ (fu : Nat) (n : Nat) (tk : Bool) (σ : Sg) (kn : Nat) (ρ : Nat → Nat) (α : Nat → Nat) (β : Nat → Nat) (γ : Nat → Sg) (κ : Sg) (L : Nat) (T : Nat → Int32) (os : Nat) (po : Nat) (re : Nat) (ca : Nat) (τ : Sg) (vb : Int32) (n1 : Nat) (n2 : Nat) (nm : Nat) (en : Nat) (kp : Int64) (hn : n ≤ 58) (hkn : kn ≤ 4) (hL : L ≤ 60) (hBs : gB (288000 * n) σ) (hGs : ∀ j, gB (288000 * n) (γ j)) (hKs : gB (288000 * n) κ) (hkp : 10 ≤ n → tk = true ∧ kp = LK κ) (H : Heap) (locs : List Loc) (ls : Array Slot), 60 - n < fu → kW g A s [cX x nw sn tk hs tx tr, cR nw na nb σ, xI g na 49 (zT σ), xI g nb 49 (zI σ), cR sn sa sb κ, xI g sa 49 (zT κ), xI g sb 49 (zI κ), cH hs hq kn, xQ g hq 4 (rq ρ), cR (ρ 0) (α 0) (β 0) (γ 0), xI g (α 0) 49 (zT (γ 0)), xI g (β 0) 49 (zI (γ 0)), cR (ρ 1) (α 1) (β 1) (γ 1), xI g (α 1) 49 (zT (γ 1)), xI g (β 1) 49 (zI (γ 1)), cR (ρ 2) (α 2) (β 2) (γ 2), xI g (α 2) 49 (zT (γ 2)), xI g (β 2) 49 (zI (γ 2)), cR (ρ 3) (α 3) (β 3) (γ 3), xI g (α 3) 49 (zT (γ 3)), xI g (β 3) 49 (zI (γ 3)), cT tx ch L, xC g ch 60 T, cTr tr tw od os po re ca, cR tw ta tb τ, xI g ta 49 (zT τ), xI g tb 49 (zI τ), cO od vb n1 n2 nm en] H locs → lv_has ls 13 [(5, .int (nI n)), (4, .int (nI 1)), (2, .long kp), (1, .ref x), (0, .ref b)] → W p l e rmL_law s m args below meth c H locs (133 + 404 * n) (1450 + 2424 * n) Q (F0 m 46 ls []) := by
    intro fu
    induction fu with
    | zero => intro n tk σ kn ρ α β γ κ L T os po re ca τ vb n1 n2 nm en kp hn hkn hL hBs hGs hKs hkp H locs ls hlt; omega
    | succ fu ih_1 =>
      intro n tk σ kn ρ α β γ κ L T os po re ca τ vb n1 n2 nm en kp hn hkn hL hBs hGs hKs hkp H locs ls hlt w hl
      refine lv_iload hx hb dL_law_46 (lv_at hl 0 rfl) ?_
      refine lv_bipush (v := nI 58) hx hb dL_law_48 (by decide) ?_
      refine lv_icmp_ge (tgt := 365) hx hb dL_law_50 (by decide) (fun h_2 => ?_) (fun h_2 => ?_)
      · have h_2 : n ≥ 58 := (kc_ge_t (by omega) (by omega)).mp h_2
        have hn58 : n = 58 := by omega
        refine lv_iload hx hb dL_law_365 (lv_at hl 1 rfl) ?_
        refine lv_if_eq (tgt := 382) hx hb dL_law_367 (by decide) (fun h_3 => ?_) (fun h_3 => ?_)
        · exact absurd h_3 (by decide)
        refine lv_aload_n hx hb dL_law_370 rfl (lv_at hl 3 rfl) ?_
        refine lv_iconst (v := nI 5) hx hb dL_law_371 (by decide) ?_
        refine kcalli (wc := [cX x nw sn tk hs tx tr, cR nw na nb σ, xI g na 49 (zT σ), xI g nb 49 (zI σ), cH hs hq kn]) (wr := [cR sn sa sb κ, xI g sa 49 (zT κ), xI g sb 49 (zI κ), xQ g hq 4 (rq ρ), cR (ρ 0) (α 0) (β 0) (γ 0), xI g (α 0) 49 (zT (γ 0)), xI g (β 0) 49 (zI (γ 0)), cR (ρ 1) (α 1) (β 1) (γ 1), xI g (α 1) 49 (zT (γ 1)), xI g (β 1) 49 (zI (γ 1)), cR (ρ 2) (α 2) (β 2) (γ 2), xI g (α 2) 49 (zT (γ 2)), xI g (β 2) 49 (zI (γ 2)), cR (ρ 3) (α 3) (β 3) (γ 3), xI g (α 3) 49 (zT (γ 3)), xI g (β 3) 49 (zI (γ 3)), cT tx ch L, xC g ch 60 T, cTr tr tw od os po re ca, cR tw ta tb τ, xI g ta 49 (zT τ), xI g tb 49 (zI τ), cO od vb n1 n2 nm en]) (wn := fun (u : Unit) => [cX x nw sn tk hs tx tr, cR nw na nb σ, xI g na 49 (zT σ), xI g nb 49 (zI σ), cR sn sa sb κ, xI g sa 49 (zT κ), xI g sb 49 (zI κ), cH hs hq kn, xQ g hq 4 (rq ρ), cR (ρ 0) (α 0) (β 0) (γ 0), xI g (α 0) 49 (zT (γ 0)), xI g (β 0) 49 (zI (γ 0)), cR (ρ 1) (α 1) (β 1) (γ 1), xI g (α 1) 49 (zT (γ 1)), xI g (β 1) 49 (zI (γ 1)), cR (ρ 2) (α 2) (β 2) (γ 2), xI g (α 2) 49 (zT (γ 2)), xI g (β 2) 49 (zI (γ 2)), cR (ρ 3) (α 3) (β 3) (γ 3), xI g (α 3) 49 (zT (γ 3)), xI g (β 3) 49 (zI (γ 3)), cT tx ch L, xC g ch 60 T, cTr tr tw od os po re ca, cR tw ta tb τ, xI g ta 49 (zT τ), xI g tb 49 (zI τ), cO od vb n1 n2 nm en]) F w [0, 1, 2, 3, 7] [4, 5, 6, 8, 9, 10, 11, 12, 13, 14, 15, 16, 17, 18, 19, 20, 21, 22, 23, 24, 25, 26, 27] [23, 24, 25, 26, 0, 1, 2, 27, 3, 4, 5, 6, 7, 8, 9, 10, 11, 12, 13, 14, 15, 16, 17, 18, 19, 20, 21, 22] rfl rfl rfl (fun _ => rfl)
          (fun hp => va_runS (As := [.ref x, .int (nI 5)]) (rest := []) F.1 (kL_holds l hnl g x nw sn tk hs tx tr na nb σ hq kn (nI 5) H.size hkn (gB_big hBs (by omega))) (va_cwS 2 hts gL_law_L_holds rfl rfl rfl hd_L_holds ⟨Nat.le_of_ble_eq_true rfl, Nat.le_of_ble_eq_true rfl⟩) hp rfl rfl hl.1 rfl (lv_room (Nat.le_of_ble_eq_true rfl)) dL_law_372 ⟨by show _ ≤ (610012 : Nat); omega, by show _ ≤ (7271146 : Nat); omega⟩)
          (fun r_4 _ H locs h_5 w => ?_)
        subst h_5
        refine lv_if_eq (tgt := 382) hx hb dL_law_375 (by decide) (fun h_6 => ?_) (fun h_6 => ?_)
        · exact absurd h_6 (by decide)
        refine lv_iconst (v := nI 1) hx hb dL_law_378 (by decide) ?_
        refine lv_goto (tgt := 383) hx hb dL_law_379 (by decide) ?_
        exact W.widen (k := 610012) (n := 7271146) (by omega) (by omega) (hend _ _ _ w.2.2.2.2)
      · have h_2 : n < 58 := (kc_ge_f (by omega) (by omega)).mp h_2
        refine lv_iload hx hb dL_law_53 (lv_at hl 1 rfl) ?_
        refine lv_if_eq (tgt := 365) hx hb dL_law_55 (by decide) (fun h_7 => ?_) (fun h_7 => ?_)
        · exact absurd h_7 (by decide)
        refine lv_aload_n hx hb dL_law_58 rfl (lv_at hl 4 rfl) ?_
        refine lv_iconst (v := nI 2) hx hb dL_law_59 (by decide) ?_
        refine lv_iload hx hb dL_law_60 (lv_at hl 0 rfl) ?_
        refine lv_imul hx hb dL_law_62 ?_
        refine ktopi (y := nI (2 * n)) (pk_mul 2 n) ?_
        refine kcalli (wc := []) (wr := [cX x nw sn tk hs tx tr, cR nw na nb σ, xI g na 49 (zT σ), xI g nb 49 (zI σ), cR sn sa sb κ, xI g sa 49 (zT κ), xI g sb 49 (zI κ), cH hs hq kn, xQ g hq 4 (rq ρ), cR (ρ 0) (α 0) (β 0) (γ 0), xI g (α 0) 49 (zT (γ 0)), xI g (β 0) 49 (zI (γ 0)), cR (ρ 1) (α 1) (β 1) (γ 1), xI g (α 1) 49 (zT (γ 1)), xI g (β 1) 49 (zI (γ 1)), cR (ρ 2) (α 2) (β 2) (γ 2), xI g (α 2) 49 (zT (γ 2)), xI g (β 2) 49 (zI (γ 2)), cR (ρ 3) (α 3) (β 3) (γ 3), xI g (α 3) 49 (zT (γ 3)), xI g (β 3) 49 (zI (γ 3)), cT tx ch L, xC g ch 60 T, cTr tr tw od os po re ca, cR tw ta tb τ, xI g ta 49 (zT τ), xI g tb 49 (zI τ), cO od vb n1 n2 nm en]) (wn := fun (u : Unit) => [cX x nw sn tk hs tx tr, cR nw na nb σ, xI g na 49 (zT σ), xI g nb 49 (zI σ), cR sn sa sb κ, xI g sa 49 (zT κ), xI g sb 49 (zI κ), cH hs hq kn, xQ g hq 4 (rq ρ), cR (ρ 0) (α 0) (β 0) (γ 0), xI g (α 0) 49 (zT (γ 0)), xI g (β 0) 49 (zI (γ 0)), cR (ρ 1) (α 1) (β 1) (γ 1), xI g (α 1) 49 (zT (γ 1)), xI g (β 1) 49 (zI (γ 1)), cR (ρ 2) (α 2) (β 2) (γ 2), xI g (α 2) 49 (zT (γ 2)), xI g (β 2) 49 (zI (γ 2)), cR (ρ 3) (α 3) (β 3) (γ 3), xI g (α 3) 49 (zT (γ 3)), xI g (β 3) 49 (zI (γ 3)), cT tx ch L, xC g ch 60 T, cTr tr tw od os po re ca, cR tw ta tb τ, xI g ta 49 (zT τ), xI g tb 49 (zI τ), cO od vb n1 n2 nm en]) F w [] [0, 1, 2, 3, 4, 5, 6, 7, 8, 9, 10, 11, 12, 13, 14, 15, 16, 17, 18, 19, 20, 21, 22, 23, 24, 25, 26, 27] [0, 1, 2, 3, 4, 5, 6, 7, 8, 9, 10, 11, 12, 13, 14, 15, 16, 17, 18, 19, 20, 21, 22, 23, 24, 25, 26, 27] rfl rfl rfl (fun _ => rfl)
          (fun hp => va_runS (As := [.ref b, .int (nI (2 * n))]) (rest := []) F.1 (kL_lot l g b n0 xs (2 * n) H.size (⟨by omega, hn0⟩)) (va_cwS 2 hts gL_law_L_lot rfl rfl rfl hd_L_lot ⟨Nat.le_of_ble_eq_true rfl, Nat.le_of_ble_eq_true rfl⟩) (kpreX w hX hbl hbA hp) rfl rfl hl.1 rfl (lv_room (Nat.le_of_ble_eq_true rfl)) dL_law_63 ⟨by show _ ≤ (610012 : Nat); omega, by show _ ≤ (7271146 : Nat); omega⟩)
          (fun r_8 _ H locs h_9 w => ?_)
        try dsimp only at h_9
        obtain ⟨x9, hx9⟩ : ∃ z, z = r_8 := ⟨_, rfl⟩
        refine ktopi (y := x9) (hx9.symm) ?_
        refine lv_istore (lv' := [(6, .int x9), (5, .int (nI n)), (4, .int (nI 1)), (2, .long kp), (1, .ref x), (0, .ref b)]) hx hb dL_law_66 hl (by decide) rfl (fun ls hl => ?_)
        refine lv_aload_n hx hb dL_law_68 rfl (lv_at hl 5 rfl) ?_
        refine lv_iconst (v := nI 2) hx hb dL_law_69 (by decide) ?_
        refine lv_iload hx hb dL_law_70 (lv_at hl 1 rfl) ?_
        refine lv_imul hx hb dL_law_72 ?_
        refine ktopi (y := nI (2 * n)) (pk_mul 2 n) ?_
        refine lv_iconst (v := nI 1) hx hb dL_law_73 (by decide) ?_
        refine lv_iadd hx hb dL_law_74 ?_
        refine ktopi (y := nI (2 * n + 1)) (nI_add (2 * n) 1) ?_
        refine kcalli (wc := []) (wr := [cX x nw sn tk hs tx tr, cR nw na nb σ, xI g na 49 (zT σ), xI g nb 49 (zI σ), cR sn sa sb κ, xI g sa 49 (zT κ), xI g sb 49 (zI κ), cH hs hq kn, xQ g hq 4 (rq ρ), cR (ρ 0) (α 0) (β 0) (γ 0), xI g (α 0) 49 (zT (γ 0)), xI g (β 0) 49 (zI (γ 0)), cR (ρ 1) (α 1) (β 1) (γ 1), xI g (α 1) 49 (zT (γ 1)), xI g (β 1) 49 (zI (γ 1)), cR (ρ 2) (α 2) (β 2) (γ 2), xI g (α 2) 49 (zT (γ 2)), xI g (β 2) 49 (zI (γ 2)), cR (ρ 3) (α 3) (β 3) (γ 3), xI g (α 3) 49 (zT (γ 3)), xI g (β 3) 49 (zI (γ 3)), cT tx ch L, xC g ch 60 T, cTr tr tw od os po re ca, cR tw ta tb τ, xI g ta 49 (zT τ), xI g tb 49 (zI τ), cO od vb n1 n2 nm en]) (wn := fun (u : Unit) => [cX x nw sn tk hs tx tr, cR nw na nb σ, xI g na 49 (zT σ), xI g nb 49 (zI σ), cR sn sa sb κ, xI g sa 49 (zT κ), xI g sb 49 (zI κ), cH hs hq kn, xQ g hq 4 (rq ρ), cR (ρ 0) (α 0) (β 0) (γ 0), xI g (α 0) 49 (zT (γ 0)), xI g (β 0) 49 (zI (γ 0)), cR (ρ 1) (α 1) (β 1) (γ 1), xI g (α 1) 49 (zT (γ 1)), xI g (β 1) 49 (zI (γ 1)), cR (ρ 2) (α 2) (β 2) (γ 2), xI g (α 2) 49 (zT (γ 2)), xI g (β 2) 49 (zI (γ 2)), cR (ρ 3) (α 3) (β 3) (γ 3), xI g (α 3) 49 (zT (γ 3)), xI g (β 3) 49 (zI (γ 3)), cT tx ch L, xC g ch 60 T, cTr tr tw od os po re ca, cR tw ta tb τ, xI g ta 49 (zT τ), xI g tb 49 (zI τ), cO od vb n1 n2 nm en]) F w [] [0, 1, 2, 3, 4, 5, 6, 7, 8, 9, 10, 11, 12, 13, 14, 15, 16, 17, 18, 19, 20, 21, 22, 23, 24, 25, 26, 27] [0, 1, 2, 3, 4, 5, 6, 7, 8, 9, 10, 11, 12, 13, 14, 15, 16, 17, 18, 19, 20, 21, 22, 23, 24, 25, 26, 27] rfl rfl rfl (fun _ => rfl)
          (fun hp => va_runS (As := [.ref b, .int (nI (2 * n + 1))]) (rest := []) F.1 (kL_lot l g b n0 xs (2 * n + 1) H.size (⟨by omega, hn0⟩)) (va_cwS 2 hts gL_law_L_lot rfl rfl rfl hd_L_lot ⟨Nat.le_of_ble_eq_true rfl, Nat.le_of_ble_eq_true rfl⟩) (kpreX w hX hbl hbA hp) rfl rfl hl.1 rfl (lv_room (Nat.le_of_ble_eq_true rfl)) dL_law_75 ⟨by show _ ≤ (610012 : Nat); omega, by show _ ≤ (7271146 : Nat); omega⟩)
          (fun r_10 _ H locs h_11 w => ?_)
        try dsimp only at h_11
        obtain ⟨y9, hy9⟩ : ∃ z, z = r_10 := ⟨_, rfl⟩
        refine ktopi (y := y9) (hy9.symm) ?_
        refine lv_istore (lv' := [(7, .int y9), (6, .int x9), (5, .int (nI n)), (4, .int (nI 1)), (2, .long kp), (1, .ref x), (0, .ref b)]) hx hb dL_law_78 hl (by decide) rfl (fun ls hl => ?_)
        refine lv_aload_n hx hb dL_law_80 rfl (lv_at hl 5 rfl) ?_
        refine kcalll (wc := [cX x nw sn tk hs tx tr, cR nw na nb σ, xI g na 49 (zT σ), xI g nb 49 (zI σ)]) (wr := [cR sn sa sb κ, xI g sa 49 (zT κ), xI g sb 49 (zI κ), cH hs hq kn, xQ g hq 4 (rq ρ), cR (ρ 0) (α 0) (β 0) (γ 0), xI g (α 0) 49 (zT (γ 0)), xI g (β 0) 49 (zI (γ 0)), cR (ρ 1) (α 1) (β 1) (γ 1), xI g (α 1) 49 (zT (γ 1)), xI g (β 1) 49 (zI (γ 1)), cR (ρ 2) (α 2) (β 2) (γ 2), xI g (α 2) 49 (zT (γ 2)), xI g (β 2) 49 (zI (γ 2)), cR (ρ 3) (α 3) (β 3) (γ 3), xI g (α 3) 49 (zT (γ 3)), xI g (β 3) 49 (zI (γ 3)), cT tx ch L, xC g ch 60 T, cTr tr tw od os po re ca, cR tw ta tb τ, xI g ta 49 (zT τ), xI g tb 49 (zI τ), cO od vb n1 n2 nm en]) (wn := fun (u : Unit) => [cX x nw sn tk hs tx tr, cR nw na nb σ, xI g na 49 (zT σ), xI g nb 49 (zI σ), cR sn sa sb κ, xI g sa 49 (zT κ), xI g sb 49 (zI κ), cH hs hq kn, xQ g hq 4 (rq ρ), cR (ρ 0) (α 0) (β 0) (γ 0), xI g (α 0) 49 (zT (γ 0)), xI g (β 0) 49 (zI (γ 0)), cR (ρ 1) (α 1) (β 1) (γ 1), xI g (α 1) 49 (zT (γ 1)), xI g (β 1) 49 (zI (γ 1)), cR (ρ 2) (α 2) (β 2) (γ 2), xI g (α 2) 49 (zT (γ 2)), xI g (β 2) 49 (zI (γ 2)), cR (ρ 3) (α 3) (β 3) (γ 3), xI g (α 3) 49 (zT (γ 3)), xI g (β 3) 49 (zI (γ 3)), cT tx ch L, xC g ch 60 T, cTr tr tw od os po re ca, cR tw ta tb τ, xI g ta 49 (zT τ), xI g tb 49 (zI τ), cO od vb n1 n2 nm en]) F w [0, 1, 2, 3] [4, 5, 6, 7, 8, 9, 10, 11, 12, 13, 14, 15, 16, 17, 18, 19, 20, 21, 22, 23, 24, 25, 26, 27] [24, 25, 26, 27, 0, 1, 2, 3, 4, 5, 6, 7, 8, 9, 10, 11, 12, 13, 14, 15, 16, 17, 18, 19, 20, 21, 22, 23] rfl rfl rfl (fun _ => rfl)
          (fun hp => va_runS (As := [.ref x]) (rest := []) F.1 (kL_look l hnl g x nw sn tk hs tx tr na nb σ H.size ) (va_cwS 1 hts gL_law_L_look rfl rfl rfl hd_L_look ⟨Nat.le_of_ble_eq_true rfl, Nat.le_of_ble_eq_true rfl⟩) hp rfl rfl hl.1 rfl (lv_room (Nat.le_of_ble_eq_true rfl)) dL_law_81 ⟨by show _ ≤ (610012 : Nat); omega, by show _ ≤ (7271146 : Nat); omega⟩)
          (fun r_12 _ H locs h_13 w => ?_)
        subst h_13
        refine lv_lstore (lv' := [(8, .long (LK σ)), (7, .int y9), (6, .int x9), (5, .int (nI n)), (4, .int (nI 1)), (2, .long kp), (1, .ref x), (0, .ref b)]) hx hb dL_law_84 hl (by decide) rfl (fun ls hl => ?_)
        refine lv_aload_n hx hb dL_law_86 rfl (lv_at hl 6 rfl) ?_
        refine kcalli (wc := [cX x nw sn tk hs tx tr, cH hs hq kn]) (wr := [cR nw na nb σ, xI g na 49 (zT σ), xI g nb 49 (zI σ), cR sn sa sb κ, xI g sa 49 (zT κ), xI g sb 49 (zI κ), xQ g hq 4 (rq ρ), cR (ρ 0) (α 0) (β 0) (γ 0), xI g (α 0) 49 (zT (γ 0)), xI g (β 0) 49 (zI (γ 0)), cR (ρ 1) (α 1) (β 1) (γ 1), xI g (α 1) 49 (zT (γ 1)), xI g (β 1) 49 (zI (γ 1)), cR (ρ 2) (α 2) (β 2) (γ 2), xI g (α 2) 49 (zT (γ 2)), xI g (β 2) 49 (zI (γ 2)), cR (ρ 3) (α 3) (β 3) (γ 3), xI g (α 3) 49 (zT (γ 3)), xI g (β 3) 49 (zI (γ 3)), cT tx ch L, xC g ch 60 T, cTr tr tw od os po re ca, cR tw ta tb τ, xI g ta 49 (zT τ), xI g tb 49 (zI τ), cO od vb n1 n2 nm en]) (wn := fun (u : Unit) => [cX x nw sn tk hs tx tr, cR nw na nb σ, xI g na 49 (zT σ), xI g nb 49 (zI σ), cR sn sa sb κ, xI g sa 49 (zT κ), xI g sb 49 (zI κ), cH hs hq kn, xQ g hq 4 (rq ρ), cR (ρ 0) (α 0) (β 0) (γ 0), xI g (α 0) 49 (zT (γ 0)), xI g (β 0) 49 (zI (γ 0)), cR (ρ 1) (α 1) (β 1) (γ 1), xI g (α 1) 49 (zT (γ 1)), xI g (β 1) 49 (zI (γ 1)), cR (ρ 2) (α 2) (β 2) (γ 2), xI g (α 2) 49 (zT (γ 2)), xI g (β 2) 49 (zI (γ 2)), cR (ρ 3) (α 3) (β 3) (γ 3), xI g (α 3) 49 (zT (γ 3)), xI g (β 3) 49 (zI (γ 3)), cT tx ch L, xC g ch 60 T, cTr tr tw od os po re ca, cR tw ta tb τ, xI g ta 49 (zT τ), xI g tb 49 (zI τ), cO od vb n1 n2 nm en]) F w [0, 7] [1, 2, 3, 4, 5, 6, 8, 9, 10, 11, 12, 13, 14, 15, 16, 17, 18, 19, 20, 21, 22, 23, 24, 25, 26, 27] [26, 0, 1, 2, 3, 4, 5, 27, 6, 7, 8, 9, 10, 11, 12, 13, 14, 15, 16, 17, 18, 19, 20, 21, 22, 23, 24, 25] rfl rfl rfl (fun _ => rfl)
          (fun hp => va_runV (As := []) (rest := []) F.1 (kX5_states_s l g x nw sn tk hs tx tr hq kn H.size ) (cwV 0 hts gL_law_X5_states rfl rfl rfl ⟨rfl, hd_X5_states⟩ ⟨Nat.le_of_ble_eq_true rfl, Nat.le_of_ble_eq_true rfl⟩) ⟨hp.1, va_recv F.2.2.2.1.1 w.1 (q0 := 0) (ci := 5) rfl rfl, hp.2⟩ rfl rfl hl.1 rfl (lv_room (Nat.le_of_ble_eq_true rfl)) dL_law_87 ⟨by show _ ≤ (610012 : Nat); omega, by show _ ≤ (7271146 : Nat); omega⟩)
          (fun r_14 _ H locs h_15 w => ?_)
        subst h_15
        refine lv_istore (lv' := [(10, .int (nI kn)), (8, .long (LK σ)), (7, .int y9), (6, .int x9), (5, .int (nI n)), (4, .int (nI 1)), (2, .long kp), (1, .ref x), (0, .ref b)]) hx hb dL_law_90 hl (by decide) rfl (fun ls hl => ?_)
        refine lv_aload_n hx hb dL_law_92 rfl (lv_at hl 7 rfl) ?_
        refine lv_iload hx hb dL_law_93 (lv_at hl 3 rfl) ?_
        refine lv_iload hx hb dL_law_95 (lv_at hl 2 rfl) ?_
        refine kcalli (wc := [cX x nw sn tk hs tx tr, cR nw na nb σ, xI g na 49 (zT σ), xI g nb 49 (zI σ), cH hs hq kn, xQ g hq 4 (rq ρ), cR (ρ 0) (α 0) (β 0) (γ 0), xI g (α 0) 49 (zT (γ 0)), xI g (β 0) 49 (zI (γ 0)), cR (ρ 1) (α 1) (β 1) (γ 1), xI g (α 1) 49 (zT (γ 1)), xI g (β 1) 49 (zI (γ 1)), cR (ρ 2) (α 2) (β 2) (γ 2), xI g (α 2) 49 (zT (γ 2)), xI g (β 2) 49 (zI (γ 2)), cR (ρ 3) (α 3) (β 3) (γ 3), xI g (α 3) 49 (zT (γ 3)), xI g (β 3) 49 (zI (γ 3)), cT tx ch L, xC g ch 60 T, cTr tr tw od os po re ca, cR tw ta tb τ, xI g ta 49 (zT τ), xI g tb 49 (zI τ), cO od vb n1 n2 nm en]) (wr := [cR sn sa sb κ, xI g sa 49 (zT κ), xI g sb 49 (zI κ)]) (wn := fun (u : SA) => [cX x nw sn tk hs tx tr, cR nw na nb u.1, xI g na 49 (zT u.1), xI g nb 49 (zI u.1), cR sn sa sb κ, xI g sa 49 (zT κ), xI g sb 49 (zI κ), cH hs hq u.2.1, xQ g hq 4 (rq u.2.2.1), cR (u.2.2.1 0) (u.2.2.2.1 0) (u.2.2.2.2.1 0) (u.2.2.2.2.2.1 0), xI g (u.2.2.2.1 0) 49 (zT (u.2.2.2.2.2.1 0)), xI g (u.2.2.2.2.1 0) 49 (zI (u.2.2.2.2.2.1 0)), cR (u.2.2.1 1) (u.2.2.2.1 1) (u.2.2.2.2.1 1) (u.2.2.2.2.2.1 1), xI g (u.2.2.2.1 1) 49 (zT (u.2.2.2.2.2.1 1)), xI g (u.2.2.2.2.1 1) 49 (zI (u.2.2.2.2.2.1 1)), cR (u.2.2.1 2) (u.2.2.2.1 2) (u.2.2.2.2.1 2) (u.2.2.2.2.2.1 2), xI g (u.2.2.2.1 2) 49 (zT (u.2.2.2.2.2.1 2)), xI g (u.2.2.2.2.1 2) 49 (zI (u.2.2.2.2.2.1 2)), cR (u.2.2.1 3) (u.2.2.2.1 3) (u.2.2.2.2.1 3) (u.2.2.2.2.2.1 3), xI g (u.2.2.2.1 3) 49 (zT (u.2.2.2.2.2.1 3)), xI g (u.2.2.2.2.1 3) 49 (zI (u.2.2.2.2.2.1 3)), cT tx ch u.2.2.2.2.2.2.1, xC g ch 60 u.2.2.2.2.2.2.2.1, cTr tr tw od u.2.2.2.2.2.2.2.2.1 u.2.2.2.2.2.2.2.2.2.1 u.2.2.2.2.2.2.2.2.2.2.1 u.2.2.2.2.2.2.2.2.2.2.2.1, cR tw ta tb u.2.2.2.2.2.2.2.2.2.2.2.2.1, xI g ta 49 (zT u.2.2.2.2.2.2.2.2.2.2.2.2.1), xI g tb 49 (zI u.2.2.2.2.2.2.2.2.2.2.2.2.1), cO od u.2.2.2.2.2.2.2.2.2.2.2.2.2.1 u.2.2.2.2.2.2.2.2.2.2.2.2.2.2.1 u.2.2.2.2.2.2.2.2.2.2.2.2.2.2.2.1 u.2.2.2.2.2.2.2.2.2.2.2.2.2.2.2.2.1 u.2.2.2.2.2.2.2.2.2.2.2.2.2.2.2.2.2]) F w [0, 1, 2, 3, 7, 8, 9, 10, 11, 12, 13, 14, 15, 16, 17, 18, 19, 20, 21, 22, 23, 24, 25, 26, 27] [4, 5, 6] [3, 4, 5, 6, 0, 1, 2, 7, 8, 9, 10, 11, 12, 13, 14, 15, 16, 17, 18, 19, 20, 21, 22, 23, 24, 25, 26, 27] rfl rfl rfl (fun _ => rfl)
          (fun hp => va_runS (As := [.ref x, .int x9, .int y9]) (rest := []) F.1 (kL_acts l hnl g x nw sn tk hs tx tr na nb σ hq kn ρ α β γ ch L T tw od os po re ca ta tb τ vb n1 n2 nm en x9 y9 H.size hL hkn) (va_cwS 3 hts gL_law_L_acts rfl rfl rfl hd_L_acts ⟨Nat.le_of_ble_eq_true rfl, Nat.le_of_ble_eq_true rfl⟩) hp rfl rfl hl.1 rfl (lv_room (Nat.le_of_ble_eq_true rfl)) dL_law_97 ⟨by show _ ≤ (610012 : Nat); omega, by show _ ≤ (7271146 : Nat); omega⟩)
          (fun r_16 u H locs h_17 w => ?_)
        try dsimp only at h_17
        obtain ⟨u_18, hu9⟩ : ∃ z, z = u := ⟨_, rfl⟩
        subst hu9
        have w : kW g A s [cX x nw sn tk hs tx tr, cR nw na nb u_18.1, xI g na 49 (zT u_18.1), xI g nb 49 (zI u_18.1), cR sn sa sb κ, xI g sa 49 (zT κ), xI g sb 49 (zI κ), cH hs hq u_18.2.1, xQ g hq 4 (rq u_18.2.2.1), cR (u_18.2.2.1 0) (u_18.2.2.2.1 0) (u_18.2.2.2.2.1 0) (u_18.2.2.2.2.2.1 0), xI g (u_18.2.2.2.1 0) 49 (zT (u_18.2.2.2.2.2.1 0)), xI g (u_18.2.2.2.2.1 0) 49 (zI (u_18.2.2.2.2.2.1 0)), cR (u_18.2.2.1 1) (u_18.2.2.2.1 1) (u_18.2.2.2.2.1 1) (u_18.2.2.2.2.2.1 1), xI g (u_18.2.2.2.1 1) 49 (zT (u_18.2.2.2.2.2.1 1)), xI g (u_18.2.2.2.2.1 1) 49 (zI (u_18.2.2.2.2.2.1 1)), cR (u_18.2.2.1 2) (u_18.2.2.2.1 2) (u_18.2.2.2.2.1 2) (u_18.2.2.2.2.2.1 2), xI g (u_18.2.2.2.1 2) 49 (zT (u_18.2.2.2.2.2.1 2)), xI g (u_18.2.2.2.2.1 2) 49 (zI (u_18.2.2.2.2.2.1 2)), cR (u_18.2.2.1 3) (u_18.2.2.2.1 3) (u_18.2.2.2.2.1 3) (u_18.2.2.2.2.2.1 3), xI g (u_18.2.2.2.1 3) 49 (zT (u_18.2.2.2.2.2.1 3)), xI g (u_18.2.2.2.2.1 3) 49 (zI (u_18.2.2.2.2.2.1 3)), cT tx ch u_18.2.2.2.2.2.2.1, xC g ch 60 u_18.2.2.2.2.2.2.2.1, cTr tr tw od u_18.2.2.2.2.2.2.2.2.1 u_18.2.2.2.2.2.2.2.2.2.1 u_18.2.2.2.2.2.2.2.2.2.2.1 u_18.2.2.2.2.2.2.2.2.2.2.2.1, cR tw ta tb u_18.2.2.2.2.2.2.2.2.2.2.2.2.1, xI g ta 49 (zT u_18.2.2.2.2.2.2.2.2.2.2.2.2.1), xI g tb 49 (zI u_18.2.2.2.2.2.2.2.2.2.2.2.2.1), cO od u_18.2.2.2.2.2.2.2.2.2.2.2.2.2.1 u_18.2.2.2.2.2.2.2.2.2.2.2.2.2.2.1 u_18.2.2.2.2.2.2.2.2.2.2.2.2.2.2.2.1 u_18.2.2.2.2.2.2.2.2.2.2.2.2.2.2.2.2.1 u_18.2.2.2.2.2.2.2.2.2.2.2.2.2.2.2.2.2] H locs := w
        obtain ⟨hra, hrb⟩ := h_17
        subst hra
        obtain ⟨σ1, kn1, rr1, aa1, bb1, gg1, L1, T1, os1, po1, re1, ca1, tt1, vb1, m1, m2, nm1, en1⟩ := u_18
        have w : kW g A s [cX x nw sn tk hs tx tr, cR nw na nb σ1, xI g na 49 (zT σ1), xI g nb 49 (zI σ1), cR sn sa sb κ, xI g sa 49 (zT κ), xI g sb 49 (zI κ), cH hs hq kn1, xQ g hq 4 (rq rr1), cR (rr1 0) (aa1 0) (bb1 0) (gg1 0), xI g (aa1 0) 49 (zT (gg1 0)), xI g (bb1 0) 49 (zI (gg1 0)), cR (rr1 1) (aa1 1) (bb1 1) (gg1 1), xI g (aa1 1) 49 (zT (gg1 1)), xI g (bb1 1) 49 (zI (gg1 1)), cR (rr1 2) (aa1 2) (bb1 2) (gg1 2), xI g (aa1 2) 49 (zT (gg1 2)), xI g (bb1 2) 49 (zI (gg1 2)), cR (rr1 3) (aa1 3) (bb1 3) (gg1 3), xI g (aa1 3) 49 (zT (gg1 3)), xI g (bb1 3) 49 (zI (gg1 3)), cT tx ch L1, xC g ch 60 T1, cTr tr tw od os1 po1 re1 ca1, cR tw ta tb tt1, xI g ta 49 (zT tt1), xI g tb 49 (zI tt1), cO od vb1 m1 m2 nm1 en1] H locs := w
        have hrb : actP σ kn γ σ1 kn1 gg1 L1 := hrb
        obtain ⟨hb1, hg1⟩ := actP_g hrb hGs hBs
        obtain ⟨hk1, hk2, hk3, hk4⟩ := actP_k hrb hkn
        have hL1 : L1 ≤ 60 := hrb.2.1
        have hB1 : 288000 * n + 288000 ≤ 2147483647 := by omega
        have hKs1 : gB (288000 * n + 288000) κ := hKs.mono (by omega)
        refine lv_if_eq (tgt := 125) hx hb dL_law_100 (by decide) (fun h_19 => ?_) (fun h_19 => ?_)
        · exact absurd h_19 (by decide)
        have JN_20 : ∀   (H : Heap) (locs : List Loc) (ls : Array Slot), kW g A s [cX x nw sn tk hs tx tr, cR nw na nb σ1, xI g na 49 (zT σ1), xI g nb 49 (zI σ1), cR sn sa sb κ, xI g sa 49 (zT κ), xI g sb 49 (zI κ), cH hs hq kn1, xQ g hq 4 (rq rr1), cR (rr1 0) (aa1 0) (bb1 0) (gg1 0), xI g (aa1 0) 49 (zT (gg1 0)), xI g (bb1 0) 49 (zI (gg1 0)), cR (rr1 1) (aa1 1) (bb1 1) (gg1 1), xI g (aa1 1) 49 (zT (gg1 1)), xI g (bb1 1) 49 (zI (gg1 1)), cR (rr1 2) (aa1 2) (bb1 2) (gg1 2), xI g (aa1 2) 49 (zT (gg1 2)), xI g (bb1 2) 49 (zI (gg1 2)), cR (rr1 3) (aa1 3) (bb1 3) (gg1 3), xI g (aa1 3) 49 (zT (gg1 3)), xI g (bb1 3) 49 (zI (gg1 3)), cT tx ch L1, xC g ch 60 T1, cTr tr tw od os1 po1 re1 ca1, cR tw ta tb tt1, xI g ta 49 (zT tt1), xI g tb 49 (zI tt1), cO od vb1 m1 m2 nm1 en1] H locs → lv_has ls 13 [(10, .int (nI kn)), (8, .long (LK σ)), (7, .int y9), (6, .int x9), (5, .int (nI n)), (4, .int (nI 1)), (2, .long kp), (1, .ref x), (0, .ref b)] → W p l e rmL_law s m args below meth c H locs (133 + 404 * n + 211) (1450 + 2424 * n + 1266) Q (F0 m 121 ls []) := by
          intro   H locs ls w hl
          refine lv_iconst (v := nI 1) hx hb dL_law_121 (by decide) ?_
          refine lv_goto (tgt := 126) hx hb dL_law_122 (by decide) ?_
          refine lv_istore (lv' := [(4, .int (nI 1)), (10, .int (nI kn)), (8, .long (LK σ)), (7, .int y9), (6, .int x9), (5, .int (nI n)), (2, .long kp), (1, .ref x), (0, .ref b)]) hx hb dL_law_126 hl (by decide) rfl (fun ls hl => ?_)
          refine lv_aload_n hx hb dL_law_128 rfl (lv_at hl 7 rfl) ?_
          refine kcalli (wc := [cX x nw sn tk hs tx tr, cH hs hq kn1]) (wr := [cR nw na nb σ1, xI g na 49 (zT σ1), xI g nb 49 (zI σ1), cR sn sa sb κ, xI g sa 49 (zT κ), xI g sb 49 (zI κ), xQ g hq 4 (rq rr1), cR (rr1 0) (aa1 0) (bb1 0) (gg1 0), xI g (aa1 0) 49 (zT (gg1 0)), xI g (bb1 0) 49 (zI (gg1 0)), cR (rr1 1) (aa1 1) (bb1 1) (gg1 1), xI g (aa1 1) 49 (zT (gg1 1)), xI g (bb1 1) 49 (zI (gg1 1)), cR (rr1 2) (aa1 2) (bb1 2) (gg1 2), xI g (aa1 2) 49 (zT (gg1 2)), xI g (bb1 2) 49 (zI (gg1 2)), cR (rr1 3) (aa1 3) (bb1 3) (gg1 3), xI g (aa1 3) 49 (zT (gg1 3)), xI g (bb1 3) 49 (zI (gg1 3)), cT tx ch L1, xC g ch 60 T1, cTr tr tw od os1 po1 re1 ca1, cR tw ta tb tt1, xI g ta 49 (zT tt1), xI g tb 49 (zI tt1), cO od vb1 m1 m2 nm1 en1]) (wn := fun (u : Unit) => [cX x nw sn tk hs tx tr, cR nw na nb σ1, xI g na 49 (zT σ1), xI g nb 49 (zI σ1), cR sn sa sb κ, xI g sa 49 (zT κ), xI g sb 49 (zI κ), cH hs hq kn1, xQ g hq 4 (rq rr1), cR (rr1 0) (aa1 0) (bb1 0) (gg1 0), xI g (aa1 0) 49 (zT (gg1 0)), xI g (bb1 0) 49 (zI (gg1 0)), cR (rr1 1) (aa1 1) (bb1 1) (gg1 1), xI g (aa1 1) 49 (zT (gg1 1)), xI g (bb1 1) 49 (zI (gg1 1)), cR (rr1 2) (aa1 2) (bb1 2) (gg1 2), xI g (aa1 2) 49 (zT (gg1 2)), xI g (bb1 2) 49 (zI (gg1 2)), cR (rr1 3) (aa1 3) (bb1 3) (gg1 3), xI g (aa1 3) 49 (zT (gg1 3)), xI g (bb1 3) 49 (zI (gg1 3)), cT tx ch L1, xC g ch 60 T1, cTr tr tw od os1 po1 re1 ca1, cR tw ta tb tt1, xI g ta 49 (zT tt1), xI g tb 49 (zI tt1), cO od vb1 m1 m2 nm1 en1]) F w [0, 7] [1, 2, 3, 4, 5, 6, 8, 9, 10, 11, 12, 13, 14, 15, 16, 17, 18, 19, 20, 21, 22, 23, 24, 25, 26, 27] [26, 0, 1, 2, 3, 4, 5, 27, 6, 7, 8, 9, 10, 11, 12, 13, 14, 15, 16, 17, 18, 19, 20, 21, 22, 23, 24, 25] rfl rfl rfl (fun _ => rfl)
            (fun hp => va_runV (As := []) (rest := []) F.1 (kX5_states_s l g x nw sn tk hs tx tr hq kn1 H.size ) (cwV 0 hts gL_law_X5_states rfl rfl rfl ⟨rfl, hd_X5_states⟩ ⟨Nat.le_of_ble_eq_true rfl, Nat.le_of_ble_eq_true rfl⟩) ⟨hp.1, va_recv F.2.2.2.1.1 w.1 (q0 := 0) (ci := 5) rfl rfl, hp.2⟩ rfl rfl hl.1 rfl (lv_room (Nat.le_of_ble_eq_true rfl)) dL_law_129 ⟨by show _ ≤ (610012 : Nat); omega, by show _ ≤ (7271146 : Nat); omega⟩)
            (fun r_21 _ H locs h_22 w => ?_)
          subst h_22
          refine lv_istore (lv' := [(11, .int (nI kn1)), (4, .int (nI 1)), (10, .int (nI kn)), (8, .long (LK σ)), (7, .int y9), (6, .int x9), (5, .int (nI n)), (2, .long kp), (1, .ref x), (0, .ref b)]) hx hb dL_law_132 hl (by decide) rfl (fun ls hl => ?_)
          refine lv_iload hx hb dL_law_134 (lv_at hl 1 rfl) ?_
          refine lv_if_eq (tgt := 175) hx hb dL_law_136 (by decide) (fun h_23 => ?_) (fun h_23 => ?_)
          · exact absurd h_23 (by decide)
          have JN_24 : ∀   (H : Heap) (locs : List Loc) (ls : Array Slot), kW g A s [cX x nw sn tk hs tx tr, cR nw na nb σ1, xI g na 49 (zT σ1), xI g nb 49 (zI σ1), cR sn sa sb κ, xI g sa 49 (zT κ), xI g sb 49 (zI κ), cH hs hq kn1, xQ g hq 4 (rq rr1), cR (rr1 0) (aa1 0) (bb1 0) (gg1 0), xI g (aa1 0) 49 (zT (gg1 0)), xI g (bb1 0) 49 (zI (gg1 0)), cR (rr1 1) (aa1 1) (bb1 1) (gg1 1), xI g (aa1 1) 49 (zT (gg1 1)), xI g (bb1 1) 49 (zI (gg1 1)), cR (rr1 2) (aa1 2) (bb1 2) (gg1 2), xI g (aa1 2) 49 (zT (gg1 2)), xI g (bb1 2) 49 (zI (gg1 2)), cR (rr1 3) (aa1 3) (bb1 3) (gg1 3), xI g (aa1 3) 49 (zT (gg1 3)), xI g (bb1 3) 49 (zI (gg1 3)), cT tx ch L1, xC g ch 60 T1, cTr tr tw od os1 po1 re1 ca1, cR tw ta tb tt1, xI g ta 49 (zT tt1), xI g tb 49 (zI tt1), cO od vb1 m1 m2 nm1 en1] H locs → lv_has ls 13 [(11, .int (nI kn1)), (4, .int (nI 1)), (10, .int (nI kn)), (8, .long (LK σ)), (7, .int y9), (6, .int x9), (5, .int (nI n)), (2, .long kp), (1, .ref x), (0, .ref b)] → W p l e rmL_law s m args below meth c H locs (133 + 404 * n + 259) (1450 + 2424 * n + 1554) Q (F0 m 171 ls []) := by
            intro   H locs ls w hl
            refine lv_iconst (v := nI 1) hx hb dL_law_171 (by decide) ?_
            refine lv_goto (tgt := 176) hx hb dL_law_172 (by decide) ?_
            refine lv_istore (lv' := [(4, .int (nI 1)), (11, .int (nI kn1)), (10, .int (nI kn)), (8, .long (LK σ)), (7, .int y9), (6, .int x9), (5, .int (nI n)), (2, .long kp), (1, .ref x), (0, .ref b)]) hx hb dL_law_176 hl (by decide) rfl (fun ls hl => ?_)
            refine lv_iload hx hb dL_law_178 (lv_at hl 0 rfl) ?_
            refine lv_if_eq (tgt := 230) hx hb dL_law_180 (by decide) (fun h_25 => ?_) (fun h_25 => ?_)
            · exact absurd h_25 (by decide)
            have JN_26 : ∀ (σ2 : Sg) (kn2 : Nat) (gg2 : Nat → Sg) (hkn2 : kn2 ≤ 4) (hb2 : gB (288000 * n + 288000) σ2) (hg2 : ∀ j, gB (288000 * n + 288000) (gg2 j)) (H : Heap) (locs : List Loc) (ls : Array Slot), kW g A s [cX x nw sn tk hs tx tr, cR nw na nb σ2, xI g na 49 (zT σ2), xI g nb 49 (zI σ2), cR sn sa sb κ, xI g sa 49 (zT κ), xI g sb 49 (zI κ), cH hs hq kn2, xQ g hq 4 (rq rr1), cR (rr1 0) (aa1 0) (bb1 0) (gg2 0), xI g (aa1 0) 49 (zT (gg2 0)), xI g (bb1 0) 49 (zI (gg2 0)), cR (rr1 1) (aa1 1) (bb1 1) (gg2 1), xI g (aa1 1) 49 (zT (gg2 1)), xI g (bb1 1) 49 (zI (gg2 1)), cR (rr1 2) (aa1 2) (bb1 2) (gg2 2), xI g (aa1 2) 49 (zT (gg2 2)), xI g (bb1 2) 49 (zI (gg2 2)), cR (rr1 3) (aa1 3) (bb1 3) (gg2 3), xI g (aa1 3) 49 (zT (gg2 3)), xI g (bb1 3) 49 (zI (gg2 3)), cT tx ch L1, xC g ch 60 T1, cTr tr tw od os1 po1 re1 ca1, cR tw ta tb tt1, xI g ta 49 (zT tt1), xI g tb 49 (zI tt1), cO od vb1 m1 m2 nm1 en1] H locs → lv_has ls 13 [(4, .int (nI 1)), (5, .int (nI n)), (2, .long kp), (1, .ref x), (0, .ref b)] → W p l e rmL_law s m args below meth c H locs (133 + 404 * n + 307) (1450 + 2424 * n + 1842) Q (F0 m 230 ls []) := by
              intro σ2 kn2 gg2 hkn2 hb2 hg2 H locs ls w hl
              refine lv_iload hx hb dL_law_230 (lv_at hl 0 rfl) ?_
              refine lv_if_eq (tgt := 268) hx hb dL_law_232 (by decide) (fun h_27 => ?_) (fun h_27 => ?_)
              · exact absurd h_27 (by decide)
              have JN_28 : ∀ (kp2 : Int64) (tk2 : Bool) (kk2 : Sg) (hK2 : gB (288000 * n + 288000) kk2) (hkp2 : 9 ≤ n → tk2 = true ∧ kp2 = LK kk2) (H : Heap) (locs : List Loc) (ls : Array Slot), kW g A s [cX x nw sn tk2 hs tx tr, cR nw na nb σ2, xI g na 49 (zT σ2), xI g nb 49 (zI σ2), cR sn sa sb kk2, xI g sa 49 (zT kk2), xI g sb 49 (zI kk2), cH hs hq kn2, xQ g hq 4 (rq rr1), cR (rr1 0) (aa1 0) (bb1 0) (gg2 0), xI g (aa1 0) 49 (zT (gg2 0)), xI g (bb1 0) 49 (zI (gg2 0)), cR (rr1 1) (aa1 1) (bb1 1) (gg2 1), xI g (aa1 1) 49 (zT (gg2 1)), xI g (bb1 1) 49 (zI (gg2 1)), cR (rr1 2) (aa1 2) (bb1 2) (gg2 2), xI g (aa1 2) 49 (zT (gg2 2)), xI g (bb1 2) 49 (zI (gg2 2)), cR (rr1 3) (aa1 3) (bb1 3) (gg2 3), xI g (aa1 3) 49 (zT (gg2 3)), xI g (bb1 3) 49 (zI (gg2 3)), cT tx ch L1, xC g ch 60 T1, cTr tr tw od os1 po1 re1 ca1, cR tw ta tb tt1, xI g ta 49 (zT tt1), xI g tb 49 (zI tt1), cO od vb1 m1 m2 nm1 en1] H locs → lv_has ls 13 [(4, .int (nI 1)), (5, .int (nI n)), (2, .long kp2), (1, .ref x), (0, .ref b)] → W p l e rmL_law s m args below meth c H locs (133 + 404 * n + 355) (1450 + 2424 * n + 2130) Q (F0 m 268 ls []) := by
                intro kp2 tk2 kk2 hK2 hkp2 H locs ls w hl
                refine lv_iload hx hb dL_law_268 (lv_at hl 0 rfl) ?_
                refine lv_if_eq (tgt := 310) hx hb dL_law_270 (by decide) (fun h_29 => ?_) (fun h_29 => ?_)
                · exact absurd h_29 (by decide)
                have JN_30 : ∀ (σ3 : Sg) (kn3 : Nat) (rr3 : Nat → Nat) (aa3 : Nat → Nat) (bb3 : Nat → Nat) (gg3 : Nat → Sg) (hkn3 : kn3 ≤ 4) (hb3 : gB (288000 * n + 288000) σ3) (hg3 : ∀ j, gB (288000 * n + 288000) (gg3 j)) (H : Heap) (locs : List Loc) (ls : Array Slot), kW g A s [cX x nw sn tk2 hs tx tr, cR nw na nb σ3, xI g na 49 (zT σ3), xI g nb 49 (zI σ3), cR sn sa sb kk2, xI g sa 49 (zT kk2), xI g sb 49 (zI kk2), cH hs hq kn3, xQ g hq 4 (rq rr3), cR (rr3 0) (aa3 0) (bb3 0) (gg3 0), xI g (aa3 0) 49 (zT (gg3 0)), xI g (bb3 0) 49 (zI (gg3 0)), cR (rr3 1) (aa3 1) (bb3 1) (gg3 1), xI g (aa3 1) 49 (zT (gg3 1)), xI g (bb3 1) 49 (zI (gg3 1)), cR (rr3 2) (aa3 2) (bb3 2) (gg3 2), xI g (aa3 2) 49 (zT (gg3 2)), xI g (bb3 2) 49 (zI (gg3 2)), cR (rr3 3) (aa3 3) (bb3 3) (gg3 3), xI g (aa3 3) 49 (zT (gg3 3)), xI g (bb3 3) 49 (zI (gg3 3)), cT tx ch L1, xC g ch 60 T1, cTr tr tw od os1 po1 re1 ca1, cR tw ta tb tt1, xI g ta 49 (zT tt1), xI g tb 49 (zI tt1), cO od vb1 m1 m2 nm1 en1] H locs → lv_has ls 13 [(4, .int (nI 1)), (5, .int (nI n)), (2, .long kp2), (1, .ref x), (0, .ref b)] → W p l e rmL_law s m args below meth c H locs (133 + 404 * n + 403) (1450 + 2424 * n + 2418) Q (F0 m 310 ls []) := by
                  intro σ3 kn3 rr3 aa3 bb3 gg3 hkn3 hb3 hg3 H locs ls w hl
                  refine lv_iload hx hb dL_law_310 (lv_at hl 0 rfl) ?_
                  refine lv_if_eq (tgt := 359) hx hb dL_law_312 (by decide) (fun h_31 => ?_) (fun h_31 => ?_)
                  · exact absurd h_31 (by decide)
                  have JN_32 : ∀ (σ4 : Sg) (kn4 : Nat) (hkn4 : kn4 ≤ 4) (hb4 : gB (288000 * n + 288000) σ4) (H : Heap) (locs : List Loc) (ls : Array Slot), kW g A s [cX x nw sn tk2 hs tx tr, cR nw na nb σ4, xI g na 49 (zT σ4), xI g nb 49 (zI σ4), cR sn sa sb kk2, xI g sa 49 (zT kk2), xI g sb 49 (zI kk2), cH hs hq kn4, xQ g hq 4 (rq rr3), cR (rr3 0) (aa3 0) (bb3 0) (gg3 0), xI g (aa3 0) 49 (zT (gg3 0)), xI g (bb3 0) 49 (zI (gg3 0)), cR (rr3 1) (aa3 1) (bb3 1) (gg3 1), xI g (aa3 1) 49 (zT (gg3 1)), xI g (bb3 1) 49 (zI (gg3 1)), cR (rr3 2) (aa3 2) (bb3 2) (gg3 2), xI g (aa3 2) 49 (zT (gg3 2)), xI g (bb3 2) 49 (zI (gg3 2)), cR (rr3 3) (aa3 3) (bb3 3) (gg3 3), xI g (aa3 3) 49 (zT (gg3 3)), xI g (bb3 3) 49 (zI (gg3 3)), cT tx ch L1, xC g ch 60 T1, cTr tr tw od os1 po1 re1 ca1, cR tw ta tb tt1, xI g ta 49 (zT tt1), xI g tb 49 (zI tt1), cO od vb1 m1 m2 nm1 en1] H locs → lv_has ls 13 [(4, .int (nI 1)), (5, .int (nI n)), (2, .long kp2), (1, .ref x), (0, .ref b)] → W p l e rmL_law s m args below meth c H locs (133 + 404 * n + 404) (1450 + 2424 * n + 2424) Q (F0 m 359 ls []) := by
                    intro σ4 kn4 hkn4 hb4 H locs ls w hl
                    refine lv_iinc (v := nI (n + 1)) (lv' := [(5, .int (nI (n + 1))), (4, .int (nI 1)), (2, .long kp2), (1, .ref x), (0, .ref b)]) hx hb dL_law_359 hl (k := 1) rfl (nI_add n 1) (by decide) rfl (fun ls hl => ?_)
                    refine lv_goto (tgt := 46) hx hb dL_law_362 (by decide) ?_
                    refine W.widen (k := 133 + 404 * (n + 1)) (n := 1450 + 2424 * (n + 1)) (by omega) (by omega) ?_
                    exact ih_1 (n + 1) tk2 σ4 kn4 rr3 aa3 bb3 gg3 kk2 L1 T1 os1 po1 re1 ca1 tt1 vb1 m1 m2 nm1 en1 kp2 (by omega) hkn4 hL1 (hb4.mono (by omega)) (fun j => (hg3 j).mono (by omega)) (hK2.mono (by omega)) (fun hc => hkp2 (by omega)) _ _ _ (by omega) (kW.perm w [0, 1, 2, 3, 4, 5, 6, 7, 8, 9, 10, 11, 12, 13, 14, 15, 16, 17, 18, 19, 20, 21, 22, 23, 24, 25, 26, 27] rfl rfl) (lv_sub hl [0, 1, 2, 3, 4] rfl)
                  refine lv_iload hx hb dL_law_315 (lv_at hl 1 rfl) ?_
                  refine lv_bipush (v := nI 9) hx hb dL_law_317 (by decide) ?_
                  refine lv_irem hx hb dL_law_319 ((kc0_eq_f (by omega)).mpr (by omega)) ?_
                  refine ktopi (y := nI (n % 9)) (pk_rem (a := n) (d := 9) (by omega) (by omega) (by omega)) ?_
                  refine lv_bipush (v := nI 8) hx hb dL_law_320 (by decide) ?_
                  refine lv_icmp_ne (tgt := 359) hx hb dL_law_322 (by decide) (fun h_33 => ?_) (fun h_33 => ?_)
                  · have h_33 : n % 9 ≠ 8 := (kc_ne_t (by omega) (by omega)).mp h_33
                    refine W.widen (k := 133 + 404 * n + 404) (n := 1450 + 2424 * n + 2424) (by omega) (by omega) ?_
                    exact JN_32 σ3 kn3 hkn3 hb3 _ _ _ (kW.perm w [0, 1, 2, 3, 4, 5, 6, 7, 8, 9, 10, 11, 12, 13, 14, 15, 16, 17, 18, 19, 20, 21, 22, 23, 24, 25, 26, 27] rfl rfl) (lv_sub hl [0, 1, 2, 3, 4] rfl)
                  · have h_33 : n % 9 = 8 := (kc_ne_f (by omega) (by omega)).mp h_33
                    refine lv_aload_n hx hb dL_law_325 rfl (lv_at hl 3 rfl) ?_
                    refine kcalli (wc := [cX x nw sn tk2 hs tx tr, cH hs hq kn3]) (wr := [cR nw na nb σ3, xI g na 49 (zT σ3), xI g nb 49 (zI σ3), cR sn sa sb kk2, xI g sa 49 (zT kk2), xI g sb 49 (zI kk2), xQ g hq 4 (rq rr3), cR (rr3 0) (aa3 0) (bb3 0) (gg3 0), xI g (aa3 0) 49 (zT (gg3 0)), xI g (bb3 0) 49 (zI (gg3 0)), cR (rr3 1) (aa3 1) (bb3 1) (gg3 1), xI g (aa3 1) 49 (zT (gg3 1)), xI g (bb3 1) 49 (zI (gg3 1)), cR (rr3 2) (aa3 2) (bb3 2) (gg3 2), xI g (aa3 2) 49 (zT (gg3 2)), xI g (bb3 2) 49 (zI (gg3 2)), cR (rr3 3) (aa3 3) (bb3 3) (gg3 3), xI g (aa3 3) 49 (zT (gg3 3)), xI g (bb3 3) 49 (zI (gg3 3)), cT tx ch L1, xC g ch 60 T1, cTr tr tw od os1 po1 re1 ca1, cR tw ta tb tt1, xI g ta 49 (zT tt1), xI g tb 49 (zI tt1), cO od vb1 m1 m2 nm1 en1]) (wn := fun (u : Unit) => [cX x nw sn tk2 hs tx tr, cR nw na nb σ3, xI g na 49 (zT σ3), xI g nb 49 (zI σ3), cR sn sa sb kk2, xI g sa 49 (zT kk2), xI g sb 49 (zI kk2), cH hs hq kn3, xQ g hq 4 (rq rr3), cR (rr3 0) (aa3 0) (bb3 0) (gg3 0), xI g (aa3 0) 49 (zT (gg3 0)), xI g (bb3 0) 49 (zI (gg3 0)), cR (rr3 1) (aa3 1) (bb3 1) (gg3 1), xI g (aa3 1) 49 (zT (gg3 1)), xI g (bb3 1) 49 (zI (gg3 1)), cR (rr3 2) (aa3 2) (bb3 2) (gg3 2), xI g (aa3 2) 49 (zT (gg3 2)), xI g (bb3 2) 49 (zI (gg3 2)), cR (rr3 3) (aa3 3) (bb3 3) (gg3 3), xI g (aa3 3) 49 (zT (gg3 3)), xI g (bb3 3) 49 (zI (gg3 3)), cT tx ch L1, xC g ch 60 T1, cTr tr tw od os1 po1 re1 ca1, cR tw ta tb tt1, xI g ta 49 (zT tt1), xI g tb 49 (zI tt1), cO od vb1 m1 m2 nm1 en1]) F w [0, 7] [1, 2, 3, 4, 5, 6, 8, 9, 10, 11, 12, 13, 14, 15, 16, 17, 18, 19, 20, 21, 22, 23, 24, 25, 26, 27] [26, 0, 1, 2, 3, 4, 5, 27, 6, 7, 8, 9, 10, 11, 12, 13, 14, 15, 16, 17, 18, 19, 20, 21, 22, 23, 24, 25] rfl rfl rfl (fun _ => rfl)
                      (fun hp => va_runV (As := []) (rest := []) F.1 (kX5_states_s l g x nw sn tk2 hs tx tr hq kn3 H.size ) (cwV 0 hts gL_law_X5_states rfl rfl rfl ⟨rfl, hd_X5_states⟩ ⟨Nat.le_of_ble_eq_true rfl, Nat.le_of_ble_eq_true rfl⟩) ⟨hp.1, va_recv F.2.2.2.1.1 w.1 (q0 := 0) (ci := 5) rfl rfl, hp.2⟩ rfl rfl hl.1 rfl (lv_room (Nat.le_of_ble_eq_true rfl)) dL_law_326 ⟨by show _ ≤ (610012 : Nat); omega, by show _ ≤ (7271146 : Nat); omega⟩)
                      (fun r_34 _ H locs h_35 w => ?_)
                    subst h_35
                    refine lv_istore (lv' := [(12, .int (nI kn3)), (4, .int (nI 1)), (5, .int (nI n)), (2, .long kp2), (1, .ref x), (0, .ref b)]) hx hb dL_law_329 hl (by decide) rfl (fun ls hl => ?_)
                    rcases (show kn3 = 0 ∨ kn3 ≠ 0 from Decidable.em _) with h_36 | h_36
                    · skip
                      subst h_36
                      refine lv_aload_n hx hb dL_law_331 rfl (lv_at hl 4 rfl) ?_
                      refine kcalli (wc := [cX x nw sn tk2 hs tx tr, cH hs hq 0]) (wr := [cR nw na nb σ3, xI g na 49 (zT σ3), xI g nb 49 (zI σ3), cR sn sa sb kk2, xI g sa 49 (zT kk2), xI g sb 49 (zI kk2), xQ g hq 4 (rq rr3), cR (rr3 0) (aa3 0) (bb3 0) (gg3 0), xI g (aa3 0) 49 (zT (gg3 0)), xI g (bb3 0) 49 (zI (gg3 0)), cR (rr3 1) (aa3 1) (bb3 1) (gg3 1), xI g (aa3 1) 49 (zT (gg3 1)), xI g (bb3 1) 49 (zI (gg3 1)), cR (rr3 2) (aa3 2) (bb3 2) (gg3 2), xI g (aa3 2) 49 (zT (gg3 2)), xI g (bb3 2) 49 (zI (gg3 2)), cR (rr3 3) (aa3 3) (bb3 3) (gg3 3), xI g (aa3 3) 49 (zT (gg3 3)), xI g (bb3 3) 49 (zI (gg3 3)), cT tx ch L1, xC g ch 60 T1, cTr tr tw od os1 po1 re1 ca1, cR tw ta tb tt1, xI g ta 49 (zT tt1), xI g tb 49 (zI tt1), cO od vb1 m1 m2 nm1 en1]) (wn := fun (u : Unit) => [cX x nw sn tk2 hs tx tr, cR nw na nb σ3, xI g na 49 (zT σ3), xI g nb 49 (zI σ3), cR sn sa sb kk2, xI g sa 49 (zT kk2), xI g sb 49 (zI kk2), cH hs hq 0, xQ g hq 4 (rq rr3), cR (rr3 0) (aa3 0) (bb3 0) (gg3 0), xI g (aa3 0) 49 (zT (gg3 0)), xI g (bb3 0) 49 (zI (gg3 0)), cR (rr3 1) (aa3 1) (bb3 1) (gg3 1), xI g (aa3 1) 49 (zT (gg3 1)), xI g (bb3 1) 49 (zI (gg3 1)), cR (rr3 2) (aa3 2) (bb3 2) (gg3 2), xI g (aa3 2) 49 (zT (gg3 2)), xI g (bb3 2) 49 (zI (gg3 2)), cR (rr3 3) (aa3 3) (bb3 3) (gg3 3), xI g (aa3 3) 49 (zT (gg3 3)), xI g (bb3 3) 49 (zI (gg3 3)), cT tx ch L1, xC g ch 60 T1, cTr tr tw od os1 po1 re1 ca1, cR tw ta tb tt1, xI g ta 49 (zT tt1), xI g tb 49 (zI tt1), cO od vb1 m1 m2 nm1 en1]) F w [0, 7] [1, 2, 3, 4, 5, 6, 8, 9, 10, 11, 12, 13, 14, 15, 16, 17, 18, 19, 20, 21, 22, 23, 24, 25, 26, 27] [26, 0, 1, 2, 3, 4, 5, 27, 6, 7, 8, 9, 10, 11, 12, 13, 14, 15, 16, 17, 18, 19, 20, 21, 22, 23, 24, 25] rfl rfl rfl (fun _ => rfl)
                        (fun hp => vx_runSW (As := [.ref x]) (rest := []) F.1 (kL_undo_S l hnl g x nw sn tk2 hs tx tr hq H.size ) (vx_cwSW 1 hts gL_law_L_undo rfl rfl rfl hd_L_undo ⟨Nat.le_of_ble_eq_true rfl, Nat.le_of_ble_eq_true rfl⟩) hp rfl rfl hl.1 rfl (lv_room (Nat.le_of_ble_eq_true rfl)) dL_law_332 ⟨by show _ ≤ (610012 : Nat); omega, by show _ ≤ (7271146 : Nat); omega⟩)
                        (fun r_37 _ H locs h_38 w => ?_)
                      subst h_38
                      refine lv_iload hx hb dL_law_335 (lv_at hl 0 rfl) ?_
                      refine lv_if_ne (tgt := 345) hx hb dL_law_337 (by decide) (fun h_39 => ?_) (fun h_39 => ?_)
                      · exact absurd rfl h_39
                      refine lv_bipush (v := (-103)) hx hb dL_law_340 (by decide) ?_
                      refine lv_goto (tgt := 349) hx hb dL_law_342 (by decide) ?_
                      refine lv_icmp_ne (tgt := 356) hx hb dL_law_349 (by decide) (fun h_40 => ?_) (fun h_40 => ?_)
                      · exact absurd rfl h_40
                      refine lv_iconst (v := nI 1) hx hb dL_law_352 (by decide) ?_
                      refine lv_goto (tgt := 357) hx hb dL_law_353 (by decide) ?_
                      refine lv_istore (lv' := [(4, .int (nI 1)), (12, .int (nI 0)), (5, .int (nI n)), (2, .long kp2), (1, .ref x), (0, .ref b)]) hx hb dL_law_357 hl (by decide) rfl (fun ls hl => ?_)
                      refine W.widen (k := 133 + 404 * n + 404) (n := 1450 + 2424 * n + 2424) (by omega) (by omega) ?_
                      exact JN_32 σ3 0 (by omega) hb3 _ _ _ (kW.perm w [0, 1, 2, 3, 4, 5, 6, 7, 8, 9, 10, 11, 12, 13, 14, 15, 16, 17, 18, 19, 20, 21, 22, 23, 24, 25, 26, 27] rfl rfl) (lv_sub hl [0, 2, 3, 4, 5] rfl)
                    · skip
                      obtain ⟨q3, hq3⟩ : ∃ q, kn3 = q + 1 := ⟨kn3 - 1, by omega⟩
                      subst hq3
                      refine lv_aload_n hx hb dL_law_331 rfl (lv_at hl 4 rfl) ?_
                      refine kcalli (wc := [cX x nw sn tk2 hs tx tr, cR nw na nb σ3, xI g na 49 (zT σ3), xI g nb 49 (zI σ3), cH hs hq (q3 + 1), xQ g hq 4 (rq rr3), cR (rr3 0) (aa3 0) (bb3 0) (gg3 0), xI g (aa3 0) 49 (zT (gg3 0)), xI g (bb3 0) 49 (zI (gg3 0)), cR (rr3 1) (aa3 1) (bb3 1) (gg3 1), xI g (aa3 1) 49 (zT (gg3 1)), xI g (bb3 1) 49 (zI (gg3 1)), cR (rr3 2) (aa3 2) (bb3 2) (gg3 2), xI g (aa3 2) 49 (zT (gg3 2)), xI g (bb3 2) 49 (zI (gg3 2)), cR (rr3 3) (aa3 3) (bb3 3) (gg3 3), xI g (aa3 3) 49 (zT (gg3 3)), xI g (bb3 3) 49 (zI (gg3 3))]) (wr := [cR sn sa sb kk2, xI g sa 49 (zT kk2), xI g sb 49 (zI kk2), cT tx ch L1, xC g ch 60 T1, cTr tr tw od os1 po1 re1 ca1, cR tw ta tb tt1, xI g ta 49 (zT tt1), xI g tb 49 (zI tt1), cO od vb1 m1 m2 nm1 en1]) (wn := fun (u : Unit) => [cX x nw sn tk2 hs tx tr, cR nw na nb (gg3 q3), xI g na 49 (zT (gg3 q3)), xI g nb 49 (zI (gg3 q3)), cR sn sa sb kk2, xI g sa 49 (zT kk2), xI g sb 49 (zI kk2), cH hs hq q3, xQ g hq 4 (rq rr3), cR (rr3 0) (aa3 0) (bb3 0) (gg3 0), xI g (aa3 0) 49 (zT (gg3 0)), xI g (bb3 0) 49 (zI (gg3 0)), cR (rr3 1) (aa3 1) (bb3 1) (gg3 1), xI g (aa3 1) 49 (zT (gg3 1)), xI g (bb3 1) 49 (zI (gg3 1)), cR (rr3 2) (aa3 2) (bb3 2) (gg3 2), xI g (aa3 2) 49 (zT (gg3 2)), xI g (bb3 2) 49 (zI (gg3 2)), cR (rr3 3) (aa3 3) (bb3 3) (gg3 3), xI g (aa3 3) 49 (zT (gg3 3)), xI g (bb3 3) 49 (zI (gg3 3)), cT tx ch L1, xC g ch 60 T1, cTr tr tw od os1 po1 re1 ca1, cR tw ta tb tt1, xI g ta 49 (zT tt1), xI g tb 49 (zI tt1), cO od vb1 m1 m2 nm1 en1]) F w [0, 1, 2, 3, 7, 8, 9, 10, 11, 12, 13, 14, 15, 16, 17, 18, 19, 20] [4, 5, 6, 21, 22, 23, 24, 25, 26, 27] [10, 11, 12, 13, 0, 1, 2, 14, 15, 16, 17, 18, 19, 20, 21, 22, 23, 24, 25, 26, 27, 3, 4, 5, 6, 7, 8, 9] rfl rfl rfl (fun _ => rfl)
                        (fun hp => vx_runSW (As := [.ref x]) (rest := []) F.1 (kL_undo_k l g x nw sn tk2 hs tx tr na nb σ3 hq q3 rr3 aa3 bb3 gg3 H.size (by omega)) (vx_cwSW 1 hts gL_law_L_undo rfl rfl rfl hd_L_undo ⟨Nat.le_of_ble_eq_true rfl, Nat.le_of_ble_eq_true rfl⟩) hp rfl rfl hl.1 rfl (lv_room (Nat.le_of_ble_eq_true rfl)) dL_law_332 ⟨by show _ ≤ (610012 : Nat); omega, by show _ ≤ (7271146 : Nat); omega⟩)
                        (fun r_41 _ H locs h_42 w => ?_)
                      subst h_42
                      refine lv_iload hx hb dL_law_335 (lv_at hl 0 rfl) ?_
                      refine lv_if_ne (tgt := 345) hx hb dL_law_337 (by decide) (fun h_43 => ?_) (fun h_43 => ?_)
                      rotate_left 1
                      · exact absurd ((kc0_eq_t (by omega)).mp h_43) (by omega)
                      refine lv_iload hx hb dL_law_345 (lv_at hl 0 rfl) ?_
                      refine lv_iconst (v := nI 1) hx hb dL_law_347 (by decide) ?_
                      refine lv_isub hx hb dL_law_348 ?_
                      refine ktopi (y := nI ((q3 + 1) - 1)) (pk_sub (by omega)) ?_
                      refine ktopi (y := nI q3) (by rw [Nat.add_sub_cancel]) ?_
                      refine lv_icmp_ne (tgt := 356) hx hb dL_law_349 (by decide) (fun h_44 => ?_) (fun h_44 => ?_)
                      · exact absurd rfl h_44
                      refine lv_iconst (v := nI 1) hx hb dL_law_352 (by decide) ?_
                      refine lv_goto (tgt := 357) hx hb dL_law_353 (by decide) ?_
                      refine lv_istore (lv' := [(4, .int (nI 1)), (12, .int (nI (q3 + 1))), (5, .int (nI n)), (2, .long kp2), (1, .ref x), (0, .ref b)]) hx hb dL_law_357 hl (by decide) rfl (fun ls hl => ?_)
                      refine W.widen (k := 133 + 404 * n + 404) (n := 1450 + 2424 * n + 2424) (by omega) (by omega) ?_
                      exact JN_32 (gg3 q3) q3 (by omega) (hg3 q3) _ _ _ (kW.perm w [0, 1, 2, 3, 4, 5, 6, 7, 8, 9, 10, 11, 12, 13, 14, 15, 16, 17, 18, 19, 20, 21, 22, 23, 24, 25, 26, 27] rfl rfl) (lv_sub hl [0, 2, 3, 4, 5] rfl)
                refine lv_iload hx hb dL_law_273 (lv_at hl 1 rfl) ?_
                refine lv_bipush (v := nI 20) hx hb dL_law_275 (by decide) ?_
                refine lv_irem hx hb dL_law_277 ((kc0_eq_f (by omega)).mpr (by omega)) ?_
                refine ktopi (y := nI (n % 20)) (pk_rem (a := n) (d := 20) (by omega) (by omega) (by omega)) ?_
                refine lv_bipush (v := nI 19) hx hb dL_law_278 (by decide) ?_
                refine lv_icmp_ne (tgt := 310) hx hb dL_law_280 (by decide) (fun h_45 => ?_) (fun h_45 => ?_)
                · have h_45 : n % 20 ≠ 19 := (kc_ne_t (by omega) (by omega)).mp h_45
                  refine W.widen (k := 133 + 404 * n + 403) (n := 1450 + 2424 * n + 2418) (by omega) (by omega) ?_
                  exact JN_30 σ2 kn2 rr1 aa1 bb1 gg2 hkn2 hb2 hg2 _ _ _ (kW.perm w [0, 1, 2, 3, 4, 5, 6, 7, 8, 9, 10, 11, 12, 13, 14, 15, 16, 17, 18, 19, 20, 21, 22, 23, 24, 25, 26, 27] rfl rfl) (lv_sub hl [0, 1, 2, 3, 4] rfl)
                · have h_45 : n % 20 = 19 := (kc_ne_f (by omega) (by omega)).mp h_45
                  have hn19 : 9 ≤ n := by omega
                  obtain ⟨htk, hkl⟩ := hkp2 hn19
                  have w : kW g A s [cX x nw sn true hs tx tr, cR nw na nb σ2, xI g na 49 (zT σ2), xI g nb 49 (zI σ2), cR sn sa sb kk2, xI g sa 49 (zT kk2), xI g sb 49 (zI kk2), cH hs hq kn2, xQ g hq 4 (rq rr1), cR (rr1 0) (aa1 0) (bb1 0) (gg2 0), xI g (aa1 0) 49 (zT (gg2 0)), xI g (bb1 0) 49 (zI (gg2 0)), cR (rr1 1) (aa1 1) (bb1 1) (gg2 1), xI g (aa1 1) 49 (zT (gg2 1)), xI g (bb1 1) 49 (zI (gg2 1)), cR (rr1 2) (aa1 2) (bb1 2) (gg2 2), xI g (aa1 2) 49 (zT (gg2 2)), xI g (bb1 2) 49 (zI (gg2 2)), cR (rr1 3) (aa1 3) (bb1 3) (gg2 3), xI g (aa1 3) 49 (zT (gg2 3)), xI g (bb1 3) 49 (zI (gg2 3)), cT tx ch L1, xC g ch 60 T1, cTr tr tw od os1 po1 re1 ca1, cR tw ta tb tt1, xI g ta 49 (zT tt1), xI g tb 49 (zI tt1), cO od vb1 m1 m2 nm1 en1] H locs := by
                    have w := w
                    rw [htk] at w; exact w
                  refine lv_aload_n hx hb dL_law_283 rfl (lv_at hl 3 rfl) ?_
                  refine kcalli (wc := [cX x nw sn true hs tx tr, cR nw na nb σ2, xI g na 49 (zT σ2), xI g nb 49 (zI σ2), cH hs hq kn2, xQ g hq 4 (rq rr1), cR (rr1 0) (aa1 0) (bb1 0) (gg2 0), xI g (aa1 0) 49 (zT (gg2 0)), xI g (bb1 0) 49 (zI (gg2 0)), cR (rr1 1) (aa1 1) (bb1 1) (gg2 1), xI g (aa1 1) 49 (zT (gg2 1)), xI g (bb1 1) 49 (zI (gg2 1)), cR (rr1 2) (aa1 2) (bb1 2) (gg2 2), xI g (aa1 2) 49 (zT (gg2 2)), xI g (bb1 2) 49 (zI (gg2 2)), cR (rr1 3) (aa1 3) (bb1 3) (gg2 3), xI g (aa1 3) 49 (zT (gg2 3)), xI g (bb1 3) 49 (zI (gg2 3)), cR sn sa sb kk2, xI g sa 49 (zT kk2), xI g sb 49 (zI kk2)]) (wr := [cT tx ch L1, xC g ch 60 T1, cTr tr tw od os1 po1 re1 ca1, cR tw ta tb tt1, xI g ta 49 (zT tt1), xI g tb 49 (zI tt1), cO od vb1 m1 m2 nm1 en1]) (wn := fun (u : (Nat → Nat) × (Nat → Nat) × (Nat → Nat)) => [cX x nw sn true hs tx tr, cR nw na nb kk2, xI g na 49 (zT kk2), xI g nb 49 (zI kk2), cR sn sa sb kk2, xI g sa 49 (zT kk2), xI g sb 49 (zI kk2), cH hs hq (pushN kn2), xQ g hq 4 (rq u.1), cR (u.1 0) (u.2.1 0) (u.2.2 0) ((pushG gg2 kn2 σ2) 0), xI g (u.2.1 0) 49 (zT ((pushG gg2 kn2 σ2) 0)), xI g (u.2.2 0) 49 (zI ((pushG gg2 kn2 σ2) 0)), cR (u.1 1) (u.2.1 1) (u.2.2 1) ((pushG gg2 kn2 σ2) 1), xI g (u.2.1 1) 49 (zT ((pushG gg2 kn2 σ2) 1)), xI g (u.2.2 1) 49 (zI ((pushG gg2 kn2 σ2) 1)), cR (u.1 2) (u.2.1 2) (u.2.2 2) ((pushG gg2 kn2 σ2) 2), xI g (u.2.1 2) 49 (zT ((pushG gg2 kn2 σ2) 2)), xI g (u.2.2 2) 49 (zI ((pushG gg2 kn2 σ2) 2)), cR (u.1 3) (u.2.1 3) (u.2.2 3) ((pushG gg2 kn2 σ2) 3), xI g (u.2.1 3) 49 (zT ((pushG gg2 kn2 σ2) 3)), xI g (u.2.2 3) 49 (zI ((pushG gg2 kn2 σ2) 3)), cT tx ch L1, xC g ch 60 T1, cTr tr tw od os1 po1 re1 ca1, cR tw ta tb tt1, xI g ta 49 (zT tt1), xI g tb 49 (zI tt1), cO od vb1 m1 m2 nm1 en1]) F w [0, 1, 2, 3, 7, 8, 9, 10, 11, 12, 13, 14, 15, 16, 17, 18, 19, 20, 4, 5, 6] [21, 22, 23, 24, 25, 26, 27] [7, 8, 9, 10, 25, 26, 27, 11, 12, 13, 14, 15, 16, 17, 18, 19, 20, 21, 22, 23, 24, 0, 1, 2, 3, 4, 5, 6] rfl rfl rfl (fun _ => rfl)
                    (fun hp => vx_runSW (As := [.ref x]) (rest := []) F.1 (kL_goBack_k l g x nw sn true hs tx tr na nb σ2 hq kn2 rr1 aa1 bb1 gg2 sa sb kk2 H.size hkn2) (vx_cwSW 1 hts gL_law_L_goBack rfl rfl rfl hd_L_goBack ⟨Nat.le_of_ble_eq_true rfl, Nat.le_of_ble_eq_true rfl⟩) hp rfl rfl hl.1 rfl (lv_room (Nat.le_of_ble_eq_true rfl)) dL_law_284 ⟨by show _ ≤ (610012 : Nat); omega, by show _ ≤ (7271146 : Nat); omega⟩)
                    (fun r_46 u H locs h_47 w => ?_)
                  try dsimp only at h_47
                  obtain ⟨u_48, hu9⟩ : ∃ z, z = u := ⟨_, rfl⟩
                  subst hu9
                  have w : kW g A s [cX x nw sn true hs tx tr, cR nw na nb kk2, xI g na 49 (zT kk2), xI g nb 49 (zI kk2), cR sn sa sb kk2, xI g sa 49 (zT kk2), xI g sb 49 (zI kk2), cH hs hq (pushN kn2), xQ g hq 4 (rq u_48.1), cR (u_48.1 0) (u_48.2.1 0) (u_48.2.2 0) ((pushG gg2 kn2 σ2) 0), xI g (u_48.2.1 0) 49 (zT ((pushG gg2 kn2 σ2) 0)), xI g (u_48.2.2 0) 49 (zI ((pushG gg2 kn2 σ2) 0)), cR (u_48.1 1) (u_48.2.1 1) (u_48.2.2 1) ((pushG gg2 kn2 σ2) 1), xI g (u_48.2.1 1) 49 (zT ((pushG gg2 kn2 σ2) 1)), xI g (u_48.2.2 1) 49 (zI ((pushG gg2 kn2 σ2) 1)), cR (u_48.1 2) (u_48.2.1 2) (u_48.2.2 2) ((pushG gg2 kn2 σ2) 2), xI g (u_48.2.1 2) 49 (zT ((pushG gg2 kn2 σ2) 2)), xI g (u_48.2.2 2) 49 (zI ((pushG gg2 kn2 σ2) 2)), cR (u_48.1 3) (u_48.2.1 3) (u_48.2.2 3) ((pushG gg2 kn2 σ2) 3), xI g (u_48.2.1 3) 49 (zT ((pushG gg2 kn2 σ2) 3)), xI g (u_48.2.2 3) 49 (zI ((pushG gg2 kn2 σ2) 3)), cT tx ch L1, xC g ch 60 T1, cTr tr tw od os1 po1 re1 ca1, cR tw ta tb tt1, xI g ta 49 (zT tt1), xI g tb 49 (zI tt1), cO od vb1 m1 m2 nm1 en1] H locs := w
                  subst h_47
                  refine lv_aload_n hx hb dL_law_287 rfl (lv_at hl 3 rfl) ?_
                  refine kcalli (wc := [cX x nw sn true hs tx tr, cR nw na nb kk2, xI g na 49 (zT kk2), xI g nb 49 (zI kk2)]) (wr := [cR sn sa sb kk2, xI g sa 49 (zT kk2), xI g sb 49 (zI kk2), cH hs hq (pushN kn2), xQ g hq 4 (rq u_48.1), cR (u_48.1 0) (u_48.2.1 0) (u_48.2.2 0) ((pushG gg2 kn2 σ2) 0), xI g (u_48.2.1 0) 49 (zT ((pushG gg2 kn2 σ2) 0)), xI g (u_48.2.2 0) 49 (zI ((pushG gg2 kn2 σ2) 0)), cR (u_48.1 1) (u_48.2.1 1) (u_48.2.2 1) ((pushG gg2 kn2 σ2) 1), xI g (u_48.2.1 1) 49 (zT ((pushG gg2 kn2 σ2) 1)), xI g (u_48.2.2 1) 49 (zI ((pushG gg2 kn2 σ2) 1)), cR (u_48.1 2) (u_48.2.1 2) (u_48.2.2 2) ((pushG gg2 kn2 σ2) 2), xI g (u_48.2.1 2) 49 (zT ((pushG gg2 kn2 σ2) 2)), xI g (u_48.2.2 2) 49 (zI ((pushG gg2 kn2 σ2) 2)), cR (u_48.1 3) (u_48.2.1 3) (u_48.2.2 3) ((pushG gg2 kn2 σ2) 3), xI g (u_48.2.1 3) 49 (zT ((pushG gg2 kn2 σ2) 3)), xI g (u_48.2.2 3) 49 (zI ((pushG gg2 kn2 σ2) 3)), cT tx ch L1, xC g ch 60 T1, cTr tr tw od os1 po1 re1 ca1, cR tw ta tb tt1, xI g ta 49 (zT tt1), xI g tb 49 (zI tt1), cO od vb1 m1 m2 nm1 en1]) (wn := fun (u : Unit) => [cX x nw sn true hs tx tr, cR nw na nb kk2, xI g na 49 (zT kk2), xI g nb 49 (zI kk2), cR sn sa sb kk2, xI g sa 49 (zT kk2), xI g sb 49 (zI kk2), cH hs hq (pushN kn2), xQ g hq 4 (rq u_48.1), cR (u_48.1 0) (u_48.2.1 0) (u_48.2.2 0) ((pushG gg2 kn2 σ2) 0), xI g (u_48.2.1 0) 49 (zT ((pushG gg2 kn2 σ2) 0)), xI g (u_48.2.2 0) 49 (zI ((pushG gg2 kn2 σ2) 0)), cR (u_48.1 1) (u_48.2.1 1) (u_48.2.2 1) ((pushG gg2 kn2 σ2) 1), xI g (u_48.2.1 1) 49 (zT ((pushG gg2 kn2 σ2) 1)), xI g (u_48.2.2 1) 49 (zI ((pushG gg2 kn2 σ2) 1)), cR (u_48.1 2) (u_48.2.1 2) (u_48.2.2 2) ((pushG gg2 kn2 σ2) 2), xI g (u_48.2.1 2) 49 (zT ((pushG gg2 kn2 σ2) 2)), xI g (u_48.2.2 2) 49 (zI ((pushG gg2 kn2 σ2) 2)), cR (u_48.1 3) (u_48.2.1 3) (u_48.2.2 3) ((pushG gg2 kn2 σ2) 3), xI g (u_48.2.1 3) 49 (zT ((pushG gg2 kn2 σ2) 3)), xI g (u_48.2.2 3) 49 (zI ((pushG gg2 kn2 σ2) 3)), cT tx ch L1, xC g ch 60 T1, cTr tr tw od os1 po1 re1 ca1, cR tw ta tb tt1, xI g ta 49 (zT tt1), xI g tb 49 (zI tt1), cO od vb1 m1 m2 nm1 en1]) F w [0, 1, 2, 3] [4, 5, 6, 7, 8, 9, 10, 11, 12, 13, 14, 15, 16, 17, 18, 19, 20, 21, 22, 23, 24, 25, 26, 27] [24, 25, 26, 27, 0, 1, 2, 3, 4, 5, 6, 7, 8, 9, 10, 11, 12, 13, 14, 15, 16, 17, 18, 19, 20, 21, 22, 23] rfl rfl rfl (fun _ => rfl)
                    (fun hp => va_runV (As := []) (rest := [.int (nI (zcnt (zO kk2) 48))]) F.1 (kX5_openDoors l g x nw sn true hs tx tr na nb kk2 H.size ) (cwV 0 hts gL_law_X5_openDoors rfl rfl rfl ⟨rfl, hd_X5_openDoors⟩ ⟨Nat.le_of_ble_eq_true rfl, Nat.le_of_ble_eq_true rfl⟩) ⟨hp.1, va_recv F.2.2.2.1.1 w.1 (q0 := 0) (ci := 5) rfl rfl, hp.2⟩ rfl rfl hl.1 rfl (lv_room (Nat.le_of_ble_eq_true rfl)) dL_law_288 ⟨by show _ ≤ (610012 : Nat); omega, by show _ ≤ (7271146 : Nat); omega⟩)
                    (fun r_49 _ H locs h_50 w => ?_)
                  subst h_50
                  refine lv_icmp_ne (tgt := 307) hx hb dL_law_291 (by decide) (fun h_51 => ?_) (fun h_51 => ?_)
                  · exact absurd rfl h_51
                  refine lv_aload_n hx hb dL_law_294 rfl (lv_at hl 3 rfl) ?_
                  refine kcalll (wc := [cX x nw sn true hs tx tr, cR nw na nb kk2, xI g na 49 (zT kk2), xI g nb 49 (zI kk2)]) (wr := [cR sn sa sb kk2, xI g sa 49 (zT kk2), xI g sb 49 (zI kk2), cH hs hq (pushN kn2), xQ g hq 4 (rq u_48.1), cR (u_48.1 0) (u_48.2.1 0) (u_48.2.2 0) ((pushG gg2 kn2 σ2) 0), xI g (u_48.2.1 0) 49 (zT ((pushG gg2 kn2 σ2) 0)), xI g (u_48.2.2 0) 49 (zI ((pushG gg2 kn2 σ2) 0)), cR (u_48.1 1) (u_48.2.1 1) (u_48.2.2 1) ((pushG gg2 kn2 σ2) 1), xI g (u_48.2.1 1) 49 (zT ((pushG gg2 kn2 σ2) 1)), xI g (u_48.2.2 1) 49 (zI ((pushG gg2 kn2 σ2) 1)), cR (u_48.1 2) (u_48.2.1 2) (u_48.2.2 2) ((pushG gg2 kn2 σ2) 2), xI g (u_48.2.1 2) 49 (zT ((pushG gg2 kn2 σ2) 2)), xI g (u_48.2.2 2) 49 (zI ((pushG gg2 kn2 σ2) 2)), cR (u_48.1 3) (u_48.2.1 3) (u_48.2.2 3) ((pushG gg2 kn2 σ2) 3), xI g (u_48.2.1 3) 49 (zT ((pushG gg2 kn2 σ2) 3)), xI g (u_48.2.2 3) 49 (zI ((pushG gg2 kn2 σ2) 3)), cT tx ch L1, xC g ch 60 T1, cTr tr tw od os1 po1 re1 ca1, cR tw ta tb tt1, xI g ta 49 (zT tt1), xI g tb 49 (zI tt1), cO od vb1 m1 m2 nm1 en1]) (wn := fun (u : Unit) => [cX x nw sn true hs tx tr, cR nw na nb kk2, xI g na 49 (zT kk2), xI g nb 49 (zI kk2), cR sn sa sb kk2, xI g sa 49 (zT kk2), xI g sb 49 (zI kk2), cH hs hq (pushN kn2), xQ g hq 4 (rq u_48.1), cR (u_48.1 0) (u_48.2.1 0) (u_48.2.2 0) ((pushG gg2 kn2 σ2) 0), xI g (u_48.2.1 0) 49 (zT ((pushG gg2 kn2 σ2) 0)), xI g (u_48.2.2 0) 49 (zI ((pushG gg2 kn2 σ2) 0)), cR (u_48.1 1) (u_48.2.1 1) (u_48.2.2 1) ((pushG gg2 kn2 σ2) 1), xI g (u_48.2.1 1) 49 (zT ((pushG gg2 kn2 σ2) 1)), xI g (u_48.2.2 1) 49 (zI ((pushG gg2 kn2 σ2) 1)), cR (u_48.1 2) (u_48.2.1 2) (u_48.2.2 2) ((pushG gg2 kn2 σ2) 2), xI g (u_48.2.1 2) 49 (zT ((pushG gg2 kn2 σ2) 2)), xI g (u_48.2.2 2) 49 (zI ((pushG gg2 kn2 σ2) 2)), cR (u_48.1 3) (u_48.2.1 3) (u_48.2.2 3) ((pushG gg2 kn2 σ2) 3), xI g (u_48.2.1 3) 49 (zT ((pushG gg2 kn2 σ2) 3)), xI g (u_48.2.2 3) 49 (zI ((pushG gg2 kn2 σ2) 3)), cT tx ch L1, xC g ch 60 T1, cTr tr tw od os1 po1 re1 ca1, cR tw ta tb tt1, xI g ta 49 (zT tt1), xI g tb 49 (zI tt1), cO od vb1 m1 m2 nm1 en1]) F w [0, 1, 2, 3] [4, 5, 6, 7, 8, 9, 10, 11, 12, 13, 14, 15, 16, 17, 18, 19, 20, 21, 22, 23, 24, 25, 26, 27] [24, 25, 26, 27, 0, 1, 2, 3, 4, 5, 6, 7, 8, 9, 10, 11, 12, 13, 14, 15, 16, 17, 18, 19, 20, 21, 22, 23] rfl rfl rfl (fun _ => rfl)
                    (fun hp => va_runS (As := [.ref x]) (rest := []) F.1 (kL_look l hnl g x nw sn true hs tx tr na nb kk2 H.size ) (va_cwS 1 hts gL_law_L_look rfl rfl rfl hd_L_look ⟨Nat.le_of_ble_eq_true rfl, Nat.le_of_ble_eq_true rfl⟩) hp rfl rfl hl.1 rfl (lv_room (Nat.le_of_ble_eq_true rfl)) dL_law_295 ⟨by show _ ≤ (610012 : Nat); omega, by show _ ≤ (7271146 : Nat); omega⟩)
                    (fun r_52 _ H locs h_53 w => ?_)
                  subst h_53
                  refine lv_lload_n hx hb dL_law_298 rfl (lv_at hl 2 rfl) ?_
                  refine W.lcmp hx hb dL_law_299 ?_
                  refine lv_if_ne (tgt := 307) hx hb dL_law_300 (by decide) (fun h_54 => ?_) (fun h_54 => ?_)
                  · exact absurd (lgc_eq.mpr hkl.symm) h_54
                  have w : kW g A s [cX x nw sn tk2 hs tx tr, cR nw na nb kk2, xI g na 49 (zT kk2), xI g nb 49 (zI kk2), cR sn sa sb kk2, xI g sa 49 (zT kk2), xI g sb 49 (zI kk2), cH hs hq (pushN kn2), xQ g hq 4 (rq u_48.1), cR (u_48.1 0) (u_48.2.1 0) (u_48.2.2 0) ((pushG gg2 kn2 σ2) 0), xI g (u_48.2.1 0) 49 (zT ((pushG gg2 kn2 σ2) 0)), xI g (u_48.2.2 0) 49 (zI ((pushG gg2 kn2 σ2) 0)), cR (u_48.1 1) (u_48.2.1 1) (u_48.2.2 1) ((pushG gg2 kn2 σ2) 1), xI g (u_48.2.1 1) 49 (zT ((pushG gg2 kn2 σ2) 1)), xI g (u_48.2.2 1) 49 (zI ((pushG gg2 kn2 σ2) 1)), cR (u_48.1 2) (u_48.2.1 2) (u_48.2.2 2) ((pushG gg2 kn2 σ2) 2), xI g (u_48.2.1 2) 49 (zT ((pushG gg2 kn2 σ2) 2)), xI g (u_48.2.2 2) 49 (zI ((pushG gg2 kn2 σ2) 2)), cR (u_48.1 3) (u_48.2.1 3) (u_48.2.2 3) ((pushG gg2 kn2 σ2) 3), xI g (u_48.2.1 3) 49 (zT ((pushG gg2 kn2 σ2) 3)), xI g (u_48.2.2 3) 49 (zI ((pushG gg2 kn2 σ2) 3)), cT tx ch L1, xC g ch 60 T1, cTr tr tw od os1 po1 re1 ca1, cR tw ta tb tt1, xI g ta 49 (zT tt1), xI g tb 49 (zI tt1), cO od vb1 m1 m2 nm1 en1] H locs := by
                    have w := w
                    rw [htk]; exact w
                  refine lv_iconst (v := nI 1) hx hb dL_law_303 (by decide) ?_
                  refine lv_goto (tgt := 308) hx hb dL_law_304 (by decide) ?_
                  refine lv_istore (lv' := [(4, .int (nI 1)), (5, .int (nI n)), (2, .long kp2), (1, .ref x), (0, .ref b)]) hx hb dL_law_308 hl (by decide) rfl (fun ls hl => ?_)
                  refine W.widen (k := 133 + 404 * n + 403) (n := 1450 + 2424 * n + 2418) (by omega) (by omega) ?_
                  exact JN_30 kk2 (pushN kn2) u_48.1 u_48.2.1 u_48.2.2 (pushG gg2 kn2 σ2) pushN_le hK2 (gB_push hg2 hb2 kn2) _ _ _ (kW.perm w [0, 1, 2, 3, 4, 5, 6, 7, 8, 9, 10, 11, 12, 13, 14, 15, 16, 17, 18, 19, 20, 21, 22, 23, 24, 25, 26, 27] rfl rfl) (lv_sub hl [0, 1, 2, 3, 4] rfl)
              refine lv_iload hx hb dL_law_235 (lv_at hl 1 rfl) ?_
              refine lv_bipush (v := nI 20) hx hb dL_law_237 (by decide) ?_
              refine lv_irem hx hb dL_law_239 ((kc0_eq_f (by omega)).mpr (by omega)) ?_
              refine ktopi (y := nI (n % 20)) (pk_rem (a := n) (d := 20) (by omega) (by omega) (by omega)) ?_
              refine lv_bipush (v := nI 9) hx hb dL_law_240 (by decide) ?_
              refine lv_icmp_ne (tgt := 268) hx hb dL_law_242 (by decide) (fun h_55 => ?_) (fun h_55 => ?_)
              · have h_55 : n % 20 ≠ 9 := (kc_ne_t (by omega) (by omega)).mp h_55
                refine W.widen (k := 133 + 404 * n + 355) (n := 1450 + 2424 * n + 2130) (by omega) (by omega) ?_
                exact JN_28 kp tk κ hKs1 (fun hc => hkp (by omega)) _ _ _ (kW.perm w [0, 1, 2, 3, 4, 5, 6, 7, 8, 9, 10, 11, 12, 13, 14, 15, 16, 17, 18, 19, 20, 21, 22, 23, 24, 25, 26, 27] rfl rfl) (lv_sub hl [0, 1, 2, 3, 4] rfl)
              · have h_55 : n % 20 = 9 := (kc_ne_f (by omega) (by omega)).mp h_55
                refine lv_aload_n hx hb dL_law_245 rfl (lv_at hl 3 rfl) ?_
                refine kcalli (wc := [cX x nw sn tk hs tx tr, cR nw na nb σ2, xI g na 49 (zT σ2), xI g nb 49 (zI σ2), cR sn sa sb κ, xI g sa 49 (zT κ), xI g sb 49 (zI κ)]) (wr := [cH hs hq kn2, xQ g hq 4 (rq rr1), cR (rr1 0) (aa1 0) (bb1 0) (gg2 0), xI g (aa1 0) 49 (zT (gg2 0)), xI g (bb1 0) 49 (zI (gg2 0)), cR (rr1 1) (aa1 1) (bb1 1) (gg2 1), xI g (aa1 1) 49 (zT (gg2 1)), xI g (bb1 1) 49 (zI (gg2 1)), cR (rr1 2) (aa1 2) (bb1 2) (gg2 2), xI g (aa1 2) 49 (zT (gg2 2)), xI g (bb1 2) 49 (zI (gg2 2)), cR (rr1 3) (aa1 3) (bb1 3) (gg2 3), xI g (aa1 3) 49 (zT (gg2 3)), xI g (bb1 3) 49 (zI (gg2 3)), cT tx ch L1, xC g ch 60 T1, cTr tr tw od os1 po1 re1 ca1, cR tw ta tb tt1, xI g ta 49 (zT tt1), xI g tb 49 (zI tt1), cO od vb1 m1 m2 nm1 en1]) (wn := fun (u : Unit) => [cX x nw sn true hs tx tr, cR nw na nb σ2, xI g na 49 (zT σ2), xI g nb 49 (zI σ2), cR sn sa sb σ2, xI g sa 49 (zT σ2), xI g sb 49 (zI σ2), cH hs hq kn2, xQ g hq 4 (rq rr1), cR (rr1 0) (aa1 0) (bb1 0) (gg2 0), xI g (aa1 0) 49 (zT (gg2 0)), xI g (bb1 0) 49 (zI (gg2 0)), cR (rr1 1) (aa1 1) (bb1 1) (gg2 1), xI g (aa1 1) 49 (zT (gg2 1)), xI g (bb1 1) 49 (zI (gg2 1)), cR (rr1 2) (aa1 2) (bb1 2) (gg2 2), xI g (aa1 2) 49 (zT (gg2 2)), xI g (bb1 2) 49 (zI (gg2 2)), cR (rr1 3) (aa1 3) (bb1 3) (gg2 3), xI g (aa1 3) 49 (zT (gg2 3)), xI g (bb1 3) 49 (zI (gg2 3)), cT tx ch L1, xC g ch 60 T1, cTr tr tw od os1 po1 re1 ca1, cR tw ta tb tt1, xI g ta 49 (zT tt1), xI g tb 49 (zI tt1), cO od vb1 m1 m2 nm1 en1]) F w [0, 1, 2, 3, 4, 5, 6] [7, 8, 9, 10, 11, 12, 13, 14, 15, 16, 17, 18, 19, 20, 21, 22, 23, 24, 25, 26, 27] [21, 22, 23, 24, 25, 26, 27, 0, 1, 2, 3, 4, 5, 6, 7, 8, 9, 10, 11, 12, 13, 14, 15, 16, 17, 18, 19, 20] rfl rfl rfl (fun _ => rfl)
                  (fun hp => va_runV (As := []) (rest := []) F.1 (kX5_keep l g x nw sn tk hs tx tr na nb σ2 sa sb κ H.size ) (cwV 0 hts gL_law_X5_keep rfl rfl rfl ⟨rfl, hd_X5_keep⟩ ⟨Nat.le_of_ble_eq_true rfl, Nat.le_of_ble_eq_true rfl⟩) ⟨hp.1, va_recv F.2.2.2.1.1 w.1 (q0 := 0) (ci := 5) rfl rfl, hp.2⟩ rfl rfl hl.1 rfl (lv_room (Nat.le_of_ble_eq_true rfl)) dL_law_246 ⟨by show _ ≤ (610012 : Nat); omega, by show _ ≤ (7271146 : Nat); omega⟩)
                  (fun r_56 _ H locs h_57 w => ?_)
                subst h_57
                refine lv_aload_n hx hb dL_law_249 rfl (lv_at hl 3 rfl) ?_
                refine kcalli (wc := [cX x nw sn true hs tx tr, cR nw na nb σ2, xI g na 49 (zT σ2), xI g nb 49 (zI σ2)]) (wr := [cR sn sa sb σ2, xI g sa 49 (zT σ2), xI g sb 49 (zI σ2), cH hs hq kn2, xQ g hq 4 (rq rr1), cR (rr1 0) (aa1 0) (bb1 0) (gg2 0), xI g (aa1 0) 49 (zT (gg2 0)), xI g (bb1 0) 49 (zI (gg2 0)), cR (rr1 1) (aa1 1) (bb1 1) (gg2 1), xI g (aa1 1) 49 (zT (gg2 1)), xI g (bb1 1) 49 (zI (gg2 1)), cR (rr1 2) (aa1 2) (bb1 2) (gg2 2), xI g (aa1 2) 49 (zT (gg2 2)), xI g (bb1 2) 49 (zI (gg2 2)), cR (rr1 3) (aa1 3) (bb1 3) (gg2 3), xI g (aa1 3) 49 (zT (gg2 3)), xI g (bb1 3) 49 (zI (gg2 3)), cT tx ch L1, xC g ch 60 T1, cTr tr tw od os1 po1 re1 ca1, cR tw ta tb tt1, xI g ta 49 (zT tt1), xI g tb 49 (zI tt1), cO od vb1 m1 m2 nm1 en1]) (wn := fun (u : Unit) => [cX x nw sn true hs tx tr, cR nw na nb σ2, xI g na 49 (zT σ2), xI g nb 49 (zI σ2), cR sn sa sb σ2, xI g sa 49 (zT σ2), xI g sb 49 (zI σ2), cH hs hq kn2, xQ g hq 4 (rq rr1), cR (rr1 0) (aa1 0) (bb1 0) (gg2 0), xI g (aa1 0) 49 (zT (gg2 0)), xI g (bb1 0) 49 (zI (gg2 0)), cR (rr1 1) (aa1 1) (bb1 1) (gg2 1), xI g (aa1 1) 49 (zT (gg2 1)), xI g (bb1 1) 49 (zI (gg2 1)), cR (rr1 2) (aa1 2) (bb1 2) (gg2 2), xI g (aa1 2) 49 (zT (gg2 2)), xI g (bb1 2) 49 (zI (gg2 2)), cR (rr1 3) (aa1 3) (bb1 3) (gg2 3), xI g (aa1 3) 49 (zT (gg2 3)), xI g (bb1 3) 49 (zI (gg2 3)), cT tx ch L1, xC g ch 60 T1, cTr tr tw od os1 po1 re1 ca1, cR tw ta tb tt1, xI g ta 49 (zT tt1), xI g tb 49 (zI tt1), cO od vb1 m1 m2 nm1 en1]) F w [0, 1, 2, 3] [4, 5, 6, 7, 8, 9, 10, 11, 12, 13, 14, 15, 16, 17, 18, 19, 20, 21, 22, 23, 24, 25, 26, 27] [24, 25, 26, 27, 0, 1, 2, 3, 4, 5, 6, 7, 8, 9, 10, 11, 12, 13, 14, 15, 16, 17, 18, 19, 20, 21, 22, 23] rfl rfl rfl (fun _ => rfl)
                  (fun hp => va_runV (As := []) (rest := [.int (nI (zcnt (zO σ2) 48))]) F.1 (kX5_openDoors l g x nw sn true hs tx tr na nb σ2 H.size ) (cwV 0 hts gL_law_X5_openDoors rfl rfl rfl ⟨rfl, hd_X5_openDoors⟩ ⟨Nat.le_of_ble_eq_true rfl, Nat.le_of_ble_eq_true rfl⟩) ⟨hp.1, va_recv F.2.2.2.1.1 w.1 (q0 := 0) (ci := 5) rfl rfl, hp.2⟩ rfl rfl hl.1 rfl (lv_room (Nat.le_of_ble_eq_true rfl)) dL_law_250 ⟨by show _ ≤ (610012 : Nat); omega, by show _ ≤ (7271146 : Nat); omega⟩)
                  (fun r_58 _ H locs h_59 w => ?_)
                subst h_59
                refine lv_icmp_ne (tgt := 260) hx hb dL_law_253 (by decide) (fun h_60 => ?_) (fun h_60 => ?_)
                · exact absurd rfl h_60
                refine lv_iconst (v := nI 1) hx hb dL_law_256 (by decide) ?_
                refine lv_goto (tgt := 261) hx hb dL_law_257 (by decide) ?_
                refine lv_istore (lv' := [(4, .int (nI 1)), (5, .int (nI n)), (2, .long kp), (1, .ref x), (0, .ref b)]) hx hb dL_law_261 hl (by decide) rfl (fun ls hl => ?_)
                refine lv_aload_n hx hb dL_law_263 rfl (lv_at hl 3 rfl) ?_
                refine kcalll (wc := [cX x nw sn true hs tx tr, cR nw na nb σ2, xI g na 49 (zT σ2), xI g nb 49 (zI σ2)]) (wr := [cR sn sa sb σ2, xI g sa 49 (zT σ2), xI g sb 49 (zI σ2), cH hs hq kn2, xQ g hq 4 (rq rr1), cR (rr1 0) (aa1 0) (bb1 0) (gg2 0), xI g (aa1 0) 49 (zT (gg2 0)), xI g (bb1 0) 49 (zI (gg2 0)), cR (rr1 1) (aa1 1) (bb1 1) (gg2 1), xI g (aa1 1) 49 (zT (gg2 1)), xI g (bb1 1) 49 (zI (gg2 1)), cR (rr1 2) (aa1 2) (bb1 2) (gg2 2), xI g (aa1 2) 49 (zT (gg2 2)), xI g (bb1 2) 49 (zI (gg2 2)), cR (rr1 3) (aa1 3) (bb1 3) (gg2 3), xI g (aa1 3) 49 (zT (gg2 3)), xI g (bb1 3) 49 (zI (gg2 3)), cT tx ch L1, xC g ch 60 T1, cTr tr tw od os1 po1 re1 ca1, cR tw ta tb tt1, xI g ta 49 (zT tt1), xI g tb 49 (zI tt1), cO od vb1 m1 m2 nm1 en1]) (wn := fun (u : Unit) => [cX x nw sn true hs tx tr, cR nw na nb σ2, xI g na 49 (zT σ2), xI g nb 49 (zI σ2), cR sn sa sb σ2, xI g sa 49 (zT σ2), xI g sb 49 (zI σ2), cH hs hq kn2, xQ g hq 4 (rq rr1), cR (rr1 0) (aa1 0) (bb1 0) (gg2 0), xI g (aa1 0) 49 (zT (gg2 0)), xI g (bb1 0) 49 (zI (gg2 0)), cR (rr1 1) (aa1 1) (bb1 1) (gg2 1), xI g (aa1 1) 49 (zT (gg2 1)), xI g (bb1 1) 49 (zI (gg2 1)), cR (rr1 2) (aa1 2) (bb1 2) (gg2 2), xI g (aa1 2) 49 (zT (gg2 2)), xI g (bb1 2) 49 (zI (gg2 2)), cR (rr1 3) (aa1 3) (bb1 3) (gg2 3), xI g (aa1 3) 49 (zT (gg2 3)), xI g (bb1 3) 49 (zI (gg2 3)), cT tx ch L1, xC g ch 60 T1, cTr tr tw od os1 po1 re1 ca1, cR tw ta tb tt1, xI g ta 49 (zT tt1), xI g tb 49 (zI tt1), cO od vb1 m1 m2 nm1 en1]) F w [0, 1, 2, 3] [4, 5, 6, 7, 8, 9, 10, 11, 12, 13, 14, 15, 16, 17, 18, 19, 20, 21, 22, 23, 24, 25, 26, 27] [24, 25, 26, 27, 0, 1, 2, 3, 4, 5, 6, 7, 8, 9, 10, 11, 12, 13, 14, 15, 16, 17, 18, 19, 20, 21, 22, 23] rfl rfl rfl (fun _ => rfl)
                  (fun hp => va_runS (As := [.ref x]) (rest := []) F.1 (kL_look l hnl g x nw sn true hs tx tr na nb σ2 H.size ) (va_cwS 1 hts gL_law_L_look rfl rfl rfl hd_L_look ⟨Nat.le_of_ble_eq_true rfl, Nat.le_of_ble_eq_true rfl⟩) hp rfl rfl hl.1 rfl (lv_room (Nat.le_of_ble_eq_true rfl)) dL_law_264 ⟨by show _ ≤ (610012 : Nat); omega, by show _ ≤ (7271146 : Nat); omega⟩)
                  (fun r_61 _ H locs h_62 w => ?_)
                subst h_62
                refine lv_lstore_n (lv' := [(2, .long (LK σ2)), (4, .int (nI 1)), (5, .int (nI n)), (1, .ref x), (0, .ref b)]) hx hb dL_law_267 rfl hl (by decide) rfl (fun ls hl => ?_)
                refine W.widen (k := 133 + 404 * n + 355) (n := 1450 + 2424 * n + 2130) (by omega) (by omega) ?_
                exact JN_28 (LK σ2) true σ2 hb2 (fun _ => ⟨rfl, rfl⟩) _ _ _ (kW.perm w [0, 1, 2, 3, 4, 5, 6, 7, 8, 9, 10, 11, 12, 13, 14, 15, 16, 17, 18, 19, 20, 21, 22, 23, 24, 25, 26, 27] rfl rfl) (lv_sub hl [1, 2, 0, 3, 4] rfl)
            refine lv_iload hx hb dL_law_183 (lv_at hl 1 rfl) ?_
            refine lv_iload hx hb dL_law_185 (lv_at hl 2 rfl) ?_
            refine lv_iconst (v := nI 1) hx hb dL_law_187 (by decide) ?_
            refine lv_iadd hx hb dL_law_188 ?_
            refine ktopi (y := nI (kn + 1)) (nI_add kn 1) ?_
            refine lv_icmp_ne (tgt := 230) hx hb dL_law_189 (by decide) (fun h_63 => ?_) (fun h_63 => ?_)
            · have h_63 : kn1 ≠ kn + 1 := (kc_ne_t (by omega) (by omega)).mp h_63
              refine W.widen (k := 133 + 404 * n + 307) (n := 1450 + 2424 * n + 1842) (by omega) (by omega) ?_
              exact JN_26 σ1 kn1 gg1 hk1 hb1 hg1 _ _ _ (kW.perm w [0, 1, 2, 3, 4, 5, 6, 7, 8, 9, 10, 11, 12, 13, 14, 15, 16, 17, 18, 19, 20, 21, 22, 23, 24, 25, 26, 27] rfl rfl) (lv_sub hl [0, 6, 7, 8, 9] rfl)
            · have h_63 : kn1 = kn + 1 := (kc_ne_f (by omega) (by omega)).mp h_63
              obtain ⟨hk4a, hk4b⟩ := hk4 h_63
              refine lv_iload hx hb dL_law_192 (lv_at hl 4 rfl) ?_
              refine lv_bipush (v := nI 8) hx hb dL_law_194 (by decide) ?_
              refine lv_ishr hx hb dL_law_196 ?_
              refine lv_iconst (v := nI 4) hx hb dL_law_197 (by decide) ?_
              have lw_64 := lowN_lt (y9 >>> ((nI 8) &&& 31)) (n := 4) (by omega)
              refine kcalli (wc := []) (wr := [cX x nw sn tk hs tx tr, cR nw na nb σ1, xI g na 49 (zT σ1), xI g nb 49 (zI σ1), cR sn sa sb κ, xI g sa 49 (zT κ), xI g sb 49 (zI κ), cH hs hq kn1, xQ g hq 4 (rq rr1), cR (rr1 0) (aa1 0) (bb1 0) (gg1 0), xI g (aa1 0) 49 (zT (gg1 0)), xI g (bb1 0) 49 (zI (gg1 0)), cR (rr1 1) (aa1 1) (bb1 1) (gg1 1), xI g (aa1 1) 49 (zT (gg1 1)), xI g (bb1 1) 49 (zI (gg1 1)), cR (rr1 2) (aa1 2) (bb1 2) (gg1 2), xI g (aa1 2) 49 (zT (gg1 2)), xI g (bb1 2) 49 (zI (gg1 2)), cR (rr1 3) (aa1 3) (bb1 3) (gg1 3), xI g (aa1 3) 49 (zT (gg1 3)), xI g (bb1 3) 49 (zI (gg1 3)), cT tx ch L1, xC g ch 60 T1, cTr tr tw od os1 po1 re1 ca1, cR tw ta tb tt1, xI g ta 49 (zT tt1), xI g tb 49 (zI tt1), cO od vb1 m1 m2 nm1 en1]) (wn := fun (u : Unit) => [cX x nw sn tk hs tx tr, cR nw na nb σ1, xI g na 49 (zT σ1), xI g nb 49 (zI σ1), cR sn sa sb κ, xI g sa 49 (zT κ), xI g sb 49 (zI κ), cH hs hq kn1, xQ g hq 4 (rq rr1), cR (rr1 0) (aa1 0) (bb1 0) (gg1 0), xI g (aa1 0) 49 (zT (gg1 0)), xI g (bb1 0) 49 (zI (gg1 0)), cR (rr1 1) (aa1 1) (bb1 1) (gg1 1), xI g (aa1 1) 49 (zT (gg1 1)), xI g (bb1 1) 49 (zI (gg1 1)), cR (rr1 2) (aa1 2) (bb1 2) (gg1 2), xI g (aa1 2) 49 (zT (gg1 2)), xI g (bb1 2) 49 (zI (gg1 2)), cR (rr1 3) (aa1 3) (bb1 3) (gg1 3), xI g (aa1 3) 49 (zT (gg1 3)), xI g (bb1 3) 49 (zI (gg1 3)), cT tx ch L1, xC g ch 60 T1, cTr tr tw od os1 po1 re1 ca1, cR tw ta tb tt1, xI g ta 49 (zT tt1), xI g tb 49 (zI tt1), cO od vb1 m1 m2 nm1 en1]) F w [] [0, 1, 2, 3, 4, 5, 6, 7, 8, 9, 10, 11, 12, 13, 14, 15, 16, 17, 18, 19, 20, 21, 22, 23, 24, 25, 26, 27] [0, 1, 2, 3, 4, 5, 6, 7, 8, 9, 10, 11, 12, 13, 14, 15, 16, 17, 18, 19, 20, 21, 22, 23, 24, 25, 26, 27] rfl rfl rfl (fun _ => rfl)
                (fun hp => va_runS (As := [.int (y9 >>> ((nI 8) &&& 31)), .int (nI 4)]) (rest := []) F.1 (kL_low l g (y9 >>> ((nI 8) &&& 31)) 4 H.size (by omega)) (va_cwS 2 hts gL_law_L_low rfl rfl rfl hd_L_low ⟨Nat.le_of_ble_eq_true rfl, Nat.le_of_ble_eq_true rfl⟩) hp rfl rfl hl.1 rfl (lv_room (Nat.le_of_ble_eq_true rfl)) dL_law_198 ⟨by show _ ≤ (610012 : Nat); omega, by show _ ≤ (7271146 : Nat); omega⟩)
                (fun r_65 _ H locs h_66 w => ?_)
              subst h_66
              refine lv_if_ne (tgt := 230) hx hb dL_law_201 (by decide) (fun h_67 => ?_) (fun h_67 => ?_)
              · have h_67 : lowN (y9 >>> ((nI 8) &&& 31)) 4 ≠ 0 := (kc0_ne_t (by omega)).mp h_67
                refine W.widen (k := 133 + 404 * n + 307) (n := 1450 + 2424 * n + 1842) (by omega) (by omega) ?_
                exact JN_26 σ1 kn1 gg1 hk1 hb1 hg1 _ _ _ (kW.perm w [0, 1, 2, 3, 4, 5, 6, 7, 8, 9, 10, 11, 12, 13, 14, 15, 16, 17, 18, 19, 20, 21, 22, 23, 24, 25, 26, 27] rfl rfl) (lv_sub hl [0, 6, 7, 8, 9] rfl)
              · have h_67 : lowN (y9 >>> ((nI 8) &&& 31)) 4 = 0 := (kc0_ne_f (by omega)).mp h_67
                have w : kW g A s [cX x nw sn tk hs tx tr, cR nw na nb σ1, xI g na 49 (zT σ1), xI g nb 49 (zI σ1), cR sn sa sb κ, xI g sa 49 (zT κ), xI g sb 49 (zI κ), cH hs hq (kn + 1), xQ g hq 4 (rq rr1), cR (rr1 0) (aa1 0) (bb1 0) (gg1 0), xI g (aa1 0) 49 (zT (gg1 0)), xI g (bb1 0) 49 (zI (gg1 0)), cR (rr1 1) (aa1 1) (bb1 1) (gg1 1), xI g (aa1 1) 49 (zT (gg1 1)), xI g (bb1 1) 49 (zI (gg1 1)), cR (rr1 2) (aa1 2) (bb1 2) (gg1 2), xI g (aa1 2) 49 (zT (gg1 2)), xI g (bb1 2) 49 (zI (gg1 2)), cR (rr1 3) (aa1 3) (bb1 3) (gg1 3), xI g (aa1 3) 49 (zT (gg1 3)), xI g (bb1 3) 49 (zI (gg1 3)), cT tx ch L1, xC g ch 60 T1, cTr tr tw od os1 po1 re1 ca1, cR tw ta tb tt1, xI g ta 49 (zT tt1), xI g tb 49 (zI tt1), cO od vb1 m1 m2 nm1 en1] H locs := by
                  have w := w
                  rw [h_63] at w; exact w
                refine lv_aload_n hx hb dL_law_204 rfl (lv_at hl 8 rfl) ?_
                refine kcalli (wc := [cX x nw sn tk hs tx tr, cR nw na nb σ1, xI g na 49 (zT σ1), xI g nb 49 (zI σ1), cH hs hq (kn + 1), xQ g hq 4 (rq rr1), cR (rr1 0) (aa1 0) (bb1 0) (gg1 0), xI g (aa1 0) 49 (zT (gg1 0)), xI g (bb1 0) 49 (zI (gg1 0)), cR (rr1 1) (aa1 1) (bb1 1) (gg1 1), xI g (aa1 1) 49 (zT (gg1 1)), xI g (bb1 1) 49 (zI (gg1 1)), cR (rr1 2) (aa1 2) (bb1 2) (gg1 2), xI g (aa1 2) 49 (zT (gg1 2)), xI g (bb1 2) 49 (zI (gg1 2)), cR (rr1 3) (aa1 3) (bb1 3) (gg1 3), xI g (aa1 3) 49 (zT (gg1 3)), xI g (bb1 3) 49 (zI (gg1 3))]) (wr := [cR sn sa sb κ, xI g sa 49 (zT κ), xI g sb 49 (zI κ), cT tx ch L1, xC g ch 60 T1, cTr tr tw od os1 po1 re1 ca1, cR tw ta tb tt1, xI g ta 49 (zT tt1), xI g tb 49 (zI tt1), cO od vb1 m1 m2 nm1 en1]) (wn := fun (u : Unit) => [cX x nw sn tk hs tx tr, cR nw na nb (gg1 kn), xI g na 49 (zT (gg1 kn)), xI g nb 49 (zI (gg1 kn)), cR sn sa sb κ, xI g sa 49 (zT κ), xI g sb 49 (zI κ), cH hs hq kn, xQ g hq 4 (rq rr1), cR (rr1 0) (aa1 0) (bb1 0) (gg1 0), xI g (aa1 0) 49 (zT (gg1 0)), xI g (bb1 0) 49 (zI (gg1 0)), cR (rr1 1) (aa1 1) (bb1 1) (gg1 1), xI g (aa1 1) 49 (zT (gg1 1)), xI g (bb1 1) 49 (zI (gg1 1)), cR (rr1 2) (aa1 2) (bb1 2) (gg1 2), xI g (aa1 2) 49 (zT (gg1 2)), xI g (bb1 2) 49 (zI (gg1 2)), cR (rr1 3) (aa1 3) (bb1 3) (gg1 3), xI g (aa1 3) 49 (zT (gg1 3)), xI g (bb1 3) 49 (zI (gg1 3)), cT tx ch L1, xC g ch 60 T1, cTr tr tw od os1 po1 re1 ca1, cR tw ta tb tt1, xI g ta 49 (zT tt1), xI g tb 49 (zI tt1), cO od vb1 m1 m2 nm1 en1]) F w [0, 1, 2, 3, 7, 8, 9, 10, 11, 12, 13, 14, 15, 16, 17, 18, 19, 20] [4, 5, 6, 21, 22, 23, 24, 25, 26, 27] [10, 11, 12, 13, 0, 1, 2, 14, 15, 16, 17, 18, 19, 20, 21, 22, 23, 24, 25, 26, 27, 3, 4, 5, 6, 7, 8, 9] rfl rfl rfl (fun _ => rfl)
                  (fun hp => vx_runSW (As := [.ref x]) (rest := []) F.1 (kL_undo_k l g x nw sn tk hs tx tr na nb σ1 hq kn rr1 aa1 bb1 gg1 H.size hk4a) (vx_cwSW 1 hts gL_law_L_undo rfl rfl rfl hd_L_undo ⟨Nat.le_of_ble_eq_true rfl, Nat.le_of_ble_eq_true rfl⟩) hp rfl rfl hl.1 rfl (lv_room (Nat.le_of_ble_eq_true rfl)) dL_law_205 ⟨by show _ ≤ (610012 : Nat); omega, by show _ ≤ (7271146 : Nat); omega⟩)
                  (fun r_68 _ H locs h_69 w => ?_)
                subst h_69
                refine lv_iload hx hb dL_law_208 (lv_at hl 2 rfl) ?_
                refine lv_icmp_ne (tgt := 227) hx hb dL_law_210 (by decide) (fun h_70 => ?_) (fun h_70 => ?_)
                · exact absurd rfl h_70
                have w : kW g A s [cX x nw sn tk hs tx tr, cR nw na nb σ, xI g na 49 (zT σ), xI g nb 49 (zI σ), cR sn sa sb κ, xI g sa 49 (zT κ), xI g sb 49 (zI κ), cH hs hq kn, xQ g hq 4 (rq rr1), cR (rr1 0) (aa1 0) (bb1 0) (gg1 0), xI g (aa1 0) 49 (zT (gg1 0)), xI g (bb1 0) 49 (zI (gg1 0)), cR (rr1 1) (aa1 1) (bb1 1) (gg1 1), xI g (aa1 1) 49 (zT (gg1 1)), xI g (bb1 1) 49 (zI (gg1 1)), cR (rr1 2) (aa1 2) (bb1 2) (gg1 2), xI g (aa1 2) 49 (zT (gg1 2)), xI g (bb1 2) 49 (zI (gg1 2)), cR (rr1 3) (aa1 3) (bb1 3) (gg1 3), xI g (aa1 3) 49 (zT (gg1 3)), xI g (bb1 3) 49 (zI (gg1 3)), cT tx ch L1, xC g ch 60 T1, cTr tr tw od os1 po1 re1 ca1, cR tw ta tb tt1, xI g ta 49 (zT tt1), xI g tb 49 (zI tt1), cO od vb1 m1 m2 nm1 en1] H locs := by
                  have w := w
                  rw [hk4b] at w; exact w
                refine lv_aload_n hx hb dL_law_213 rfl (lv_at hl 8 rfl) ?_
                refine kcalll (wc := [cX x nw sn tk hs tx tr, cR nw na nb σ, xI g na 49 (zT σ), xI g nb 49 (zI σ)]) (wr := [cR sn sa sb κ, xI g sa 49 (zT κ), xI g sb 49 (zI κ), cH hs hq kn, xQ g hq 4 (rq rr1), cR (rr1 0) (aa1 0) (bb1 0) (gg1 0), xI g (aa1 0) 49 (zT (gg1 0)), xI g (bb1 0) 49 (zI (gg1 0)), cR (rr1 1) (aa1 1) (bb1 1) (gg1 1), xI g (aa1 1) 49 (zT (gg1 1)), xI g (bb1 1) 49 (zI (gg1 1)), cR (rr1 2) (aa1 2) (bb1 2) (gg1 2), xI g (aa1 2) 49 (zT (gg1 2)), xI g (bb1 2) 49 (zI (gg1 2)), cR (rr1 3) (aa1 3) (bb1 3) (gg1 3), xI g (aa1 3) 49 (zT (gg1 3)), xI g (bb1 3) 49 (zI (gg1 3)), cT tx ch L1, xC g ch 60 T1, cTr tr tw od os1 po1 re1 ca1, cR tw ta tb tt1, xI g ta 49 (zT tt1), xI g tb 49 (zI tt1), cO od vb1 m1 m2 nm1 en1]) (wn := fun (u : Unit) => [cX x nw sn tk hs tx tr, cR nw na nb σ, xI g na 49 (zT σ), xI g nb 49 (zI σ), cR sn sa sb κ, xI g sa 49 (zT κ), xI g sb 49 (zI κ), cH hs hq kn, xQ g hq 4 (rq rr1), cR (rr1 0) (aa1 0) (bb1 0) (gg1 0), xI g (aa1 0) 49 (zT (gg1 0)), xI g (bb1 0) 49 (zI (gg1 0)), cR (rr1 1) (aa1 1) (bb1 1) (gg1 1), xI g (aa1 1) 49 (zT (gg1 1)), xI g (bb1 1) 49 (zI (gg1 1)), cR (rr1 2) (aa1 2) (bb1 2) (gg1 2), xI g (aa1 2) 49 (zT (gg1 2)), xI g (bb1 2) 49 (zI (gg1 2)), cR (rr1 3) (aa1 3) (bb1 3) (gg1 3), xI g (aa1 3) 49 (zT (gg1 3)), xI g (bb1 3) 49 (zI (gg1 3)), cT tx ch L1, xC g ch 60 T1, cTr tr tw od os1 po1 re1 ca1, cR tw ta tb tt1, xI g ta 49 (zT tt1), xI g tb 49 (zI tt1), cO od vb1 m1 m2 nm1 en1]) F w [0, 1, 2, 3] [4, 5, 6, 7, 8, 9, 10, 11, 12, 13, 14, 15, 16, 17, 18, 19, 20, 21, 22, 23, 24, 25, 26, 27] [24, 25, 26, 27, 0, 1, 2, 3, 4, 5, 6, 7, 8, 9, 10, 11, 12, 13, 14, 15, 16, 17, 18, 19, 20, 21, 22, 23] rfl rfl rfl (fun _ => rfl)
                  (fun hp => va_runS (As := [.ref x]) (rest := []) F.1 (kL_look l hnl g x nw sn tk hs tx tr na nb σ H.size ) (va_cwS 1 hts gL_law_L_look rfl rfl rfl hd_L_look ⟨Nat.le_of_ble_eq_true rfl, Nat.le_of_ble_eq_true rfl⟩) hp rfl rfl hl.1 rfl (lv_room (Nat.le_of_ble_eq_true rfl)) dL_law_214 ⟨by show _ ≤ (610012 : Nat); omega, by show _ ≤ (7271146 : Nat); omega⟩)
                  (fun r_71 _ H locs h_72 w => ?_)
                subst h_72
                refine lv_lload hx hb dL_law_217 (lv_at hl 3 rfl) ?_
                refine W.lcmp hx hb dL_law_219 ?_
                refine lv_if_ne (tgt := 227) hx hb dL_law_220 (by decide) (fun h_73 => ?_) (fun h_73 => ?_)
                · exact absurd (lgc_self _) h_73
                refine lv_iconst (v := nI 1) hx hb dL_law_223 (by decide) ?_
                refine lv_goto (tgt := 228) hx hb dL_law_224 (by decide) ?_
                refine lv_istore (lv' := [(4, .int (nI 1)), (11, .int (nI kn1)), (10, .int (nI kn)), (8, .long (LK σ)), (7, .int y9), (6, .int x9), (5, .int (nI n)), (2, .long kp), (1, .ref x), (0, .ref b)]) hx hb dL_law_228 hl (by decide) rfl (fun ls hl => ?_)
                refine W.widen (k := 133 + 404 * n + 307) (n := 1450 + 2424 * n + 1842) (by omega) (by omega) ?_
                exact JN_26 σ kn gg1 hkn (hBs.mono (by omega)) hg1 _ _ _ (kW.perm w [0, 1, 2, 3, 4, 5, 6, 7, 8, 9, 10, 11, 12, 13, 14, 15, 16, 17, 18, 19, 20, 21, 22, 23, 24, 25, 26, 27] rfl rfl) (lv_sub hl [0, 6, 7, 8, 9] rfl)
          refine lv_iload hx hb dL_law_139 (lv_at hl 0 rfl) ?_
          refine lv_iload hx hb dL_law_141 (lv_at hl 2 rfl) ?_
          refine lv_icmp_ne (tgt := 162) hx hb dL_law_143 (by decide) (fun h_74 => ?_) (fun h_74 => ?_)
          · have h_74 : kn1 ≠ kn := (kc_ne_t (by omega) (by omega)).mp h_74
            have hk5 := hk3 h_74
            refine lv_iload hx hb dL_law_162 (lv_at hl 0 rfl) ?_
            refine lv_iload hx hb dL_law_164 (lv_at hl 2 rfl) ?_
            refine lv_iconst (v := nI 1) hx hb dL_law_166 (by decide) ?_
            refine lv_iadd hx hb dL_law_167 ?_
            refine ktopi (y := nI (kn + 1)) (nI_add kn 1) ?_
            refine lv_icmp_ne (tgt := 175) hx hb dL_law_168 (by decide) (fun h_75 => ?_) (fun h_75 => ?_)
            · exact absurd (congrArg nI hk5) h_75
            refine W.widen (k := 133 + 404 * n + 259) (n := 1450 + 2424 * n + 1554) (by omega) (by omega) ?_
            exact JN_24   _ _ _ (kW.perm w [0, 1, 2, 3, 4, 5, 6, 7, 8, 9, 10, 11, 12, 13, 14, 15, 16, 17, 18, 19, 20, 21, 22, 23, 24, 25, 26, 27] rfl rfl) (lv_sub hl [0, 1, 2, 3, 4, 5, 6, 7, 8, 9] rfl)
          · have h_74 : kn1 = kn := (kc_ne_f (by omega) (by omega)).mp h_74
            refine lv_iload hx hb dL_law_146 (lv_at hl 2 rfl) ?_
            refine lv_iconst (v := nI 4) hx hb dL_law_148 (by decide) ?_
            refine lv_icmp_eq (tgt := 171) hx hb dL_law_149 (by decide) (fun h_76 => ?_) (fun h_76 => ?_)
            · have h_76 : kn = 4 := (kc_eq_t (by omega) (by omega)).mp h_76
              refine W.widen (k := 133 + 404 * n + 259) (n := 1450 + 2424 * n + 1554) (by omega) (by omega) ?_
              exact JN_24   _ _ _ (kW.perm w [0, 1, 2, 3, 4, 5, 6, 7, 8, 9, 10, 11, 12, 13, 14, 15, 16, 17, 18, 19, 20, 21, 22, 23, 24, 25, 26, 27] rfl rfl) (lv_sub hl [0, 1, 2, 3, 4, 5, 6, 7, 8, 9] rfl)
            · have h_76 : kn ≠ 4 := (kc_eq_f (by omega) (by omega)).mp h_76
              have hs5 := hk2 h_74 h_76
              refine lv_aload_n hx hb dL_law_152 rfl (lv_at hl 8 rfl) ?_
              refine kcalll (wc := [cX x nw sn tk hs tx tr, cR nw na nb σ1, xI g na 49 (zT σ1), xI g nb 49 (zI σ1)]) (wr := [cR sn sa sb κ, xI g sa 49 (zT κ), xI g sb 49 (zI κ), cH hs hq kn1, xQ g hq 4 (rq rr1), cR (rr1 0) (aa1 0) (bb1 0) (gg1 0), xI g (aa1 0) 49 (zT (gg1 0)), xI g (bb1 0) 49 (zI (gg1 0)), cR (rr1 1) (aa1 1) (bb1 1) (gg1 1), xI g (aa1 1) 49 (zT (gg1 1)), xI g (bb1 1) 49 (zI (gg1 1)), cR (rr1 2) (aa1 2) (bb1 2) (gg1 2), xI g (aa1 2) 49 (zT (gg1 2)), xI g (bb1 2) 49 (zI (gg1 2)), cR (rr1 3) (aa1 3) (bb1 3) (gg1 3), xI g (aa1 3) 49 (zT (gg1 3)), xI g (bb1 3) 49 (zI (gg1 3)), cT tx ch L1, xC g ch 60 T1, cTr tr tw od os1 po1 re1 ca1, cR tw ta tb tt1, xI g ta 49 (zT tt1), xI g tb 49 (zI tt1), cO od vb1 m1 m2 nm1 en1]) (wn := fun (u : Unit) => [cX x nw sn tk hs tx tr, cR nw na nb σ1, xI g na 49 (zT σ1), xI g nb 49 (zI σ1), cR sn sa sb κ, xI g sa 49 (zT κ), xI g sb 49 (zI κ), cH hs hq kn1, xQ g hq 4 (rq rr1), cR (rr1 0) (aa1 0) (bb1 0) (gg1 0), xI g (aa1 0) 49 (zT (gg1 0)), xI g (bb1 0) 49 (zI (gg1 0)), cR (rr1 1) (aa1 1) (bb1 1) (gg1 1), xI g (aa1 1) 49 (zT (gg1 1)), xI g (bb1 1) 49 (zI (gg1 1)), cR (rr1 2) (aa1 2) (bb1 2) (gg1 2), xI g (aa1 2) 49 (zT (gg1 2)), xI g (bb1 2) 49 (zI (gg1 2)), cR (rr1 3) (aa1 3) (bb1 3) (gg1 3), xI g (aa1 3) 49 (zT (gg1 3)), xI g (bb1 3) 49 (zI (gg1 3)), cT tx ch L1, xC g ch 60 T1, cTr tr tw od os1 po1 re1 ca1, cR tw ta tb tt1, xI g ta 49 (zT tt1), xI g tb 49 (zI tt1), cO od vb1 m1 m2 nm1 en1]) F w [0, 1, 2, 3] [4, 5, 6, 7, 8, 9, 10, 11, 12, 13, 14, 15, 16, 17, 18, 19, 20, 21, 22, 23, 24, 25, 26, 27] [24, 25, 26, 27, 0, 1, 2, 3, 4, 5, 6, 7, 8, 9, 10, 11, 12, 13, 14, 15, 16, 17, 18, 19, 20, 21, 22, 23] rfl rfl rfl (fun _ => rfl)
                (fun hp => va_runS (As := [.ref x]) (rest := []) F.1 (kL_look l hnl g x nw sn tk hs tx tr na nb σ1 H.size ) (va_cwS 1 hts gL_law_L_look rfl rfl rfl hd_L_look ⟨Nat.le_of_ble_eq_true rfl, Nat.le_of_ble_eq_true rfl⟩) hp rfl rfl hl.1 rfl (lv_room (Nat.le_of_ble_eq_true rfl)) dL_law_153 ⟨by show _ ≤ (610012 : Nat); omega, by show _ ≤ (7271146 : Nat); omega⟩)
                (fun r_77 _ H locs h_78 w => ?_)
              subst h_78
              refine lv_lload hx hb dL_law_156 (lv_at hl 3 rfl) ?_
              refine W.lcmp hx hb dL_law_158 ?_
              refine lv_if_eq (tgt := 171) hx hb dL_law_159 (by decide) (fun h_79 => ?_) (fun h_79 => ?_)
              rotate_left 1
              · exact absurd (lgc_eq.mpr (by rw [hs5])) h_79
              refine W.widen (k := 133 + 404 * n + 259) (n := 1450 + 2424 * n + 1554) (by omega) (by omega) ?_
              exact JN_24   _ _ _ (kW.perm w [0, 1, 2, 3, 4, 5, 6, 7, 8, 9, 10, 11, 12, 13, 14, 15, 16, 17, 18, 19, 20, 21, 22, 23, 24, 25, 26, 27] rfl rfl) (lv_sub hl [0, 1, 2, 3, 4, 5, 6, 7, 8, 9] rfl)
        refine lv_iload hx hb dL_law_103 (lv_at hl 4 rfl) ?_
        refine lv_iconst (v := nI 3) hx hb dL_law_105 (by decide) ?_
        refine lv_irem hx hb dL_law_106 ((kc0_eq_f (by omega)).mpr (by omega)) ?_
        refine ktopi (y := nI (n % 3)) (pk_rem (a := n) (d := 3) (by omega) (by omega) (by omega)) ?_
        refine lv_if_gt (tgt := 121) hx hb dL_law_107 (by decide) (fun h_80 => ?_) (fun h_80 => ?_)
        · have h_80 : n % 3 > 0 := (kc0_gt_t (by omega)).mp h_80
          refine W.widen (k := 133 + 404 * n + 211) (n := 1450 + 2424 * n + 1266) (by omega) (by omega) ?_
          exact JN_20   _ _ _ (kW.perm w [0, 1, 2, 3, 4, 5, 6, 7, 8, 9, 10, 11, 12, 13, 14, 15, 16, 17, 18, 19, 20, 21, 22, 23, 24, 25, 26, 27] rfl rfl) (lv_sub hl [0, 1, 2, 3, 4, 5, 6, 7, 8] rfl)
        · have h_80 : n % 3 ≤ 0 := (kc0_gt_f (by omega)).mp h_80
          refine lv_aload_n hx hb dL_law_110 rfl (lv_at hl 7 rfl) ?_
          refine lv_iload hx hb dL_law_111 (lv_at hl 2 rfl) ?_
          refine lv_iconst (v := nI 2) hx hb dL_law_113 (by decide) ?_
          refine lv_ishr hx hb dL_law_114 ?_
          refine kcalli (wc := [cX x nw sn tk hs tx tr, cR nw na nb σ1, xI g na 49 (zT σ1), xI g nb 49 (zI σ1), cH hs hq kn1]) (wr := [cR sn sa sb κ, xI g sa 49 (zT κ), xI g sb 49 (zI κ), xQ g hq 4 (rq rr1), cR (rr1 0) (aa1 0) (bb1 0) (gg1 0), xI g (aa1 0) 49 (zT (gg1 0)), xI g (bb1 0) 49 (zI (gg1 0)), cR (rr1 1) (aa1 1) (bb1 1) (gg1 1), xI g (aa1 1) 49 (zT (gg1 1)), xI g (bb1 1) 49 (zI (gg1 1)), cR (rr1 2) (aa1 2) (bb1 2) (gg1 2), xI g (aa1 2) 49 (zT (gg1 2)), xI g (bb1 2) 49 (zI (gg1 2)), cR (rr1 3) (aa1 3) (bb1 3) (gg1 3), xI g (aa1 3) 49 (zT (gg1 3)), xI g (bb1 3) 49 (zI (gg1 3)), cT tx ch L1, xC g ch 60 T1, cTr tr tw od os1 po1 re1 ca1, cR tw ta tb tt1, xI g ta 49 (zT tt1), xI g tb 49 (zI tt1), cO od vb1 m1 m2 nm1 en1]) (wn := fun (u : Unit) => [cX x nw sn tk hs tx tr, cR nw na nb σ1, xI g na 49 (zT σ1), xI g nb 49 (zI σ1), cR sn sa sb κ, xI g sa 49 (zT κ), xI g sb 49 (zI κ), cH hs hq kn1, xQ g hq 4 (rq rr1), cR (rr1 0) (aa1 0) (bb1 0) (gg1 0), xI g (aa1 0) 49 (zT (gg1 0)), xI g (bb1 0) 49 (zI (gg1 0)), cR (rr1 1) (aa1 1) (bb1 1) (gg1 1), xI g (aa1 1) 49 (zT (gg1 1)), xI g (bb1 1) 49 (zI (gg1 1)), cR (rr1 2) (aa1 2) (bb1 2) (gg1 2), xI g (aa1 2) 49 (zT (gg1 2)), xI g (bb1 2) 49 (zI (gg1 2)), cR (rr1 3) (aa1 3) (bb1 3) (gg1 3), xI g (aa1 3) 49 (zT (gg1 3)), xI g (bb1 3) 49 (zI (gg1 3)), cT tx ch L1, xC g ch 60 T1, cTr tr tw od os1 po1 re1 ca1, cR tw ta tb tt1, xI g ta 49 (zT tt1), xI g tb 49 (zI tt1), cO od vb1 m1 m2 nm1 en1]) F w [0, 1, 2, 3, 7] [4, 5, 6, 8, 9, 10, 11, 12, 13, 14, 15, 16, 17, 18, 19, 20, 21, 22, 23, 24, 25, 26, 27] [23, 24, 25, 26, 0, 1, 2, 27, 3, 4, 5, 6, 7, 8, 9, 10, 11, 12, 13, 14, 15, 16, 17, 18, 19, 20, 21, 22] rfl rfl rfl (fun _ => rfl)
            (fun hp => va_runS (As := [.ref x, .int (y9 >>> ((nI 2) &&& 31))]) (rest := []) F.1 (kL_holds l hnl g x nw sn tk hs tx tr na nb σ1 hq kn1 (y9 >>> ((nI 2) &&& 31)) H.size hk1 (gB_big hb1 hB1)) (va_cwS 2 hts gL_law_L_holds rfl rfl rfl hd_L_holds ⟨Nat.le_of_ble_eq_true rfl, Nat.le_of_ble_eq_true rfl⟩) hp rfl rfl hl.1 rfl (lv_room (Nat.le_of_ble_eq_true rfl)) dL_law_115 ⟨by show _ ≤ (610012 : Nat); omega, by show _ ≤ (7271146 : Nat); omega⟩)
            (fun r_81 _ H locs h_82 w => ?_)
          subst h_82
          refine lv_if_eq (tgt := 125) hx hb dL_law_118 (by decide) (fun h_83 => ?_) (fun h_83 => ?_)
          · exact absurd h_83 (by decide)
          refine W.widen (k := 133 + 404 * n + 211) (n := 1450 + 2424 * n + 1266) (by omega) (by omega) ?_
          exact JN_20   _ _ _ (kW.perm w [0, 1, 2, 3, 4, 5, 6, 7, 8, 9, 10, 11, 12, 13, 14, 15, 16, 17, 18, 19, 20, 21, 22, 23, 24, 25, 26, 27] rfl rfl) (lv_sub hl [0, 1, 2, 3, 4, 5, 6, 7, 8] rfl)
  refine W.widen (k := 133 + 404 * n) (n := 1450 + 2424 * n) (by omega) (by omega) ?_
  exact LP_1 _ n tk σ kn ρ α β γ κ L T os po re ca τ vb n1 n2 nm en kp hn hkn hL hBs hGs hKs hkp _ _ _ (Nat.lt_succ_self _) (kW.perm w [0, 1, 2, 3, 4, 5, 6, 7, 8, 9, 10, 11, 12, 13, 14, 15, 16, 17, 18, 19, 20, 21, 22, 23, 24, 25, 26, 27] rfl rfl) (lv_sub hl [0, 1, 2, 3, 4] rfl)
