/-! ===== the law's look at all that it can see: it holds ===== -/
/-- open behind the pass k, if it were made -/
def opP (σ : Sg) (k d : Nat) : Bool := (zO σ d ^^ turnP σ k d)
theorem opP_b (σ : Sg) (k : Nat) : zB (zO σ) ^^^ zB (turnP σ k) = zB (opP σ k) := zB_xor _ _
theorem nI_m104 {a : Nat} (h : a < 2147483648) : ¬ nI a = (-104) := fun e => by
  have h1 := ki_n h; rw [e] at h1; have h2 : ((-104 : Int32)).toInt = -104 := by decide
  omega
theorem nI_m102 {a : Nat} (h : a < 2147483648) : ¬ nI a = (-102) := fun e => by
  have h1 := ki_n h; rw [e] at h1; have h2 : ((-102 : Int32)).toInt = -102 := by decide
  omega
theorem nI_m103 {a : Nat} (h : a < 2147483648) : ¬ nI a = (-103) := fun e => by
  have h1 := ki_n h; rw [e] at h1; have h2 : ((-103 : Int32)).toInt = -103 := by decide
  omega
theorem bI_m104 (b : Bool) : ¬ bI b = (-104) := by cases b <;> decide
theorem shut_t {σ : Sg} {d : Nat} (h1 : zF σ d = true) (h2 : zO σ d = false) : shutP σ d = true := by unfold shutP; rw [h1, h2]; rfl
theorem shut_f1 {σ : Sg} {d : Nat} (h1 : zF σ d = false) : shutP σ d = false := by unfold shutP; rw [h1]; rfl
theorem shut_f2 {σ : Sg} {d : Nat} (h2 : zO σ d = true) : shutP σ d = false := by unfold shutP; rw [h2, Bool.not_true, Bool.and_false]
theorem kind_tt {σ : Sg} {kd : Bool} {d : Nat} (h1 : zF σ d = true) (h2 : zH σ d = kd) : kindP σ kd d = true := by unfold kindP; rw [h1, h2]; cases kd <;> rfl
theorem kind_ff {σ : Sg} {kd : Bool} {d : Nat} (h1 : zF σ d = false) : kindP σ kd d = false := by unfold kindP; rw [h1]; rfl
theorem kind_tf {σ : Sg} {kd : Bool} {d : Nat} (h2 : zH σ d ≠ kd) : kindP σ kd d = false := by
  unfold kindP
  have : (zH σ d == kd) = false := by cases h : zH σ d <;> cases kd <;> first | rfl | exact absurd h h2
  rw [this, Bool.and_false]
theorem reas_1 {σ : Sg} {d : Nat} {kd : Bool} (h : zO σ d = false) : reasZ σ d kd = 1 := if_pos h
theorem reas_2 {σ : Sg} {d : Nat} {kd : Bool} (h : zO σ d = true) (h2 : zF σ d = true) : reasZ σ d kd = 2 := (if_neg (by rw [h]; decide)).trans (if_pos h2)
theorem reas_3 {σ : Sg} {d : Nat} {kd : Bool} (h : zO σ d = true) (h2 : zF σ d = false) (h3 : fitZ d kd = false) : reasZ σ d kd = 3 := (if_neg (by rw [h]; decide)).trans ((if_neg (by rw [h2]; decide)).trans (if_neg (by rw [h3]; decide)))
theorem reas_0 {σ : Sg} {d : Nat} {kd : Bool} (h : zO σ d = true) (h2 : zF σ d = false) (h3 : fitZ d kd = true) : reasZ σ d kd = 0 := (if_neg (by rw [h]; decide)).trans ((if_neg (by rw [h2]; decide)).trans (if_pos h3))
theorem fit_a {d : Nat} (h : d ≤ 16) : fitZ d false = true ∧ fitZ d true = false := by unfold fitZ; rw [if_pos h]; exact ⟨rfl, if_pos h⟩
theorem fit_b {d : Nat} (h : 17 ≤ d) (h2 : d ≤ 32) : fitZ d false = false ∧ fitZ d true = true := by
  unfold fitZ; rw [if_neg (by omega), if_pos h2]; exact ⟨rfl, (if_neg (by omega)).trans (if_pos h2)⟩
theorem fit_c {d : Nat} (h : 33 ≤ d) : fitZ d false = true ∧ fitZ d true = true := by
  unfold fitZ; rw [if_neg (by omega), if_neg (by omega)]; exact ⟨rfl, (if_neg (by omega)).trans (if_neg (by omega))⟩
theorem nx_open {p : Nat → Bool} {d : Nat} (h : d ≤ 48) (ho : p d = true) : nxN p d < 49 := by
  obtain ⟨n1, n2, n3, n4⟩ := nxN_s p h
  refine Nat.lt_of_not_le fun hc => ?_
  have := n3 d (Nat.le_refl _) (by omega)
  rw [ho] at this; cases this
abbrev rmX5_states_s : Room := { frames := 0, cells := 0, slots := 0, locals := 0 }
set_option maxHeartbeats 4000000 in
set_option maxRecDepth 100000 in
theorem kX5_states_s (l : Launch) (g : GG) (x : Nat) (nw : Nat) (sn : Nat) (tk : Bool) (hs : Nat) (tx : Nat) (tr : Nat) (hq : Nat) (kn : Nat) (sz : Nat)  : Met l yX5_states wsX5_states rmX5_states_s (va_Pc [.ref x] (kPre g [cX x nw sn tk hs tx tr, cH hs hq kn] sz)) (va_Qi (fun (r : Int32) (u : Unit) => r = nI kn) (kB g (va_A [cX x nw sn tk hs tx tr, cH hs hq kn] sz) (fun u => [cX x nw sn tk hs tx tr, cH hs hq kn])) (va_A [cX x nw sn tk hs tx tr, cH hs hq kn] sz)) 0 0 (va_A [cX x nw sn tk hs tx tr, cH hs hq kn] sz) := by
  refine kMet (cc := cX5_states) (maxL := 1) (ret := (some .int)) (own := RX5) (by decide) rfl rfl (Nat.le_of_ble_eq_true rfl) ?_
  intro p e s m args below meth c ls Q H locs A F w hl hnm hA hQ
  have hx := F.1.1
  have hb := F.1.2.1
  have hts := F.1.2.2.2.2
  have hl : lv_has ls 1 [(0, .ref x)] := hl
  refine lv_aload_n hx hb dX5_states_0 rfl (lv_at hl 0 rfl) ?_
  refine kget (fs := [.ref nw, .ref sn, .int (bI tk), .ref hs, .ref tx, .ref tr]) F w in_X5_states_X5 0 rfl rfl 3 (by decide) (by decide +kernel) rfl rfl dX5_states_1 ?_
  refine kgetN (host := RX5) (fs := [.ref hq, .int (nI kn)]) F w in_X5_states_X0 1 rfl rfl 1 (by decide) (by decide +kernel) rfl rfl dX5_states_4 ?_
  subst hA
  subst hQ
  exact kreti F w () [0, 1] rfl rfl (rfl) (Nat.le_of_ble_eq_true rfl) (Nat.le_of_ble_eq_true rfl) dX5_states_7
theorem hd_L_divisorsOf : yL_divisorsOf.cls ≠ "java/lang/invoke/MethodHandle" ∧ yL_divisorsOf.cls ≠ "java/lang/invoke/VarHandle" ∧ (parseMethodDescriptor yL_divisorsOf.desc).map (fun d => d.parameters.length) = some 2 := by decide +kernel
theorem hd_L_isOpen : yL_isOpen.cls ≠ "java/lang/invoke/MethodHandle" ∧ yL_isOpen.cls ≠ "java/lang/invoke/VarHandle" ∧ (parseMethodDescriptor yL_isOpen.desc).map (fun d => d.parameters.length) = some 2 := by decide +kernel
theorem hd_L_locked : yL_locked.cls ≠ "java/lang/invoke/MethodHandle" ∧ yL_locked.cls ≠ "java/lang/invoke/VarHandle" ∧ (parseMethodDescriptor yL_locked.desc).map (fun d => d.parameters.length) = some 1 := by decide +kernel
theorem hd_L_low : yL_low.cls ≠ "java/lang/invoke/MethodHandle" ∧ yL_low.cls ≠ "java/lang/invoke/VarHandle" ∧ (parseMethodDescriptor yL_low.desc).map (fun d => d.parameters.length) = some 2 := by decide +kernel
theorem hd_L_nextOpen : yL_nextOpen.cls ≠ "java/lang/invoke/MethodHandle" ∧ yL_nextOpen.cls ≠ "java/lang/invoke/VarHandle" ∧ (parseMethodDescriptor yL_nextOpen.desc).map (fun d => d.parameters.length) = some 2 := by decide +kernel
theorem hd_L_ones : yL_ones.cls ≠ "java/lang/invoke/MethodHandle" ∧ yL_ones.cls ≠ "java/lang/invoke/VarHandle" ∧ (parseMethodDescriptor yL_ones.desc).map (fun d => d.parameters.length) = some 1 := by decide +kernel
theorem hd_L_parts : yL_parts.cls ≠ "java/lang/invoke/MethodHandle" ∧ yL_parts.cls ≠ "java/lang/invoke/VarHandle" ∧ (parseMethodDescriptor yL_parts.desc).map (fun d => d.parameters.length) = some 1 := by decide +kernel
theorem hd_L_ratio : yL_ratio.cls ≠ "java/lang/invoke/MethodHandle" ∧ yL_ratio.cls ≠ "java/lang/invoke/VarHandle" ∧ (parseMethodDescriptor yL_ratio.desc).map (fun d => d.parameters.length) = some 1 := by decide +kernel
theorem hd_L_thingsOf : yL_thingsOf.cls ≠ "java/lang/invoke/MethodHandle" ∧ yL_thingsOf.cls ≠ "java/lang/invoke/VarHandle" ∧ (parseMethodDescriptor yL_thingsOf.desc).map (fun d => d.parameters.length) = some 2 := by decide +kernel
theorem hd_L_timesOf : yL_timesOf.cls ≠ "java/lang/invoke/MethodHandle" ∧ yL_timesOf.cls ≠ "java/lang/invoke/VarHandle" ∧ (parseMethodDescriptor yL_timesOf.desc).map (fun d => d.parameters.length) = some 2 := by decide +kernel
theorem hd_L_turned : yL_turned.cls ≠ "java/lang/invoke/MethodHandle" ∧ yL_turned.cls ≠ "java/lang/invoke/VarHandle" ∧ (parseMethodDescriptor yL_turned.desc).map (fun d => d.parameters.length) = some 1 := by decide +kernel
theorem hd_L_whyNot : yL_whyNot.cls ≠ "java/lang/invoke/MethodHandle" ∧ yL_whyNot.cls ≠ "java/lang/invoke/VarHandle" ∧ (parseMethodDescriptor yL_whyNot.desc).map (fun d => d.parameters.length) = some 3 := by decide +kernel
theorem hd_L_wouldBeOpen : yL_wouldBeOpen.cls ≠ "java/lang/invoke/MethodHandle" ∧ yL_wouldBeOpen.cls ≠ "java/lang/invoke/VarHandle" ∧ (parseMethodDescriptor yL_wouldBeOpen.desc).map (fun d => d.parameters.length) = some 3 := by decide +kernel
theorem hd_X5_bestPass : yX5_bestPass.cls ≠ "java/lang/invoke/MethodHandle" ∧ yX5_bestPass.cls ≠ "java/lang/invoke/VarHandle" ∧ (parseMethodDescriptor yX5_bestPass.desc).map (fun d => d.parameters.length) = some 0 := by decide +kernel
theorem hd_X5_closingByDivisors : yX5_closingByDivisors.cls ≠ "java/lang/invoke/MethodHandle" ∧ yX5_closingByDivisors.cls ≠ "java/lang/invoke/VarHandle" ∧ (parseMethodDescriptor yX5_closingByDivisors.desc).map (fun d => d.parameters.length) = some 0 := by decide +kernel
theorem hd_X5_openByTurns : yX5_openByTurns.cls ≠ "java/lang/invoke/MethodHandle" ∧ yX5_openByTurns.cls ≠ "java/lang/invoke/VarHandle" ∧ (parseMethodDescriptor yX5_openByTurns.desc).map (fun d => d.parameters.length) = some 0 := by decide +kernel
theorem hd_X5_openDoors : yX5_openDoors.cls ≠ "java/lang/invoke/MethodHandle" ∧ yX5_openDoors.cls ≠ "java/lang/invoke/VarHandle" ∧ (parseMethodDescriptor yX5_openDoors.desc).map (fun d => d.parameters.length) = some 0 := by decide +kernel
theorem hd_X5_passesToClose : yX5_passesToClose.cls ≠ "java/lang/invoke/MethodHandle" ∧ yX5_passesToClose.cls ≠ "java/lang/invoke/VarHandle" ∧ (parseMethodDescriptor yX5_passesToClose.desc).map (fun d => d.parameters.length) = some 0 := by decide +kernel
theorem hd_X5_shareBits : yX5_shareBits.cls ≠ "java/lang/invoke/MethodHandle" ∧ yX5_shareBits.cls ≠ "java/lang/invoke/VarHandle" ∧ (parseMethodDescriptor yX5_shareBits.desc).map (fun d => d.parameters.length) = some 0 := by decide +kernel
theorem hd_X5_shutAway : yX5_shutAway.cls ≠ "java/lang/invoke/MethodHandle" ∧ yX5_shutAway.cls ≠ "java/lang/invoke/VarHandle" ∧ (parseMethodDescriptor yX5_shutAway.desc).map (fun d => d.parameters.length) = some 0 := by decide +kernel
theorem hd_X5_states : yX5_states.cls ≠ "java/lang/invoke/MethodHandle" ∧ yX5_states.cls ≠ "java/lang/invoke/VarHandle" ∧ (parseMethodDescriptor yX5_states.desc).map (fun d => d.parameters.length) = some 0 := by decide +kernel
theorem hd_X5_sumBits : yX5_sumBits.cls ≠ "java/lang/invoke/MethodHandle" ∧ yX5_sumBits.cls ≠ "java/lang/invoke/VarHandle" ∧ (parseMethodDescriptor yX5_sumBits.desc).map (fun d => d.parameters.length) = some 0 := by decide +kernel
theorem hd_X5_sumOfParts : yX5_sumOfParts.cls ≠ "java/lang/invoke/MethodHandle" ∧ yX5_sumOfParts.cls ≠ "java/lang/invoke/VarHandle" ∧ (parseMethodDescriptor yX5_sumOfParts.desc).map (fun d => d.parameters.length) = some 0 := by decide +kernel
theorem hd_X5_turnsInAll : yX5_turnsInAll.cls ≠ "java/lang/invoke/MethodHandle" ∧ yX5_turnsInAll.cls ≠ "java/lang/invoke/VarHandle" ∧ (parseMethodDescriptor yX5_turnsInAll.desc).map (fun d => d.parameters.length) = some 0 := by decide +kernel
abbrev rmL_holds : Room := { frames := 8, cells := 103, slots := 618, locals := 130 }
set_option maxHeartbeats 4000000 in
set_option maxRecDepth 100000 in
theorem kL_holds (l : Launch) (hnl : l.stackTraces = false) (g : GG) (x : Nat) (nw : Nat) (sn : Nat) (tk : Bool) (hs : Nat) (tx : Nat) (tr : Nat) (na : Nat) (nb : Nat) (σ : Sg) (hq : Nat) (kn : Nat) (v : Int32) (sz : Nat) (hkn : kn ≤ 4) (hg : gB 2147483647 σ) : Met l yL_holds wsL_holds rmL_holds (va_Pc [.ref x, .int v] (kPre g [cX x nw sn tk hs tx tr, cR nw na nb σ, xI g na 49 (zT σ), xI g nb 49 (zI σ), cH hs hq kn] sz)) (va_Qi (fun (r : Int32) (u : Unit) => r = bI true) (kB g (va_A [cX x nw sn tk hs tx tr, cR nw na nb σ, xI g na 49 (zT σ), xI g nb 49 (zI σ), cH hs hq kn] sz) (fun u => [cX x nw sn tk hs tx tr, cR nw na nb σ, xI g na 49 (zT σ), xI g nb 49 (zI σ), cH hs hq kn])) (va_A [cX x nw sn tk hs tx tr, cR nw na nb σ, xI g na 49 (zT σ), xI g nb 49 (zI σ), cH hs hq kn] sz)) 103 618 (va_A [cX x nw sn tk hs tx tr, cR nw na nb σ, xI g na 49 (zT σ), xI g nb 49 (zI σ), cH hs hq kn] sz) := by
  refine kMet (cc := cL_holds) (maxL := 24) (ret := (some .boolean)) (own := RL) (by decide) rfl rfl (Nat.le_of_ble_eq_true rfl) ?_
  intro p e s m args below meth c ls Q H locs A F w hl hnm hA hQ
  have hx := F.1.1
  have hb := F.1.2.1
  have hts := F.1.2.2.2.2
  have hl : lv_has ls 24 [(0, .ref x), (1, .int v)] := hl
  have hzc := zcnt_le (zO σ) 48
  refine lv_aload_n hx hb dL_holds_0 rfl (lv_at hl 0 rfl) ?_
  refine kcalll (wc := [cX x nw sn tk hs tx tr, cR nw na nb σ, xI g na 49 (zT σ), xI g nb 49 (zI σ)]) (wr := [cH hs hq kn]) (wn := fun (u : Unit) => [cX x nw sn tk hs tx tr, cR nw na nb σ, xI g na 49 (zT σ), xI g nb 49 (zI σ), cH hs hq kn]) F w [0, 1, 2, 3] [4] [1, 2, 3, 4, 0] rfl rfl rfl (fun _ => rfl)
    (fun hp => va_runV (As := []) (rest := []) F.1 (kX5_openSet l g x nw sn tk hs tx tr na nb σ H.size ) (cwV 0 hts gL_holds_X5_openSet rfl rfl rfl ⟨rfl, hd_X5_openSet⟩ ⟨Nat.le_of_ble_eq_true rfl, Nat.le_of_ble_eq_true rfl⟩) ⟨hp.1, va_recv F.2.2.2.1.1 w.1 (q0 := 0) (ci := 5) rfl rfl, hp.2⟩ rfl rfl hl.1 rfl (lv_room (Nat.le_of_ble_eq_true rfl)) dL_holds_1 ⟨by show _ ≤ (103 : Nat); omega, by show _ ≤ (618 : Nat); omega⟩)
    (fun r_1 _ H locs h_2 w => ?_)
  subst h_2
  refine lv_lstore_n (lv' := [(2, .long (zB (zO σ))), (0, .ref x), (1, .int v)]) hx hb dL_holds_4 rfl hl (by decide) rfl (fun ls hl => ?_)
  refine lv_aload_n hx hb dL_holds_5 rfl (lv_at hl 1 rfl) ?_
  refine kcalll (wc := [cX x nw sn tk hs tx tr, cR nw na nb σ, xI g na 49 (zT σ), xI g nb 49 (zI σ)]) (wr := [cH hs hq kn]) (wn := fun (u : Unit) => [cX x nw sn tk hs tx tr, cR nw na nb σ, xI g na 49 (zT σ), xI g nb 49 (zI σ), cH hs hq kn]) F w [0, 1, 2, 3] [4] [1, 2, 3, 4, 0] rfl rfl rfl (fun _ => rfl)
    (fun hp => va_runS (As := [.ref x]) (rest := []) F.1 (kL_locked l g x nw sn tk hs tx tr na nb σ H.size ) (va_cwS 1 hts gL_holds_L_locked rfl rfl rfl hd_L_locked ⟨Nat.le_of_ble_eq_true rfl, Nat.le_of_ble_eq_true rfl⟩) hp rfl rfl hl.1 rfl (lv_room (Nat.le_of_ble_eq_true rfl)) dL_holds_6 ⟨by show _ ≤ (103 : Nat); omega, by show _ ≤ (618 : Nat); omega⟩)
    (fun r_3 _ H locs h_4 w => ?_)
  subst h_4
  refine lv_lstore (lv' := [(4, .long (zB (zL σ))), (2, .long (zB (zO σ))), (0, .ref x), (1, .int v)]) hx hb dL_holds_9 hl (by decide) rfl (fun ls hl => ?_)
  refine lv_lload_n hx hb dL_holds_11 rfl (lv_at hl 1 rfl) ?_
  refine kcalli (wc := []) (wr := [cX x nw sn tk hs tx tr, cR nw na nb σ, xI g na 49 (zT σ), xI g nb 49 (zI σ), cH hs hq kn]) (wn := fun (u : Unit) => [cX x nw sn tk hs tx tr, cR nw na nb σ, xI g na 49 (zT σ), xI g nb 49 (zI σ), cH hs hq kn]) F w [] [0, 1, 2, 3, 4] [0, 1, 2, 3, 4] rfl rfl rfl (fun _ => rfl)
    (fun hp => va_runS (As := [.long (zB (zO σ))]) (rest := []) F.1 (kL_ones l g (zO σ) H.size ) (va_cwS 1 hts gL_holds_L_ones rfl rfl rfl hd_L_ones ⟨Nat.le_of_ble_eq_true rfl, Nat.le_of_ble_eq_true rfl⟩) hp rfl rfl hl.1 rfl (lv_room (Nat.le_of_ble_eq_true rfl)) dL_holds_12 ⟨by show _ ≤ (103 : Nat); omega, by show _ ≤ (618 : Nat); omega⟩)
    (fun r_5 _ H locs h_6 w => ?_)
  subst h_6
  refine lv_istore (lv' := [(6, .int (nI (zcnt (zO σ) 48))), (4, .long (zB (zL σ))), (2, .long (zB (zO σ))), (0, .ref x), (1, .int v)]) hx hb dL_holds_15 hl (by decide) rfl (fun ls hl => ?_)
  refine lv_iconst (v := nI 0) hx hb dL_holds_17 (by decide) ?_
  refine ktopi (y := sumZ (enc σ) 96 0) (rfl) ?_
  refine lv_istore (lv' := [(7, .int (sumZ (enc σ) 96 0)), (6, .int (nI (zcnt (zO σ) 48))), (4, .long (zB (zL σ))), (2, .long (zB (zO σ))), (0, .ref x), (1, .int v)]) hx hb dL_holds_18 hl (by decide) rfl (fun ls hl => ?_)
  refine lv_iconst (v := nI 0) hx hb dL_holds_20 (by decide) ?_
  refine ktopi (y := nI (zcnt (shutP σ) 0)) (rfl) ?_
  refine lv_istore (lv' := [(8, .int (nI (zcnt (shutP σ) 0))), (7, .int (sumZ (enc σ) 96 0)), (6, .int (nI (zcnt (zO σ) 48))), (4, .long (zB (zL σ))), (2, .long (zB (zO σ))), (0, .ref x), (1, .int v)]) hx hb dL_holds_21 hl (by decide) rfl (fun ls hl => ?_)
  refine lv_iconst (v := nI 0) hx hb dL_holds_23 (by decide) ?_
  refine ktopi (y := nI (zcnt (kindP σ false) 0)) (rfl) ?_
  refine lv_istore (lv' := [(9, .int (nI (zcnt (kindP σ false) 0))), (8, .int (nI (zcnt (shutP σ) 0))), (7, .int (sumZ (enc σ) 96 0)), (6, .int (nI (zcnt (zO σ) 48))), (4, .long (zB (zL σ))), (2, .long (zB (zO σ))), (0, .ref x), (1, .int v)]) hx hb dL_holds_24 hl (by decide) rfl (fun ls hl => ?_)
  refine lv_iconst (v := nI 0) hx hb dL_holds_26 (by decide) ?_
  refine ktopi (y := nI (zcnt (kindP σ true) 0)) (rfl) ?_
  refine lv_istore (lv' := [(10, .int (nI (zcnt (kindP σ true) 0))), (9, .int (nI (zcnt (kindP σ false) 0))), (8, .int (nI (zcnt (shutP σ) 0))), (7, .int (sumZ (enc σ) 96 0)), (6, .int (nI (zcnt (zO σ) 48))), (4, .long (zB (zL σ))), (2, .long (zB (zO σ))), (0, .ref x), (1, .int v)]) hx hb dL_holds_27 hl (by decide) rfl (fun ls hl => ?_)
  refine lv_fconst0 hx hb dL_holds_29 ?_
  refine ktopf (y := fS (zO σ) 0) (rfl) ?_
  refine lv_fstore (lv' := [(11, .float (fS (zO σ) 0)), (10, .int (nI (zcnt (kindP σ true) 0))), (9, .int (nI (zcnt (kindP σ false) 0))), (8, .int (nI (zcnt (shutP σ) 0))), (7, .int (sumZ (enc σ) 96 0)), (6, .int (nI (zcnt (zO σ) 48))), (4, .long (zB (zL σ))), (2, .long (zB (zO σ))), (0, .ref x), (1, .int v)]) hx hb dL_holds_30 hl (by decide) rfl (fun ls hl => ?_)
  refine lv_aload_n hx hb dL_holds_32 rfl (lv_at hl 8 rfl) ?_
  refine kcalli (wc := [cX x nw sn tk hs tx tr, cR nw na nb σ, xI g na 49 (zT σ), xI g nb 49 (zI σ)]) (wr := [cH hs hq kn]) (wn := fun (u : Unit) => [cX x nw sn tk hs tx tr, cR nw na nb σ, xI g na 49 (zT σ), xI g nb 49 (zI σ), cH hs hq kn]) F w [0, 1, 2, 3] [4] [1, 2, 3, 4, 0] rfl rfl rfl (fun _ => rfl)
    (fun hp => va_runV (As := []) (rest := []) F.1 (kX5_openDoors l g x nw sn tk hs tx tr na nb σ H.size ) (cwV 0 hts gL_holds_X5_openDoors rfl rfl rfl ⟨rfl, hd_X5_openDoors⟩ ⟨Nat.le_of_ble_eq_true rfl, Nat.le_of_ble_eq_true rfl⟩) ⟨hp.1, va_recv F.2.2.2.1.1 w.1 (q0 := 0) (ci := 5) rfl rfl, hp.2⟩ rfl rfl hl.1 rfl (lv_room (Nat.le_of_ble_eq_true rfl)) dL_holds_33 ⟨by show _ ≤ (103 : Nat); omega, by show _ ≤ (618 : Nat); omega⟩)
    (fun r_7 _ H locs h_8 w => ?_)
  subst h_8
  refine lv_iload hx hb dL_holds_36 (lv_at hl 5 rfl) ?_
  refine lv_icmp_ne (tgt := 167) hx hb dL_holds_38 (by decide) (fun h_9 => ?_) (fun h_9 => ?_)
  · exact absurd rfl h_9
  refine lv_aload_n hx hb dL_holds_41 rfl (lv_at hl 8 rfl) ?_
  refine kcalli (wc := [cX x nw sn tk hs tx tr, cR nw na nb σ, xI g na 49 (zT σ), xI g nb 49 (zI σ)]) (wr := [cH hs hq kn]) (wn := fun (u : Unit) => [cX x nw sn tk hs tx tr, cR nw na nb σ, xI g na 49 (zT σ), xI g nb 49 (zI σ), cH hs hq kn]) F w [0, 1, 2, 3] [4] [1, 2, 3, 4, 0] rfl rfl rfl (fun _ => rfl)
    (fun hp => va_runV (As := []) (rest := []) F.1 (kX5_openByTurns l g x nw sn tk hs tx tr na nb σ H.size ) (cwV 0 hts gL_holds_X5_openByTurns rfl rfl rfl ⟨rfl, hd_X5_openByTurns⟩ ⟨Nat.le_of_ble_eq_true rfl, Nat.le_of_ble_eq_true rfl⟩) ⟨hp.1, va_recv F.2.2.2.1.1 w.1 (q0 := 0) (ci := 5) rfl rfl, hp.2⟩ rfl rfl hl.1 rfl (lv_room (Nat.le_of_ble_eq_true rfl)) dL_holds_42 ⟨by show _ ≤ (103 : Nat); omega, by show _ ≤ (618 : Nat); omega⟩)
    (fun r_10 _ H locs h_11 w => ?_)
  subst h_11
  refine lv_iload hx hb dL_holds_45 (lv_at hl 5 rfl) ?_
  refine lv_icmp_ne (tgt := 167) hx hb dL_holds_47 (by decide) (fun h_12 => ?_) (fun h_12 => ?_)
  · exact absurd rfl h_12
  refine lv_lload_n hx hb dL_holds_50 rfl (lv_at hl 7 rfl) ?_
  refine lv_lconst (v := 1) hx hb dL_holds_51 (by decide) ?_
  refine lv_land hx hb dL_holds_52 ?_
  refine lv_lconst (v := 0) hx hb dL_holds_53 (by decide) ?_
  refine W.lcmp hx hb dL_holds_54 ?_
  refine lv_if_ne (tgt := 167) hx hb dL_holds_55 (by decide) (fun h_13 => ?_) (fun h_13 => ?_)
  · exact absurd (lgc_eq.mpr (zB_odd _)) h_13
  refine lv_lload_n hx hb dL_holds_58 rfl (lv_at hl 7 rfl) ?_
  refine lv_lconst (v := 0) hx hb dL_holds_59 (by decide) ?_
  refine W.lcmp hx hb dL_holds_60 ?_
  refine lv_if_lt (tgt := 167) hx hb dL_holds_61 (by decide) (fun h_14 => ?_) (fun h_14 => ?_)
  · exact absurd h_14 (zB_nn _)
  refine lv_lload_n hx hb dL_holds_64 rfl (lv_at hl 7 rfl) ?_
  refine lv_ldc2 (v := (562949953421312)) hx hb F.1.2.2.2.1 (hts (.constantLong RL 145 (562949953421312)) (by decide +kernel)) dL_holds_65 ?_
  refine W.lcmp hx hb dL_holds_68 ?_
  refine lv_if_ge (tgt := 167) hx hb dL_holds_69 (by decide) (fun h_15 => ?_) (fun h_15 => ?_)
  · exact absurd h_15 (zB_lt49 _)
  refine lv_aload_n hx hb dL_holds_72 rfl (lv_at hl 8 rfl) ?_
  refine kcalli (wc := [cX x nw sn tk hs tx tr, cH hs hq kn]) (wr := [cR nw na nb σ, xI g na 49 (zT σ), xI g nb 49 (zI σ)]) (wn := fun (u : Unit) => [cX x nw sn tk hs tx tr, cR nw na nb σ, xI g na 49 (zT σ), xI g nb 49 (zI σ), cH hs hq kn]) F w [0, 4] [1, 2, 3] [3, 0, 1, 2, 4] rfl rfl rfl (fun _ => rfl)
    (fun hp => va_runV (As := []) (rest := []) F.1 (kX5_states_s l g x nw sn tk hs tx tr hq kn H.size ) (cwV 0 hts gL_holds_X5_states rfl rfl rfl ⟨rfl, hd_X5_states⟩ ⟨Nat.le_of_ble_eq_true rfl, Nat.le_of_ble_eq_true rfl⟩) ⟨hp.1, va_recv F.2.2.2.1.1 w.1 (q0 := 0) (ci := 5) rfl rfl, hp.2⟩ rfl rfl hl.1 rfl (lv_room (Nat.le_of_ble_eq_true rfl)) dL_holds_73 ⟨by show _ ≤ (103 : Nat); omega, by show _ ≤ (618 : Nat); omega⟩)
    (fun r_16 _ H locs h_17 w => ?_)
  subst h_17
  refine lv_if_lt (tgt := 167) hx hb dL_holds_76 (by decide) (fun h_18 => ?_) (fun h_18 => ?_)
  · exact absurd h_18 (nI_nn (by omega))
  refine lv_aload_n hx hb dL_holds_79 rfl (lv_at hl 8 rfl) ?_
  refine kcalli (wc := [cX x nw sn tk hs tx tr, cH hs hq kn]) (wr := [cR nw na nb σ, xI g na 49 (zT σ), xI g nb 49 (zI σ)]) (wn := fun (u : Unit) => [cX x nw sn tk hs tx tr, cR nw na nb σ, xI g na 49 (zT σ), xI g nb 49 (zI σ), cH hs hq kn]) F w [0, 4] [1, 2, 3] [3, 0, 1, 2, 4] rfl rfl rfl (fun _ => rfl)
    (fun hp => va_runV (As := []) (rest := []) F.1 (kX5_states_s l g x nw sn tk hs tx tr hq kn H.size ) (cwV 0 hts gL_holds_X5_states rfl rfl rfl ⟨rfl, hd_X5_states⟩ ⟨Nat.le_of_ble_eq_true rfl, Nat.le_of_ble_eq_true rfl⟩) ⟨hp.1, va_recv F.2.2.2.1.1 w.1 (q0 := 0) (ci := 5) rfl rfl, hp.2⟩ rfl rfl hl.1 rfl (lv_room (Nat.le_of_ble_eq_true rfl)) dL_holds_80 ⟨by show _ ≤ (103 : Nat); omega, by show _ ≤ (618 : Nat); omega⟩)
    (fun r_19 _ H locs h_20 w => ?_)
  subst h_20
  refine lv_iconst (v := nI 4) hx hb dL_holds_83 (by decide) ?_
  refine lv_icmp_gt (tgt := 167) hx hb dL_holds_84 (by decide) (fun h_21 => ?_) (fun h_21 => ?_)
  · exact absurd ((kc_gt_t (by omega) (by omega)).mp h_21) (by omega)
  refine lv_aload_n hx hb dL_holds_87 rfl (lv_at hl 8 rfl) ?_
  refine lv_iconst (v := nI 0) hx hb dL_holds_88 (by decide) ?_
  refine kcalli (wc := [cX x nw sn tk hs tx tr]) (wr := [cR nw na nb σ, xI g na 49 (zT σ), xI g nb 49 (zI σ), cH hs hq kn]) (wn := fun (u : Unit) => [cX x nw sn tk hs tx tr, cR nw na nb σ, xI g na 49 (zT σ), xI g nb 49 (zI σ), cH hs hq kn]) F w [0] [1, 2, 3, 4] [4, 0, 1, 2, 3] rfl rfl rfl (fun _ => rfl)
    (fun hp => vx_runSW (As := [.ref x, .int (nI 0)]) (rest := []) F.1 (kL_isOpen_A l hnl g x nw sn tk hs tx tr (nI 0) H.size (by decide)) (vx_cwSW 2 hts gL_holds_L_isOpen rfl rfl rfl hd_L_isOpen ⟨Nat.le_of_ble_eq_true rfl, Nat.le_of_ble_eq_true rfl⟩) hp rfl rfl hl.1 rfl (lv_room (Nat.le_of_ble_eq_true rfl)) dL_holds_89 ⟨by show _ ≤ (103 : Nat); omega, by show _ ≤ (618 : Nat); omega⟩)
    (fun r_22 _ H locs h_23 w => ?_)
  subst h_23
  refine lv_bipush (v := (-102)) hx hb dL_holds_92 (by decide) ?_
  refine lv_icmp_ne (tgt := 167) hx hb dL_holds_94 (by decide) (fun h_24 => ?_) (fun h_24 => ?_)
  · exact absurd rfl h_24
  refine lv_aload_n hx hb dL_holds_97 rfl (lv_at hl 8 rfl) ?_
  refine lv_bipush (v := nI 49) hx hb dL_holds_98 (by decide) ?_
  refine kcalli (wc := [cX x nw sn tk hs tx tr]) (wr := [cR nw na nb σ, xI g na 49 (zT σ), xI g nb 49 (zI σ), cH hs hq kn]) (wn := fun (u : Unit) => [cX x nw sn tk hs tx tr, cR nw na nb σ, xI g na 49 (zT σ), xI g nb 49 (zI σ), cH hs hq kn]) F w [0] [1, 2, 3, 4] [4, 0, 1, 2, 3] rfl rfl rfl (fun _ => rfl)
    (fun hp => vx_runSW (As := [.ref x, .int (nI 49)]) (rest := []) F.1 (kL_nextOpen_A l hnl g x nw sn tk hs tx tr (nI 49) H.size (by decide)) (vx_cwSW 2 hts gL_holds_L_nextOpen rfl rfl rfl hd_L_nextOpen ⟨Nat.le_of_ble_eq_true rfl, Nat.le_of_ble_eq_true rfl⟩) hp rfl rfl hl.1 rfl (lv_room (Nat.le_of_ble_eq_true rfl)) dL_holds_100 ⟨by show _ ≤ (103 : Nat); omega, by show _ ≤ (618 : Nat); omega⟩)
    (fun r_25 _ H locs h_26 w => ?_)
  subst h_26
  refine lv_bipush (v := (-102)) hx hb dL_holds_103 (by decide) ?_
  refine lv_icmp_ne (tgt := 167) hx hb dL_holds_105 (by decide) (fun h_27 => ?_) (fun h_27 => ?_)
  · exact absurd rfl h_27
  refine lv_aload_n hx hb dL_holds_108 rfl (lv_at hl 8 rfl) ?_
  refine lv_bipush (v := nI 7) hx hb dL_holds_109 (by decide) ?_
  refine lv_bipush (v := nI 6) hx hb dL_holds_111 (by decide) ?_
  refine kcalli (wc := [cX x nw sn tk hs tx tr]) (wr := [cR nw na nb σ, xI g na 49 (zT σ), xI g nb 49 (zI σ), cH hs hq kn]) (wn := fun (u : Unit) => [cX x nw sn tk hs tx tr, cR nw na nb σ, xI g na 49 (zT σ), xI g nb 49 (zI σ), cH hs hq kn]) F w [0] [1, 2, 3, 4] [4, 0, 1, 2, 3] rfl rfl rfl (fun _ => rfl)
    (fun hp => vx_runSW (As := [.ref x, .int (nI 7), .int (nI 6)]) (rest := []) F.1 (kL_wouldBeOpen_A l hnl g x nw sn tk hs tx tr (nI 7) (nI 6) H.size (by decide)) (vx_cwSW 3 hts gL_holds_L_wouldBeOpen rfl rfl rfl hd_L_wouldBeOpen ⟨Nat.le_of_ble_eq_true rfl, Nat.le_of_ble_eq_true rfl⟩) hp rfl rfl hl.1 rfl (lv_room (Nat.le_of_ble_eq_true rfl)) dL_holds_113 ⟨by show _ ≤ (103 : Nat); omega, by show _ ≤ (618 : Nat); omega⟩)
    (fun r_28 _ H locs h_29 w => ?_)
  subst h_29
  refine lv_bipush (v := (-102)) hx hb dL_holds_116 (by decide) ?_
  refine lv_icmp_ne (tgt := 167) hx hb dL_holds_118 (by decide) (fun h_30 => ?_) (fun h_30 => ?_)
  · exact absurd rfl h_30
  refine lv_aload_n hx hb dL_holds_121 rfl (lv_at hl 8 rfl) ?_
  refine lv_iconst (v := nI 1) hx hb dL_holds_122 (by decide) ?_
  refine lv_iconst (v := nI 2) hx hb dL_holds_123 (by decide) ?_
  refine kcalli (wc := [cX x nw sn tk hs tx tr]) (wr := [cR nw na nb σ, xI g na 49 (zT σ), xI g nb 49 (zI σ), cH hs hq kn]) (wn := fun (u : Unit) => [cX x nw sn tk hs tx tr, cR nw na nb σ, xI g na 49 (zT σ), xI g nb 49 (zI σ), cH hs hq kn]) F w [0] [1, 2, 3, 4] [4, 0, 1, 2, 3] rfl rfl rfl (fun _ => rfl)
    (fun hp => vx_runSW (As := [.ref x, .int (nI 1), .int (nI 2)]) (rest := []) F.1 (kL_whyNot_A l hnl g x nw sn tk hs tx tr (nI 1) (nI 2) H.size (by decide)) (vx_cwSW 3 hts gL_holds_L_whyNot rfl rfl rfl hd_L_whyNot ⟨Nat.le_of_ble_eq_true rfl, Nat.le_of_ble_eq_true rfl⟩) hp rfl rfl hl.1 rfl (lv_room (Nat.le_of_ble_eq_true rfl)) dL_holds_124 ⟨by show _ ≤ (103 : Nat); omega, by show _ ≤ (618 : Nat); omega⟩)
    (fun r_31 _ H locs h_32 w => ?_)
  subst h_32
  refine lv_bipush (v := (-102)) hx hb dL_holds_127 (by decide) ?_
  refine lv_icmp_ne (tgt := 167) hx hb dL_holds_129 (by decide) (fun h_33 => ?_) (fun h_33 => ?_)
  · exact absurd rfl h_33
  refine lv_aload_n hx hb dL_holds_132 rfl (lv_at hl 8 rfl) ?_
  refine lv_iconst (v := (-1)) hx hb dL_holds_133 (by decide) ?_
  refine kcalli (wc := [cX x nw sn tk hs tx tr]) (wr := [cR nw na nb σ, xI g na 49 (zT σ), xI g nb 49 (zI σ), cH hs hq kn]) (wn := fun (u : Unit) => [cX x nw sn tk hs tx tr, cR nw na nb σ, xI g na 49 (zT σ), xI g nb 49 (zI σ), cH hs hq kn]) F w [0] [1, 2, 3, 4] [4, 0, 1, 2, 3] rfl rfl rfl (fun _ => rfl)
    (fun hp => vx_runSW (As := [.ref x, .int (-1)]) (rest := []) F.1 (kL_thingsOf_A l hnl g x nw sn tk hs tx tr (-1) H.size (by decide)) (vx_cwSW 2 hts gL_holds_L_thingsOf rfl rfl rfl hd_L_thingsOf ⟨Nat.le_of_ble_eq_true rfl, Nat.le_of_ble_eq_true rfl⟩) hp rfl rfl hl.1 rfl (lv_room (Nat.le_of_ble_eq_true rfl)) dL_holds_134 ⟨by show _ ≤ (103 : Nat); omega, by show _ ≤ (618 : Nat); omega⟩)
    (fun r_34 _ H locs h_35 w => ?_)
  subst h_35
  refine lv_bipush (v := (-102)) hx hb dL_holds_137 (by decide) ?_
  refine lv_icmp_ne (tgt := 167) hx hb dL_holds_139 (by decide) (fun h_36 => ?_) (fun h_36 => ?_)
  · exact absurd rfl h_36
  refine lv_aload_n hx hb dL_holds_142 rfl (lv_at hl 8 rfl) ?_
  refine lv_bipush (v := nI 49) hx hb dL_holds_143 (by decide) ?_
  refine kcalli (wc := [cX x nw sn tk hs tx tr]) (wr := [cR nw na nb σ, xI g na 49 (zT σ), xI g nb 49 (zI σ), cH hs hq kn]) (wn := fun (u : Unit) => [cX x nw sn tk hs tx tr, cR nw na nb σ, xI g na 49 (zT σ), xI g nb 49 (zI σ), cH hs hq kn]) F w [0] [1, 2, 3, 4] [4, 0, 1, 2, 3] rfl rfl rfl (fun _ => rfl)
    (fun hp => vx_runSW (As := [.ref x, .int (nI 49)]) (rest := []) F.1 (kL_timesOf_A l hnl g x nw sn tk hs tx tr (nI 49) H.size (by decide)) (vx_cwSW 2 hts gL_holds_L_timesOf rfl rfl rfl hd_L_timesOf ⟨Nat.le_of_ble_eq_true rfl, Nat.le_of_ble_eq_true rfl⟩) hp rfl rfl hl.1 rfl (lv_room (Nat.le_of_ble_eq_true rfl)) dL_holds_145 ⟨by show _ ≤ (103 : Nat); omega, by show _ ≤ (618 : Nat); omega⟩)
    (fun r_37 _ H locs h_38 w => ?_)
  subst h_38
  refine lv_bipush (v := (-102)) hx hb dL_holds_148 (by decide) ?_
  refine lv_icmp_ne (tgt := 167) hx hb dL_holds_150 (by decide) (fun h_39 => ?_) (fun h_39 => ?_)
  · exact absurd rfl h_39
  refine lv_aload_n hx hb dL_holds_153 rfl (lv_at hl 8 rfl) ?_
  refine lv_iconst (v := nI 0) hx hb dL_holds_154 (by decide) ?_
  refine kcalli (wc := [cX x nw sn tk hs tx tr]) (wr := [cR nw na nb σ, xI g na 49 (zT σ), xI g nb 49 (zI σ), cH hs hq kn]) (wn := fun (u : Unit) => [cX x nw sn tk hs tx tr, cR nw na nb σ, xI g na 49 (zT σ), xI g nb 49 (zI σ), cH hs hq kn]) F w [0] [1, 2, 3, 4] [4, 0, 1, 2, 3] rfl rfl rfl (fun _ => rfl)
    (fun hp => vx_runSW (As := [.ref x, .int (nI 0)]) (rest := []) F.1 (kL_divisorsOf_A l hnl g x nw sn tk hs tx tr (nI 0) H.size (by decide)) (vx_cwSW 2 hts gL_holds_L_divisorsOf rfl rfl rfl hd_L_divisorsOf ⟨Nat.le_of_ble_eq_true rfl, Nat.le_of_ble_eq_true rfl⟩) hp rfl rfl hl.1 rfl (lv_room (Nat.le_of_ble_eq_true rfl)) dL_holds_155 ⟨by show _ ≤ (103 : Nat); omega, by show _ ≤ (618 : Nat); omega⟩)
    (fun r_40 _ H locs h_41 w => ?_)
  subst h_41
  refine lv_bipush (v := (-102)) hx hb dL_holds_158 (by decide) ?_
  refine lv_icmp_ne (tgt := 167) hx hb dL_holds_160 (by decide) (fun h_42 => ?_) (fun h_42 => ?_)
  · exact absurd rfl h_42
  refine lv_iconst (v := nI 1) hx hb dL_holds_163 (by decide) ?_
  refine lv_goto (tgt := 168) hx hb dL_holds_164 (by decide) ?_
  refine lv_istore (lv' := [(12, .int (nI 1)), (11, .float (fS (zO σ) 0)), (10, .int (nI (zcnt (kindP σ true) 0))), (9, .int (nI (zcnt (kindP σ false) 0))), (8, .int (nI (zcnt (shutP σ) 0))), (7, .int (sumZ (enc σ) 96 0)), (6, .int (nI (zcnt (zO σ) 48))), (4, .long (zB (zL σ))), (2, .long (zB (zO σ))), (0, .ref x), (1, .int v)]) hx hb dL_holds_168 hl (by decide) rfl (fun ls hl => ?_)
  refine lv_iconst (v := nI 1) hx hb dL_holds_170 (by decide) ?_
  refine ktopi (y := nI (0 + 1)) (rfl) ?_
  refine lv_istore (lv' := [(13, .int (nI (0 + 1))), (12, .int (nI 1)), (11, .float (fS (zO σ) 0)), (10, .int (nI (zcnt (kindP σ true) 0))), (9, .int (nI (zcnt (kindP σ false) 0))), (8, .int (nI (zcnt (shutP σ) 0))), (7, .int (sumZ (enc σ) 96 0)), (6, .int (nI (zcnt (zO σ) 48))), (4, .long (zB (zL σ))), (2, .long (zB (zO σ))), (0, .ref x), (1, .int v)]) hx hb dL_holds_171 hl (by decide) rfl (fun ls hl => ?_)
  have LP_43 : ∀ (fu : Nat) (j : Nat) (h1 : j ≤ 48) (H : Heap) (locs : List Loc) (ls : Array Slot), 50 - j < fu → kW g A s [cX x nw sn tk hs tx tr, cR nw na nb σ, xI g na 49 (zT σ), xI g nb 49 (zI σ), cH hs hq kn] H locs → lv_has ls 24 [(13, .int (nI (j + 1))), (12, .int (nI 1)), (11, .float (fS (zO σ) j)), (10, .int (nI (zcnt (kindP σ true) j))), (9, .int (nI (zcnt (kindP σ false) j))), (8, .int (nI (zcnt (shutP σ) j))), (7, .int (sumZ (enc σ) 96 j)), (6, .int (nI (zcnt (zO σ) 48))), (4, .long (zB (zL σ))), (2, .long (zB (zO σ))), (0, .ref x), (1, .int v)] → W p l e rmL_holds s m args below meth c H locs (7 + 2 * j) (42 + 12 * j) Q (F0 m 173 ls []) := by
    intro fu
    induction fu with
    | zero => intro j h1 H locs ls hlt; omega
    | succ fu ih_43 =>
      intro j h1 H locs ls hlt w hl
      refine lv_iload hx hb dL_holds_173 (lv_at hl 0 rfl) ?_
      refine lv_bipush (v := nI 49) hx hb dL_holds_175 (by decide) ?_
      refine lv_icmp_ge (tgt := 526) hx hb dL_holds_177 (by decide) (fun h_44 => ?_) (fun h_44 => ?_)
      · have h_44 : j + 1 ≥ 49 := (kc_ge_t (by omega) (by omega)).mp h_44
        have e_45 : j = 48 := by omega
        subst e_45
        refine W.widen (k := 103) (n := 618) (by omega) (by omega) ?_
        refine lv_aload_n hx hb dL_holds_526 rfl (lv_at hl 10 rfl) ?_
        refine kcalll (wc := [cX x nw sn tk hs tx tr, cR nw na nb σ, xI g na 49 (zT σ), xI g nb 49 (zI σ)]) (wr := [cH hs hq kn]) (wn := fun (u : Unit) => [cX x nw sn tk hs tx tr, cR nw na nb σ, xI g na 49 (zT σ), xI g nb 49 (zI σ), cH hs hq kn]) F w [0, 1, 2, 3] [4] [1, 2, 3, 4, 0] rfl rfl rfl (fun _ => rfl)
          (fun hp => va_runV (As := []) (rest := []) F.1 (kX5_closingPasses l g x nw sn tk hs tx tr na nb σ H.size ) (cwV 0 hts gL_holds_X5_closingPasses rfl rfl rfl ⟨rfl, hd_X5_closingPasses⟩ ⟨Nat.le_of_ble_eq_true rfl, Nat.le_of_ble_eq_true rfl⟩) ⟨hp.1, va_recv F.2.2.2.1.1 w.1 (q0 := 0) (ci := 5) rfl rfl, hp.2⟩ rfl rfl hl.1 rfl (lv_room (Nat.le_of_ble_eq_true rfl)) dL_holds_527 ⟨by show _ ≤ (103 : Nat); omega, by show _ ≤ (618 : Nat); omega⟩)
          (fun r_46 _ H locs h_47 w => ?_)
        subst h_47
        refine lv_lstore (lv' := [(13, .long (zB (clP (zO σ) 48))), (12, .int (nI 1)), (11, .float (fS (zO σ) 48)), (10, .int (nI (zcnt (kindP σ true) 48))), (9, .int (nI (zcnt (kindP σ false) 48))), (8, .int (nI (zcnt (shutP σ) 48))), (7, .int (sumZ (enc σ) 96 48)), (6, .int (nI (zcnt (zO σ) 48))), (4, .long (zB (zL σ))), (2, .long (zB (zO σ))), (0, .ref x), (1, .int v)]) hx hb dL_holds_530 hl (by decide) rfl (fun ls hl => ?_)
        refine lv_lload_n hx hb dL_holds_532 rfl (lv_at hl 9 rfl) ?_
        refine ktopl (y := zB (alP (zO σ) 0)) ((alP_0 _).symm) ?_
        refine lv_lstore (lv' := [(15, .long (zB (alP (zO σ) 0))), (13, .long (zB (clP (zO σ) 48))), (12, .int (nI 1)), (11, .float (fS (zO σ) 48)), (10, .int (nI (zcnt (kindP σ true) 48))), (9, .int (nI (zcnt (kindP σ false) 48))), (8, .int (nI (zcnt (shutP σ) 48))), (7, .int (sumZ (enc σ) 96 48)), (6, .int (nI (zcnt (zO σ) 48))), (4, .long (zB (zL σ))), (2, .long (zB (zO σ))), (0, .ref x), (1, .int v)]) hx hb dL_holds_533 hl (by decide) rfl (fun ls hl => ?_)
        refine lv_iconst (v := nI 1) hx hb dL_holds_535 (by decide) ?_
        refine ktopi (y := nI (0 + 1)) (rfl) ?_
        refine lv_istore (lv' := [(17, .int (nI (0 + 1))), (15, .long (zB (alP (zO σ) 0))), (13, .long (zB (clP (zO σ) 48))), (12, .int (nI 1)), (11, .float (fS (zO σ) 48)), (10, .int (nI (zcnt (kindP σ true) 48))), (9, .int (nI (zcnt (kindP σ false) 48))), (8, .int (nI (zcnt (shutP σ) 48))), (7, .int (sumZ (enc σ) 96 48)), (6, .int (nI (zcnt (zO σ) 48))), (4, .long (zB (zL σ))), (2, .long (zB (zO σ))), (0, .ref x), (1, .int v)]) hx hb dL_holds_536 hl (by decide) rfl (fun ls hl => ?_)
        have LP_48 : ∀ (fu : Nat) (k : Nat) (k1 : k ≤ 48) (H : Heap) (locs : List Loc) (ls : Array Slot), 50 - k < fu → kW g A s [cX x nw sn tk hs tx tr, cR nw na nb σ, xI g na 49 (zT σ), xI g nb 49 (zI σ), cH hs hq kn] H locs → lv_has ls 24 [(17, .int (nI (k + 1))), (15, .long (zB (alP (zO σ) k))), (13, .long (zB (clP (zO σ) 48))), (12, .int (nI 1)), (11, .float (fS (zO σ) 48)), (10, .int (nI (zcnt (kindP σ true) 48))), (9, .int (nI (zcnt (kindP σ false) 48))), (8, .int (nI (zcnt (shutP σ) 48))), (7, .int (sumZ (enc σ) 96 48)), (6, .int (nI (zcnt (zO σ) 48))), (4, .long (zB (zL σ))), (2, .long (zB (zO σ))), (0, .ref x), (1, .int v)] → W p l e rmL_holds s m args below meth c H locs 103 618 Q (F0 m 538 ls []) := by
          intro fu
          induction fu with
          | zero => intro k k1 H locs ls hlt; omega
          | succ fu ih_48 =>
            intro k k1 H locs ls hlt w hl
            refine lv_iload hx hb dL_holds_538 (lv_at hl 0 rfl) ?_
            refine lv_bipush (v := nI 49) hx hb dL_holds_540 (by decide) ?_
            refine lv_icmp_ge (tgt := 577) hx hb dL_holds_542 (by decide) (fun h_49 => ?_) (fun h_49 => ?_)
            · have h_49 : k + 1 ≥ 49 := (kc_ge_t (by omega) (by omega)).mp h_49
              have e_50 : k = 48 := by omega
              subst e_50
              obtain ⟨s1, s2⟩ := bsN_b σ
              refine lv_aload_n hx hb dL_holds_577 rfl (lv_at hl 12 rfl) ?_
              refine kcalli (wc := [cX x nw sn tk hs tx tr, cR nw na nb σ, xI g na 49 (zT σ), xI g nb 49 (zI σ)]) (wr := [cH hs hq kn]) (wn := fun (u : Unit) => [cX x nw sn tk hs tx tr, cR nw na nb σ, xI g na 49 (zT σ), xI g nb 49 (zI σ), cH hs hq kn]) F w [0, 1, 2, 3] [4] [1, 2, 3, 4, 0] rfl rfl rfl (fun _ => rfl)
                (fun hp => va_runV (As := []) (rest := []) F.1 (kX5_bestPass l g x nw sn tk hs tx tr na nb σ H.size ) (cwV 0 hts gL_holds_X5_bestPass rfl rfl rfl ⟨rfl, hd_X5_bestPass⟩ ⟨Nat.le_of_ble_eq_true rfl, Nat.le_of_ble_eq_true rfl⟩) ⟨hp.1, va_recv F.2.2.2.1.1 w.1 (q0 := 0) (ci := 5) rfl rfl, hp.2⟩ rfl rfl hl.1 rfl (lv_room (Nat.le_of_ble_eq_true rfl)) dL_holds_578 ⟨by show _ ≤ (103 : Nat); omega, by show _ ≤ (618 : Nat); omega⟩)
                (fun r_51 _ H locs h_52 w => ?_)
              subst h_52
              refine ktopi (y := nI (bsN σ)) (rfl) ?_
              refine lv_istore (lv' := [(17, .int (nI (bsN σ))), (15, .long (zB (alP (zO σ) 48))), (13, .long (zB (clP (zO σ) 48))), (12, .int (nI 1)), (11, .float (fS (zO σ) 48)), (10, .int (nI (zcnt (kindP σ true) 48))), (9, .int (nI (zcnt (kindP σ false) 48))), (8, .int (nI (zcnt (shutP σ) 48))), (7, .int (sumZ (enc σ) 96 48)), (6, .int (nI (zcnt (zO σ) 48))), (4, .long (zB (zL σ))), (2, .long (zB (zO σ))), (0, .ref x), (1, .int v)]) hx hb dL_holds_581 hl (by decide) rfl (fun ls hl => ?_)
              refine lv_lload_n hx hb dL_holds_583 rfl (lv_at hl 11 rfl) ?_
              refine lv_iload hx hb dL_holds_584 (lv_at hl 0 rfl) ?_
              refine kcalll (wc := []) (wr := [cX x nw sn tk hs tx tr, cR nw na nb σ, xI g na 49 (zT σ), xI g nb 49 (zI σ), cH hs hq kn]) (wn := fun (u : Unit) => [cX x nw sn tk hs tx tr, cR nw na nb σ, xI g na 49 (zT σ), xI g nb 49 (zI σ), cH hs hq kn]) F w [] [0, 1, 2, 3, 4] [0, 1, 2, 3, 4] rfl rfl rfl (fun _ => rfl)
                (fun hp => va_runS (As := [.int (nI (bsN σ))]) (rest := [.long (zB (zO σ))]) F.1 (kL_turned l g (bsN σ) H.size (⟨s1, s2⟩)) (va_cwS 1 hts gL_holds_L_turned rfl rfl rfl hd_L_turned ⟨Nat.le_of_ble_eq_true rfl, Nat.le_of_ble_eq_true rfl⟩) hp rfl rfl hl.1 rfl (lv_room (Nat.le_of_ble_eq_true rfl)) dL_holds_586 ⟨by show _ ≤ (103 : Nat); omega, by show _ ≤ (618 : Nat); omega⟩)
                (fun r_53 _ H locs h_54 w => ?_)
              subst h_54
              refine lv_lload hx hb dL_holds_589 (lv_at hl 10 rfl) ?_
              refine lv_ldc2 (v := (-1)) hx hb F.1.2.2.2.1 (hts (.constantLong RL 175 (-1)) (by decide +kernel)) dL_holds_591 ?_
              refine lv_lxor hx hb dL_holds_594 ?_
              refine lv_land hx hb dL_holds_595 ?_
              refine ktopl (y := zB (turnP σ (bsN σ))) (turnP_b) ?_
              refine lv_lxor hx hb dL_holds_596 ?_
              refine ktopl (y := zB (opP σ (bsN σ))) (opP_b _ _) ?_
              refine kcalli (wc := []) (wr := [cX x nw sn tk hs tx tr, cR nw na nb σ, xI g na 49 (zT σ), xI g nb 49 (zI σ), cH hs hq kn]) (wn := fun (u : Unit) => [cX x nw sn tk hs tx tr, cR nw na nb σ, xI g na 49 (zT σ), xI g nb 49 (zI σ), cH hs hq kn]) F w [] [0, 1, 2, 3, 4] [0, 1, 2, 3, 4] rfl rfl rfl (fun _ => rfl)
                (fun hp => va_runS (As := [.long (zB (opP σ (bsN σ)))]) (rest := []) F.1 (kL_ones l g (opP σ (bsN σ)) H.size ) (va_cwS 1 hts gL_holds_L_ones rfl rfl rfl hd_L_ones ⟨Nat.le_of_ble_eq_true rfl, Nat.le_of_ble_eq_true rfl⟩) hp rfl rfl hl.1 rfl (lv_room (Nat.le_of_ble_eq_true rfl)) dL_holds_597 ⟨by show _ ≤ (103 : Nat); omega, by show _ ≤ (618 : Nat); omega⟩)
                (fun r_55 _ H locs h_56 w => ?_)
              subst h_56
              refine ktopi (y := nI (opF σ (bsN σ))) (rfl) ?_
              refine lv_istore (lv' := [(18, .int (nI (opF σ (bsN σ)))), (17, .int (nI (bsN σ))), (15, .long (zB (alP (zO σ) 48))), (13, .long (zB (clP (zO σ) 48))), (12, .int (nI 1)), (11, .float (fS (zO σ) 48)), (10, .int (nI (zcnt (kindP σ true) 48))), (9, .int (nI (zcnt (kindP σ false) 48))), (8, .int (nI (zcnt (shutP σ) 48))), (7, .int (sumZ (enc σ) 96 48)), (6, .int (nI (zcnt (zO σ) 48))), (4, .long (zB (zL σ))), (2, .long (zB (zO σ))), (0, .ref x), (1, .int v)]) hx hb dL_holds_600 hl (by decide) rfl (fun ls hl => ?_)
              refine lv_iconst (v := nI 1) hx hb dL_holds_602 (by decide) ?_
              refine ktopi (y := nI (0 + 1)) (rfl) ?_
              refine lv_istore (lv' := [(19, .int (nI (0 + 1))), (18, .int (nI (opF σ (bsN σ)))), (17, .int (nI (bsN σ))), (15, .long (zB (alP (zO σ) 48))), (13, .long (zB (clP (zO σ) 48))), (12, .int (nI 1)), (11, .float (fS (zO σ) 48)), (10, .int (nI (zcnt (kindP σ true) 48))), (9, .int (nI (zcnt (kindP σ false) 48))), (8, .int (nI (zcnt (shutP σ) 48))), (7, .int (sumZ (enc σ) 96 48)), (6, .int (nI (zcnt (zO σ) 48))), (4, .long (zB (zL σ))), (2, .long (zB (zO σ))), (0, .ref x), (1, .int v)]) hx hb dL_holds_603 hl (by decide) rfl (fun ls hl => ?_)
              have LP_57 : ∀ (fu : Nat) (k : Nat) (k1 : k ≤ 48) (H : Heap) (locs : List Loc) (ls : Array Slot), 50 - k < fu → kW g A s [cX x nw sn tk hs tx tr, cR nw na nb σ, xI g na 49 (zT σ), xI g nb 49 (zI σ), cH hs hq kn] H locs → lv_has ls 24 [(19, .int (nI (k + 1))), (18, .int (nI (opF σ (bsN σ)))), (17, .int (nI (bsN σ))), (15, .long (zB (alP (zO σ) 48))), (13, .long (zB (clP (zO σ) 48))), (12, .int (nI 1)), (11, .float (fS (zO σ) 48)), (10, .int (nI (zcnt (kindP σ true) 48))), (9, .int (nI (zcnt (kindP σ false) 48))), (8, .int (nI (zcnt (shutP σ) 48))), (7, .int (sumZ (enc σ) 96 48)), (6, .int (nI (zcnt (zO σ) 48))), (4, .long (zB (zL σ))), (2, .long (zB (zO σ))), (0, .ref x), (1, .int v)] → W p l e rmL_holds s m args below meth c H locs 103 618 Q (F0 m 605 ls []) := by
                intro fu
                induction fu with
                | zero => intro k k1 H locs ls hlt; omega
                | succ fu ih_57 =>
                  intro k k1 H locs ls hlt w hl
                  refine lv_iload hx hb dL_holds_605 (lv_at hl 0 rfl) ?_
                  refine lv_bipush (v := nI 49) hx hb dL_holds_607 (by decide) ?_
                  refine lv_icmp_ge (tgt := 670) hx hb dL_holds_609 (by decide) (fun h_58 => ?_) (fun h_58 => ?_)
                  · have h_58 : k + 1 ≥ 49 := (kc_ge_t (by omega) (by omega)).mp h_58
                    have e_59 : k = 48 := by omega
                    subst e_59
                    have hlo := lowN_lt v (n := 48) (by decide)
                    refine lv_iconst (v := nI 1) hx hb dL_holds_670 (by decide) ?_
                    refine lv_iload_n hx hb dL_holds_671 rfl (lv_at hl 15 rfl) ?_
                    refine lv_bipush (v := nI 48) hx hb dL_holds_672 (by decide) ?_
                    refine kcalli (wc := []) (wr := [cX x nw sn tk hs tx tr, cR nw na nb σ, xI g na 49 (zT σ), xI g nb 49 (zI σ), cH hs hq kn]) (wn := fun (u : Unit) => [cX x nw sn tk hs tx tr, cR nw na nb σ, xI g na 49 (zT σ), xI g nb 49 (zI σ), cH hs hq kn]) F w [] [0, 1, 2, 3, 4] [0, 1, 2, 3, 4] rfl rfl rfl (fun _ => rfl)
                      (fun hp => va_runS (As := [.int v, .int (nI 48)]) (rest := [.int (nI 1)]) F.1 (kL_low l g v 48 H.size (by omega)) (va_cwS 2 hts gL_holds_L_low rfl rfl rfl hd_L_low ⟨Nat.le_of_ble_eq_true rfl, Nat.le_of_ble_eq_true rfl⟩) hp rfl rfl hl.1 rfl (lv_room (Nat.le_of_ble_eq_true rfl)) dL_holds_674 ⟨by show _ ≤ (103 : Nat); omega, by show _ ≤ (618 : Nat); omega⟩)
                      (fun r_60 _ H locs h_61 w => ?_)
                    subst h_61
                    refine lv_iadd hx hb dL_holds_677 ?_
                    refine ktopi (y := nI (1 + lowN v 48)) (nI_add 1 (lowN v 48)) ?_
                    obtain ⟨f9, hf9⟩ : ∃ z, z = 1 + lowN v 48 := ⟨_, rfl⟩
                    refine ktopi (y := nI f9) (by rw [hf9]) ?_
                    refine lv_istore (lv' := [(19, .int (nI f9)), (18, .int (nI (opF σ (bsN σ)))), (17, .int (nI (bsN σ))), (15, .long (zB (alP (zO σ) 48))), (13, .long (zB (clP (zO σ) 48))), (12, .int (nI 1)), (11, .float (fS (zO σ) 48)), (10, .int (nI (zcnt (kindP σ true) 48))), (9, .int (nI (zcnt (kindP σ false) 48))), (8, .int (nI (zcnt (shutP σ) 48))), (7, .int (sumZ (enc σ) 96 48)), (6, .int (nI (zcnt (zO σ) 48))), (4, .long (zB (zL σ))), (2, .long (zB (zO σ))), (0, .ref x), (1, .int v)]) hx hb dL_holds_678 hl (by decide) rfl (fun ls hl => ?_)
                    have hf1 : 1 ≤ f9 ∧ f9 ≤ 48 := by omega
                    refine lv_iload hx hb dL_holds_680 (lv_at hl 0 rfl) ?_
                    refine lv_iload_n hx hb dL_holds_682 rfl (lv_at hl 15 rfl) ?_
                    refine lv_bipush (v := nI 6) hx hb dL_holds_683 (by decide) ?_
                    refine lv_ishr hx hb dL_holds_685 ?_
                    refine lv_bipush (v := nI 49) hx hb dL_holds_686 (by decide) ?_
                    refine lv_iload hx hb dL_holds_688 (lv_at hl 0 rfl) ?_
                    refine lv_isub hx hb dL_holds_690 ?_
                    refine ktopi (y := nI (49 - f9)) (pk_sub (by omega)) ?_
                    refine kcalli (wc := []) (wr := [cX x nw sn tk hs tx tr, cR nw na nb σ, xI g na 49 (zT σ), xI g nb 49 (zI σ), cH hs hq kn]) (wn := fun (u : Unit) => [cX x nw sn tk hs tx tr, cR nw na nb σ, xI g na 49 (zT σ), xI g nb 49 (zI σ), cH hs hq kn]) F w [] [0, 1, 2, 3, 4] [0, 1, 2, 3, 4] rfl rfl rfl (fun _ => rfl)
                      (fun hp => va_runS (As := [.int (v >>> ((nI 6) &&& 31)), .int (nI (49 - f9))]) (rest := [.int (nI f9)]) F.1 (kL_low l g (v >>> ((nI 6) &&& 31)) (49 - f9) H.size (by omega)) (va_cwS 2 hts gL_holds_L_low rfl rfl rfl hd_L_low ⟨Nat.le_of_ble_eq_true rfl, Nat.le_of_ble_eq_true rfl⟩) hp rfl rfl hl.1 rfl (lv_room (Nat.le_of_ble_eq_true rfl)) dL_holds_691 ⟨by show _ ≤ (103 : Nat); omega, by show _ ≤ (618 : Nat); omega⟩)
                      (fun r_62 _ H locs h_63 w => ?_)
                    subst h_63
                    have hlo2 := lowN_lt (v >>> (nI 6 &&& 31)) (n := 49 - f9) (by omega)
                    refine lv_iadd hx hb dL_holds_694 ?_
                    refine ktopi (y := nI (f9 + lowN (v >>> ((nI 6) &&& 31)) (49 - f9))) (nI_add f9 (lowN (v >>> ((nI 6) &&& 31)) (49 - f9))) ?_
                    obtain ⟨t9, ht9⟩ : ∃ z, z = f9 + lowN (v >>> (nI 6 &&& 31)) (49 - f9) := ⟨_, rfl⟩
                    refine ktopi (y := nI t9) (by rw [ht9]) ?_
                    refine lv_istore (lv' := [(20, .int (nI t9)), (19, .int (nI f9)), (18, .int (nI (opF σ (bsN σ)))), (17, .int (nI (bsN σ))), (15, .long (zB (alP (zO σ) 48))), (13, .long (zB (clP (zO σ) 48))), (12, .int (nI 1)), (11, .float (fS (zO σ) 48)), (10, .int (nI (zcnt (kindP σ true) 48))), (9, .int (nI (zcnt (kindP σ false) 48))), (8, .int (nI (zcnt (shutP σ) 48))), (7, .int (sumZ (enc σ) 96 48)), (6, .int (nI (zcnt (zO σ) 48))), (4, .long (zB (zL σ))), (2, .long (zB (zO σ))), (0, .ref x), (1, .int v)]) hx hb dL_holds_695 hl (by decide) rfl (fun ls hl => ?_)
                    have ht1 : f9 ≤ t9 ∧ t9 ≤ 48 := by omega
                    refine lv_lload_n hx hb dL_holds_697 rfl (lv_at hl 14 rfl) ?_
                    refine ktopl (y := zB (zO (rowN f9 0 σ))) (rfl) ?_
                    refine lv_lstore (lv' := [(21, .long (zB (zO (rowN f9 0 σ)))), (20, .int (nI t9)), (19, .int (nI f9)), (18, .int (nI (opF σ (bsN σ)))), (17, .int (nI (bsN σ))), (15, .long (zB (alP (zO σ) 48))), (13, .long (zB (clP (zO σ) 48))), (12, .int (nI 1)), (11, .float (fS (zO σ) 48)), (10, .int (nI (zcnt (kindP σ true) 48))), (9, .int (nI (zcnt (kindP σ false) 48))), (8, .int (nI (zcnt (shutP σ) 48))), (7, .int (sumZ (enc σ) 96 48)), (6, .int (nI (zcnt (zO σ) 48))), (4, .long (zB (zL σ))), (2, .long (zB (zO σ))), (0, .ref x), (1, .int v)]) hx hb dL_holds_698 hl (by decide) rfl (fun ls hl => ?_)
                    refine lv_iload hx hb dL_holds_700 (lv_at hl 2 rfl) ?_
                    refine ktopi (y := nI (f9 + 0)) (rfl) ?_
                    refine lv_istore (lv' := [(23, .int (nI (f9 + 0))), (21, .long (zB (zO (rowN f9 0 σ)))), (20, .int (nI t9)), (19, .int (nI f9)), (18, .int (nI (opF σ (bsN σ)))), (17, .int (nI (bsN σ))), (15, .long (zB (alP (zO σ) 48))), (13, .long (zB (clP (zO σ) 48))), (12, .int (nI 1)), (11, .float (fS (zO σ) 48)), (10, .int (nI (zcnt (kindP σ true) 48))), (9, .int (nI (zcnt (kindP σ false) 48))), (8, .int (nI (zcnt (shutP σ) 48))), (7, .int (sumZ (enc σ) 96 48)), (6, .int (nI (zcnt (zO σ) 48))), (4, .long (zB (zL σ))), (2, .long (zB (zO σ))), (0, .ref x), (1, .int v)]) hx hb dL_holds_702 hl (by decide) rfl (fun ls hl => ?_)
                    have LP_64 : ∀ (fu : Nat) (k : Nat) (k1 : k ≤ t9 + 1 - f9) (H : Heap) (locs : List Loc) (ls : Array Slot), 60 - k < fu → kW g A s [cX x nw sn tk hs tx tr, cR nw na nb σ, xI g na 49 (zT σ), xI g nb 49 (zI σ), cH hs hq kn] H locs → lv_has ls 24 [(23, .int (nI (f9 + k))), (21, .long (zB (zO (rowN f9 k σ)))), (20, .int (nI t9)), (19, .int (nI f9)), (15, .long (zB (alP (zO σ) 48))), (13, .long (zB (clP (zO σ) 48))), (12, .int (nI 1)), (11, .float (fS (zO σ) 48)), (10, .int (nI (zcnt (kindP σ true) 48))), (9, .int (nI (zcnt (kindP σ false) 48))), (8, .int (nI (zcnt (shutP σ) 48))), (7, .int (sumZ (enc σ) 96 48)), (6, .int (nI (zcnt (zO σ) 48))), (4, .long (zB (zL σ))), (2, .long (zB (zO σ))), (0, .ref x), (1, .int v)] → W p l e rmL_holds s m args below meth c H locs 103 618 Q (F0 m 704 ls []) := by
                      intro fu
                      induction fu with
                      | zero => intro k k1 H locs ls hlt; omega
                      | succ fu ih_64 =>
                        intro k k1 H locs ls hlt w hl
                        refine lv_iload hx hb dL_holds_704 (lv_at hl 0 rfl) ?_
                        refine lv_iload hx hb dL_holds_706 (lv_at hl 2 rfl) ?_
                        refine lv_icmp_gt (tgt := 747) hx hb dL_holds_708 (by decide) (fun h_65 => ?_) (fun h_65 => ?_)
                        · have h_65 : f9 + k > t9 := (kc_gt_t (by omega) (by omega)).mp h_65
                          have e_66 : k = t9 + 1 - f9 := by omega
                          subst e_66
                          refine lv_iload hx hb dL_holds_747 (lv_at hl 6 rfl) ?_
                          refine lv_if_eq (tgt := 896) hx hb dL_holds_749 (by decide) (fun h_67 => ?_) (fun h_67 => ?_)
                          · exact absurd h_67 (by decide)
                          refine lv_lload hx hb dL_holds_752 (lv_at hl 4 rfl) ?_
                          refine lv_lconst (v := 0) hx hb dL_holds_754 (by decide) ?_
                          refine W.lcmp hx hb dL_holds_755 ?_
                          refine lv_if_ne (tgt := 896) hx hb dL_holds_756 (by decide) (fun h_68 => ?_) (fun h_68 => ?_)
                          · exact absurd (lgc_eq.mpr (alP_e _)) h_68
                          refine lv_lload hx hb dL_holds_759 (lv_at hl 5 rfl) ?_
                          refine lv_aload_n hx hb dL_holds_761 rfl (lv_at hl 15 rfl) ?_
                          refine kcalll (wc := [cX x nw sn tk hs tx tr, cR nw na nb σ, xI g na 49 (zT σ), xI g nb 49 (zI σ)]) (wr := [cH hs hq kn]) (wn := fun (u : Unit) => [cX x nw sn tk hs tx tr, cR nw na nb σ, xI g na 49 (zT σ), xI g nb 49 (zI σ), cH hs hq kn]) F w [0, 1, 2, 3] [4] [1, 2, 3, 4, 0] rfl rfl rfl (fun _ => rfl)
                            (fun hp => va_runV (As := []) (rest := [.long (zB (clP (zO σ) 48))]) F.1 (kX5_closingByDivisors l g x nw sn tk hs tx tr na nb σ H.size ) (cwV 0 hts gL_holds_X5_closingByDivisors rfl rfl rfl ⟨rfl, hd_X5_closingByDivisors⟩ ⟨Nat.le_of_ble_eq_true rfl, Nat.le_of_ble_eq_true rfl⟩) ⟨hp.1, va_recv F.2.2.2.1.1 w.1 (q0 := 0) (ci := 5) rfl rfl, hp.2⟩ rfl rfl hl.1 rfl (lv_room (Nat.le_of_ble_eq_true rfl)) dL_holds_762 ⟨by show _ ≤ (103 : Nat); omega, by show _ ≤ (618 : Nat); omega⟩)
                            (fun r_69 _ H locs h_70 w => ?_)
                          subst h_70
                          refine W.lcmp hx hb dL_holds_765 ?_
                          refine lv_if_ne (tgt := 896) hx hb dL_holds_766 (by decide) (fun h_71 => ?_) (fun h_71 => ?_)
                          · exact absurd (lgc_eq.mpr (cdP_clP σ).symm) h_71
                          refine lv_lload hx hb dL_holds_769 (lv_at hl 5 rfl) ?_
                          refine lv_lconst (v := 1) hx hb dL_holds_771 (by decide) ?_
                          refine lv_land hx hb dL_holds_772 ?_
                          refine lv_lconst (v := 0) hx hb dL_holds_773 (by decide) ?_
                          refine W.lcmp hx hb dL_holds_774 ?_
                          refine lv_if_ne (tgt := 896) hx hb dL_holds_775 (by decide) (fun h_72 => ?_) (fun h_72 => ?_)
                          · exact absurd (lgc_eq.mpr (zB_odd _)) h_72
                          refine lv_aload_n hx hb dL_holds_778 rfl (lv_at hl 15 rfl) ?_
                          refine kcalli (wc := [cX x nw sn tk hs tx tr, cR nw na nb σ, xI g na 49 (zT σ), xI g nb 49 (zI σ)]) (wr := [cH hs hq kn]) (wn := fun (u : Unit) => [cX x nw sn tk hs tx tr, cR nw na nb σ, xI g na 49 (zT σ), xI g nb 49 (zI σ), cH hs hq kn]) F w [0, 1, 2, 3] [4] [1, 2, 3, 4, 0] rfl rfl rfl (fun _ => rfl)
                            (fun hp => va_runV (As := []) (rest := []) F.1 (kX5_passesToClose l g x nw sn tk hs tx tr na nb σ H.size ) (cwV 0 hts gL_holds_X5_passesToClose rfl rfl rfl ⟨rfl, hd_X5_passesToClose⟩ ⟨Nat.le_of_ble_eq_true rfl, Nat.le_of_ble_eq_true rfl⟩) ⟨hp.1, va_recv F.2.2.2.1.1 w.1 (q0 := 0) (ci := 5) rfl rfl, hp.2⟩ rfl rfl hl.1 rfl (lv_room (Nat.le_of_ble_eq_true rfl)) dL_holds_779 ⟨by show _ ≤ (103 : Nat); omega, by show _ ≤ (618 : Nat); omega⟩)
                            (fun r_73 _ H locs h_74 w => ?_)
                          subst h_74
                          refine lv_lload hx hb dL_holds_782 (lv_at hl 5 rfl) ?_
                          refine kcalli (wc := []) (wr := [cX x nw sn tk hs tx tr, cR nw na nb σ, xI g na 49 (zT σ), xI g nb 49 (zI σ), cH hs hq kn]) (wn := fun (u : Unit) => [cX x nw sn tk hs tx tr, cR nw na nb σ, xI g na 49 (zT σ), xI g nb 49 (zI σ), cH hs hq kn]) F w [] [0, 1, 2, 3, 4] [0, 1, 2, 3, 4] rfl rfl rfl (fun _ => rfl)
                            (fun hp => va_runS (As := [.long (zB (clP (zO σ) 48))]) (rest := [.int (nI (zcnt (clP (zO σ) 48) 48))]) F.1 (kL_ones l g (clP (zO σ) 48) H.size ) (va_cwS 1 hts gL_holds_L_ones rfl rfl rfl hd_L_ones ⟨Nat.le_of_ble_eq_true rfl, Nat.le_of_ble_eq_true rfl⟩) hp rfl rfl hl.1 rfl (lv_room (Nat.le_of_ble_eq_true rfl)) dL_holds_784 ⟨by show _ ≤ (103 : Nat); omega, by show _ ≤ (618 : Nat); omega⟩)
                            (fun r_75 _ H locs h_76 w => ?_)
                          subst h_76
                          refine lv_icmp_ne (tgt := 896) hx hb dL_holds_787 (by decide) (fun h_77 => ?_) (fun h_77 => ?_)
                          · exact absurd rfl h_77
                          refine lv_aload_n hx hb dL_holds_790 rfl (lv_at hl 15 rfl) ?_
                          refine lv_iload hx hb dL_holds_791 (lv_at hl 3 rfl) ?_
                          refine lv_iload hx hb dL_holds_793 (lv_at hl 2 rfl) ?_
                          refine kcalli (wc := [cX x nw sn tk hs tx tr, cR nw na nb σ, xI g na 49 (zT σ), xI g nb 49 (zI σ)]) (wr := [cH hs hq kn]) (wn := fun (u : Unit) => [cX x nw sn tk hs tx tr, cR nw na nb σ, xI g na 49 (zT σ), xI g nb 49 (zI σ), cH hs hq kn]) F w [0, 1, 2, 3] [4] [1, 2, 3, 4, 0] rfl rfl rfl (fun _ => rfl)
                            (fun hp => va_runV (As := [.int (nI f9), .int (nI t9)]) (rest := []) F.1 (kX5_wouldBeOpen_k l g x nw sn tk hs tx tr na nb σ f9 t9 H.size (⟨hf1.1, ht1.1, ht1.2⟩)) (cwV 2 hts gL_holds_X5_wouldBeOpen rfl rfl rfl ⟨rfl, hd_X5_wouldBeOpen⟩ ⟨Nat.le_of_ble_eq_true rfl, Nat.le_of_ble_eq_true rfl⟩) ⟨hp.1, va_recv F.2.2.2.1.1 w.1 (q0 := 0) (ci := 5) rfl rfl, hp.2⟩ rfl rfl hl.1 rfl (lv_room (Nat.le_of_ble_eq_true rfl)) dL_holds_795 ⟨by show _ ≤ (103 : Nat); omega, by show _ ≤ (618 : Nat); omega⟩)
                            (fun r_78 _ H locs h_79 w => ?_)
                          subst h_79
                          refine lv_lload hx hb dL_holds_798 (lv_at hl 1 rfl) ?_
                          refine kcalli (wc := []) (wr := [cX x nw sn tk hs tx tr, cR nw na nb σ, xI g na 49 (zT σ), xI g nb 49 (zI σ), cH hs hq kn]) (wn := fun (u : Unit) => [cX x nw sn tk hs tx tr, cR nw na nb σ, xI g na 49 (zT σ), xI g nb 49 (zI σ), cH hs hq kn]) F w [] [0, 1, 2, 3, 4] [0, 1, 2, 3, 4] rfl rfl rfl (fun _ => rfl)
                            (fun hp => va_runS (As := [.long (zB (zO (rowN f9 (t9 + 1 - f9) σ)))]) (rest := [.int (nI (zcnt (zO (rowN f9 (t9 + 1 - f9) σ)) 48))]) F.1 (kL_ones l g (zO (rowN f9 (t9 + 1 - f9) σ)) H.size ) (va_cwS 1 hts gL_holds_L_ones rfl rfl rfl hd_L_ones ⟨Nat.le_of_ble_eq_true rfl, Nat.le_of_ble_eq_true rfl⟩) hp rfl rfl hl.1 rfl (lv_room (Nat.le_of_ble_eq_true rfl)) dL_holds_800 ⟨by show _ ≤ (103 : Nat); omega, by show _ ≤ (618 : Nat); omega⟩)
                            (fun r_80 _ H locs h_81 w => ?_)
                          subst h_81
                          refine lv_icmp_ne (tgt := 896) hx hb dL_holds_803 (by decide) (fun h_82 => ?_) (fun h_82 => ?_)
                          · exact absurd rfl h_82
                          refine lv_iload hx hb dL_holds_806 (lv_at hl 11 rfl) ?_
                          refine lv_aload_n hx hb dL_holds_808 rfl (lv_at hl 15 rfl) ?_
                          refine kcalli (wc := [cX x nw sn tk hs tx tr, cR nw na nb σ, xI g na 49 (zT σ), xI g nb 49 (zI σ)]) (wr := [cH hs hq kn]) (wn := fun (u : Unit) => [cX x nw sn tk hs tx tr, cR nw na nb σ, xI g na 49 (zT σ), xI g nb 49 (zI σ), cH hs hq kn]) F w [0, 1, 2, 3] [4] [1, 2, 3, 4, 0] rfl rfl rfl (fun _ => rfl)
                            (fun hp => va_runV (As := []) (rest := [.int (sumZ (enc σ) 96 48)]) F.1 (kX5_turnsInAll l g x nw sn tk hs tx tr na nb σ H.size ) (cwV 0 hts gL_holds_X5_turnsInAll rfl rfl rfl ⟨rfl, hd_X5_turnsInAll⟩ ⟨Nat.le_of_ble_eq_true rfl, Nat.le_of_ble_eq_true rfl⟩) ⟨hp.1, va_recv F.2.2.2.1.1 w.1 (q0 := 0) (ci := 5) rfl rfl, hp.2⟩ rfl rfl hl.1 rfl (lv_room (Nat.le_of_ble_eq_true rfl)) dL_holds_809 ⟨by show _ ≤ (103 : Nat); omega, by show _ ≤ (618 : Nat); omega⟩)
                            (fun r_83 _ H locs h_84 w => ?_)
                          subst h_84
                          refine lv_icmp_ne (tgt := 896) hx hb dL_holds_812 (by decide) (fun h_85 => ?_) (fun h_85 => ?_)
                          · exact absurd rfl h_85
                          refine lv_iload hx hb dL_holds_815 (lv_at hl 10 rfl) ?_
                          refine lv_aload_n hx hb dL_holds_817 rfl (lv_at hl 15 rfl) ?_
                          refine kcalli (wc := [cX x nw sn tk hs tx tr, cR nw na nb σ, xI g na 49 (zT σ), xI g nb 49 (zI σ)]) (wr := [cH hs hq kn]) (wn := fun (u : Unit) => [cX x nw sn tk hs tx tr, cR nw na nb σ, xI g na 49 (zT σ), xI g nb 49 (zI σ), cH hs hq kn]) F w [0, 1, 2, 3] [4] [1, 2, 3, 4, 0] rfl rfl rfl (fun _ => rfl)
                            (fun hp => va_runV (As := []) (rest := [.int (nI (zcnt (shutP σ) 48))]) F.1 (kX5_shutAway l g x nw sn tk hs tx tr na nb σ H.size ) (cwV 0 hts gL_holds_X5_shutAway rfl rfl rfl ⟨rfl, hd_X5_shutAway⟩ ⟨Nat.le_of_ble_eq_true rfl, Nat.le_of_ble_eq_true rfl⟩) ⟨hp.1, va_recv F.2.2.2.1.1 w.1 (q0 := 0) (ci := 5) rfl rfl, hp.2⟩ rfl rfl hl.1 rfl (lv_room (Nat.le_of_ble_eq_true rfl)) dL_holds_818 ⟨by show _ ≤ (103 : Nat); omega, by show _ ≤ (618 : Nat); omega⟩)
                            (fun r_86 _ H locs h_87 w => ?_)
                          subst h_87
                          refine lv_icmp_ne (tgt := 896) hx hb dL_holds_821 (by decide) (fun h_88 => ?_) (fun h_88 => ?_)
                          · exact absurd rfl h_88
                          refine lv_iload hx hb dL_holds_824 (lv_at hl 9 rfl) ?_
                          refine lv_aload_n hx hb dL_holds_826 rfl (lv_at hl 15 rfl) ?_
                          refine lv_iconst (v := nI 0) hx hb dL_holds_827 (by decide) ?_
                          refine ktopi (y := bI false) (by decide) ?_
                          refine kcalli (wc := [cX x nw sn tk hs tx tr, cR nw na nb σ, xI g na 49 (zT σ), xI g nb 49 (zI σ)]) (wr := [cH hs hq kn]) (wn := fun (u : Unit) => [cX x nw sn tk hs tx tr, cR nw na nb σ, xI g na 49 (zT σ), xI g nb 49 (zI σ), cH hs hq kn]) F w [0, 1, 2, 3] [4] [1, 2, 3, 4, 0] rfl rfl rfl (fun _ => rfl)
                            (fun hp => va_runV (As := [.int (bI false)]) (rest := [.int (nI (zcnt (kindP σ false) 48))]) F.1 (kX5_thingsOf_k l g x nw sn tk hs tx tr na nb σ false H.size ) (cwV 1 hts gL_holds_X5_thingsOf rfl rfl rfl ⟨rfl, hd_X5_thingsOf⟩ ⟨Nat.le_of_ble_eq_true rfl, Nat.le_of_ble_eq_true rfl⟩) ⟨hp.1, va_recv F.2.2.2.1.1 w.1 (q0 := 0) (ci := 5) rfl rfl, hp.2⟩ rfl rfl hl.1 rfl (lv_room (Nat.le_of_ble_eq_true rfl)) dL_holds_828 ⟨by show _ ≤ (103 : Nat); omega, by show _ ≤ (618 : Nat); omega⟩)
                            (fun r_89 _ H locs h_90 w => ?_)
                          subst h_90
                          refine lv_icmp_ne (tgt := 896) hx hb dL_holds_831 (by decide) (fun h_91 => ?_) (fun h_91 => ?_)
                          · exact absurd rfl h_91
                          refine lv_iload hx hb dL_holds_834 (lv_at hl 8 rfl) ?_
                          refine lv_aload_n hx hb dL_holds_836 rfl (lv_at hl 15 rfl) ?_
                          refine lv_iconst (v := nI 1) hx hb dL_holds_837 (by decide) ?_
                          refine ktopi (y := bI true) (by decide) ?_
                          refine kcalli (wc := [cX x nw sn tk hs tx tr, cR nw na nb σ, xI g na 49 (zT σ), xI g nb 49 (zI σ)]) (wr := [cH hs hq kn]) (wn := fun (u : Unit) => [cX x nw sn tk hs tx tr, cR nw na nb σ, xI g na 49 (zT σ), xI g nb 49 (zI σ), cH hs hq kn]) F w [0, 1, 2, 3] [4] [1, 2, 3, 4, 0] rfl rfl rfl (fun _ => rfl)
                            (fun hp => va_runV (As := [.int (bI true)]) (rest := [.int (nI (zcnt (kindP σ true) 48))]) F.1 (kX5_thingsOf_k l g x nw sn tk hs tx tr na nb σ true H.size ) (cwV 1 hts gL_holds_X5_thingsOf rfl rfl rfl ⟨rfl, hd_X5_thingsOf⟩ ⟨Nat.le_of_ble_eq_true rfl, Nat.le_of_ble_eq_true rfl⟩) ⟨hp.1, va_recv F.2.2.2.1.1 w.1 (q0 := 0) (ci := 5) rfl rfl, hp.2⟩ rfl rfl hl.1 rfl (lv_room (Nat.le_of_ble_eq_true rfl)) dL_holds_838 ⟨by show _ ≤ (103 : Nat); omega, by show _ ≤ (618 : Nat); omega⟩)
                            (fun r_92 _ H locs h_93 w => ?_)
                          subst h_93
                          refine lv_icmp_ne (tgt := 896) hx hb dL_holds_841 (by decide) (fun h_94 => ?_) (fun h_94 => ?_)
                          · exact absurd rfl h_94
                          refine lv_aload_n hx hb dL_holds_844 rfl (lv_at hl 15 rfl) ?_
                          refine kcallf (wc := [cX x nw sn tk hs tx tr, cR nw na nb σ, xI g na 49 (zT σ), xI g nb 49 (zI σ)]) (wr := [cH hs hq kn]) (wn := fun (u : Unit) => [cX x nw sn tk hs tx tr, cR nw na nb σ, xI g na 49 (zT σ), xI g nb 49 (zI σ), cH hs hq kn]) F w [0, 1, 2, 3] [4] [1, 2, 3, 4, 0] rfl rfl rfl (fun _ => rfl)
                            (fun hp => va_runV (As := []) (rest := []) F.1 (kX5_share l g x nw sn tk hs tx tr na nb σ H.size ) (cwV 0 hts gL_holds_X5_share rfl rfl rfl ⟨rfl, hd_X5_share⟩ ⟨Nat.le_of_ble_eq_true rfl, Nat.le_of_ble_eq_true rfl⟩) ⟨hp.1, va_recv F.2.2.2.1.1 w.1 (q0 := 0) (ci := 5) rfl rfl, hp.2⟩ rfl rfl hl.1 rfl (lv_room (Nat.le_of_ble_eq_true rfl)) dL_holds_845 ⟨by show _ ≤ (103 : Nat); omega, by show _ ≤ (618 : Nat); omega⟩)
                            (fun r_95 _ H locs h_96 w => ?_)
                          subst h_96
                          refine lv_iload hx hb dL_holds_848 (lv_at hl 12 rfl) ?_
                          refine lv_i2f hx hb dL_holds_850 ?_
                          refine lv_ldcf (v := f48c) hx hb F.1.2.2.2.1 (hts (.constantFloat RL 196 f48c) (by decide +kernel)) dL_holds_851 ?_
                          refine lv_fdiv hx hb dL_holds_853 (vf32 ((fsh_ne (zcnt (zO σ) 48) (by omega)).1)) ?_
                          refine ktopf (y := fsh (zcnt (zO σ) 48)) (rfl) ?_
                          refine lv_fcmp hx hb dL_holds_854 ?_
                          refine ktopi (y := nI 0) (f_self _ ((fsh_ne (zcnt (zO σ) 48) (by omega)).1)) ?_
                          refine lv_if_ne (tgt := 896) hx hb dL_holds_855 (by decide) (fun h_97 => ?_) (fun h_97 => ?_)
                          · exact absurd rfl h_97
                          refine lv_aload_n hx hb dL_holds_858 rfl (lv_at hl 15 rfl) ?_
                          refine kcalli (wc := [cX x nw sn tk hs tx tr, cR nw na nb σ, xI g na 49 (zT σ), xI g nb 49 (zI σ)]) (wr := [cH hs hq kn]) (wn := fun (u : Unit) => [cX x nw sn tk hs tx tr, cR nw na nb σ, xI g na 49 (zT σ), xI g nb 49 (zI σ), cH hs hq kn]) F w [0, 1, 2, 3] [4] [1, 2, 3, 4, 0] rfl rfl rfl (fun _ => rfl)
                            (fun hp => va_runV (As := []) (rest := []) F.1 (kX5_shareBits l g x nw sn tk hs tx tr na nb σ H.size ) (cwV 0 hts gL_holds_X5_shareBits rfl rfl rfl ⟨rfl, hd_X5_shareBits⟩ ⟨Nat.le_of_ble_eq_true rfl, Nat.le_of_ble_eq_true rfl⟩) ⟨hp.1, va_recv F.2.2.2.1.1 w.1 (q0 := 0) (ci := 5) rfl rfl, hp.2⟩ rfl rfl hl.1 rfl (lv_room (Nat.le_of_ble_eq_true rfl)) dL_holds_859 ⟨by show _ ≤ (103 : Nat); omega, by show _ ≤ (618 : Nat); omega⟩)
                            (fun r_98 _ H locs h_99 w => ?_)
                          subst h_99
                          refine lv_iload hx hb dL_holds_862 (lv_at hl 12 rfl) ?_
                          refine kcalli (wc := []) (wr := [cX x nw sn tk hs tx tr, cR nw na nb σ, xI g na 49 (zT σ), xI g nb 49 (zI σ), cH hs hq kn]) (wn := fun (u : Unit) => [cX x nw sn tk hs tx tr, cR nw na nb σ, xI g na 49 (zT σ), xI g nb 49 (zI σ), cH hs hq kn]) F w [] [0, 1, 2, 3, 4] [0, 1, 2, 3, 4] rfl rfl rfl (fun _ => rfl)
                            (fun hp => va_runS (As := [.int (nI (zcnt (zO σ) 48))]) (rest := [.int ((fsh (zcnt (zO σ) 48)).toInt32)]) F.1 (kL_ratio l g (zcnt (zO σ) 48) H.size hzc) (va_cwS 1 hts gL_holds_L_ratio rfl rfl rfl hd_L_ratio ⟨Nat.le_of_ble_eq_true rfl, Nat.le_of_ble_eq_true rfl⟩) hp rfl rfl hl.1 rfl (lv_room (Nat.le_of_ble_eq_true rfl)) dL_holds_864 ⟨by show _ ≤ (103 : Nat); omega, by show _ ≤ (618 : Nat); omega⟩)
                            (fun r_100 _ H locs h_101 w => ?_)
                          subst h_101
                          refine lv_icmp_ne (tgt := 896) hx hb dL_holds_867 (by decide) (fun h_102 => ?_) (fun h_102 => ?_)
                          · exact absurd rfl h_102
                          refine lv_aload_n hx hb dL_holds_870 rfl (lv_at hl 15 rfl) ?_
                          refine kcallf (wc := [cX x nw sn tk hs tx tr, cR nw na nb σ, xI g na 49 (zT σ), xI g nb 49 (zI σ)]) (wr := [cH hs hq kn]) (wn := fun (u : Unit) => [cX x nw sn tk hs tx tr, cR nw na nb σ, xI g na 49 (zT σ), xI g nb 49 (zI σ), cH hs hq kn]) F w [0, 1, 2, 3] [4] [1, 2, 3, 4, 0] rfl rfl rfl (fun _ => rfl)
                            (fun hp => va_runV (As := []) (rest := []) F.1 (kX5_sumOfParts l g x nw sn tk hs tx tr na nb σ H.size ) (cwV 0 hts gL_holds_X5_sumOfParts rfl rfl rfl ⟨rfl, hd_X5_sumOfParts⟩ ⟨Nat.le_of_ble_eq_true rfl, Nat.le_of_ble_eq_true rfl⟩) ⟨hp.1, va_recv F.2.2.2.1.1 w.1 (q0 := 0) (ci := 5) rfl rfl, hp.2⟩ rfl rfl hl.1 rfl (lv_room (Nat.le_of_ble_eq_true rfl)) dL_holds_871 ⟨by show _ ≤ (103 : Nat); omega, by show _ ≤ (618 : Nat); omega⟩)
                            (fun r_103 _ H locs h_104 w => ?_)
                          subst h_104
                          refine lv_fload hx hb dL_holds_874 (lv_at hl 7 rfl) ?_
                          refine lv_fcmp hx hb dL_holds_876 ?_
                          refine ktopi (y := nI 0) (f_self _ (fS_ne (zO σ) (Nat.le_refl _))) ?_
                          refine lv_if_ne (tgt := 896) hx hb dL_holds_877 (by decide) (fun h_105 => ?_) (fun h_105 => ?_)
                          · exact absurd rfl h_105
                          refine lv_aload_n hx hb dL_holds_880 rfl (lv_at hl 15 rfl) ?_
                          refine kcalll (wc := [cX x nw sn tk hs tx tr, cR nw na nb σ, xI g na 49 (zT σ), xI g nb 49 (zI σ)]) (wr := [cH hs hq kn]) (wn := fun (u : Unit) => [cX x nw sn tk hs tx tr, cR nw na nb σ, xI g na 49 (zT σ), xI g nb 49 (zI σ), cH hs hq kn]) F w [0, 1, 2, 3] [4] [1, 2, 3, 4, 0] rfl rfl rfl (fun _ => rfl)
                            (fun hp => va_runV (As := []) (rest := []) F.1 (kX5_sumBits l g x nw sn tk hs tx tr na nb σ H.size ) (cwV 0 hts gL_holds_X5_sumBits rfl rfl rfl ⟨rfl, hd_X5_sumBits⟩ ⟨Nat.le_of_ble_eq_true rfl, Nat.le_of_ble_eq_true rfl⟩) ⟨hp.1, va_recv F.2.2.2.1.1 w.1 (q0 := 0) (ci := 5) rfl rfl, hp.2⟩ rfl rfl hl.1 rfl (lv_room (Nat.le_of_ble_eq_true rfl)) dL_holds_881 ⟨by show _ ≤ (103 : Nat); omega, by show _ ≤ (618 : Nat); omega⟩)
                            (fun r_106 _ H locs h_107 w => ?_)
                          subst h_107
                          refine lv_lload_n hx hb dL_holds_884 rfl (lv_at hl 14 rfl) ?_
                          refine kcalll (wc := []) (wr := [cX x nw sn tk hs tx tr, cR nw na nb σ, xI g na 49 (zT σ), xI g nb 49 (zI σ), cH hs hq kn]) (wn := fun (u : Unit) => [cX x nw sn tk hs tx tr, cR nw na nb σ, xI g na 49 (zT σ), xI g nb 49 (zI σ), cH hs hq kn]) F w [] [0, 1, 2, 3, 4] [0, 1, 2, 3, 4] rfl rfl rfl (fun _ => rfl)
                            (fun hp => va_runS (As := [.long (zB (zO σ))]) (rest := [.long ((dS (zO σ) 48).toInt64)]) F.1 (kL_parts l g (zO σ) H.size ) (va_cwS 1 hts gL_holds_L_parts rfl rfl rfl hd_L_parts ⟨Nat.le_of_ble_eq_true rfl, Nat.le_of_ble_eq_true rfl⟩) hp rfl rfl hl.1 rfl (lv_room (Nat.le_of_ble_eq_true rfl)) dL_holds_885 ⟨by show _ ≤ (103 : Nat); omega, by show _ ≤ (618 : Nat); omega⟩)
                            (fun r_108 _ H locs h_109 w => ?_)
                          subst h_109
                          refine W.lcmp hx hb dL_holds_888 ?_
                          refine lv_if_ne (tgt := 896) hx hb dL_holds_889 (by decide) (fun h_110 => ?_) (fun h_110 => ?_)
                          · exact absurd (lgc_self _) h_110
                          refine lv_iconst (v := nI 1) hx hb dL_holds_892 (by decide) ?_
                          refine lv_goto (tgt := 897) hx hb dL_holds_893 (by decide) ?_
                          refine ktopi (y := bI true) (by decide) ?_
                          subst hA
                          subst hQ
                          exact kretz F w () [0, 1, 2, 3, 4] rfl rfl (rfl) (kz_n _) (Nat.le_of_ble_eq_true rfl) (Nat.le_of_ble_eq_true rfl) dL_holds_897
                        · have h_65 : f9 + k ≤ t9 := (kc_gt_f (by omega) (by omega)).mp h_65
                          refine lv_lload hx hb dL_holds_711 (lv_at hl 1 rfl) ?_
                          refine lv_aload_n hx hb dL_holds_713 rfl (lv_at hl 15 rfl) ?_
                          refine lv_iload hx hb dL_holds_714 (lv_at hl 0 rfl) ?_
                          refine kcalli (wc := [cX x nw sn tk hs tx tr, cR nw na nb σ, xI g na 49 (zT σ), xI g nb 49 (zI σ)]) (wr := [cH hs hq kn]) (wn := fun (u : Unit) => [cX x nw sn tk hs tx tr, cR nw na nb σ, xI g na 49 (zT σ), xI g nb 49 (zI σ), cH hs hq kn]) F w [0, 1, 2, 3] [4] [1, 2, 3, 4, 0] rfl rfl rfl (fun _ => rfl)
                            (fun hp => va_runV (As := [.int (nI (f9 + k))]) (rest := [.long (zB (zO (rowN f9 k σ)))]) F.1 (kX5_isSkipped_k l g x nw sn tk hs tx tr na nb σ (f9 + k) H.size (⟨by omega, by omega⟩)) (cwV 1 hts gL_holds_X5_isSkipped rfl rfl rfl ⟨rfl, hd_X5_isSkipped⟩ ⟨Nat.le_of_ble_eq_true rfl, Nat.le_of_ble_eq_true rfl⟩) ⟨hp.1, va_recv F.2.2.2.1.1 w.1 (q0 := 0) (ci := 5) rfl rfl, hp.2⟩ rfl rfl hl.1 rfl (lv_room (Nat.le_of_ble_eq_true rfl)) dL_holds_716 ⟨by show _ ≤ (103 : Nat); omega, by show _ ≤ (618 : Nat); omega⟩)
                            (fun r_111 _ H locs h_112 w => ?_)
                          subst h_112
                          refine lv_if_eq (tgt := 726) hx hb dL_holds_719 (by decide) (fun h_113 => ?_) (fun h_113 => ?_)
                          · have h_113 : (zS σ (f9 + k)) = false := bI_z.mp h_113
                            refine lv_iload hx hb dL_holds_726 (lv_at hl 0 rfl) ?_
                            refine kcalll (wc := []) (wr := [cX x nw sn tk hs tx tr, cR nw na nb σ, xI g na 49 (zT σ), xI g nb 49 (zI σ), cH hs hq kn]) (wn := fun (u : Unit) => [cX x nw sn tk hs tx tr, cR nw na nb σ, xI g na 49 (zT σ), xI g nb 49 (zI σ), cH hs hq kn]) F w [] [0, 1, 2, 3, 4] [0, 1, 2, 3, 4] rfl rfl rfl (fun _ => rfl)
                              (fun hp => va_runS (As := [.int (nI (f9 + k))]) (rest := [.long (zB (zO (rowN f9 k σ)))]) F.1 (kL_turned l g (f9 + k) H.size (⟨by omega, by omega⟩)) (va_cwS 1 hts gL_holds_L_turned rfl rfl rfl hd_L_turned ⟨Nat.le_of_ble_eq_true rfl, Nat.le_of_ble_eq_true rfl⟩) hp rfl rfl hl.1 rfl (lv_room (Nat.le_of_ble_eq_true rfl)) dL_holds_728 ⟨by show _ ≤ (103 : Nat); omega, by show _ ≤ (618 : Nat); omega⟩)
                              (fun r_114 _ H locs h_115 w => ?_)
                            subst h_115
                            refine lv_lload hx hb dL_holds_731 (lv_at hl 13 rfl) ?_
                            refine lv_ldc2 (v := (-1)) hx hb F.1.2.2.2.1 (hts (.constantLong RL 175 (-1)) (by decide +kernel)) dL_holds_733 ?_
                            refine lv_lxor hx hb dL_holds_736 ?_
                            refine lv_land hx hb dL_holds_737 ?_
                            refine ktopl (y := zB (turnP σ (f9 + k))) (turnP_b) ?_
                            refine lv_lxor hx hb dL_holds_738 ?_
                            refine ktopl (y := zB (zO (rowN f9 (k + 1) σ))) (row_step (by omega) h_113) ?_
                            refine lv_lstore (lv' := [(21, .long (zB (zO (rowN f9 (k + 1) σ)))), (23, .int (nI (f9 + k))), (20, .int (nI t9)), (19, .int (nI f9)), (15, .long (zB (alP (zO σ) 48))), (13, .long (zB (clP (zO σ) 48))), (12, .int (nI 1)), (11, .float (fS (zO σ) 48)), (10, .int (nI (zcnt (kindP σ true) 48))), (9, .int (nI (zcnt (kindP σ false) 48))), (8, .int (nI (zcnt (shutP σ) 48))), (7, .int (sumZ (enc σ) 96 48)), (6, .int (nI (zcnt (zO σ) 48))), (4, .long (zB (zL σ))), (2, .long (zB (zO σ))), (0, .ref x), (1, .int v)]) hx hb dL_holds_739 hl (by decide) rfl (fun ls hl => ?_)
                            refine lv_iinc (v := nI (f9 + k + 1)) (lv' := [(23, .int (nI (f9 + k + 1))), (21, .long (zB (zO (rowN f9 (k + 1) σ)))), (20, .int (nI t9)), (19, .int (nI f9)), (15, .long (zB (alP (zO σ) 48))), (13, .long (zB (clP (zO σ) 48))), (12, .int (nI 1)), (11, .float (fS (zO σ) 48)), (10, .int (nI (zcnt (kindP σ true) 48))), (9, .int (nI (zcnt (kindP σ false) 48))), (8, .int (nI (zcnt (shutP σ) 48))), (7, .int (sumZ (enc σ) 96 48)), (6, .int (nI (zcnt (zO σ) 48))), (4, .long (zB (zL σ))), (2, .long (zB (zO σ))), (0, .ref x), (1, .int v)]) hx hb dL_holds_741 hl (k := 1) rfl (nI_add (f9 + k) 1) (by decide) rfl (fun ls hl => ?_)
                            rw [show f9 + k + 1 = f9 + (k + 1) from rfl] at hl
                            refine lv_goto (tgt := 704) hx hb dL_holds_744 (by decide) ?_
                            exact ih_64 (k + 1) (by omega) _ _ _ (by omega) (kW.perm w [0, 1, 2, 3, 4] rfl rfl) (lv_sub hl [0, 1, 2, 3, 4, 5, 6, 7, 8, 9, 10, 11, 12, 13, 14, 15, 16] rfl)
                          · have h_113 : (zS σ (f9 + k)) = true := bI_o.mp h_113
                            refine lv_lconst (v := 0) hx hb dL_holds_722 (by decide) ?_
                            refine lv_goto (tgt := 738) hx hb dL_holds_723 (by decide) ?_
                            refine lv_lxor hx hb dL_holds_738 ?_
                            refine ktopl (y := zB (zO (rowN f9 (k + 1) σ))) (by rw [row_skip h_113]; exact xor_0 _) ?_
                            refine lv_lstore (lv' := [(21, .long (zB (zO (rowN f9 (k + 1) σ)))), (23, .int (nI (f9 + k))), (20, .int (nI t9)), (19, .int (nI f9)), (15, .long (zB (alP (zO σ) 48))), (13, .long (zB (clP (zO σ) 48))), (12, .int (nI 1)), (11, .float (fS (zO σ) 48)), (10, .int (nI (zcnt (kindP σ true) 48))), (9, .int (nI (zcnt (kindP σ false) 48))), (8, .int (nI (zcnt (shutP σ) 48))), (7, .int (sumZ (enc σ) 96 48)), (6, .int (nI (zcnt (zO σ) 48))), (4, .long (zB (zL σ))), (2, .long (zB (zO σ))), (0, .ref x), (1, .int v)]) hx hb dL_holds_739 hl (by decide) rfl (fun ls hl => ?_)
                            refine lv_iinc (v := nI (f9 + k + 1)) (lv' := [(23, .int (nI (f9 + k + 1))), (21, .long (zB (zO (rowN f9 (k + 1) σ)))), (20, .int (nI t9)), (19, .int (nI f9)), (15, .long (zB (alP (zO σ) 48))), (13, .long (zB (clP (zO σ) 48))), (12, .int (nI 1)), (11, .float (fS (zO σ) 48)), (10, .int (nI (zcnt (kindP σ true) 48))), (9, .int (nI (zcnt (kindP σ false) 48))), (8, .int (nI (zcnt (shutP σ) 48))), (7, .int (sumZ (enc σ) 96 48)), (6, .int (nI (zcnt (zO σ) 48))), (4, .long (zB (zL σ))), (2, .long (zB (zO σ))), (0, .ref x), (1, .int v)]) hx hb dL_holds_741 hl (k := 1) rfl (nI_add (f9 + k) 1) (by decide) rfl (fun ls hl => ?_)
                            rw [show f9 + k + 1 = f9 + (k + 1) from rfl] at hl
                            refine lv_goto (tgt := 704) hx hb dL_holds_744 (by decide) ?_
                            exact ih_64 (k + 1) (by omega) _ _ _ (by omega) (kW.perm w [0, 1, 2, 3, 4] rfl rfl) (lv_sub hl [0, 1, 2, 3, 4, 5, 6, 7, 8, 9, 10, 11, 12, 13, 14, 15, 16] rfl)
                    exact LP_64 _ 0 (by omega) _ _ _ (Nat.lt_succ_self _) (kW.perm w [0, 1, 2, 3, 4] rfl rfl) (lv_sub hl [0, 1, 2, 3, 6, 7, 8, 9, 10, 11, 12, 13, 14, 15, 16, 17, 18] rfl)
                  · have h_58 : k + 1 < 49 := (kc_ge_f (by omega) (by omega)).mp h_58
                    have hol := opF_le σ (k + 1)
                    have hol2 := opF_le σ (bsN σ)
                    have hbl := bsN_le σ (k := k + 1) (by omega) (by omega)
                    refine lv_iload hx hb dL_holds_612 (lv_at hl 5 rfl) ?_
                    refine lv_if_eq (tgt := 670) hx hb dL_holds_614 (by decide) (fun h_116 => ?_) (fun h_116 => ?_)
                    · exact absurd h_116 (by decide)
                    refine lv_lload_n hx hb dL_holds_617 rfl (lv_at hl 13 rfl) ?_
                    refine lv_iload hx hb dL_holds_618 (lv_at hl 0 rfl) ?_
                    refine kcalll (wc := []) (wr := [cX x nw sn tk hs tx tr, cR nw na nb σ, xI g na 49 (zT σ), xI g nb 49 (zI σ), cH hs hq kn]) (wn := fun (u : Unit) => [cX x nw sn tk hs tx tr, cR nw na nb σ, xI g na 49 (zT σ), xI g nb 49 (zI σ), cH hs hq kn]) F w [] [0, 1, 2, 3, 4] [0, 1, 2, 3, 4] rfl rfl rfl (fun _ => rfl)
                      (fun hp => va_runS (As := [.int (nI (k + 1))]) (rest := [.long (zB (zO σ))]) F.1 (kL_turned l g (k + 1) H.size (⟨by omega, by omega⟩)) (va_cwS 1 hts gL_holds_L_turned rfl rfl rfl hd_L_turned ⟨Nat.le_of_ble_eq_true rfl, Nat.le_of_ble_eq_true rfl⟩) hp rfl rfl hl.1 rfl (lv_room (Nat.le_of_ble_eq_true rfl)) dL_holds_620 ⟨by show _ ≤ (103 : Nat); omega, by show _ ≤ (618 : Nat); omega⟩)
                      (fun r_117 _ H locs h_118 w => ?_)
                    subst h_118
                    refine lv_lload hx hb dL_holds_623 (lv_at hl 12 rfl) ?_
                    refine lv_ldc2 (v := (-1)) hx hb F.1.2.2.2.1 (hts (.constantLong RL 175 (-1)) (by decide +kernel)) dL_holds_625 ?_
                    refine lv_lxor hx hb dL_holds_628 ?_
                    refine lv_land hx hb dL_holds_629 ?_
                    refine ktopl (y := zB (turnP σ (k + 1))) (turnP_b) ?_
                    refine lv_lxor hx hb dL_holds_630 ?_
                    refine ktopl (y := zB (opP σ (k + 1))) (opP_b _ _) ?_
                    refine kcalli (wc := []) (wr := [cX x nw sn tk hs tx tr, cR nw na nb σ, xI g na 49 (zT σ), xI g nb 49 (zI σ), cH hs hq kn]) (wn := fun (u : Unit) => [cX x nw sn tk hs tx tr, cR nw na nb σ, xI g na 49 (zT σ), xI g nb 49 (zI σ), cH hs hq kn]) F w [] [0, 1, 2, 3, 4] [0, 1, 2, 3, 4] rfl rfl rfl (fun _ => rfl)
                      (fun hp => va_runS (As := [.long (zB (opP σ (k + 1)))]) (rest := []) F.1 (kL_ones l g (opP σ (k + 1)) H.size ) (va_cwS 1 hts gL_holds_L_ones rfl rfl rfl hd_L_ones ⟨Nat.le_of_ble_eq_true rfl, Nat.le_of_ble_eq_true rfl⟩) hp rfl rfl hl.1 rfl (lv_room (Nat.le_of_ble_eq_true rfl)) dL_holds_631 ⟨by show _ ≤ (103 : Nat); omega, by show _ ≤ (618 : Nat); omega⟩)
                      (fun r_119 _ H locs h_120 w => ?_)
                    subst h_120
                    refine ktopi (y := nI (opF σ (k + 1))) (rfl) ?_
                    refine lv_istore (lv' := [(20, .int (nI (opF σ (k + 1)))), (19, .int (nI (k + 1))), (18, .int (nI (opF σ (bsN σ)))), (17, .int (nI (bsN σ))), (15, .long (zB (alP (zO σ) 48))), (13, .long (zB (clP (zO σ) 48))), (12, .int (nI 1)), (11, .float (fS (zO σ) 48)), (10, .int (nI (zcnt (kindP σ true) 48))), (9, .int (nI (zcnt (kindP σ false) 48))), (8, .int (nI (zcnt (shutP σ) 48))), (7, .int (sumZ (enc σ) 96 48)), (6, .int (nI (zcnt (zO σ) 48))), (4, .long (zB (zL σ))), (2, .long (zB (zO σ))), (0, .ref x), (1, .int v)]) hx hb dL_holds_634 hl (by decide) rfl (fun ls hl => ?_)
                    refine lv_iload hx hb dL_holds_636 (lv_at hl 0 rfl) ?_
                    refine lv_iload hx hb dL_holds_638 (lv_at hl 2 rfl) ?_
                    refine lv_icmp_lt (tgt := 661) hx hb dL_holds_640 (by decide) (fun h_121 => ?_) (fun h_121 => ?_)
                    · exact absurd ((kc_lt_t (by omega) (by omega)).mp h_121) (by omega)
                    refine lv_iload hx hb dL_holds_643 (lv_at hl 1 rfl) ?_
                    refine lv_iload hx hb dL_holds_645 (lv_at hl 3 rfl) ?_
                    refine lv_icmp_ge (tgt := 657) hx hb dL_holds_647 (by decide) (fun h_122 => ?_) (fun h_122 => ?_)
                    · have h_122 : k + 1 ≥ bsN σ := (kc_ge_t (by omega) (by omega)).mp h_122
                      refine lv_iconst (v := nI 1) hx hb dL_holds_657 (by decide) ?_
                      refine lv_goto (tgt := 662) hx hb dL_holds_658 (by decide) ?_
                      refine lv_istore (lv' := [(12, .int (nI 1)), (20, .int (nI (opF σ (k + 1)))), (19, .int (nI (k + 1))), (18, .int (nI (opF σ (bsN σ)))), (17, .int (nI (bsN σ))), (15, .long (zB (alP (zO σ) 48))), (13, .long (zB (clP (zO σ) 48))), (11, .float (fS (zO σ) 48)), (10, .int (nI (zcnt (kindP σ true) 48))), (9, .int (nI (zcnt (kindP σ false) 48))), (8, .int (nI (zcnt (shutP σ) 48))), (7, .int (sumZ (enc σ) 96 48)), (6, .int (nI (zcnt (zO σ) 48))), (4, .long (zB (zL σ))), (2, .long (zB (zO σ))), (0, .ref x), (1, .int v)]) hx hb dL_holds_662 hl (by decide) rfl (fun ls hl => ?_)
                      refine lv_iinc (v := nI (k + 1 + 1)) (lv' := [(19, .int (nI (k + 1 + 1))), (12, .int (nI 1)), (20, .int (nI (opF σ (k + 1)))), (18, .int (nI (opF σ (bsN σ)))), (17, .int (nI (bsN σ))), (15, .long (zB (alP (zO σ) 48))), (13, .long (zB (clP (zO σ) 48))), (11, .float (fS (zO σ) 48)), (10, .int (nI (zcnt (kindP σ true) 48))), (9, .int (nI (zcnt (kindP σ false) 48))), (8, .int (nI (zcnt (shutP σ) 48))), (7, .int (sumZ (enc σ) 96 48)), (6, .int (nI (zcnt (zO σ) 48))), (4, .long (zB (zL σ))), (2, .long (zB (zO σ))), (0, .ref x), (1, .int v)]) hx hb dL_holds_664 hl (k := 2) rfl (nI_add (k + 1) 1) (by decide) rfl (fun ls hl => ?_)
                      refine lv_goto (tgt := 605) hx hb dL_holds_667 (by decide) ?_
                      exact ih_57 (k + 1) (by omega) _ _ _ (by omega) (kW.perm w [0, 1, 2, 3, 4] rfl rfl) (lv_sub hl [0, 3, 4, 5, 6, 1, 7, 8, 9, 10, 11, 12, 13, 14, 15, 16] rfl)
                    · have h_122 : k + 1 < bsN σ := (kc_ge_f (by omega) (by omega)).mp h_122
                      have hbt := bsN_lt σ (k := k + 1) (by omega) h_122
                      refine lv_iload hx hb dL_holds_650 (lv_at hl 0 rfl) ?_
                      refine lv_iload hx hb dL_holds_652 (lv_at hl 2 rfl) ?_
                      refine lv_icmp_le (tgt := 661) hx hb dL_holds_654 (by decide) (fun h_123 => ?_) (fun h_123 => ?_)
                      · exact absurd ((kc_le_t (by omega) (by omega)).mp h_123) (by omega)
                      refine lv_iconst (v := nI 1) hx hb dL_holds_657 (by decide) ?_
                      refine lv_goto (tgt := 662) hx hb dL_holds_658 (by decide) ?_
                      refine lv_istore (lv' := [(12, .int (nI 1)), (20, .int (nI (opF σ (k + 1)))), (19, .int (nI (k + 1))), (18, .int (nI (opF σ (bsN σ)))), (17, .int (nI (bsN σ))), (15, .long (zB (alP (zO σ) 48))), (13, .long (zB (clP (zO σ) 48))), (11, .float (fS (zO σ) 48)), (10, .int (nI (zcnt (kindP σ true) 48))), (9, .int (nI (zcnt (kindP σ false) 48))), (8, .int (nI (zcnt (shutP σ) 48))), (7, .int (sumZ (enc σ) 96 48)), (6, .int (nI (zcnt (zO σ) 48))), (4, .long (zB (zL σ))), (2, .long (zB (zO σ))), (0, .ref x), (1, .int v)]) hx hb dL_holds_662 hl (by decide) rfl (fun ls hl => ?_)
                      refine lv_iinc (v := nI (k + 1 + 1)) (lv' := [(19, .int (nI (k + 1 + 1))), (12, .int (nI 1)), (20, .int (nI (opF σ (k + 1)))), (18, .int (nI (opF σ (bsN σ)))), (17, .int (nI (bsN σ))), (15, .long (zB (alP (zO σ) 48))), (13, .long (zB (clP (zO σ) 48))), (11, .float (fS (zO σ) 48)), (10, .int (nI (zcnt (kindP σ true) 48))), (9, .int (nI (zcnt (kindP σ false) 48))), (8, .int (nI (zcnt (shutP σ) 48))), (7, .int (sumZ (enc σ) 96 48)), (6, .int (nI (zcnt (zO σ) 48))), (4, .long (zB (zL σ))), (2, .long (zB (zO σ))), (0, .ref x), (1, .int v)]) hx hb dL_holds_664 hl (k := 2) rfl (nI_add (k + 1) 1) (by decide) rfl (fun ls hl => ?_)
                      refine lv_goto (tgt := 605) hx hb dL_holds_667 (by decide) ?_
                      exact ih_57 (k + 1) (by omega) _ _ _ (by omega) (kW.perm w [0, 1, 2, 3, 4] rfl rfl) (lv_sub hl [0, 3, 4, 5, 6, 1, 7, 8, 9, 10, 11, 12, 13, 14, 15, 16] rfl)
              exact LP_57 _ 0 (by omega) _ _ _ (Nat.lt_succ_self _) (kW.perm w [0, 1, 2, 3, 4] rfl rfl) (lv_sub hl [0, 1, 2, 3, 4, 5, 6, 7, 8, 9, 10, 11, 12, 13, 14, 15] rfl)
            · have h_49 : k + 1 < 49 := (kc_ge_f (by omega) (by omega)).mp h_49
              refine lv_lload hx hb dL_holds_545 (lv_at hl 1 rfl) ?_
              refine lv_lload hx hb dL_holds_547 (lv_at hl 2 rfl) ?_
              refine lv_iload hx hb dL_holds_549 (lv_at hl 0 rfl) ?_
              refine lv_lshr hx hb dL_holds_551 rfl ?_
              refine lv_lconst (v := 1) hx hb dL_holds_552 (by decide) ?_
              refine lv_land hx hb dL_holds_553 ?_
              refine lv_lconst (v := 1) hx hb dL_holds_554 (by decide) ?_
              refine W.lcmp hx hb dL_holds_555 ?_
              refine lv_if_ne (tgt := 567) hx hb dL_holds_556 (by decide) (fun h_124 => ?_) (fun h_124 => ?_)
              · have hz : clP (zO σ) 48 (k + 1) = false := (zG_in (p := clP (zO σ) 48) (by omega) (by omega)).symm.trans (zm_hasL0 (by omega) h_124)
                refine lv_lconst (v := 0) hx hb dL_holds_567 (by decide) ?_
                refine lv_lxor hx hb dL_holds_568 ?_
                refine ktopl (y := zB (alP (zO σ) (k + 1))) (alP_f hz) ?_
                refine lv_lstore (lv' := [(15, .long (zB (alP (zO σ) (k + 1)))), (17, .int (nI (k + 1))), (13, .long (zB (clP (zO σ) 48))), (12, .int (nI 1)), (11, .float (fS (zO σ) 48)), (10, .int (nI (zcnt (kindP σ true) 48))), (9, .int (nI (zcnt (kindP σ false) 48))), (8, .int (nI (zcnt (shutP σ) 48))), (7, .int (sumZ (enc σ) 96 48)), (6, .int (nI (zcnt (zO σ) 48))), (4, .long (zB (zL σ))), (2, .long (zB (zO σ))), (0, .ref x), (1, .int v)]) hx hb dL_holds_569 hl (by decide) rfl (fun ls hl => ?_)
                refine lv_iinc (v := nI (k + 1 + 1)) (lv' := [(17, .int (nI (k + 1 + 1))), (15, .long (zB (alP (zO σ) (k + 1)))), (13, .long (zB (clP (zO σ) 48))), (12, .int (nI 1)), (11, .float (fS (zO σ) 48)), (10, .int (nI (zcnt (kindP σ true) 48))), (9, .int (nI (zcnt (kindP σ false) 48))), (8, .int (nI (zcnt (shutP σ) 48))), (7, .int (sumZ (enc σ) 96 48)), (6, .int (nI (zcnt (zO σ) 48))), (4, .long (zB (zL σ))), (2, .long (zB (zO σ))), (0, .ref x), (1, .int v)]) hx hb dL_holds_571 hl (k := 1) rfl (nI_add (k + 1) 1) (by decide) rfl (fun ls hl => ?_)
                refine lv_goto (tgt := 538) hx hb dL_holds_574 (by decide) ?_
                exact ih_48 (k + 1) (by omega) _ _ _ (by omega) (kW.perm w [0, 1, 2, 3, 4] rfl rfl) (lv_sub hl [0, 1, 2, 3, 4, 5, 6, 7, 8, 9, 10, 11, 12, 13] rfl)
              · have hz : clP (zO σ) 48 (k + 1) = true := (zG_in (p := clP (zO σ) 48) (by omega) (by omega)).symm.trans (zm_hasL1 (by omega) h_124)
                refine lv_iload hx hb dL_holds_559 (lv_at hl 0 rfl) ?_
                refine kcalll (wc := []) (wr := [cX x nw sn tk hs tx tr, cR nw na nb σ, xI g na 49 (zT σ), xI g nb 49 (zI σ), cH hs hq kn]) (wn := fun (u : Unit) => [cX x nw sn tk hs tx tr, cR nw na nb σ, xI g na 49 (zT σ), xI g nb 49 (zI σ), cH hs hq kn]) F w [] [0, 1, 2, 3, 4] [0, 1, 2, 3, 4] rfl rfl rfl (fun _ => rfl)
                  (fun hp => va_runS (As := [.int (nI (k + 1))]) (rest := [.long (zB (alP (zO σ) k))]) F.1 (kL_turned l g (k + 1) H.size (⟨by omega, by omega⟩)) (va_cwS 1 hts gL_holds_L_turned rfl rfl rfl hd_L_turned ⟨Nat.le_of_ble_eq_true rfl, Nat.le_of_ble_eq_true rfl⟩) hp rfl rfl hl.1 rfl (lv_room (Nat.le_of_ble_eq_true rfl)) dL_holds_561 ⟨by show _ ≤ (103 : Nat); omega, by show _ ≤ (618 : Nat); omega⟩)
                  (fun r_125 _ H locs h_126 w => ?_)
                subst h_126
                refine lv_goto (tgt := 568) hx hb dL_holds_564 (by decide) ?_
                refine lv_lxor hx hb dL_holds_568 ?_
                refine ktopl (y := zB (alP (zO σ) (k + 1))) (alP_t hz) ?_
                refine lv_lstore (lv' := [(15, .long (zB (alP (zO σ) (k + 1)))), (17, .int (nI (k + 1))), (13, .long (zB (clP (zO σ) 48))), (12, .int (nI 1)), (11, .float (fS (zO σ) 48)), (10, .int (nI (zcnt (kindP σ true) 48))), (9, .int (nI (zcnt (kindP σ false) 48))), (8, .int (nI (zcnt (shutP σ) 48))), (7, .int (sumZ (enc σ) 96 48)), (6, .int (nI (zcnt (zO σ) 48))), (4, .long (zB (zL σ))), (2, .long (zB (zO σ))), (0, .ref x), (1, .int v)]) hx hb dL_holds_569 hl (by decide) rfl (fun ls hl => ?_)
                refine lv_iinc (v := nI (k + 1 + 1)) (lv' := [(17, .int (nI (k + 1 + 1))), (15, .long (zB (alP (zO σ) (k + 1)))), (13, .long (zB (clP (zO σ) 48))), (12, .int (nI 1)), (11, .float (fS (zO σ) 48)), (10, .int (nI (zcnt (kindP σ true) 48))), (9, .int (nI (zcnt (kindP σ false) 48))), (8, .int (nI (zcnt (shutP σ) 48))), (7, .int (sumZ (enc σ) 96 48)), (6, .int (nI (zcnt (zO σ) 48))), (4, .long (zB (zL σ))), (2, .long (zB (zO σ))), (0, .ref x), (1, .int v)]) hx hb dL_holds_571 hl (k := 1) rfl (nI_add (k + 1) 1) (by decide) rfl (fun ls hl => ?_)
                refine lv_goto (tgt := 538) hx hb dL_holds_574 (by decide) ?_
                exact ih_48 (k + 1) (by omega) _ _ _ (by omega) (kW.perm w [0, 1, 2, 3, 4] rfl rfl) (lv_sub hl [0, 1, 2, 3, 4, 5, 6, 7, 8, 9, 10, 11, 12, 13] rfl)
        exact LP_48 _ 0 (by omega) _ _ _ (Nat.lt_succ_self _) (kW.perm w [0, 1, 2, 3, 4] rfl rfl) (lv_sub hl [0, 1, 2, 3, 4, 5, 6, 7, 8, 9, 10, 11, 12, 13] rfl)
      · have h_44 : j + 1 < 49 := (kc_ge_f (by omega) (by omega)).mp h_44
        refine lv_iload hx hb dL_holds_180 (lv_at hl 1 rfl) ?_
        refine lv_if_eq (tgt := 526) hx hb dL_holds_182 (by decide) (fun h_127 => ?_) (fun h_127 => ?_)
        · exact absurd h_127 (by decide)
        obtain ⟨kk, hk1, hk2, hk3⟩ := gB_n hg (by decide) (j + 1)
        refine lv_lload_n hx hb dL_holds_185 rfl (lv_at hl 9 rfl) ?_
        refine lv_iload hx hb dL_holds_186 (lv_at hl 0 rfl) ?_
        refine lv_lshr hx hb dL_holds_188 rfl ?_
        refine lv_lconst (v := 1) hx hb dL_holds_189 (by decide) ?_
        refine lv_land hx hb dL_holds_190 ?_
        refine lv_lconst (v := 1) hx hb dL_holds_191 (by decide) ?_
        refine W.lcmp hx hb dL_holds_192 ?_
        refine lv_if_ne (tgt := 200) hx hb dL_holds_193 (by decide) (fun h_128 => ?_) (fun h_128 => ?_)
        · have ho : zO σ (j + 1) = false := (zG_in (p := zO σ) (by omega) (by omega)).symm.trans (zm_hasL0 (by omega) h_128)
          refine lv_iconst (v := nI 0) hx hb dL_holds_200 (by decide) ?_
          refine lv_istore (lv' := [(14, .int (nI 0)), (13, .int (nI (j + 1))), (12, .int (nI 1)), (11, .float (fS (zO σ) j)), (10, .int (nI (zcnt (kindP σ true) j))), (9, .int (nI (zcnt (kindP σ false) j))), (8, .int (nI (zcnt (shutP σ) j))), (7, .int (sumZ (enc σ) 96 j)), (6, .int (nI (zcnt (zO σ) 48))), (4, .long (zB (zL σ))), (2, .long (zB (zO σ))), (0, .ref x), (1, .int v)]) hx hb dL_holds_201 hl (by decide) rfl (fun ls hl => ?_)
          rcases (show zF σ (j + 1) = false ∨ (zF σ (j + 1) = true ∧ zH σ (j + 1) = false) ∨ (zF σ (j + 1) = true ∧ zH σ (j + 1) = true) from by cases zF σ (j + 1) <;> cases zH σ (j + 1) <;> simp) with h_129 | h_129 | h_129
          · skip
            refine lv_aload_n hx hb dL_holds_203 rfl (lv_at hl 11 rfl) ?_
            refine lv_iload hx hb dL_holds_204 (lv_at hl 1 rfl) ?_
            refine kcalli (wc := [cX x nw sn tk hs tx tr, cR nw na nb σ, xI g na 49 (zT σ), xI g nb 49 (zI σ)]) (wr := [cH hs hq kn]) (wn := fun (u : Unit) => [cX x nw sn tk hs tx tr, cR nw na nb σ, xI g na 49 (zT σ), xI g nb 49 (zI σ), cH hs hq kn]) F w [0, 1, 2, 3] [4] [1, 2, 3, 4, 0] rfl rfl rfl (fun _ => rfl)
              (fun hp => vx_runSW (As := [.ref x, .int (nI (j + 1))]) (rest := []) F.1 (kL_thingAt l hnl g x nw sn tk hs tx tr na nb σ (j + 1) H.size (by omega)) (vx_cwSW 2 hts gL_holds_L_thingAt rfl rfl rfl hd_L_thingAt ⟨Nat.le_of_ble_eq_true rfl, Nat.le_of_ble_eq_true rfl⟩) hp rfl rfl hl.1 rfl (lv_room (Nat.le_of_ble_eq_true rfl)) dL_holds_206 ⟨by show _ ≤ (103 : Nat); omega, by show _ ≤ (618 : Nat); omega⟩)
              (fun r_130 _ H locs h_131 w => ?_)
            subst h_131
            refine ktopi (y := (-104)) (thV_f h_129) ?_
            have hf := h_129
            refine lv_istore (lv' := [(15, .int (-104)), (14, .int (nI 0)), (13, .int (nI (j + 1))), (12, .int (nI 1)), (11, .float (fS (zO σ) j)), (10, .int (nI (zcnt (kindP σ true) j))), (9, .int (nI (zcnt (kindP σ false) j))), (8, .int (nI (zcnt (shutP σ) j))), (7, .int (sumZ (enc σ) 96 j)), (6, .int (nI (zcnt (zO σ) 48))), (4, .long (zB (zL σ))), (2, .long (zB (zO σ))), (0, .ref x), (1, .int v)]) hx hb dL_holds_209 hl (by decide) rfl (fun ls hl => ?_)
            refine lv_lload_n hx hb dL_holds_211 rfl (lv_at hl 11 rfl) ?_
            refine lv_iload hx hb dL_holds_212 (lv_at hl 2 rfl) ?_
            refine lv_lshr hx hb dL_holds_214 rfl ?_
            refine lv_lstore (lv' := [(16, .long ((zB (zO σ)) >>> ((nI (j + 1)).toInt64 &&& 63))), (15, .int (-104)), (14, .int (nI 0)), (13, .int (nI (j + 1))), (12, .int (nI 1)), (11, .float (fS (zO σ) j)), (10, .int (nI (zcnt (kindP σ true) j))), (9, .int (nI (zcnt (kindP σ false) j))), (8, .int (nI (zcnt (shutP σ) j))), (7, .int (sumZ (enc σ) 96 j)), (6, .int (nI (zcnt (zO σ) 48))), (4, .long (zB (zL σ))), (2, .long (zB (zO σ))), (0, .ref x), (1, .int v)]) hx hb dL_holds_215 hl (by decide) rfl (fun ls hl => ?_)
            refine lv_iload hx hb dL_holds_217 (lv_at hl 9 rfl) ?_
            refine lv_aload_n hx hb dL_holds_219 rfl (lv_at hl 13 rfl) ?_
            refine lv_iload hx hb dL_holds_220 (lv_at hl 3 rfl) ?_
            refine kcalli (wc := [cX x nw sn tk hs tx tr, cR nw na nb σ, xI g na 49 (zT σ), xI g nb 49 (zI σ)]) (wr := [cH hs hq kn]) (wn := fun (u : Unit) => [cX x nw sn tk hs tx tr, cR nw na nb σ, xI g na 49 (zT σ), xI g nb 49 (zI σ), cH hs hq kn]) F w [0, 1, 2, 3] [4] [1, 2, 3, 4, 0] rfl rfl rfl (fun _ => rfl)
              (fun hp => va_runV (As := [.int (nI (j + 1))]) (rest := [.int (sumZ (enc σ) 96 j)]) F.1 (kX5_turnsOf_k l g x nw sn tk hs tx tr na nb σ (j + 1) H.size (by omega)) (cwV 1 hts gL_holds_X5_turnsOf rfl rfl rfl ⟨rfl, hd_X5_turnsOf⟩ ⟨Nat.le_of_ble_eq_true rfl, Nat.le_of_ble_eq_true rfl⟩) ⟨hp.1, va_recv F.2.2.2.1.1 w.1 (q0 := 0) (ci := 5) rfl rfl, hp.2⟩ rfl rfl hl.1 rfl (lv_room (Nat.le_of_ble_eq_true rfl)) dL_holds_222 ⟨by show _ ≤ (103 : Nat); omega, by show _ ≤ (618 : Nat); omega⟩)
              (fun r_132 _ H locs h_133 w => ?_)
            subst h_133
            refine lv_iadd hx hb dL_holds_225 ?_
            refine ktopi (y := sumZ (enc σ) 96 (j + 1)) (by rw [sumZ, enc_T (by omega) (by omega)]) ?_
            refine lv_istore (lv' := [(7, .int (sumZ (enc σ) 96 (j + 1))), (16, .long ((zB (zO σ)) >>> ((nI (j + 1)).toInt64 &&& 63))), (15, .int (-104)), (14, .int (nI 0)), (13, .int (nI (j + 1))), (12, .int (nI 1)), (11, .float (fS (zO σ) j)), (10, .int (nI (zcnt (kindP σ true) j))), (9, .int (nI (zcnt (kindP σ false) j))), (8, .int (nI (zcnt (shutP σ) j))), (6, .int (nI (zcnt (zO σ) 48))), (4, .long (zB (zL σ))), (2, .long (zB (zO σ))), (0, .ref x), (1, .int v)]) hx hb dL_holds_226 hl (by decide) rfl (fun ls hl => ?_)
            refine lv_fload hx hb dL_holds_228 (lv_at hl 6 rfl) ?_
            refine lv_iload hx hb dL_holds_230 (lv_at hl 3 rfl) ?_
            refine lv_if_eq (tgt := 243) hx hb dL_holds_232 (by decide) (fun h_134 => ?_) (fun h_134 => ?_)
            rotate_left 1
            · exact absurd rfl h_134
            refine lv_fconst0 hx hb dL_holds_243 ?_
            refine lv_fadd hx hb dL_holds_244 (vf32 (by rw [fS_0 (zO σ) (by omega)]; exact fS_ne (zO σ) (by omega))) ?_
            refine ktopf (y := fS (zO σ) (j + 1)) ((fS_0 (zO σ) (by omega)).trans (fS_f ho).symm) ?_
            refine lv_fstore (lv' := [(11, .float (fS (zO σ) (j + 1))), (7, .int (sumZ (enc σ) 96 (j + 1))), (16, .long ((zB (zO σ)) >>> ((nI (j + 1)).toInt64 &&& 63))), (15, .int (-104)), (14, .int (nI 0)), (13, .int (nI (j + 1))), (12, .int (nI 1)), (10, .int (nI (zcnt (kindP σ true) j))), (9, .int (nI (zcnt (kindP σ false) j))), (8, .int (nI (zcnt (shutP σ) j))), (6, .int (nI (zcnt (zO σ) 48))), (4, .long (zB (zL σ))), (2, .long (zB (zO σ))), (0, .ref x), (1, .int v)]) hx hb dL_holds_245 hl (by decide) rfl (fun ls hl => ?_)
            refine lv_iload hx hb dL_holds_247 (lv_at hl 9 rfl) ?_
            refine lv_iload hx hb dL_holds_249 (lv_at hl 3 rfl) ?_
            refine lv_if_lt (tgt := 263) hx hb dL_holds_251 (by decide) (fun h_135 => ?_) (fun h_135 => ?_)
            rotate_left 1
            · exact absurd (by decide) h_135
            refine lv_iconst (v := nI 0) hx hb dL_holds_263 (by decide) ?_
            refine lv_iadd hx hb dL_holds_264 ?_
            refine ktopi (y := nI (zcnt (shutP σ) j + 0)) (nI_add (zcnt (shutP σ) j) 0) ?_
            refine ktopi (y := nI (zcnt (shutP σ) (j + 1))) (by rw [zcnt_f (shut_f1 hf)]; rfl) ?_
            refine lv_istore (lv' := [(8, .int (nI (zcnt (shutP σ) (j + 1)))), (11, .float (fS (zO σ) (j + 1))), (7, .int (sumZ (enc σ) 96 (j + 1))), (16, .long ((zB (zO σ)) >>> ((nI (j + 1)).toInt64 &&& 63))), (15, .int (-104)), (14, .int (nI 0)), (13, .int (nI (j + 1))), (12, .int (nI 1)), (10, .int (nI (zcnt (kindP σ true) j))), (9, .int (nI (zcnt (kindP σ false) j))), (6, .int (nI (zcnt (zO σ) 48))), (4, .long (zB (zL σ))), (2, .long (zB (zO σ))), (0, .ref x), (1, .int v)]) hx hb dL_holds_265 hl (by decide) rfl (fun ls hl => ?_)
            refine lv_iload hx hb dL_holds_267 (lv_at hl 9 rfl) ?_
            refine lv_iload hx hb dL_holds_269 (lv_at hl 4 rfl) ?_
            refine lv_if_ne (tgt := 278) hx hb dL_holds_271 (by decide) (fun h_136 => ?_) (fun h_136 => ?_)
            rotate_left 1
            · exact absurd h_136 (by decide)
            refine lv_iconst (v := nI 0) hx hb dL_holds_278 (by decide) ?_
            refine lv_iadd hx hb dL_holds_279 ?_
            refine ktopi (y := nI (zcnt (kindP σ false) j + 0)) (nI_add (zcnt (kindP σ false) j) 0) ?_
            refine ktopi (y := nI (zcnt (kindP σ false) (j + 1))) (by rw [zcnt_f (kind_ff hf)]; rfl) ?_
            refine lv_istore (lv' := [(9, .int (nI (zcnt (kindP σ false) (j + 1)))), (8, .int (nI (zcnt (shutP σ) (j + 1)))), (11, .float (fS (zO σ) (j + 1))), (7, .int (sumZ (enc σ) 96 (j + 1))), (16, .long ((zB (zO σ)) >>> ((nI (j + 1)).toInt64 &&& 63))), (15, .int (-104)), (14, .int (nI 0)), (13, .int (nI (j + 1))), (12, .int (nI 1)), (10, .int (nI (zcnt (kindP σ true) j))), (6, .int (nI (zcnt (zO σ) 48))), (4, .long (zB (zL σ))), (2, .long (zB (zO σ))), (0, .ref x), (1, .int v)]) hx hb dL_holds_280 hl (by decide) rfl (fun ls hl => ?_)
            refine lv_iload hx hb dL_holds_282 (lv_at hl 9 rfl) ?_
            refine lv_iload hx hb dL_holds_284 (lv_at hl 5 rfl) ?_
            refine lv_iconst (v := nI 1) hx hb dL_holds_286 (by decide) ?_
            refine lv_icmp_ne (tgt := 294) hx hb dL_holds_287 (by decide) (fun h_137 => ?_) (fun h_137 => ?_)
            rotate_left 1
            · exact absurd h_137 (by decide)
            refine lv_iconst (v := nI 0) hx hb dL_holds_294 (by decide) ?_
            refine lv_iadd hx hb dL_holds_295 ?_
            refine ktopi (y := nI (zcnt (kindP σ true) j + 0)) (nI_add (zcnt (kindP σ true) j) 0) ?_
            refine ktopi (y := nI (zcnt (kindP σ true) (j + 1))) (by rw [zcnt_f (kind_ff hf)]; rfl) ?_
            refine lv_istore (lv' := [(10, .int (nI (zcnt (kindP σ true) (j + 1)))), (9, .int (nI (zcnt (kindP σ false) (j + 1)))), (8, .int (nI (zcnt (shutP σ) (j + 1)))), (11, .float (fS (zO σ) (j + 1))), (7, .int (sumZ (enc σ) 96 (j + 1))), (16, .long ((zB (zO σ)) >>> ((nI (j + 1)).toInt64 &&& 63))), (15, .int (-104)), (14, .int (nI 0)), (13, .int (nI (j + 1))), (12, .int (nI 1)), (6, .int (nI (zcnt (zO σ) 48))), (4, .long (zB (zL σ))), (2, .long (zB (zO σ))), (0, .ref x), (1, .int v)]) hx hb dL_holds_296 hl (by decide) rfl (fun ls hl => ?_)
            refine lv_aload_n hx hb dL_holds_298 rfl (lv_at hl 13 rfl) ?_
            refine lv_iload hx hb dL_holds_299 (lv_at hl 8 rfl) ?_
            refine kcalli (wc := [cX x nw sn tk hs tx tr, cR nw na nb σ, xI g na 49 (zT σ), xI g nb 49 (zI σ)]) (wr := [cH hs hq kn]) (wn := fun (u : Unit) => [cX x nw sn tk hs tx tr, cR nw na nb σ, xI g na 49 (zT σ), xI g nb 49 (zI σ), cH hs hq kn]) F w [0, 1, 2, 3] [4] [1, 2, 3, 4, 0] rfl rfl rfl (fun _ => rfl)
              (fun hp => va_runV (As := [.int (nI (j + 1))]) (rest := []) F.1 (kX5_isOpen_k l g x nw sn tk hs tx tr na nb σ (j + 1) H.size (by omega)) (cwV 1 hts gL_holds_X5_isOpen rfl rfl rfl ⟨rfl, hd_X5_isOpen⟩ ⟨Nat.le_of_ble_eq_true rfl, Nat.le_of_ble_eq_true rfl⟩) ⟨hp.1, va_recv F.2.2.2.1.1 w.1 (q0 := 0) (ci := 5) rfl rfl, hp.2⟩ rfl rfl hl.1 rfl (lv_room (Nat.le_of_ble_eq_true rfl)) dL_holds_301 ⟨by show _ ≤ (103 : Nat); omega, by show _ ≤ (618 : Nat); omega⟩)
              (fun r_138 _ H locs h_139 w => ?_)
            subst h_139
            refine ktopi (y := nI 0) (by rw [ho]; rfl) ?_
            refine lv_iload hx hb dL_holds_304 (lv_at hl 7 rfl) ?_
            refine lv_icmp_ne (tgt := 517) hx hb dL_holds_306 (by decide) (fun h_140 => ?_) (fun h_140 => ?_)
            · exact absurd rfl h_140
            refine lv_aload_n hx hb dL_holds_309 rfl (lv_at hl 13 rfl) ?_
            refine lv_iload hx hb dL_holds_310 (lv_at hl 8 rfl) ?_
            refine kcalli (wc := [cX x nw sn tk hs tx tr, cR nw na nb σ, xI g na 49 (zT σ), xI g nb 49 (zI σ)]) (wr := [cH hs hq kn]) (wn := fun (u : Unit) => [cX x nw sn tk hs tx tr, cR nw na nb σ, xI g na 49 (zT σ), xI g nb 49 (zI σ), cH hs hq kn]) F w [0, 1, 2, 3] [4] [1, 2, 3, 4, 0] rfl rfl rfl (fun _ => rfl)
              (fun hp => va_runV (As := [.int (nI (j + 1))]) (rest := []) F.1 (kX5_turnsOf_k l g x nw sn tk hs tx tr na nb σ (j + 1) H.size (by omega)) (cwV 1 hts gL_holds_X5_turnsOf rfl rfl rfl ⟨rfl, hd_X5_turnsOf⟩ ⟨Nat.le_of_ble_eq_true rfl, Nat.le_of_ble_eq_true rfl⟩) ⟨hp.1, va_recv F.2.2.2.1.1 w.1 (q0 := 0) (ci := 5) rfl rfl, hp.2⟩ rfl rfl hl.1 rfl (lv_room (Nat.le_of_ble_eq_true rfl)) dL_holds_312 ⟨by show _ ≤ (103 : Nat); omega, by show _ ≤ (618 : Nat); omega⟩)
              (fun r_141 _ H locs h_142 w => ?_)
            subst h_142
            refine ktopi (y := nI kk) (hk2) ?_
            refine lv_if_lt (tgt := 517) hx hb dL_holds_315 (by decide) (fun h_143 => ?_) (fun h_143 => ?_)
            · exact absurd h_143 (nI_nn hk1)
            refine lv_aload_n hx hb dL_holds_318 rfl (lv_at hl 13 rfl) ?_
            refine lv_iload hx hb dL_holds_319 (lv_at hl 8 rfl) ?_
            refine kcalli (wc := [cX x nw sn tk hs tx tr, cR nw na nb σ, xI g na 49 (zT σ), xI g nb 49 (zI σ)]) (wr := [cH hs hq kn]) (wn := fun (u : Unit) => [cX x nw sn tk hs tx tr, cR nw na nb σ, xI g na 49 (zT σ), xI g nb 49 (zI σ), cH hs hq kn]) F w [0, 1, 2, 3] [4] [1, 2, 3, 4, 0] rfl rfl rfl (fun _ => rfl)
              (fun hp => va_runV (As := [.int (nI (j + 1))]) (rest := []) F.1 (kX5_turnsOf_k l g x nw sn tk hs tx tr na nb σ (j + 1) H.size (by omega)) (cwV 1 hts gL_holds_X5_turnsOf rfl rfl rfl ⟨rfl, hd_X5_turnsOf⟩ ⟨Nat.le_of_ble_eq_true rfl, Nat.le_of_ble_eq_true rfl⟩) ⟨hp.1, va_recv F.2.2.2.1.1 w.1 (q0 := 0) (ci := 5) rfl rfl, hp.2⟩ rfl rfl hl.1 rfl (lv_room (Nat.le_of_ble_eq_true rfl)) dL_holds_321 ⟨by show _ ≤ (103 : Nat); omega, by show _ ≤ (618 : Nat); omega⟩)
              (fun r_144 _ H locs h_145 w => ?_)
            subst h_145
            refine ktopi (y := nI kk) (hk2) ?_
            refine lv_iconst (v := nI 2) hx hb dL_holds_324 (by decide) ?_
            refine lv_irem hx hb dL_holds_325 ((kc0_eq_f (by omega)).mpr (by omega)) ?_
            refine ktopi (y := nI (kk % 2)) (pk_rem (a := kk) (d := 2) (by omega) (by omega) (by omega)) ?_
            refine ktopi (y := nI 0) (by rw [ho] at hk3; have h8 := of_decide_eq_false hk3.symm; exact congrArg nI (by omega)) ?_
            refine lv_iload hx hb dL_holds_326 (lv_at hl 7 rfl) ?_
            refine lv_if_eq (tgt := 335) hx hb dL_holds_328 (by decide) (fun h_146 => ?_) (fun h_146 => ?_)
            rotate_left 1
            · exact absurd rfl h_146
            refine lv_iconst (v := nI 0) hx hb dL_holds_335 (by decide) ?_
            refine lv_icmp_ne (tgt := 517) hx hb dL_holds_336 (by decide) (fun h_147 => ?_) (fun h_147 => ?_)
            · exact absurd rfl h_147
            obtain ⟨n1, n2, n3, n4⟩ := nxN_s (zO σ) (show j + 1 ≤ 48 by omega)
            have JN_148 : ∀   (H : Heap) (locs : List Loc) (ls : Array Slot), kW g A s [cX x nw sn tk hs tx tr, cR nw na nb σ, xI g na 49 (zT σ), xI g nb 49 (zI σ), cH hs hq kn] H locs → lv_has ls 24 [(10, .int (nI (zcnt (kindP σ true) (j + 1)))), (9, .int (nI (zcnt (kindP σ false) (j + 1)))), (8, .int (nI (zcnt (shutP σ) (j + 1)))), (11, .float (fS (zO σ) (j + 1))), (7, .int (sumZ (enc σ) 96 (j + 1))), (15, .int (-104)), (14, .int (nI 0)), (13, .int (nI (j + 1))), (12, .int (nI 1)), (6, .int (nI (zcnt (zO σ) 48))), (4, .long (zB (zL σ))), (2, .long (zB (zO σ))), (0, .ref x), (1, .int v)] → W p l e rmL_holds s m args below meth c H locs (7 + 2 * j + 1 + 1) (42 + 12 * j + 6 + 6) Q (F0 m 422 ls []) := by
              intro   H locs ls w hl
              refine lv_aload_n hx hb dL_holds_422 rfl (lv_at hl 12 rfl) ?_
              refine lv_iload hx hb dL_holds_423 (lv_at hl 7 rfl) ?_
              refine lv_iconst (v := nI 0) hx hb dL_holds_425 (by decide) ?_
              refine ktopi (y := bI false) (by decide) ?_
              refine kcalli (wc := [cX x nw sn tk hs tx tr, cR nw na nb σ, xI g na 49 (zT σ), xI g nb 49 (zI σ)]) (wr := [cH hs hq kn]) (wn := fun (u : Unit) => [cX x nw sn tk hs tx tr, cR nw na nb σ, xI g na 49 (zT σ), xI g nb 49 (zI σ), cH hs hq kn]) F w [0, 1, 2, 3] [4] [1, 2, 3, 4, 0] rfl rfl rfl (fun _ => rfl)
                (fun hp => va_runV (As := [.int (nI (j + 1)), .int (bI false)]) (rest := []) F.1 (kX5_whyNot_k l g x nw sn tk hs tx tr na nb σ (j + 1) false H.size (⟨by omega, by omega⟩)) (cwV 2 hts gL_holds_X5_whyNot rfl rfl rfl ⟨rfl, hd_X5_whyNot⟩ ⟨Nat.le_of_ble_eq_true rfl, Nat.le_of_ble_eq_true rfl⟩) ⟨hp.1, va_recv F.2.2.2.1.1 w.1 (q0 := 0) (ci := 5) rfl rfl, hp.2⟩ rfl rfl hl.1 rfl (lv_room (Nat.le_of_ble_eq_true rfl)) dL_holds_426 ⟨by show _ ≤ (103 : Nat); omega, by show _ ≤ (618 : Nat); omega⟩)
                (fun r_149 _ H locs h_150 w => ?_)
              subst h_150
              refine lv_iload hx hb dL_holds_429 (lv_at hl 6 rfl) ?_
              refine lv_if_ne (tgt := 438) hx hb dL_holds_431 (by decide) (fun h_151 => ?_) (fun h_151 => ?_)
              · exact absurd rfl h_151
              refine lv_iconst (v := nI 1) hx hb dL_holds_434 (by decide) ?_
              refine lv_goto (tgt := 468) hx hb dL_holds_435 (by decide) ?_
              refine lv_icmp_ne (tgt := 517) hx hb dL_holds_468 (by decide) (fun h_152 => ?_) (fun h_152 => ?_)
              · exact absurd (congrArg nI (reas_1 ho)) h_152
              refine lv_aload_n hx hb dL_holds_471 rfl (lv_at hl 12 rfl) ?_
              refine lv_iload hx hb dL_holds_472 (lv_at hl 7 rfl) ?_
              refine lv_iconst (v := nI 1) hx hb dL_holds_474 (by decide) ?_
              refine ktopi (y := bI true) (by decide) ?_
              refine kcalli (wc := [cX x nw sn tk hs tx tr, cR nw na nb σ, xI g na 49 (zT σ), xI g nb 49 (zI σ)]) (wr := [cH hs hq kn]) (wn := fun (u : Unit) => [cX x nw sn tk hs tx tr, cR nw na nb σ, xI g na 49 (zT σ), xI g nb 49 (zI σ), cH hs hq kn]) F w [0, 1, 2, 3] [4] [1, 2, 3, 4, 0] rfl rfl rfl (fun _ => rfl)
                (fun hp => va_runV (As := [.int (nI (j + 1)), .int (bI true)]) (rest := []) F.1 (kX5_whyNot_k l g x nw sn tk hs tx tr na nb σ (j + 1) true H.size (⟨by omega, by omega⟩)) (cwV 2 hts gL_holds_X5_whyNot rfl rfl rfl ⟨rfl, hd_X5_whyNot⟩ ⟨Nat.le_of_ble_eq_true rfl, Nat.le_of_ble_eq_true rfl⟩) ⟨hp.1, va_recv F.2.2.2.1.1 w.1 (q0 := 0) (ci := 5) rfl rfl, hp.2⟩ rfl rfl hl.1 rfl (lv_room (Nat.le_of_ble_eq_true rfl)) dL_holds_475 ⟨by show _ ≤ (103 : Nat); omega, by show _ ≤ (618 : Nat); omega⟩)
                (fun r_153 _ H locs h_154 w => ?_)
              subst h_154
              refine lv_iload hx hb dL_holds_478 (lv_at hl 6 rfl) ?_
              refine lv_if_ne (tgt := 487) hx hb dL_holds_480 (by decide) (fun h_155 => ?_) (fun h_155 => ?_)
              · exact absurd rfl h_155
              refine lv_iconst (v := nI 1) hx hb dL_holds_483 (by decide) ?_
              refine lv_goto (tgt := 510) hx hb dL_holds_484 (by decide) ?_
              refine lv_icmp_ne (tgt := 517) hx hb dL_holds_510 (by decide) (fun h_156 => ?_) (fun h_156 => ?_)
              · exact absurd (congrArg nI (reas_1 ho)) h_156
              refine lv_iconst (v := nI 1) hx hb dL_holds_513 (by decide) ?_
              refine lv_goto (tgt := 518) hx hb dL_holds_514 (by decide) ?_
              refine lv_istore (lv' := [(12, .int (nI 1)), (10, .int (nI (zcnt (kindP σ true) (j + 1)))), (9, .int (nI (zcnt (kindP σ false) (j + 1)))), (8, .int (nI (zcnt (shutP σ) (j + 1)))), (11, .float (fS (zO σ) (j + 1))), (7, .int (sumZ (enc σ) 96 (j + 1))), (15, .int (-104)), (14, .int (nI 0)), (13, .int (nI (j + 1))), (6, .int (nI (zcnt (zO σ) 48))), (4, .long (zB (zL σ))), (2, .long (zB (zO σ))), (0, .ref x), (1, .int v)]) hx hb dL_holds_518 hl (by decide) rfl (fun ls hl => ?_)
              refine lv_iinc (v := nI (j + 1 + 1)) (lv' := [(13, .int (nI (j + 1 + 1))), (12, .int (nI 1)), (10, .int (nI (zcnt (kindP σ true) (j + 1)))), (9, .int (nI (zcnt (kindP σ false) (j + 1)))), (8, .int (nI (zcnt (shutP σ) (j + 1)))), (11, .float (fS (zO σ) (j + 1))), (7, .int (sumZ (enc σ) 96 (j + 1))), (15, .int (-104)), (14, .int (nI 0)), (6, .int (nI (zcnt (zO σ) 48))), (4, .long (zB (zL σ))), (2, .long (zB (zO σ))), (0, .ref x), (1, .int v)]) hx hb dL_holds_520 hl (k := 8) rfl (nI_add (j + 1) 1) (by decide) rfl (fun ls hl => ?_)
              refine lv_goto (tgt := 173) hx hb dL_holds_523 (by decide) ?_
              refine W.widen (k := 7 + 2 * (j + 1)) (n := 42 + 12 * (j + 1)) (by omega) (by omega) ?_
              exact ih_43 (j + 1) (by omega) _ _ _ (by omega) (kW.perm w [0, 1, 2, 3, 4] rfl rfl) (lv_sub hl [0, 1, 5, 2, 3, 4, 6, 9, 10, 11, 12, 13] rfl)
            refine lv_aload_n hx hb dL_holds_339 rfl (lv_at hl 13 rfl) ?_
            refine lv_iload hx hb dL_holds_340 (lv_at hl 8 rfl) ?_
            refine kcalli (wc := [cX x nw sn tk hs tx tr, cR nw na nb σ, xI g na 49 (zT σ), xI g nb 49 (zI σ)]) (wr := [cH hs hq kn]) (wn := fun (u : Unit) => [cX x nw sn tk hs tx tr, cR nw na nb σ, xI g na 49 (zT σ), xI g nb 49 (zI σ), cH hs hq kn]) F w [0, 1, 2, 3] [4] [1, 2, 3, 4, 0] rfl rfl rfl (fun _ => rfl)
              (fun hp => vx_runSW (As := [.ref x, .int (nI (j + 1))]) (rest := []) F.1 (kL_nextOpen l hnl g x nw sn tk hs tx tr na nb σ (j + 1) H.size (⟨by omega, by omega⟩)) (vx_cwSW 2 hts gL_holds_L_nextOpen rfl rfl rfl hd_L_nextOpen ⟨Nat.le_of_ble_eq_true rfl, Nat.le_of_ble_eq_true rfl⟩) hp rfl rfl hl.1 rfl (lv_room (Nat.le_of_ble_eq_true rfl)) dL_holds_342 ⟨by show _ ≤ (103 : Nat); omega, by show _ ≤ (618 : Nat); omega⟩)
              (fun r_157 _ H locs h_158 w => ?_)
            subst h_158
            rcases (show nxN (zO σ) (j + 1) < 49 ∨ ¬ nxN (zO σ) (j + 1) < 49 from Decidable.em _) with h_159 | h_159
            · skip
              refine ktopi (y := nI (nxN (zO σ) (j + 1))) (if_pos h_159) ?_
              refine lv_bipush (v := (-104)) hx hb dL_holds_345 (by decide) ?_
              refine lv_icmp_ne (tgt := 354) hx hb dL_holds_347 (by decide) (fun h_160 => ?_) (fun h_160 => ?_)
              rotate_left 1
              · exact absurd h_160 (nI_m104 (by omega))
              refine lv_iconst (v := nI 0) hx hb dL_holds_354 (by decide) ?_
              refine lv_lload hx hb dL_holds_355 (lv_at hl 5 rfl) ?_
              refine lv_lconst (v := 0) hx hb dL_holds_357 (by decide) ?_
              refine W.lcmp hx hb dL_holds_358 ?_
              refine lv_if_ne (tgt := 366) hx hb dL_holds_359 (by decide) (fun h_161 => ?_) (fun h_161 => ?_)
              rotate_left 1
              · exact absurd (lgc_eq.mp h_161) (nx_yes (by omega) (by omega) h_159)
              refine lv_iconst (v := nI 0) hx hb dL_holds_366 (by decide) ?_
              refine lv_icmp_ne (tgt := 517) hx hb dL_holds_367 (by decide) (fun h_162 => ?_) (fun h_162 => ?_)
              · exact absurd rfl h_162
              refine lv_lload hx hb dL_holds_370 (lv_at hl 5 rfl) ?_
              refine lv_lconst (v := 0) hx hb dL_holds_372 (by decide) ?_
              refine W.lcmp hx hb dL_holds_373 ?_
              refine lv_if_eq (tgt := 422) hx hb dL_holds_374 (by decide) (fun h_163 => ?_) (fun h_163 => ?_)
              · exact absurd (lgc_eq.mp h_163) (nx_yes (by omega) (by omega) h_159)
              refine lv_aload_n hx hb dL_holds_377 rfl (lv_at hl 13 rfl) ?_
              refine lv_iload hx hb dL_holds_378 (lv_at hl 8 rfl) ?_
              refine kcalli (wc := [cX x nw sn tk hs tx tr, cR nw na nb σ, xI g na 49 (zT σ), xI g nb 49 (zI σ)]) (wr := [cH hs hq kn]) (wn := fun (u : Unit) => [cX x nw sn tk hs tx tr, cR nw na nb σ, xI g na 49 (zT σ), xI g nb 49 (zI σ), cH hs hq kn]) F w [0, 1, 2, 3] [4] [1, 2, 3, 4, 0] rfl rfl rfl (fun _ => rfl)
                (fun hp => va_runV (As := [.int (nI (j + 1))]) (rest := []) F.1 (kX5_nextOpen_k l g x nw sn tk hs tx tr na nb σ (j + 1) (nxN (zO σ) (j + 1)) H.size (⟨by omega, by omega⟩) (⟨n1, by omega⟩) n3 (n4 h_159)) (cwV 1 hts gL_holds_X5_nextOpen rfl rfl rfl ⟨rfl, hd_X5_nextOpen⟩ ⟨Nat.le_of_ble_eq_true rfl, Nat.le_of_ble_eq_true rfl⟩) ⟨hp.1, va_recv F.2.2.2.1.1 w.1 (q0 := 0) (ci := 5) rfl rfl, hp.2⟩ rfl rfl hl.1 rfl (lv_room (Nat.le_of_ble_eq_true rfl)) dL_holds_380 ⟨by show _ ≤ (103 : Nat); omega, by show _ ≤ (618 : Nat); omega⟩)
                (fun r_164 _ H locs h_165 w => ?_)
              subst h_165
              refine lv_iload hx hb dL_holds_383 (lv_at hl 8 rfl) ?_
              refine lv_icmp_lt (tgt := 517) hx hb dL_holds_385 (by decide) (fun h_166 => ?_) (fun h_166 => ?_)
              · exact absurd ((kc_lt_t (by omega) (by omega)).mp h_166) (by omega)
              refine lv_lload hx hb dL_holds_388 (lv_at hl 5 rfl) ?_
              refine lv_lconst (v := 1) hx hb dL_holds_390 (by decide) ?_
              refine lv_aload_n hx hb dL_holds_391 rfl (lv_at hl 13 rfl) ?_
              refine lv_iload hx hb dL_holds_392 (lv_at hl 8 rfl) ?_
              refine kcalli (wc := [cX x nw sn tk hs tx tr, cR nw na nb σ, xI g na 49 (zT σ), xI g nb 49 (zI σ)]) (wr := [cH hs hq kn]) (wn := fun (u : Unit) => [cX x nw sn tk hs tx tr, cR nw na nb σ, xI g na 49 (zT σ), xI g nb 49 (zI σ), cH hs hq kn]) F w [0, 1, 2, 3] [4] [1, 2, 3, 4, 0] rfl rfl rfl (fun _ => rfl)
                (fun hp => va_runV (As := [.int (nI (j + 1))]) (rest := [.long 1, .long ((zB (zO σ)) >>> ((nI (j + 1)).toInt64 &&& 63))]) F.1 (kX5_nextOpen_k l g x nw sn tk hs tx tr na nb σ (j + 1) (nxN (zO σ) (j + 1)) H.size (⟨by omega, by omega⟩) (⟨n1, by omega⟩) n3 (n4 h_159)) (cwV 1 hts gL_holds_X5_nextOpen rfl rfl rfl ⟨rfl, hd_X5_nextOpen⟩ ⟨Nat.le_of_ble_eq_true rfl, Nat.le_of_ble_eq_true rfl⟩) ⟨hp.1, va_recv F.2.2.2.1.1 w.1 (q0 := 0) (ci := 5) rfl rfl, hp.2⟩ rfl rfl hl.1 rfl (lv_room (Nat.le_of_ble_eq_true rfl)) dL_holds_394 ⟨by show _ ≤ (103 : Nat); omega, by show _ ≤ (618 : Nat); omega⟩)
                (fun r_167 _ H locs h_168 w => ?_)
              subst h_168
              refine lv_iload hx hb dL_holds_397 (lv_at hl 8 rfl) ?_
              refine lv_isub hx hb dL_holds_399 ?_
              refine ktopi (y := nI ((nxN (zO σ) (j + 1)) - (j + 1))) (pk_sub (by omega)) ?_
              refine lv_lshl hx hb dL_holds_400 rfl ?_
              refine ktopl (y := zbit (nxN (zO σ) (j + 1) - (j + 1))) (zm_bit (by omega)) ?_
              refine lv_lconst (v := 1) hx hb dL_holds_401 (by decide) ?_
              refine lv_lsub hx hb dL_holds_402 ?_
              refine lv_land hx hb dL_holds_403 ?_
              refine lv_lconst (v := 0) hx hb dL_holds_404 (by decide) ?_
              refine W.lcmp hx hb dL_holds_405 ?_
              refine lv_if_ne (tgt := 517) hx hb dL_holds_406 (by decide) (fun h_169 => ?_) (fun h_169 => ?_)
              · exact absurd (lgc_eq.mpr (nx_mask (by omega) (by omega) h_159)) h_169
              refine lv_aload_n hx hb dL_holds_409 rfl (lv_at hl 13 rfl) ?_
              refine lv_aload_n hx hb dL_holds_410 rfl (lv_at hl 13 rfl) ?_
              refine lv_iload hx hb dL_holds_411 (lv_at hl 8 rfl) ?_
              refine kcalli (wc := [cX x nw sn tk hs tx tr, cR nw na nb σ, xI g na 49 (zT σ), xI g nb 49 (zI σ)]) (wr := [cH hs hq kn]) (wn := fun (u : Unit) => [cX x nw sn tk hs tx tr, cR nw na nb σ, xI g na 49 (zT σ), xI g nb 49 (zI σ), cH hs hq kn]) F w [0, 1, 2, 3] [4] [1, 2, 3, 4, 0] rfl rfl rfl (fun _ => rfl)
                (fun hp => va_runV (As := [.int (nI (j + 1))]) (rest := [.ref x]) F.1 (kX5_nextOpen_k l g x nw sn tk hs tx tr na nb σ (j + 1) (nxN (zO σ) (j + 1)) H.size (⟨by omega, by omega⟩) (⟨n1, by omega⟩) n3 (n4 h_159)) (cwV 1 hts gL_holds_X5_nextOpen rfl rfl rfl ⟨rfl, hd_X5_nextOpen⟩ ⟨Nat.le_of_ble_eq_true rfl, Nat.le_of_ble_eq_true rfl⟩) ⟨hp.1, va_recv F.2.2.2.1.1 w.1 (q0 := 0) (ci := 5) rfl rfl, hp.2⟩ rfl rfl hl.1 rfl (lv_room (Nat.le_of_ble_eq_true rfl)) dL_holds_413 ⟨by show _ ≤ (103 : Nat); omega, by show _ ≤ (618 : Nat); omega⟩)
                (fun r_170 _ H locs h_171 w => ?_)
              subst h_171
              refine kcalli (wc := [cX x nw sn tk hs tx tr, cR nw na nb σ, xI g na 49 (zT σ), xI g nb 49 (zI σ)]) (wr := [cH hs hq kn]) (wn := fun (u : Unit) => [cX x nw sn tk hs tx tr, cR nw na nb σ, xI g na 49 (zT σ), xI g nb 49 (zI σ), cH hs hq kn]) F w [0, 1, 2, 3] [4] [1, 2, 3, 4, 0] rfl rfl rfl (fun _ => rfl)
                (fun hp => va_runV (As := [.int (nI (nxN (zO σ) (j + 1)))]) (rest := []) F.1 (kX5_isOpen_k l g x nw sn tk hs tx tr na nb σ (nxN (zO σ) (j + 1)) H.size (⟨by omega, by omega⟩)) (cwV 1 hts gL_holds_X5_isOpen rfl rfl rfl ⟨rfl, hd_X5_isOpen⟩ ⟨Nat.le_of_ble_eq_true rfl, Nat.le_of_ble_eq_true rfl⟩) ⟨hp.1, va_recv F.2.2.2.1.1 w.1 (q0 := 0) (ci := 5) rfl rfl, hp.2⟩ rfl rfl hl.1 rfl (lv_room (Nat.le_of_ble_eq_true rfl)) dL_holds_416 ⟨by show _ ≤ (103 : Nat); omega, by show _ ≤ (618 : Nat); omega⟩)
                (fun r_172 _ H locs h_173 w => ?_)
              subst h_173
              refine ktopi (y := nI 1) (by rw [n4 h_159]; rfl) ?_
              refine lv_if_eq (tgt := 517) hx hb dL_holds_419 (by decide) (fun h_174 => ?_) (fun h_174 => ?_)
              · exact absurd h_174 (by decide)
              exact JN_148   _ _ _ (kW.perm w [0, 1, 2, 3, 4] rfl rfl) (lv_sub hl [0, 1, 2, 3, 4, 6, 7, 8, 9, 10, 11, 12, 13, 14] rfl)
            · skip
              refine ktopi (y := (-104)) (if_neg h_159) ?_
              refine lv_bipush (v := (-104)) hx hb dL_holds_345 (by decide) ?_
              refine lv_icmp_ne (tgt := 354) hx hb dL_holds_347 (by decide) (fun h_175 => ?_) (fun h_175 => ?_)
              · exact absurd rfl h_175
              refine lv_iconst (v := nI 1) hx hb dL_holds_350 (by decide) ?_
              refine lv_goto (tgt := 355) hx hb dL_holds_351 (by decide) ?_
              refine lv_lload hx hb dL_holds_355 (lv_at hl 5 rfl) ?_
              refine lv_lconst (v := 0) hx hb dL_holds_357 (by decide) ?_
              refine W.lcmp hx hb dL_holds_358 ?_
              refine lv_if_ne (tgt := 366) hx hb dL_holds_359 (by decide) (fun h_176 => ?_) (fun h_176 => ?_)
              · exact absurd (lgc_eq.mpr (nx_no (by omega) (by omega) h_159)) h_176
              refine lv_iconst (v := nI 1) hx hb dL_holds_362 (by decide) ?_
              refine lv_goto (tgt := 367) hx hb dL_holds_363 (by decide) ?_
              refine lv_icmp_ne (tgt := 517) hx hb dL_holds_367 (by decide) (fun h_177 => ?_) (fun h_177 => ?_)
              · exact absurd rfl h_177
              refine lv_lload hx hb dL_holds_370 (lv_at hl 5 rfl) ?_
              refine lv_lconst (v := 0) hx hb dL_holds_372 (by decide) ?_
              refine W.lcmp hx hb dL_holds_373 ?_
              refine lv_if_eq (tgt := 422) hx hb dL_holds_374 (by decide) (fun h_178 => ?_) (fun h_178 => ?_)
              rotate_left 1
              · exact absurd (lgc_eq.mpr (nx_no (by omega) (by omega) h_159)) h_178
              exact JN_148   _ _ _ (kW.perm w [0, 1, 2, 3, 4] rfl rfl) (lv_sub hl [0, 1, 2, 3, 4, 6, 7, 8, 9, 10, 11, 12, 13, 14] rfl)
          · skip
            refine lv_aload_n hx hb dL_holds_203 rfl (lv_at hl 11 rfl) ?_
            refine lv_iload hx hb dL_holds_204 (lv_at hl 1 rfl) ?_
            refine kcalli (wc := [cX x nw sn tk hs tx tr, cR nw na nb σ, xI g na 49 (zT σ), xI g nb 49 (zI σ)]) (wr := [cH hs hq kn]) (wn := fun (u : Unit) => [cX x nw sn tk hs tx tr, cR nw na nb σ, xI g na 49 (zT σ), xI g nb 49 (zI σ), cH hs hq kn]) F w [0, 1, 2, 3] [4] [1, 2, 3, 4, 0] rfl rfl rfl (fun _ => rfl)
              (fun hp => vx_runSW (As := [.ref x, .int (nI (j + 1))]) (rest := []) F.1 (kL_thingAt l hnl g x nw sn tk hs tx tr na nb σ (j + 1) H.size (by omega)) (vx_cwSW 2 hts gL_holds_L_thingAt rfl rfl rfl hd_L_thingAt ⟨Nat.le_of_ble_eq_true rfl, Nat.le_of_ble_eq_true rfl⟩) hp rfl rfl hl.1 rfl (lv_room (Nat.le_of_ble_eq_true rfl)) dL_holds_206 ⟨by show _ ≤ (103 : Nat); omega, by show _ ≤ (618 : Nat); omega⟩)
              (fun r_179 _ H locs h_180 w => ?_)
            subst h_180
            have hf := h_129.1
            have hh := h_129.2
            refine ktopi (y := nI 0) (by rw [thV_t hf, hh]; rfl) ?_
            refine lv_istore (lv' := [(15, .int (nI 0)), (14, .int (nI 0)), (13, .int (nI (j + 1))), (12, .int (nI 1)), (11, .float (fS (zO σ) j)), (10, .int (nI (zcnt (kindP σ true) j))), (9, .int (nI (zcnt (kindP σ false) j))), (8, .int (nI (zcnt (shutP σ) j))), (7, .int (sumZ (enc σ) 96 j)), (6, .int (nI (zcnt (zO σ) 48))), (4, .long (zB (zL σ))), (2, .long (zB (zO σ))), (0, .ref x), (1, .int v)]) hx hb dL_holds_209 hl (by decide) rfl (fun ls hl => ?_)
            refine lv_lload_n hx hb dL_holds_211 rfl (lv_at hl 11 rfl) ?_
            refine lv_iload hx hb dL_holds_212 (lv_at hl 2 rfl) ?_
            refine lv_lshr hx hb dL_holds_214 rfl ?_
            refine lv_lstore (lv' := [(16, .long ((zB (zO σ)) >>> ((nI (j + 1)).toInt64 &&& 63))), (15, .int (nI 0)), (14, .int (nI 0)), (13, .int (nI (j + 1))), (12, .int (nI 1)), (11, .float (fS (zO σ) j)), (10, .int (nI (zcnt (kindP σ true) j))), (9, .int (nI (zcnt (kindP σ false) j))), (8, .int (nI (zcnt (shutP σ) j))), (7, .int (sumZ (enc σ) 96 j)), (6, .int (nI (zcnt (zO σ) 48))), (4, .long (zB (zL σ))), (2, .long (zB (zO σ))), (0, .ref x), (1, .int v)]) hx hb dL_holds_215 hl (by decide) rfl (fun ls hl => ?_)
            refine lv_iload hx hb dL_holds_217 (lv_at hl 9 rfl) ?_
            refine lv_aload_n hx hb dL_holds_219 rfl (lv_at hl 13 rfl) ?_
            refine lv_iload hx hb dL_holds_220 (lv_at hl 3 rfl) ?_
            refine kcalli (wc := [cX x nw sn tk hs tx tr, cR nw na nb σ, xI g na 49 (zT σ), xI g nb 49 (zI σ)]) (wr := [cH hs hq kn]) (wn := fun (u : Unit) => [cX x nw sn tk hs tx tr, cR nw na nb σ, xI g na 49 (zT σ), xI g nb 49 (zI σ), cH hs hq kn]) F w [0, 1, 2, 3] [4] [1, 2, 3, 4, 0] rfl rfl rfl (fun _ => rfl)
              (fun hp => va_runV (As := [.int (nI (j + 1))]) (rest := [.int (sumZ (enc σ) 96 j)]) F.1 (kX5_turnsOf_k l g x nw sn tk hs tx tr na nb σ (j + 1) H.size (by omega)) (cwV 1 hts gL_holds_X5_turnsOf rfl rfl rfl ⟨rfl, hd_X5_turnsOf⟩ ⟨Nat.le_of_ble_eq_true rfl, Nat.le_of_ble_eq_true rfl⟩) ⟨hp.1, va_recv F.2.2.2.1.1 w.1 (q0 := 0) (ci := 5) rfl rfl, hp.2⟩ rfl rfl hl.1 rfl (lv_room (Nat.le_of_ble_eq_true rfl)) dL_holds_222 ⟨by show _ ≤ (103 : Nat); omega, by show _ ≤ (618 : Nat); omega⟩)
              (fun r_181 _ H locs h_182 w => ?_)
            subst h_182
            refine lv_iadd hx hb dL_holds_225 ?_
            refine ktopi (y := sumZ (enc σ) 96 (j + 1)) (by rw [sumZ, enc_T (by omega) (by omega)]) ?_
            refine lv_istore (lv' := [(7, .int (sumZ (enc σ) 96 (j + 1))), (16, .long ((zB (zO σ)) >>> ((nI (j + 1)).toInt64 &&& 63))), (15, .int (nI 0)), (14, .int (nI 0)), (13, .int (nI (j + 1))), (12, .int (nI 1)), (11, .float (fS (zO σ) j)), (10, .int (nI (zcnt (kindP σ true) j))), (9, .int (nI (zcnt (kindP σ false) j))), (8, .int (nI (zcnt (shutP σ) j))), (6, .int (nI (zcnt (zO σ) 48))), (4, .long (zB (zL σ))), (2, .long (zB (zO σ))), (0, .ref x), (1, .int v)]) hx hb dL_holds_226 hl (by decide) rfl (fun ls hl => ?_)
            refine lv_fload hx hb dL_holds_228 (lv_at hl 6 rfl) ?_
            refine lv_iload hx hb dL_holds_230 (lv_at hl 3 rfl) ?_
            refine lv_if_eq (tgt := 243) hx hb dL_holds_232 (by decide) (fun h_183 => ?_) (fun h_183 => ?_)
            rotate_left 1
            · exact absurd rfl h_183
            refine lv_fconst0 hx hb dL_holds_243 ?_
            refine lv_fadd hx hb dL_holds_244 (vf32 (by rw [fS_0 (zO σ) (by omega)]; exact fS_ne (zO σ) (by omega))) ?_
            refine ktopf (y := fS (zO σ) (j + 1)) ((fS_0 (zO σ) (by omega)).trans (fS_f ho).symm) ?_
            refine lv_fstore (lv' := [(11, .float (fS (zO σ) (j + 1))), (7, .int (sumZ (enc σ) 96 (j + 1))), (16, .long ((zB (zO σ)) >>> ((nI (j + 1)).toInt64 &&& 63))), (15, .int (nI 0)), (14, .int (nI 0)), (13, .int (nI (j + 1))), (12, .int (nI 1)), (10, .int (nI (zcnt (kindP σ true) j))), (9, .int (nI (zcnt (kindP σ false) j))), (8, .int (nI (zcnt (shutP σ) j))), (6, .int (nI (zcnt (zO σ) 48))), (4, .long (zB (zL σ))), (2, .long (zB (zO σ))), (0, .ref x), (1, .int v)]) hx hb dL_holds_245 hl (by decide) rfl (fun ls hl => ?_)
            refine lv_iload hx hb dL_holds_247 (lv_at hl 9 rfl) ?_
            refine lv_iload hx hb dL_holds_249 (lv_at hl 3 rfl) ?_
            refine lv_if_lt (tgt := 263) hx hb dL_holds_251 (by decide) (fun h_184 => ?_) (fun h_184 => ?_)
            · exact absurd h_184 (by decide)
            refine lv_iload hx hb dL_holds_254 (lv_at hl 4 rfl) ?_
            refine lv_if_ne (tgt := 263) hx hb dL_holds_256 (by decide) (fun h_185 => ?_) (fun h_185 => ?_)
            · exact absurd rfl h_185
            refine lv_iconst (v := nI 1) hx hb dL_holds_259 (by decide) ?_
            refine lv_goto (tgt := 264) hx hb dL_holds_260 (by decide) ?_
            refine lv_iadd hx hb dL_holds_264 ?_
            refine ktopi (y := nI (zcnt (shutP σ) j + 1)) (nI_add (zcnt (shutP σ) j) 1) ?_
            refine ktopi (y := nI (zcnt (shutP σ) (j + 1))) (by rw [zcnt_t (shut_t hf ho)]) ?_
            refine lv_istore (lv' := [(8, .int (nI (zcnt (shutP σ) (j + 1)))), (11, .float (fS (zO σ) (j + 1))), (7, .int (sumZ (enc σ) 96 (j + 1))), (16, .long ((zB (zO σ)) >>> ((nI (j + 1)).toInt64 &&& 63))), (15, .int (nI 0)), (14, .int (nI 0)), (13, .int (nI (j + 1))), (12, .int (nI 1)), (10, .int (nI (zcnt (kindP σ true) j))), (9, .int (nI (zcnt (kindP σ false) j))), (6, .int (nI (zcnt (zO σ) 48))), (4, .long (zB (zL σ))), (2, .long (zB (zO σ))), (0, .ref x), (1, .int v)]) hx hb dL_holds_265 hl (by decide) rfl (fun ls hl => ?_)
            refine lv_iload hx hb dL_holds_267 (lv_at hl 9 rfl) ?_
            refine lv_iload hx hb dL_holds_269 (lv_at hl 4 rfl) ?_
            refine lv_if_ne (tgt := 278) hx hb dL_holds_271 (by decide) (fun h_186 => ?_) (fun h_186 => ?_)
            · exact absurd rfl h_186
            refine lv_iconst (v := nI 1) hx hb dL_holds_274 (by decide) ?_
            refine lv_goto (tgt := 279) hx hb dL_holds_275 (by decide) ?_
            refine lv_iadd hx hb dL_holds_279 ?_
            refine ktopi (y := nI (zcnt (kindP σ false) j + 1)) (nI_add (zcnt (kindP σ false) j) 1) ?_
            refine ktopi (y := nI (zcnt (kindP σ false) (j + 1))) (by rw [zcnt_t (kind_tt hf hh)]) ?_
            refine lv_istore (lv' := [(9, .int (nI (zcnt (kindP σ false) (j + 1)))), (8, .int (nI (zcnt (shutP σ) (j + 1)))), (11, .float (fS (zO σ) (j + 1))), (7, .int (sumZ (enc σ) 96 (j + 1))), (16, .long ((zB (zO σ)) >>> ((nI (j + 1)).toInt64 &&& 63))), (15, .int (nI 0)), (14, .int (nI 0)), (13, .int (nI (j + 1))), (12, .int (nI 1)), (10, .int (nI (zcnt (kindP σ true) j))), (6, .int (nI (zcnt (zO σ) 48))), (4, .long (zB (zL σ))), (2, .long (zB (zO σ))), (0, .ref x), (1, .int v)]) hx hb dL_holds_280 hl (by decide) rfl (fun ls hl => ?_)
            refine lv_iload hx hb dL_holds_282 (lv_at hl 9 rfl) ?_
            refine lv_iload hx hb dL_holds_284 (lv_at hl 5 rfl) ?_
            refine lv_iconst (v := nI 1) hx hb dL_holds_286 (by decide) ?_
            refine lv_icmp_ne (tgt := 294) hx hb dL_holds_287 (by decide) (fun h_187 => ?_) (fun h_187 => ?_)
            rotate_left 1
            · exact absurd h_187 (by decide)
            refine lv_iconst (v := nI 0) hx hb dL_holds_294 (by decide) ?_
            refine lv_iadd hx hb dL_holds_295 ?_
            refine ktopi (y := nI (zcnt (kindP σ true) j + 0)) (nI_add (zcnt (kindP σ true) j) 0) ?_
            refine ktopi (y := nI (zcnt (kindP σ true) (j + 1))) (by rw [zcnt_f (kind_tf (by rw [hh]; decide))]; rfl) ?_
            refine lv_istore (lv' := [(10, .int (nI (zcnt (kindP σ true) (j + 1)))), (9, .int (nI (zcnt (kindP σ false) (j + 1)))), (8, .int (nI (zcnt (shutP σ) (j + 1)))), (11, .float (fS (zO σ) (j + 1))), (7, .int (sumZ (enc σ) 96 (j + 1))), (16, .long ((zB (zO σ)) >>> ((nI (j + 1)).toInt64 &&& 63))), (15, .int (nI 0)), (14, .int (nI 0)), (13, .int (nI (j + 1))), (12, .int (nI 1)), (6, .int (nI (zcnt (zO σ) 48))), (4, .long (zB (zL σ))), (2, .long (zB (zO σ))), (0, .ref x), (1, .int v)]) hx hb dL_holds_296 hl (by decide) rfl (fun ls hl => ?_)
            refine lv_aload_n hx hb dL_holds_298 rfl (lv_at hl 13 rfl) ?_
            refine lv_iload hx hb dL_holds_299 (lv_at hl 8 rfl) ?_
            refine kcalli (wc := [cX x nw sn tk hs tx tr, cR nw na nb σ, xI g na 49 (zT σ), xI g nb 49 (zI σ)]) (wr := [cH hs hq kn]) (wn := fun (u : Unit) => [cX x nw sn tk hs tx tr, cR nw na nb σ, xI g na 49 (zT σ), xI g nb 49 (zI σ), cH hs hq kn]) F w [0, 1, 2, 3] [4] [1, 2, 3, 4, 0] rfl rfl rfl (fun _ => rfl)
              (fun hp => va_runV (As := [.int (nI (j + 1))]) (rest := []) F.1 (kX5_isOpen_k l g x nw sn tk hs tx tr na nb σ (j + 1) H.size (by omega)) (cwV 1 hts gL_holds_X5_isOpen rfl rfl rfl ⟨rfl, hd_X5_isOpen⟩ ⟨Nat.le_of_ble_eq_true rfl, Nat.le_of_ble_eq_true rfl⟩) ⟨hp.1, va_recv F.2.2.2.1.1 w.1 (q0 := 0) (ci := 5) rfl rfl, hp.2⟩ rfl rfl hl.1 rfl (lv_room (Nat.le_of_ble_eq_true rfl)) dL_holds_301 ⟨by show _ ≤ (103 : Nat); omega, by show _ ≤ (618 : Nat); omega⟩)
              (fun r_188 _ H locs h_189 w => ?_)
            subst h_189
            refine ktopi (y := nI 0) (by rw [ho]; rfl) ?_
            refine lv_iload hx hb dL_holds_304 (lv_at hl 7 rfl) ?_
            refine lv_icmp_ne (tgt := 517) hx hb dL_holds_306 (by decide) (fun h_190 => ?_) (fun h_190 => ?_)
            · exact absurd rfl h_190
            refine lv_aload_n hx hb dL_holds_309 rfl (lv_at hl 13 rfl) ?_
            refine lv_iload hx hb dL_holds_310 (lv_at hl 8 rfl) ?_
            refine kcalli (wc := [cX x nw sn tk hs tx tr, cR nw na nb σ, xI g na 49 (zT σ), xI g nb 49 (zI σ)]) (wr := [cH hs hq kn]) (wn := fun (u : Unit) => [cX x nw sn tk hs tx tr, cR nw na nb σ, xI g na 49 (zT σ), xI g nb 49 (zI σ), cH hs hq kn]) F w [0, 1, 2, 3] [4] [1, 2, 3, 4, 0] rfl rfl rfl (fun _ => rfl)
              (fun hp => va_runV (As := [.int (nI (j + 1))]) (rest := []) F.1 (kX5_turnsOf_k l g x nw sn tk hs tx tr na nb σ (j + 1) H.size (by omega)) (cwV 1 hts gL_holds_X5_turnsOf rfl rfl rfl ⟨rfl, hd_X5_turnsOf⟩ ⟨Nat.le_of_ble_eq_true rfl, Nat.le_of_ble_eq_true rfl⟩) ⟨hp.1, va_recv F.2.2.2.1.1 w.1 (q0 := 0) (ci := 5) rfl rfl, hp.2⟩ rfl rfl hl.1 rfl (lv_room (Nat.le_of_ble_eq_true rfl)) dL_holds_312 ⟨by show _ ≤ (103 : Nat); omega, by show _ ≤ (618 : Nat); omega⟩)
              (fun r_191 _ H locs h_192 w => ?_)
            subst h_192
            refine ktopi (y := nI kk) (hk2) ?_
            refine lv_if_lt (tgt := 517) hx hb dL_holds_315 (by decide) (fun h_193 => ?_) (fun h_193 => ?_)
            · exact absurd h_193 (nI_nn hk1)
            refine lv_aload_n hx hb dL_holds_318 rfl (lv_at hl 13 rfl) ?_
            refine lv_iload hx hb dL_holds_319 (lv_at hl 8 rfl) ?_
            refine kcalli (wc := [cX x nw sn tk hs tx tr, cR nw na nb σ, xI g na 49 (zT σ), xI g nb 49 (zI σ)]) (wr := [cH hs hq kn]) (wn := fun (u : Unit) => [cX x nw sn tk hs tx tr, cR nw na nb σ, xI g na 49 (zT σ), xI g nb 49 (zI σ), cH hs hq kn]) F w [0, 1, 2, 3] [4] [1, 2, 3, 4, 0] rfl rfl rfl (fun _ => rfl)
              (fun hp => va_runV (As := [.int (nI (j + 1))]) (rest := []) F.1 (kX5_turnsOf_k l g x nw sn tk hs tx tr na nb σ (j + 1) H.size (by omega)) (cwV 1 hts gL_holds_X5_turnsOf rfl rfl rfl ⟨rfl, hd_X5_turnsOf⟩ ⟨Nat.le_of_ble_eq_true rfl, Nat.le_of_ble_eq_true rfl⟩) ⟨hp.1, va_recv F.2.2.2.1.1 w.1 (q0 := 0) (ci := 5) rfl rfl, hp.2⟩ rfl rfl hl.1 rfl (lv_room (Nat.le_of_ble_eq_true rfl)) dL_holds_321 ⟨by show _ ≤ (103 : Nat); omega, by show _ ≤ (618 : Nat); omega⟩)
              (fun r_194 _ H locs h_195 w => ?_)
            subst h_195
            refine ktopi (y := nI kk) (hk2) ?_
            refine lv_iconst (v := nI 2) hx hb dL_holds_324 (by decide) ?_
            refine lv_irem hx hb dL_holds_325 ((kc0_eq_f (by omega)).mpr (by omega)) ?_
            refine ktopi (y := nI (kk % 2)) (pk_rem (a := kk) (d := 2) (by omega) (by omega) (by omega)) ?_
            refine ktopi (y := nI 0) (by rw [ho] at hk3; have h8 := of_decide_eq_false hk3.symm; exact congrArg nI (by omega)) ?_
            refine lv_iload hx hb dL_holds_326 (lv_at hl 7 rfl) ?_
            refine lv_if_eq (tgt := 335) hx hb dL_holds_328 (by decide) (fun h_196 => ?_) (fun h_196 => ?_)
            rotate_left 1
            · exact absurd rfl h_196
            refine lv_iconst (v := nI 0) hx hb dL_holds_335 (by decide) ?_
            refine lv_icmp_ne (tgt := 517) hx hb dL_holds_336 (by decide) (fun h_197 => ?_) (fun h_197 => ?_)
            · exact absurd rfl h_197
            obtain ⟨n1, n2, n3, n4⟩ := nxN_s (zO σ) (show j + 1 ≤ 48 by omega)
            have JN_198 : ∀   (H : Heap) (locs : List Loc) (ls : Array Slot), kW g A s [cX x nw sn tk hs tx tr, cR nw na nb σ, xI g na 49 (zT σ), xI g nb 49 (zI σ), cH hs hq kn] H locs → lv_has ls 24 [(10, .int (nI (zcnt (kindP σ true) (j + 1)))), (9, .int (nI (zcnt (kindP σ false) (j + 1)))), (8, .int (nI (zcnt (shutP σ) (j + 1)))), (11, .float (fS (zO σ) (j + 1))), (7, .int (sumZ (enc σ) 96 (j + 1))), (15, .int (nI 0)), (14, .int (nI 0)), (13, .int (nI (j + 1))), (12, .int (nI 1)), (6, .int (nI (zcnt (zO σ) 48))), (4, .long (zB (zL σ))), (2, .long (zB (zO σ))), (0, .ref x), (1, .int v)] → W p l e rmL_holds s m args below meth c H locs (7 + 2 * j + 1 + 1) (42 + 12 * j + 6 + 6) Q (F0 m 422 ls []) := by
              intro   H locs ls w hl
              refine lv_aload_n hx hb dL_holds_422 rfl (lv_at hl 12 rfl) ?_
              refine lv_iload hx hb dL_holds_423 (lv_at hl 7 rfl) ?_
              refine lv_iconst (v := nI 0) hx hb dL_holds_425 (by decide) ?_
              refine ktopi (y := bI false) (by decide) ?_
              refine kcalli (wc := [cX x nw sn tk hs tx tr, cR nw na nb σ, xI g na 49 (zT σ), xI g nb 49 (zI σ)]) (wr := [cH hs hq kn]) (wn := fun (u : Unit) => [cX x nw sn tk hs tx tr, cR nw na nb σ, xI g na 49 (zT σ), xI g nb 49 (zI σ), cH hs hq kn]) F w [0, 1, 2, 3] [4] [1, 2, 3, 4, 0] rfl rfl rfl (fun _ => rfl)
                (fun hp => va_runV (As := [.int (nI (j + 1)), .int (bI false)]) (rest := []) F.1 (kX5_whyNot_k l g x nw sn tk hs tx tr na nb σ (j + 1) false H.size (⟨by omega, by omega⟩)) (cwV 2 hts gL_holds_X5_whyNot rfl rfl rfl ⟨rfl, hd_X5_whyNot⟩ ⟨Nat.le_of_ble_eq_true rfl, Nat.le_of_ble_eq_true rfl⟩) ⟨hp.1, va_recv F.2.2.2.1.1 w.1 (q0 := 0) (ci := 5) rfl rfl, hp.2⟩ rfl rfl hl.1 rfl (lv_room (Nat.le_of_ble_eq_true rfl)) dL_holds_426 ⟨by show _ ≤ (103 : Nat); omega, by show _ ≤ (618 : Nat); omega⟩)
                (fun r_199 _ H locs h_200 w => ?_)
              subst h_200
              refine lv_iload hx hb dL_holds_429 (lv_at hl 6 rfl) ?_
              refine lv_if_ne (tgt := 438) hx hb dL_holds_431 (by decide) (fun h_201 => ?_) (fun h_201 => ?_)
              · exact absurd rfl h_201
              refine lv_iconst (v := nI 1) hx hb dL_holds_434 (by decide) ?_
              refine lv_goto (tgt := 468) hx hb dL_holds_435 (by decide) ?_
              refine lv_icmp_ne (tgt := 517) hx hb dL_holds_468 (by decide) (fun h_202 => ?_) (fun h_202 => ?_)
              · exact absurd (congrArg nI (reas_1 ho)) h_202
              refine lv_aload_n hx hb dL_holds_471 rfl (lv_at hl 12 rfl) ?_
              refine lv_iload hx hb dL_holds_472 (lv_at hl 7 rfl) ?_
              refine lv_iconst (v := nI 1) hx hb dL_holds_474 (by decide) ?_
              refine ktopi (y := bI true) (by decide) ?_
              refine kcalli (wc := [cX x nw sn tk hs tx tr, cR nw na nb σ, xI g na 49 (zT σ), xI g nb 49 (zI σ)]) (wr := [cH hs hq kn]) (wn := fun (u : Unit) => [cX x nw sn tk hs tx tr, cR nw na nb σ, xI g na 49 (zT σ), xI g nb 49 (zI σ), cH hs hq kn]) F w [0, 1, 2, 3] [4] [1, 2, 3, 4, 0] rfl rfl rfl (fun _ => rfl)
                (fun hp => va_runV (As := [.int (nI (j + 1)), .int (bI true)]) (rest := []) F.1 (kX5_whyNot_k l g x nw sn tk hs tx tr na nb σ (j + 1) true H.size (⟨by omega, by omega⟩)) (cwV 2 hts gL_holds_X5_whyNot rfl rfl rfl ⟨rfl, hd_X5_whyNot⟩ ⟨Nat.le_of_ble_eq_true rfl, Nat.le_of_ble_eq_true rfl⟩) ⟨hp.1, va_recv F.2.2.2.1.1 w.1 (q0 := 0) (ci := 5) rfl rfl, hp.2⟩ rfl rfl hl.1 rfl (lv_room (Nat.le_of_ble_eq_true rfl)) dL_holds_475 ⟨by show _ ≤ (103 : Nat); omega, by show _ ≤ (618 : Nat); omega⟩)
                (fun r_203 _ H locs h_204 w => ?_)
              subst h_204
              refine lv_iload hx hb dL_holds_478 (lv_at hl 6 rfl) ?_
              refine lv_if_ne (tgt := 487) hx hb dL_holds_480 (by decide) (fun h_205 => ?_) (fun h_205 => ?_)
              · exact absurd rfl h_205
              refine lv_iconst (v := nI 1) hx hb dL_holds_483 (by decide) ?_
              refine lv_goto (tgt := 510) hx hb dL_holds_484 (by decide) ?_
              refine lv_icmp_ne (tgt := 517) hx hb dL_holds_510 (by decide) (fun h_206 => ?_) (fun h_206 => ?_)
              · exact absurd (congrArg nI (reas_1 ho)) h_206
              refine lv_iconst (v := nI 1) hx hb dL_holds_513 (by decide) ?_
              refine lv_goto (tgt := 518) hx hb dL_holds_514 (by decide) ?_
              refine lv_istore (lv' := [(12, .int (nI 1)), (10, .int (nI (zcnt (kindP σ true) (j + 1)))), (9, .int (nI (zcnt (kindP σ false) (j + 1)))), (8, .int (nI (zcnt (shutP σ) (j + 1)))), (11, .float (fS (zO σ) (j + 1))), (7, .int (sumZ (enc σ) 96 (j + 1))), (15, .int (nI 0)), (14, .int (nI 0)), (13, .int (nI (j + 1))), (6, .int (nI (zcnt (zO σ) 48))), (4, .long (zB (zL σ))), (2, .long (zB (zO σ))), (0, .ref x), (1, .int v)]) hx hb dL_holds_518 hl (by decide) rfl (fun ls hl => ?_)
              refine lv_iinc (v := nI (j + 1 + 1)) (lv' := [(13, .int (nI (j + 1 + 1))), (12, .int (nI 1)), (10, .int (nI (zcnt (kindP σ true) (j + 1)))), (9, .int (nI (zcnt (kindP σ false) (j + 1)))), (8, .int (nI (zcnt (shutP σ) (j + 1)))), (11, .float (fS (zO σ) (j + 1))), (7, .int (sumZ (enc σ) 96 (j + 1))), (15, .int (nI 0)), (14, .int (nI 0)), (6, .int (nI (zcnt (zO σ) 48))), (4, .long (zB (zL σ))), (2, .long (zB (zO σ))), (0, .ref x), (1, .int v)]) hx hb dL_holds_520 hl (k := 8) rfl (nI_add (j + 1) 1) (by decide) rfl (fun ls hl => ?_)
              refine lv_goto (tgt := 173) hx hb dL_holds_523 (by decide) ?_
              refine W.widen (k := 7 + 2 * (j + 1)) (n := 42 + 12 * (j + 1)) (by omega) (by omega) ?_
              exact ih_43 (j + 1) (by omega) _ _ _ (by omega) (kW.perm w [0, 1, 2, 3, 4] rfl rfl) (lv_sub hl [0, 1, 5, 2, 3, 4, 6, 9, 10, 11, 12, 13] rfl)
            refine lv_aload_n hx hb dL_holds_339 rfl (lv_at hl 13 rfl) ?_
            refine lv_iload hx hb dL_holds_340 (lv_at hl 8 rfl) ?_
            refine kcalli (wc := [cX x nw sn tk hs tx tr, cR nw na nb σ, xI g na 49 (zT σ), xI g nb 49 (zI σ)]) (wr := [cH hs hq kn]) (wn := fun (u : Unit) => [cX x nw sn tk hs tx tr, cR nw na nb σ, xI g na 49 (zT σ), xI g nb 49 (zI σ), cH hs hq kn]) F w [0, 1, 2, 3] [4] [1, 2, 3, 4, 0] rfl rfl rfl (fun _ => rfl)
              (fun hp => vx_runSW (As := [.ref x, .int (nI (j + 1))]) (rest := []) F.1 (kL_nextOpen l hnl g x nw sn tk hs tx tr na nb σ (j + 1) H.size (⟨by omega, by omega⟩)) (vx_cwSW 2 hts gL_holds_L_nextOpen rfl rfl rfl hd_L_nextOpen ⟨Nat.le_of_ble_eq_true rfl, Nat.le_of_ble_eq_true rfl⟩) hp rfl rfl hl.1 rfl (lv_room (Nat.le_of_ble_eq_true rfl)) dL_holds_342 ⟨by show _ ≤ (103 : Nat); omega, by show _ ≤ (618 : Nat); omega⟩)
              (fun r_207 _ H locs h_208 w => ?_)
            subst h_208
            rcases (show nxN (zO σ) (j + 1) < 49 ∨ ¬ nxN (zO σ) (j + 1) < 49 from Decidable.em _) with h_209 | h_209
            · skip
              refine ktopi (y := nI (nxN (zO σ) (j + 1))) (if_pos h_209) ?_
              refine lv_bipush (v := (-104)) hx hb dL_holds_345 (by decide) ?_
              refine lv_icmp_ne (tgt := 354) hx hb dL_holds_347 (by decide) (fun h_210 => ?_) (fun h_210 => ?_)
              rotate_left 1
              · exact absurd h_210 (nI_m104 (by omega))
              refine lv_iconst (v := nI 0) hx hb dL_holds_354 (by decide) ?_
              refine lv_lload hx hb dL_holds_355 (lv_at hl 5 rfl) ?_
              refine lv_lconst (v := 0) hx hb dL_holds_357 (by decide) ?_
              refine W.lcmp hx hb dL_holds_358 ?_
              refine lv_if_ne (tgt := 366) hx hb dL_holds_359 (by decide) (fun h_211 => ?_) (fun h_211 => ?_)
              rotate_left 1
              · exact absurd (lgc_eq.mp h_211) (nx_yes (by omega) (by omega) h_209)
              refine lv_iconst (v := nI 0) hx hb dL_holds_366 (by decide) ?_
              refine lv_icmp_ne (tgt := 517) hx hb dL_holds_367 (by decide) (fun h_212 => ?_) (fun h_212 => ?_)
              · exact absurd rfl h_212
              refine lv_lload hx hb dL_holds_370 (lv_at hl 5 rfl) ?_
              refine lv_lconst (v := 0) hx hb dL_holds_372 (by decide) ?_
              refine W.lcmp hx hb dL_holds_373 ?_
              refine lv_if_eq (tgt := 422) hx hb dL_holds_374 (by decide) (fun h_213 => ?_) (fun h_213 => ?_)
              · exact absurd (lgc_eq.mp h_213) (nx_yes (by omega) (by omega) h_209)
              refine lv_aload_n hx hb dL_holds_377 rfl (lv_at hl 13 rfl) ?_
              refine lv_iload hx hb dL_holds_378 (lv_at hl 8 rfl) ?_
              refine kcalli (wc := [cX x nw sn tk hs tx tr, cR nw na nb σ, xI g na 49 (zT σ), xI g nb 49 (zI σ)]) (wr := [cH hs hq kn]) (wn := fun (u : Unit) => [cX x nw sn tk hs tx tr, cR nw na nb σ, xI g na 49 (zT σ), xI g nb 49 (zI σ), cH hs hq kn]) F w [0, 1, 2, 3] [4] [1, 2, 3, 4, 0] rfl rfl rfl (fun _ => rfl)
                (fun hp => va_runV (As := [.int (nI (j + 1))]) (rest := []) F.1 (kX5_nextOpen_k l g x nw sn tk hs tx tr na nb σ (j + 1) (nxN (zO σ) (j + 1)) H.size (⟨by omega, by omega⟩) (⟨n1, by omega⟩) n3 (n4 h_209)) (cwV 1 hts gL_holds_X5_nextOpen rfl rfl rfl ⟨rfl, hd_X5_nextOpen⟩ ⟨Nat.le_of_ble_eq_true rfl, Nat.le_of_ble_eq_true rfl⟩) ⟨hp.1, va_recv F.2.2.2.1.1 w.1 (q0 := 0) (ci := 5) rfl rfl, hp.2⟩ rfl rfl hl.1 rfl (lv_room (Nat.le_of_ble_eq_true rfl)) dL_holds_380 ⟨by show _ ≤ (103 : Nat); omega, by show _ ≤ (618 : Nat); omega⟩)
                (fun r_214 _ H locs h_215 w => ?_)
              subst h_215
              refine lv_iload hx hb dL_holds_383 (lv_at hl 8 rfl) ?_
              refine lv_icmp_lt (tgt := 517) hx hb dL_holds_385 (by decide) (fun h_216 => ?_) (fun h_216 => ?_)
              · exact absurd ((kc_lt_t (by omega) (by omega)).mp h_216) (by omega)
              refine lv_lload hx hb dL_holds_388 (lv_at hl 5 rfl) ?_
              refine lv_lconst (v := 1) hx hb dL_holds_390 (by decide) ?_
              refine lv_aload_n hx hb dL_holds_391 rfl (lv_at hl 13 rfl) ?_
              refine lv_iload hx hb dL_holds_392 (lv_at hl 8 rfl) ?_
              refine kcalli (wc := [cX x nw sn tk hs tx tr, cR nw na nb σ, xI g na 49 (zT σ), xI g nb 49 (zI σ)]) (wr := [cH hs hq kn]) (wn := fun (u : Unit) => [cX x nw sn tk hs tx tr, cR nw na nb σ, xI g na 49 (zT σ), xI g nb 49 (zI σ), cH hs hq kn]) F w [0, 1, 2, 3] [4] [1, 2, 3, 4, 0] rfl rfl rfl (fun _ => rfl)
                (fun hp => va_runV (As := [.int (nI (j + 1))]) (rest := [.long 1, .long ((zB (zO σ)) >>> ((nI (j + 1)).toInt64 &&& 63))]) F.1 (kX5_nextOpen_k l g x nw sn tk hs tx tr na nb σ (j + 1) (nxN (zO σ) (j + 1)) H.size (⟨by omega, by omega⟩) (⟨n1, by omega⟩) n3 (n4 h_209)) (cwV 1 hts gL_holds_X5_nextOpen rfl rfl rfl ⟨rfl, hd_X5_nextOpen⟩ ⟨Nat.le_of_ble_eq_true rfl, Nat.le_of_ble_eq_true rfl⟩) ⟨hp.1, va_recv F.2.2.2.1.1 w.1 (q0 := 0) (ci := 5) rfl rfl, hp.2⟩ rfl rfl hl.1 rfl (lv_room (Nat.le_of_ble_eq_true rfl)) dL_holds_394 ⟨by show _ ≤ (103 : Nat); omega, by show _ ≤ (618 : Nat); omega⟩)
                (fun r_217 _ H locs h_218 w => ?_)
              subst h_218
              refine lv_iload hx hb dL_holds_397 (lv_at hl 8 rfl) ?_
              refine lv_isub hx hb dL_holds_399 ?_
              refine ktopi (y := nI ((nxN (zO σ) (j + 1)) - (j + 1))) (pk_sub (by omega)) ?_
              refine lv_lshl hx hb dL_holds_400 rfl ?_
              refine ktopl (y := zbit (nxN (zO σ) (j + 1) - (j + 1))) (zm_bit (by omega)) ?_
              refine lv_lconst (v := 1) hx hb dL_holds_401 (by decide) ?_
              refine lv_lsub hx hb dL_holds_402 ?_
              refine lv_land hx hb dL_holds_403 ?_
              refine lv_lconst (v := 0) hx hb dL_holds_404 (by decide) ?_
              refine W.lcmp hx hb dL_holds_405 ?_
              refine lv_if_ne (tgt := 517) hx hb dL_holds_406 (by decide) (fun h_219 => ?_) (fun h_219 => ?_)
              · exact absurd (lgc_eq.mpr (nx_mask (by omega) (by omega) h_209)) h_219
              refine lv_aload_n hx hb dL_holds_409 rfl (lv_at hl 13 rfl) ?_
              refine lv_aload_n hx hb dL_holds_410 rfl (lv_at hl 13 rfl) ?_
              refine lv_iload hx hb dL_holds_411 (lv_at hl 8 rfl) ?_
              refine kcalli (wc := [cX x nw sn tk hs tx tr, cR nw na nb σ, xI g na 49 (zT σ), xI g nb 49 (zI σ)]) (wr := [cH hs hq kn]) (wn := fun (u : Unit) => [cX x nw sn tk hs tx tr, cR nw na nb σ, xI g na 49 (zT σ), xI g nb 49 (zI σ), cH hs hq kn]) F w [0, 1, 2, 3] [4] [1, 2, 3, 4, 0] rfl rfl rfl (fun _ => rfl)
                (fun hp => va_runV (As := [.int (nI (j + 1))]) (rest := [.ref x]) F.1 (kX5_nextOpen_k l g x nw sn tk hs tx tr na nb σ (j + 1) (nxN (zO σ) (j + 1)) H.size (⟨by omega, by omega⟩) (⟨n1, by omega⟩) n3 (n4 h_209)) (cwV 1 hts gL_holds_X5_nextOpen rfl rfl rfl ⟨rfl, hd_X5_nextOpen⟩ ⟨Nat.le_of_ble_eq_true rfl, Nat.le_of_ble_eq_true rfl⟩) ⟨hp.1, va_recv F.2.2.2.1.1 w.1 (q0 := 0) (ci := 5) rfl rfl, hp.2⟩ rfl rfl hl.1 rfl (lv_room (Nat.le_of_ble_eq_true rfl)) dL_holds_413 ⟨by show _ ≤ (103 : Nat); omega, by show _ ≤ (618 : Nat); omega⟩)
                (fun r_220 _ H locs h_221 w => ?_)
              subst h_221
              refine kcalli (wc := [cX x nw sn tk hs tx tr, cR nw na nb σ, xI g na 49 (zT σ), xI g nb 49 (zI σ)]) (wr := [cH hs hq kn]) (wn := fun (u : Unit) => [cX x nw sn tk hs tx tr, cR nw na nb σ, xI g na 49 (zT σ), xI g nb 49 (zI σ), cH hs hq kn]) F w [0, 1, 2, 3] [4] [1, 2, 3, 4, 0] rfl rfl rfl (fun _ => rfl)
                (fun hp => va_runV (As := [.int (nI (nxN (zO σ) (j + 1)))]) (rest := []) F.1 (kX5_isOpen_k l g x nw sn tk hs tx tr na nb σ (nxN (zO σ) (j + 1)) H.size (⟨by omega, by omega⟩)) (cwV 1 hts gL_holds_X5_isOpen rfl rfl rfl ⟨rfl, hd_X5_isOpen⟩ ⟨Nat.le_of_ble_eq_true rfl, Nat.le_of_ble_eq_true rfl⟩) ⟨hp.1, va_recv F.2.2.2.1.1 w.1 (q0 := 0) (ci := 5) rfl rfl, hp.2⟩ rfl rfl hl.1 rfl (lv_room (Nat.le_of_ble_eq_true rfl)) dL_holds_416 ⟨by show _ ≤ (103 : Nat); omega, by show _ ≤ (618 : Nat); omega⟩)
                (fun r_222 _ H locs h_223 w => ?_)
              subst h_223
              refine ktopi (y := nI 1) (by rw [n4 h_209]; rfl) ?_
              refine lv_if_eq (tgt := 517) hx hb dL_holds_419 (by decide) (fun h_224 => ?_) (fun h_224 => ?_)
              · exact absurd h_224 (by decide)
              exact JN_198   _ _ _ (kW.perm w [0, 1, 2, 3, 4] rfl rfl) (lv_sub hl [0, 1, 2, 3, 4, 6, 7, 8, 9, 10, 11, 12, 13, 14] rfl)
            · skip
              refine ktopi (y := (-104)) (if_neg h_209) ?_
              refine lv_bipush (v := (-104)) hx hb dL_holds_345 (by decide) ?_
              refine lv_icmp_ne (tgt := 354) hx hb dL_holds_347 (by decide) (fun h_225 => ?_) (fun h_225 => ?_)
              · exact absurd rfl h_225
              refine lv_iconst (v := nI 1) hx hb dL_holds_350 (by decide) ?_
              refine lv_goto (tgt := 355) hx hb dL_holds_351 (by decide) ?_
              refine lv_lload hx hb dL_holds_355 (lv_at hl 5 rfl) ?_
              refine lv_lconst (v := 0) hx hb dL_holds_357 (by decide) ?_
              refine W.lcmp hx hb dL_holds_358 ?_
              refine lv_if_ne (tgt := 366) hx hb dL_holds_359 (by decide) (fun h_226 => ?_) (fun h_226 => ?_)
              · exact absurd (lgc_eq.mpr (nx_no (by omega) (by omega) h_209)) h_226
              refine lv_iconst (v := nI 1) hx hb dL_holds_362 (by decide) ?_
              refine lv_goto (tgt := 367) hx hb dL_holds_363 (by decide) ?_
              refine lv_icmp_ne (tgt := 517) hx hb dL_holds_367 (by decide) (fun h_227 => ?_) (fun h_227 => ?_)
              · exact absurd rfl h_227
              refine lv_lload hx hb dL_holds_370 (lv_at hl 5 rfl) ?_
              refine lv_lconst (v := 0) hx hb dL_holds_372 (by decide) ?_
              refine W.lcmp hx hb dL_holds_373 ?_
              refine lv_if_eq (tgt := 422) hx hb dL_holds_374 (by decide) (fun h_228 => ?_) (fun h_228 => ?_)
              rotate_left 1
              · exact absurd (lgc_eq.mpr (nx_no (by omega) (by omega) h_209)) h_228
              exact JN_198   _ _ _ (kW.perm w [0, 1, 2, 3, 4] rfl rfl) (lv_sub hl [0, 1, 2, 3, 4, 6, 7, 8, 9, 10, 11, 12, 13, 14] rfl)
          · skip
            refine lv_aload_n hx hb dL_holds_203 rfl (lv_at hl 11 rfl) ?_
            refine lv_iload hx hb dL_holds_204 (lv_at hl 1 rfl) ?_
            refine kcalli (wc := [cX x nw sn tk hs tx tr, cR nw na nb σ, xI g na 49 (zT σ), xI g nb 49 (zI σ)]) (wr := [cH hs hq kn]) (wn := fun (u : Unit) => [cX x nw sn tk hs tx tr, cR nw na nb σ, xI g na 49 (zT σ), xI g nb 49 (zI σ), cH hs hq kn]) F w [0, 1, 2, 3] [4] [1, 2, 3, 4, 0] rfl rfl rfl (fun _ => rfl)
              (fun hp => vx_runSW (As := [.ref x, .int (nI (j + 1))]) (rest := []) F.1 (kL_thingAt l hnl g x nw sn tk hs tx tr na nb σ (j + 1) H.size (by omega)) (vx_cwSW 2 hts gL_holds_L_thingAt rfl rfl rfl hd_L_thingAt ⟨Nat.le_of_ble_eq_true rfl, Nat.le_of_ble_eq_true rfl⟩) hp rfl rfl hl.1 rfl (lv_room (Nat.le_of_ble_eq_true rfl)) dL_holds_206 ⟨by show _ ≤ (103 : Nat); omega, by show _ ≤ (618 : Nat); omega⟩)
              (fun r_229 _ H locs h_230 w => ?_)
            subst h_230
            have hf := h_129.1
            have hh := h_129.2
            refine ktopi (y := nI 1) (by rw [thV_t hf, hh]; rfl) ?_
            refine lv_istore (lv' := [(15, .int (nI 1)), (14, .int (nI 0)), (13, .int (nI (j + 1))), (12, .int (nI 1)), (11, .float (fS (zO σ) j)), (10, .int (nI (zcnt (kindP σ true) j))), (9, .int (nI (zcnt (kindP σ false) j))), (8, .int (nI (zcnt (shutP σ) j))), (7, .int (sumZ (enc σ) 96 j)), (6, .int (nI (zcnt (zO σ) 48))), (4, .long (zB (zL σ))), (2, .long (zB (zO σ))), (0, .ref x), (1, .int v)]) hx hb dL_holds_209 hl (by decide) rfl (fun ls hl => ?_)
            refine lv_lload_n hx hb dL_holds_211 rfl (lv_at hl 11 rfl) ?_
            refine lv_iload hx hb dL_holds_212 (lv_at hl 2 rfl) ?_
            refine lv_lshr hx hb dL_holds_214 rfl ?_
            refine lv_lstore (lv' := [(16, .long ((zB (zO σ)) >>> ((nI (j + 1)).toInt64 &&& 63))), (15, .int (nI 1)), (14, .int (nI 0)), (13, .int (nI (j + 1))), (12, .int (nI 1)), (11, .float (fS (zO σ) j)), (10, .int (nI (zcnt (kindP σ true) j))), (9, .int (nI (zcnt (kindP σ false) j))), (8, .int (nI (zcnt (shutP σ) j))), (7, .int (sumZ (enc σ) 96 j)), (6, .int (nI (zcnt (zO σ) 48))), (4, .long (zB (zL σ))), (2, .long (zB (zO σ))), (0, .ref x), (1, .int v)]) hx hb dL_holds_215 hl (by decide) rfl (fun ls hl => ?_)
            refine lv_iload hx hb dL_holds_217 (lv_at hl 9 rfl) ?_
            refine lv_aload_n hx hb dL_holds_219 rfl (lv_at hl 13 rfl) ?_
            refine lv_iload hx hb dL_holds_220 (lv_at hl 3 rfl) ?_
            refine kcalli (wc := [cX x nw sn tk hs tx tr, cR nw na nb σ, xI g na 49 (zT σ), xI g nb 49 (zI σ)]) (wr := [cH hs hq kn]) (wn := fun (u : Unit) => [cX x nw sn tk hs tx tr, cR nw na nb σ, xI g na 49 (zT σ), xI g nb 49 (zI σ), cH hs hq kn]) F w [0, 1, 2, 3] [4] [1, 2, 3, 4, 0] rfl rfl rfl (fun _ => rfl)
              (fun hp => va_runV (As := [.int (nI (j + 1))]) (rest := [.int (sumZ (enc σ) 96 j)]) F.1 (kX5_turnsOf_k l g x nw sn tk hs tx tr na nb σ (j + 1) H.size (by omega)) (cwV 1 hts gL_holds_X5_turnsOf rfl rfl rfl ⟨rfl, hd_X5_turnsOf⟩ ⟨Nat.le_of_ble_eq_true rfl, Nat.le_of_ble_eq_true rfl⟩) ⟨hp.1, va_recv F.2.2.2.1.1 w.1 (q0 := 0) (ci := 5) rfl rfl, hp.2⟩ rfl rfl hl.1 rfl (lv_room (Nat.le_of_ble_eq_true rfl)) dL_holds_222 ⟨by show _ ≤ (103 : Nat); omega, by show _ ≤ (618 : Nat); omega⟩)
              (fun r_231 _ H locs h_232 w => ?_)
            subst h_232
            refine lv_iadd hx hb dL_holds_225 ?_
            refine ktopi (y := sumZ (enc σ) 96 (j + 1)) (by rw [sumZ, enc_T (by omega) (by omega)]) ?_
            refine lv_istore (lv' := [(7, .int (sumZ (enc σ) 96 (j + 1))), (16, .long ((zB (zO σ)) >>> ((nI (j + 1)).toInt64 &&& 63))), (15, .int (nI 1)), (14, .int (nI 0)), (13, .int (nI (j + 1))), (12, .int (nI 1)), (11, .float (fS (zO σ) j)), (10, .int (nI (zcnt (kindP σ true) j))), (9, .int (nI (zcnt (kindP σ false) j))), (8, .int (nI (zcnt (shutP σ) j))), (6, .int (nI (zcnt (zO σ) 48))), (4, .long (zB (zL σ))), (2, .long (zB (zO σ))), (0, .ref x), (1, .int v)]) hx hb dL_holds_226 hl (by decide) rfl (fun ls hl => ?_)
            refine lv_fload hx hb dL_holds_228 (lv_at hl 6 rfl) ?_
            refine lv_iload hx hb dL_holds_230 (lv_at hl 3 rfl) ?_
            refine lv_if_eq (tgt := 243) hx hb dL_holds_232 (by decide) (fun h_233 => ?_) (fun h_233 => ?_)
            rotate_left 1
            · exact absurd rfl h_233
            refine lv_fconst0 hx hb dL_holds_243 ?_
            refine lv_fadd hx hb dL_holds_244 (vf32 (by rw [fS_0 (zO σ) (by omega)]; exact fS_ne (zO σ) (by omega))) ?_
            refine ktopf (y := fS (zO σ) (j + 1)) ((fS_0 (zO σ) (by omega)).trans (fS_f ho).symm) ?_
            refine lv_fstore (lv' := [(11, .float (fS (zO σ) (j + 1))), (7, .int (sumZ (enc σ) 96 (j + 1))), (16, .long ((zB (zO σ)) >>> ((nI (j + 1)).toInt64 &&& 63))), (15, .int (nI 1)), (14, .int (nI 0)), (13, .int (nI (j + 1))), (12, .int (nI 1)), (10, .int (nI (zcnt (kindP σ true) j))), (9, .int (nI (zcnt (kindP σ false) j))), (8, .int (nI (zcnt (shutP σ) j))), (6, .int (nI (zcnt (zO σ) 48))), (4, .long (zB (zL σ))), (2, .long (zB (zO σ))), (0, .ref x), (1, .int v)]) hx hb dL_holds_245 hl (by decide) rfl (fun ls hl => ?_)
            refine lv_iload hx hb dL_holds_247 (lv_at hl 9 rfl) ?_
            refine lv_iload hx hb dL_holds_249 (lv_at hl 3 rfl) ?_
            refine lv_if_lt (tgt := 263) hx hb dL_holds_251 (by decide) (fun h_234 => ?_) (fun h_234 => ?_)
            · exact absurd h_234 (by decide)
            refine lv_iload hx hb dL_holds_254 (lv_at hl 4 rfl) ?_
            refine lv_if_ne (tgt := 263) hx hb dL_holds_256 (by decide) (fun h_235 => ?_) (fun h_235 => ?_)
            · exact absurd rfl h_235
            refine lv_iconst (v := nI 1) hx hb dL_holds_259 (by decide) ?_
            refine lv_goto (tgt := 264) hx hb dL_holds_260 (by decide) ?_
            refine lv_iadd hx hb dL_holds_264 ?_
            refine ktopi (y := nI (zcnt (shutP σ) j + 1)) (nI_add (zcnt (shutP σ) j) 1) ?_
            refine ktopi (y := nI (zcnt (shutP σ) (j + 1))) (by rw [zcnt_t (shut_t hf ho)]) ?_
            refine lv_istore (lv' := [(8, .int (nI (zcnt (shutP σ) (j + 1)))), (11, .float (fS (zO σ) (j + 1))), (7, .int (sumZ (enc σ) 96 (j + 1))), (16, .long ((zB (zO σ)) >>> ((nI (j + 1)).toInt64 &&& 63))), (15, .int (nI 1)), (14, .int (nI 0)), (13, .int (nI (j + 1))), (12, .int (nI 1)), (10, .int (nI (zcnt (kindP σ true) j))), (9, .int (nI (zcnt (kindP σ false) j))), (6, .int (nI (zcnt (zO σ) 48))), (4, .long (zB (zL σ))), (2, .long (zB (zO σ))), (0, .ref x), (1, .int v)]) hx hb dL_holds_265 hl (by decide) rfl (fun ls hl => ?_)
            refine lv_iload hx hb dL_holds_267 (lv_at hl 9 rfl) ?_
            refine lv_iload hx hb dL_holds_269 (lv_at hl 4 rfl) ?_
            refine lv_if_ne (tgt := 278) hx hb dL_holds_271 (by decide) (fun h_236 => ?_) (fun h_236 => ?_)
            rotate_left 1
            · exact absurd h_236 (by decide)
            refine lv_iconst (v := nI 0) hx hb dL_holds_278 (by decide) ?_
            refine lv_iadd hx hb dL_holds_279 ?_
            refine ktopi (y := nI (zcnt (kindP σ false) j + 0)) (nI_add (zcnt (kindP σ false) j) 0) ?_
            refine ktopi (y := nI (zcnt (kindP σ false) (j + 1))) (by rw [zcnt_f (kind_tf (by rw [hh]; decide))]; rfl) ?_
            refine lv_istore (lv' := [(9, .int (nI (zcnt (kindP σ false) (j + 1)))), (8, .int (nI (zcnt (shutP σ) (j + 1)))), (11, .float (fS (zO σ) (j + 1))), (7, .int (sumZ (enc σ) 96 (j + 1))), (16, .long ((zB (zO σ)) >>> ((nI (j + 1)).toInt64 &&& 63))), (15, .int (nI 1)), (14, .int (nI 0)), (13, .int (nI (j + 1))), (12, .int (nI 1)), (10, .int (nI (zcnt (kindP σ true) j))), (6, .int (nI (zcnt (zO σ) 48))), (4, .long (zB (zL σ))), (2, .long (zB (zO σ))), (0, .ref x), (1, .int v)]) hx hb dL_holds_280 hl (by decide) rfl (fun ls hl => ?_)
            refine lv_iload hx hb dL_holds_282 (lv_at hl 9 rfl) ?_
            refine lv_iload hx hb dL_holds_284 (lv_at hl 5 rfl) ?_
            refine lv_iconst (v := nI 1) hx hb dL_holds_286 (by decide) ?_
            refine lv_icmp_ne (tgt := 294) hx hb dL_holds_287 (by decide) (fun h_237 => ?_) (fun h_237 => ?_)
            · exact absurd rfl h_237
            refine lv_iconst (v := nI 1) hx hb dL_holds_290 (by decide) ?_
            refine lv_goto (tgt := 295) hx hb dL_holds_291 (by decide) ?_
            refine lv_iadd hx hb dL_holds_295 ?_
            refine ktopi (y := nI (zcnt (kindP σ true) j + 1)) (nI_add (zcnt (kindP σ true) j) 1) ?_
            refine ktopi (y := nI (zcnt (kindP σ true) (j + 1))) (by rw [zcnt_t (kind_tt hf hh)]) ?_
            refine lv_istore (lv' := [(10, .int (nI (zcnt (kindP σ true) (j + 1)))), (9, .int (nI (zcnt (kindP σ false) (j + 1)))), (8, .int (nI (zcnt (shutP σ) (j + 1)))), (11, .float (fS (zO σ) (j + 1))), (7, .int (sumZ (enc σ) 96 (j + 1))), (16, .long ((zB (zO σ)) >>> ((nI (j + 1)).toInt64 &&& 63))), (15, .int (nI 1)), (14, .int (nI 0)), (13, .int (nI (j + 1))), (12, .int (nI 1)), (6, .int (nI (zcnt (zO σ) 48))), (4, .long (zB (zL σ))), (2, .long (zB (zO σ))), (0, .ref x), (1, .int v)]) hx hb dL_holds_296 hl (by decide) rfl (fun ls hl => ?_)
            refine lv_aload_n hx hb dL_holds_298 rfl (lv_at hl 13 rfl) ?_
            refine lv_iload hx hb dL_holds_299 (lv_at hl 8 rfl) ?_
            refine kcalli (wc := [cX x nw sn tk hs tx tr, cR nw na nb σ, xI g na 49 (zT σ), xI g nb 49 (zI σ)]) (wr := [cH hs hq kn]) (wn := fun (u : Unit) => [cX x nw sn tk hs tx tr, cR nw na nb σ, xI g na 49 (zT σ), xI g nb 49 (zI σ), cH hs hq kn]) F w [0, 1, 2, 3] [4] [1, 2, 3, 4, 0] rfl rfl rfl (fun _ => rfl)
              (fun hp => va_runV (As := [.int (nI (j + 1))]) (rest := []) F.1 (kX5_isOpen_k l g x nw sn tk hs tx tr na nb σ (j + 1) H.size (by omega)) (cwV 1 hts gL_holds_X5_isOpen rfl rfl rfl ⟨rfl, hd_X5_isOpen⟩ ⟨Nat.le_of_ble_eq_true rfl, Nat.le_of_ble_eq_true rfl⟩) ⟨hp.1, va_recv F.2.2.2.1.1 w.1 (q0 := 0) (ci := 5) rfl rfl, hp.2⟩ rfl rfl hl.1 rfl (lv_room (Nat.le_of_ble_eq_true rfl)) dL_holds_301 ⟨by show _ ≤ (103 : Nat); omega, by show _ ≤ (618 : Nat); omega⟩)
              (fun r_238 _ H locs h_239 w => ?_)
            subst h_239
            refine ktopi (y := nI 0) (by rw [ho]; rfl) ?_
            refine lv_iload hx hb dL_holds_304 (lv_at hl 7 rfl) ?_
            refine lv_icmp_ne (tgt := 517) hx hb dL_holds_306 (by decide) (fun h_240 => ?_) (fun h_240 => ?_)
            · exact absurd rfl h_240
            refine lv_aload_n hx hb dL_holds_309 rfl (lv_at hl 13 rfl) ?_
            refine lv_iload hx hb dL_holds_310 (lv_at hl 8 rfl) ?_
            refine kcalli (wc := [cX x nw sn tk hs tx tr, cR nw na nb σ, xI g na 49 (zT σ), xI g nb 49 (zI σ)]) (wr := [cH hs hq kn]) (wn := fun (u : Unit) => [cX x nw sn tk hs tx tr, cR nw na nb σ, xI g na 49 (zT σ), xI g nb 49 (zI σ), cH hs hq kn]) F w [0, 1, 2, 3] [4] [1, 2, 3, 4, 0] rfl rfl rfl (fun _ => rfl)
              (fun hp => va_runV (As := [.int (nI (j + 1))]) (rest := []) F.1 (kX5_turnsOf_k l g x nw sn tk hs tx tr na nb σ (j + 1) H.size (by omega)) (cwV 1 hts gL_holds_X5_turnsOf rfl rfl rfl ⟨rfl, hd_X5_turnsOf⟩ ⟨Nat.le_of_ble_eq_true rfl, Nat.le_of_ble_eq_true rfl⟩) ⟨hp.1, va_recv F.2.2.2.1.1 w.1 (q0 := 0) (ci := 5) rfl rfl, hp.2⟩ rfl rfl hl.1 rfl (lv_room (Nat.le_of_ble_eq_true rfl)) dL_holds_312 ⟨by show _ ≤ (103 : Nat); omega, by show _ ≤ (618 : Nat); omega⟩)
              (fun r_241 _ H locs h_242 w => ?_)
            subst h_242
            refine ktopi (y := nI kk) (hk2) ?_
            refine lv_if_lt (tgt := 517) hx hb dL_holds_315 (by decide) (fun h_243 => ?_) (fun h_243 => ?_)
            · exact absurd h_243 (nI_nn hk1)
            refine lv_aload_n hx hb dL_holds_318 rfl (lv_at hl 13 rfl) ?_
            refine lv_iload hx hb dL_holds_319 (lv_at hl 8 rfl) ?_
            refine kcalli (wc := [cX x nw sn tk hs tx tr, cR nw na nb σ, xI g na 49 (zT σ), xI g nb 49 (zI σ)]) (wr := [cH hs hq kn]) (wn := fun (u : Unit) => [cX x nw sn tk hs tx tr, cR nw na nb σ, xI g na 49 (zT σ), xI g nb 49 (zI σ), cH hs hq kn]) F w [0, 1, 2, 3] [4] [1, 2, 3, 4, 0] rfl rfl rfl (fun _ => rfl)
              (fun hp => va_runV (As := [.int (nI (j + 1))]) (rest := []) F.1 (kX5_turnsOf_k l g x nw sn tk hs tx tr na nb σ (j + 1) H.size (by omega)) (cwV 1 hts gL_holds_X5_turnsOf rfl rfl rfl ⟨rfl, hd_X5_turnsOf⟩ ⟨Nat.le_of_ble_eq_true rfl, Nat.le_of_ble_eq_true rfl⟩) ⟨hp.1, va_recv F.2.2.2.1.1 w.1 (q0 := 0) (ci := 5) rfl rfl, hp.2⟩ rfl rfl hl.1 rfl (lv_room (Nat.le_of_ble_eq_true rfl)) dL_holds_321 ⟨by show _ ≤ (103 : Nat); omega, by show _ ≤ (618 : Nat); omega⟩)
              (fun r_244 _ H locs h_245 w => ?_)
            subst h_245
            refine ktopi (y := nI kk) (hk2) ?_
            refine lv_iconst (v := nI 2) hx hb dL_holds_324 (by decide) ?_
            refine lv_irem hx hb dL_holds_325 ((kc0_eq_f (by omega)).mpr (by omega)) ?_
            refine ktopi (y := nI (kk % 2)) (pk_rem (a := kk) (d := 2) (by omega) (by omega) (by omega)) ?_
            refine ktopi (y := nI 0) (by rw [ho] at hk3; have h8 := of_decide_eq_false hk3.symm; exact congrArg nI (by omega)) ?_
            refine lv_iload hx hb dL_holds_326 (lv_at hl 7 rfl) ?_
            refine lv_if_eq (tgt := 335) hx hb dL_holds_328 (by decide) (fun h_246 => ?_) (fun h_246 => ?_)
            rotate_left 1
            · exact absurd rfl h_246
            refine lv_iconst (v := nI 0) hx hb dL_holds_335 (by decide) ?_
            refine lv_icmp_ne (tgt := 517) hx hb dL_holds_336 (by decide) (fun h_247 => ?_) (fun h_247 => ?_)
            · exact absurd rfl h_247
            obtain ⟨n1, n2, n3, n4⟩ := nxN_s (zO σ) (show j + 1 ≤ 48 by omega)
            have JN_248 : ∀   (H : Heap) (locs : List Loc) (ls : Array Slot), kW g A s [cX x nw sn tk hs tx tr, cR nw na nb σ, xI g na 49 (zT σ), xI g nb 49 (zI σ), cH hs hq kn] H locs → lv_has ls 24 [(10, .int (nI (zcnt (kindP σ true) (j + 1)))), (9, .int (nI (zcnt (kindP σ false) (j + 1)))), (8, .int (nI (zcnt (shutP σ) (j + 1)))), (11, .float (fS (zO σ) (j + 1))), (7, .int (sumZ (enc σ) 96 (j + 1))), (15, .int (nI 1)), (14, .int (nI 0)), (13, .int (nI (j + 1))), (12, .int (nI 1)), (6, .int (nI (zcnt (zO σ) 48))), (4, .long (zB (zL σ))), (2, .long (zB (zO σ))), (0, .ref x), (1, .int v)] → W p l e rmL_holds s m args below meth c H locs (7 + 2 * j + 1 + 1) (42 + 12 * j + 6 + 6) Q (F0 m 422 ls []) := by
              intro   H locs ls w hl
              refine lv_aload_n hx hb dL_holds_422 rfl (lv_at hl 12 rfl) ?_
              refine lv_iload hx hb dL_holds_423 (lv_at hl 7 rfl) ?_
              refine lv_iconst (v := nI 0) hx hb dL_holds_425 (by decide) ?_
              refine ktopi (y := bI false) (by decide) ?_
              refine kcalli (wc := [cX x nw sn tk hs tx tr, cR nw na nb σ, xI g na 49 (zT σ), xI g nb 49 (zI σ)]) (wr := [cH hs hq kn]) (wn := fun (u : Unit) => [cX x nw sn tk hs tx tr, cR nw na nb σ, xI g na 49 (zT σ), xI g nb 49 (zI σ), cH hs hq kn]) F w [0, 1, 2, 3] [4] [1, 2, 3, 4, 0] rfl rfl rfl (fun _ => rfl)
                (fun hp => va_runV (As := [.int (nI (j + 1)), .int (bI false)]) (rest := []) F.1 (kX5_whyNot_k l g x nw sn tk hs tx tr na nb σ (j + 1) false H.size (⟨by omega, by omega⟩)) (cwV 2 hts gL_holds_X5_whyNot rfl rfl rfl ⟨rfl, hd_X5_whyNot⟩ ⟨Nat.le_of_ble_eq_true rfl, Nat.le_of_ble_eq_true rfl⟩) ⟨hp.1, va_recv F.2.2.2.1.1 w.1 (q0 := 0) (ci := 5) rfl rfl, hp.2⟩ rfl rfl hl.1 rfl (lv_room (Nat.le_of_ble_eq_true rfl)) dL_holds_426 ⟨by show _ ≤ (103 : Nat); omega, by show _ ≤ (618 : Nat); omega⟩)
                (fun r_249 _ H locs h_250 w => ?_)
              subst h_250
              refine lv_iload hx hb dL_holds_429 (lv_at hl 6 rfl) ?_
              refine lv_if_ne (tgt := 438) hx hb dL_holds_431 (by decide) (fun h_251 => ?_) (fun h_251 => ?_)
              · exact absurd rfl h_251
              refine lv_iconst (v := nI 1) hx hb dL_holds_434 (by decide) ?_
              refine lv_goto (tgt := 468) hx hb dL_holds_435 (by decide) ?_
              refine lv_icmp_ne (tgt := 517) hx hb dL_holds_468 (by decide) (fun h_252 => ?_) (fun h_252 => ?_)
              · exact absurd (congrArg nI (reas_1 ho)) h_252
              refine lv_aload_n hx hb dL_holds_471 rfl (lv_at hl 12 rfl) ?_
              refine lv_iload hx hb dL_holds_472 (lv_at hl 7 rfl) ?_
              refine lv_iconst (v := nI 1) hx hb dL_holds_474 (by decide) ?_
              refine ktopi (y := bI true) (by decide) ?_
              refine kcalli (wc := [cX x nw sn tk hs tx tr, cR nw na nb σ, xI g na 49 (zT σ), xI g nb 49 (zI σ)]) (wr := [cH hs hq kn]) (wn := fun (u : Unit) => [cX x nw sn tk hs tx tr, cR nw na nb σ, xI g na 49 (zT σ), xI g nb 49 (zI σ), cH hs hq kn]) F w [0, 1, 2, 3] [4] [1, 2, 3, 4, 0] rfl rfl rfl (fun _ => rfl)
                (fun hp => va_runV (As := [.int (nI (j + 1)), .int (bI true)]) (rest := []) F.1 (kX5_whyNot_k l g x nw sn tk hs tx tr na nb σ (j + 1) true H.size (⟨by omega, by omega⟩)) (cwV 2 hts gL_holds_X5_whyNot rfl rfl rfl ⟨rfl, hd_X5_whyNot⟩ ⟨Nat.le_of_ble_eq_true rfl, Nat.le_of_ble_eq_true rfl⟩) ⟨hp.1, va_recv F.2.2.2.1.1 w.1 (q0 := 0) (ci := 5) rfl rfl, hp.2⟩ rfl rfl hl.1 rfl (lv_room (Nat.le_of_ble_eq_true rfl)) dL_holds_475 ⟨by show _ ≤ (103 : Nat); omega, by show _ ≤ (618 : Nat); omega⟩)
                (fun r_253 _ H locs h_254 w => ?_)
              subst h_254
              refine lv_iload hx hb dL_holds_478 (lv_at hl 6 rfl) ?_
              refine lv_if_ne (tgt := 487) hx hb dL_holds_480 (by decide) (fun h_255 => ?_) (fun h_255 => ?_)
              · exact absurd rfl h_255
              refine lv_iconst (v := nI 1) hx hb dL_holds_483 (by decide) ?_
              refine lv_goto (tgt := 510) hx hb dL_holds_484 (by decide) ?_
              refine lv_icmp_ne (tgt := 517) hx hb dL_holds_510 (by decide) (fun h_256 => ?_) (fun h_256 => ?_)
              · exact absurd (congrArg nI (reas_1 ho)) h_256
              refine lv_iconst (v := nI 1) hx hb dL_holds_513 (by decide) ?_
              refine lv_goto (tgt := 518) hx hb dL_holds_514 (by decide) ?_
              refine lv_istore (lv' := [(12, .int (nI 1)), (10, .int (nI (zcnt (kindP σ true) (j + 1)))), (9, .int (nI (zcnt (kindP σ false) (j + 1)))), (8, .int (nI (zcnt (shutP σ) (j + 1)))), (11, .float (fS (zO σ) (j + 1))), (7, .int (sumZ (enc σ) 96 (j + 1))), (15, .int (nI 1)), (14, .int (nI 0)), (13, .int (nI (j + 1))), (6, .int (nI (zcnt (zO σ) 48))), (4, .long (zB (zL σ))), (2, .long (zB (zO σ))), (0, .ref x), (1, .int v)]) hx hb dL_holds_518 hl (by decide) rfl (fun ls hl => ?_)
              refine lv_iinc (v := nI (j + 1 + 1)) (lv' := [(13, .int (nI (j + 1 + 1))), (12, .int (nI 1)), (10, .int (nI (zcnt (kindP σ true) (j + 1)))), (9, .int (nI (zcnt (kindP σ false) (j + 1)))), (8, .int (nI (zcnt (shutP σ) (j + 1)))), (11, .float (fS (zO σ) (j + 1))), (7, .int (sumZ (enc σ) 96 (j + 1))), (15, .int (nI 1)), (14, .int (nI 0)), (6, .int (nI (zcnt (zO σ) 48))), (4, .long (zB (zL σ))), (2, .long (zB (zO σ))), (0, .ref x), (1, .int v)]) hx hb dL_holds_520 hl (k := 8) rfl (nI_add (j + 1) 1) (by decide) rfl (fun ls hl => ?_)
              refine lv_goto (tgt := 173) hx hb dL_holds_523 (by decide) ?_
              refine W.widen (k := 7 + 2 * (j + 1)) (n := 42 + 12 * (j + 1)) (by omega) (by omega) ?_
              exact ih_43 (j + 1) (by omega) _ _ _ (by omega) (kW.perm w [0, 1, 2, 3, 4] rfl rfl) (lv_sub hl [0, 1, 5, 2, 3, 4, 6, 9, 10, 11, 12, 13] rfl)
            refine lv_aload_n hx hb dL_holds_339 rfl (lv_at hl 13 rfl) ?_
            refine lv_iload hx hb dL_holds_340 (lv_at hl 8 rfl) ?_
            refine kcalli (wc := [cX x nw sn tk hs tx tr, cR nw na nb σ, xI g na 49 (zT σ), xI g nb 49 (zI σ)]) (wr := [cH hs hq kn]) (wn := fun (u : Unit) => [cX x nw sn tk hs tx tr, cR nw na nb σ, xI g na 49 (zT σ), xI g nb 49 (zI σ), cH hs hq kn]) F w [0, 1, 2, 3] [4] [1, 2, 3, 4, 0] rfl rfl rfl (fun _ => rfl)
              (fun hp => vx_runSW (As := [.ref x, .int (nI (j + 1))]) (rest := []) F.1 (kL_nextOpen l hnl g x nw sn tk hs tx tr na nb σ (j + 1) H.size (⟨by omega, by omega⟩)) (vx_cwSW 2 hts gL_holds_L_nextOpen rfl rfl rfl hd_L_nextOpen ⟨Nat.le_of_ble_eq_true rfl, Nat.le_of_ble_eq_true rfl⟩) hp rfl rfl hl.1 rfl (lv_room (Nat.le_of_ble_eq_true rfl)) dL_holds_342 ⟨by show _ ≤ (103 : Nat); omega, by show _ ≤ (618 : Nat); omega⟩)
              (fun r_257 _ H locs h_258 w => ?_)
            subst h_258
            rcases (show nxN (zO σ) (j + 1) < 49 ∨ ¬ nxN (zO σ) (j + 1) < 49 from Decidable.em _) with h_259 | h_259
            · skip
              refine ktopi (y := nI (nxN (zO σ) (j + 1))) (if_pos h_259) ?_
              refine lv_bipush (v := (-104)) hx hb dL_holds_345 (by decide) ?_
              refine lv_icmp_ne (tgt := 354) hx hb dL_holds_347 (by decide) (fun h_260 => ?_) (fun h_260 => ?_)
              rotate_left 1
              · exact absurd h_260 (nI_m104 (by omega))
              refine lv_iconst (v := nI 0) hx hb dL_holds_354 (by decide) ?_
              refine lv_lload hx hb dL_holds_355 (lv_at hl 5 rfl) ?_
              refine lv_lconst (v := 0) hx hb dL_holds_357 (by decide) ?_
              refine W.lcmp hx hb dL_holds_358 ?_
              refine lv_if_ne (tgt := 366) hx hb dL_holds_359 (by decide) (fun h_261 => ?_) (fun h_261 => ?_)
              rotate_left 1
              · exact absurd (lgc_eq.mp h_261) (nx_yes (by omega) (by omega) h_259)
              refine lv_iconst (v := nI 0) hx hb dL_holds_366 (by decide) ?_
              refine lv_icmp_ne (tgt := 517) hx hb dL_holds_367 (by decide) (fun h_262 => ?_) (fun h_262 => ?_)
              · exact absurd rfl h_262
              refine lv_lload hx hb dL_holds_370 (lv_at hl 5 rfl) ?_
              refine lv_lconst (v := 0) hx hb dL_holds_372 (by decide) ?_
              refine W.lcmp hx hb dL_holds_373 ?_
              refine lv_if_eq (tgt := 422) hx hb dL_holds_374 (by decide) (fun h_263 => ?_) (fun h_263 => ?_)
              · exact absurd (lgc_eq.mp h_263) (nx_yes (by omega) (by omega) h_259)
              refine lv_aload_n hx hb dL_holds_377 rfl (lv_at hl 13 rfl) ?_
              refine lv_iload hx hb dL_holds_378 (lv_at hl 8 rfl) ?_
              refine kcalli (wc := [cX x nw sn tk hs tx tr, cR nw na nb σ, xI g na 49 (zT σ), xI g nb 49 (zI σ)]) (wr := [cH hs hq kn]) (wn := fun (u : Unit) => [cX x nw sn tk hs tx tr, cR nw na nb σ, xI g na 49 (zT σ), xI g nb 49 (zI σ), cH hs hq kn]) F w [0, 1, 2, 3] [4] [1, 2, 3, 4, 0] rfl rfl rfl (fun _ => rfl)
                (fun hp => va_runV (As := [.int (nI (j + 1))]) (rest := []) F.1 (kX5_nextOpen_k l g x nw sn tk hs tx tr na nb σ (j + 1) (nxN (zO σ) (j + 1)) H.size (⟨by omega, by omega⟩) (⟨n1, by omega⟩) n3 (n4 h_259)) (cwV 1 hts gL_holds_X5_nextOpen rfl rfl rfl ⟨rfl, hd_X5_nextOpen⟩ ⟨Nat.le_of_ble_eq_true rfl, Nat.le_of_ble_eq_true rfl⟩) ⟨hp.1, va_recv F.2.2.2.1.1 w.1 (q0 := 0) (ci := 5) rfl rfl, hp.2⟩ rfl rfl hl.1 rfl (lv_room (Nat.le_of_ble_eq_true rfl)) dL_holds_380 ⟨by show _ ≤ (103 : Nat); omega, by show _ ≤ (618 : Nat); omega⟩)
                (fun r_264 _ H locs h_265 w => ?_)
              subst h_265
              refine lv_iload hx hb dL_holds_383 (lv_at hl 8 rfl) ?_
              refine lv_icmp_lt (tgt := 517) hx hb dL_holds_385 (by decide) (fun h_266 => ?_) (fun h_266 => ?_)
              · exact absurd ((kc_lt_t (by omega) (by omega)).mp h_266) (by omega)
              refine lv_lload hx hb dL_holds_388 (lv_at hl 5 rfl) ?_
              refine lv_lconst (v := 1) hx hb dL_holds_390 (by decide) ?_
              refine lv_aload_n hx hb dL_holds_391 rfl (lv_at hl 13 rfl) ?_
              refine lv_iload hx hb dL_holds_392 (lv_at hl 8 rfl) ?_
              refine kcalli (wc := [cX x nw sn tk hs tx tr, cR nw na nb σ, xI g na 49 (zT σ), xI g nb 49 (zI σ)]) (wr := [cH hs hq kn]) (wn := fun (u : Unit) => [cX x nw sn tk hs tx tr, cR nw na nb σ, xI g na 49 (zT σ), xI g nb 49 (zI σ), cH hs hq kn]) F w [0, 1, 2, 3] [4] [1, 2, 3, 4, 0] rfl rfl rfl (fun _ => rfl)
                (fun hp => va_runV (As := [.int (nI (j + 1))]) (rest := [.long 1, .long ((zB (zO σ)) >>> ((nI (j + 1)).toInt64 &&& 63))]) F.1 (kX5_nextOpen_k l g x nw sn tk hs tx tr na nb σ (j + 1) (nxN (zO σ) (j + 1)) H.size (⟨by omega, by omega⟩) (⟨n1, by omega⟩) n3 (n4 h_259)) (cwV 1 hts gL_holds_X5_nextOpen rfl rfl rfl ⟨rfl, hd_X5_nextOpen⟩ ⟨Nat.le_of_ble_eq_true rfl, Nat.le_of_ble_eq_true rfl⟩) ⟨hp.1, va_recv F.2.2.2.1.1 w.1 (q0 := 0) (ci := 5) rfl rfl, hp.2⟩ rfl rfl hl.1 rfl (lv_room (Nat.le_of_ble_eq_true rfl)) dL_holds_394 ⟨by show _ ≤ (103 : Nat); omega, by show _ ≤ (618 : Nat); omega⟩)
                (fun r_267 _ H locs h_268 w => ?_)
              subst h_268
              refine lv_iload hx hb dL_holds_397 (lv_at hl 8 rfl) ?_
              refine lv_isub hx hb dL_holds_399 ?_
              refine ktopi (y := nI ((nxN (zO σ) (j + 1)) - (j + 1))) (pk_sub (by omega)) ?_
              refine lv_lshl hx hb dL_holds_400 rfl ?_
              refine ktopl (y := zbit (nxN (zO σ) (j + 1) - (j + 1))) (zm_bit (by omega)) ?_
              refine lv_lconst (v := 1) hx hb dL_holds_401 (by decide) ?_
              refine lv_lsub hx hb dL_holds_402 ?_
              refine lv_land hx hb dL_holds_403 ?_
              refine lv_lconst (v := 0) hx hb dL_holds_404 (by decide) ?_
              refine W.lcmp hx hb dL_holds_405 ?_
              refine lv_if_ne (tgt := 517) hx hb dL_holds_406 (by decide) (fun h_269 => ?_) (fun h_269 => ?_)
              · exact absurd (lgc_eq.mpr (nx_mask (by omega) (by omega) h_259)) h_269
              refine lv_aload_n hx hb dL_holds_409 rfl (lv_at hl 13 rfl) ?_
              refine lv_aload_n hx hb dL_holds_410 rfl (lv_at hl 13 rfl) ?_
              refine lv_iload hx hb dL_holds_411 (lv_at hl 8 rfl) ?_
              refine kcalli (wc := [cX x nw sn tk hs tx tr, cR nw na nb σ, xI g na 49 (zT σ), xI g nb 49 (zI σ)]) (wr := [cH hs hq kn]) (wn := fun (u : Unit) => [cX x nw sn tk hs tx tr, cR nw na nb σ, xI g na 49 (zT σ), xI g nb 49 (zI σ), cH hs hq kn]) F w [0, 1, 2, 3] [4] [1, 2, 3, 4, 0] rfl rfl rfl (fun _ => rfl)
                (fun hp => va_runV (As := [.int (nI (j + 1))]) (rest := [.ref x]) F.1 (kX5_nextOpen_k l g x nw sn tk hs tx tr na nb σ (j + 1) (nxN (zO σ) (j + 1)) H.size (⟨by omega, by omega⟩) (⟨n1, by omega⟩) n3 (n4 h_259)) (cwV 1 hts gL_holds_X5_nextOpen rfl rfl rfl ⟨rfl, hd_X5_nextOpen⟩ ⟨Nat.le_of_ble_eq_true rfl, Nat.le_of_ble_eq_true rfl⟩) ⟨hp.1, va_recv F.2.2.2.1.1 w.1 (q0 := 0) (ci := 5) rfl rfl, hp.2⟩ rfl rfl hl.1 rfl (lv_room (Nat.le_of_ble_eq_true rfl)) dL_holds_413 ⟨by show _ ≤ (103 : Nat); omega, by show _ ≤ (618 : Nat); omega⟩)
                (fun r_270 _ H locs h_271 w => ?_)
              subst h_271
              refine kcalli (wc := [cX x nw sn tk hs tx tr, cR nw na nb σ, xI g na 49 (zT σ), xI g nb 49 (zI σ)]) (wr := [cH hs hq kn]) (wn := fun (u : Unit) => [cX x nw sn tk hs tx tr, cR nw na nb σ, xI g na 49 (zT σ), xI g nb 49 (zI σ), cH hs hq kn]) F w [0, 1, 2, 3] [4] [1, 2, 3, 4, 0] rfl rfl rfl (fun _ => rfl)
                (fun hp => va_runV (As := [.int (nI (nxN (zO σ) (j + 1)))]) (rest := []) F.1 (kX5_isOpen_k l g x nw sn tk hs tx tr na nb σ (nxN (zO σ) (j + 1)) H.size (⟨by omega, by omega⟩)) (cwV 1 hts gL_holds_X5_isOpen rfl rfl rfl ⟨rfl, hd_X5_isOpen⟩ ⟨Nat.le_of_ble_eq_true rfl, Nat.le_of_ble_eq_true rfl⟩) ⟨hp.1, va_recv F.2.2.2.1.1 w.1 (q0 := 0) (ci := 5) rfl rfl, hp.2⟩ rfl rfl hl.1 rfl (lv_room (Nat.le_of_ble_eq_true rfl)) dL_holds_416 ⟨by show _ ≤ (103 : Nat); omega, by show _ ≤ (618 : Nat); omega⟩)
                (fun r_272 _ H locs h_273 w => ?_)
              subst h_273
              refine ktopi (y := nI 1) (by rw [n4 h_259]; rfl) ?_
              refine lv_if_eq (tgt := 517) hx hb dL_holds_419 (by decide) (fun h_274 => ?_) (fun h_274 => ?_)
              · exact absurd h_274 (by decide)
              exact JN_248   _ _ _ (kW.perm w [0, 1, 2, 3, 4] rfl rfl) (lv_sub hl [0, 1, 2, 3, 4, 6, 7, 8, 9, 10, 11, 12, 13, 14] rfl)
            · skip
              refine ktopi (y := (-104)) (if_neg h_259) ?_
              refine lv_bipush (v := (-104)) hx hb dL_holds_345 (by decide) ?_
              refine lv_icmp_ne (tgt := 354) hx hb dL_holds_347 (by decide) (fun h_275 => ?_) (fun h_275 => ?_)
              · exact absurd rfl h_275
              refine lv_iconst (v := nI 1) hx hb dL_holds_350 (by decide) ?_
              refine lv_goto (tgt := 355) hx hb dL_holds_351 (by decide) ?_
              refine lv_lload hx hb dL_holds_355 (lv_at hl 5 rfl) ?_
              refine lv_lconst (v := 0) hx hb dL_holds_357 (by decide) ?_
              refine W.lcmp hx hb dL_holds_358 ?_
              refine lv_if_ne (tgt := 366) hx hb dL_holds_359 (by decide) (fun h_276 => ?_) (fun h_276 => ?_)
              · exact absurd (lgc_eq.mpr (nx_no (by omega) (by omega) h_259)) h_276
              refine lv_iconst (v := nI 1) hx hb dL_holds_362 (by decide) ?_
              refine lv_goto (tgt := 367) hx hb dL_holds_363 (by decide) ?_
              refine lv_icmp_ne (tgt := 517) hx hb dL_holds_367 (by decide) (fun h_277 => ?_) (fun h_277 => ?_)
              · exact absurd rfl h_277
              refine lv_lload hx hb dL_holds_370 (lv_at hl 5 rfl) ?_
              refine lv_lconst (v := 0) hx hb dL_holds_372 (by decide) ?_
              refine W.lcmp hx hb dL_holds_373 ?_
              refine lv_if_eq (tgt := 422) hx hb dL_holds_374 (by decide) (fun h_278 => ?_) (fun h_278 => ?_)
              rotate_left 1
              · exact absurd (lgc_eq.mpr (nx_no (by omega) (by omega) h_259)) h_278
              exact JN_248   _ _ _ (kW.perm w [0, 1, 2, 3, 4] rfl rfl) (lv_sub hl [0, 1, 2, 3, 4, 6, 7, 8, 9, 10, 11, 12, 13, 14] rfl)
        · have ho : zO σ (j + 1) = true := (zG_in (p := zO σ) (by omega) (by omega)).symm.trans (zm_hasL1 (by omega) h_128)
          refine lv_iconst (v := nI 1) hx hb dL_holds_196 (by decide) ?_
          refine lv_goto (tgt := 201) hx hb dL_holds_197 (by decide) ?_
          refine lv_istore (lv' := [(14, .int (nI 1)), (13, .int (nI (j + 1))), (12, .int (nI 1)), (11, .float (fS (zO σ) j)), (10, .int (nI (zcnt (kindP σ true) j))), (9, .int (nI (zcnt (kindP σ false) j))), (8, .int (nI (zcnt (shutP σ) j))), (7, .int (sumZ (enc σ) 96 j)), (6, .int (nI (zcnt (zO σ) 48))), (4, .long (zB (zL σ))), (2, .long (zB (zO σ))), (0, .ref x), (1, .int v)]) hx hb dL_holds_201 hl (by decide) rfl (fun ls hl => ?_)
          rcases (show zF σ (j + 1) = false ∨ (zF σ (j + 1) = true ∧ zH σ (j + 1) = false) ∨ (zF σ (j + 1) = true ∧ zH σ (j + 1) = true) from by cases zF σ (j + 1) <;> cases zH σ (j + 1) <;> simp) with h_279 | h_279 | h_279
          · skip
            refine lv_aload_n hx hb dL_holds_203 rfl (lv_at hl 11 rfl) ?_
            refine lv_iload hx hb dL_holds_204 (lv_at hl 1 rfl) ?_
            refine kcalli (wc := [cX x nw sn tk hs tx tr, cR nw na nb σ, xI g na 49 (zT σ), xI g nb 49 (zI σ)]) (wr := [cH hs hq kn]) (wn := fun (u : Unit) => [cX x nw sn tk hs tx tr, cR nw na nb σ, xI g na 49 (zT σ), xI g nb 49 (zI σ), cH hs hq kn]) F w [0, 1, 2, 3] [4] [1, 2, 3, 4, 0] rfl rfl rfl (fun _ => rfl)
              (fun hp => vx_runSW (As := [.ref x, .int (nI (j + 1))]) (rest := []) F.1 (kL_thingAt l hnl g x nw sn tk hs tx tr na nb σ (j + 1) H.size (by omega)) (vx_cwSW 2 hts gL_holds_L_thingAt rfl rfl rfl hd_L_thingAt ⟨Nat.le_of_ble_eq_true rfl, Nat.le_of_ble_eq_true rfl⟩) hp rfl rfl hl.1 rfl (lv_room (Nat.le_of_ble_eq_true rfl)) dL_holds_206 ⟨by show _ ≤ (103 : Nat); omega, by show _ ≤ (618 : Nat); omega⟩)
              (fun r_280 _ H locs h_281 w => ?_)
            subst h_281
            refine ktopi (y := (-104)) (thV_f h_279) ?_
            have hf := h_279
            refine lv_istore (lv' := [(15, .int (-104)), (14, .int (nI 1)), (13, .int (nI (j + 1))), (12, .int (nI 1)), (11, .float (fS (zO σ) j)), (10, .int (nI (zcnt (kindP σ true) j))), (9, .int (nI (zcnt (kindP σ false) j))), (8, .int (nI (zcnt (shutP σ) j))), (7, .int (sumZ (enc σ) 96 j)), (6, .int (nI (zcnt (zO σ) 48))), (4, .long (zB (zL σ))), (2, .long (zB (zO σ))), (0, .ref x), (1, .int v)]) hx hb dL_holds_209 hl (by decide) rfl (fun ls hl => ?_)
            refine lv_lload_n hx hb dL_holds_211 rfl (lv_at hl 11 rfl) ?_
            refine lv_iload hx hb dL_holds_212 (lv_at hl 2 rfl) ?_
            refine lv_lshr hx hb dL_holds_214 rfl ?_
            refine lv_lstore (lv' := [(16, .long ((zB (zO σ)) >>> ((nI (j + 1)).toInt64 &&& 63))), (15, .int (-104)), (14, .int (nI 1)), (13, .int (nI (j + 1))), (12, .int (nI 1)), (11, .float (fS (zO σ) j)), (10, .int (nI (zcnt (kindP σ true) j))), (9, .int (nI (zcnt (kindP σ false) j))), (8, .int (nI (zcnt (shutP σ) j))), (7, .int (sumZ (enc σ) 96 j)), (6, .int (nI (zcnt (zO σ) 48))), (4, .long (zB (zL σ))), (2, .long (zB (zO σ))), (0, .ref x), (1, .int v)]) hx hb dL_holds_215 hl (by decide) rfl (fun ls hl => ?_)
            refine lv_iload hx hb dL_holds_217 (lv_at hl 9 rfl) ?_
            refine lv_aload_n hx hb dL_holds_219 rfl (lv_at hl 13 rfl) ?_
            refine lv_iload hx hb dL_holds_220 (lv_at hl 3 rfl) ?_
            refine kcalli (wc := [cX x nw sn tk hs tx tr, cR nw na nb σ, xI g na 49 (zT σ), xI g nb 49 (zI σ)]) (wr := [cH hs hq kn]) (wn := fun (u : Unit) => [cX x nw sn tk hs tx tr, cR nw na nb σ, xI g na 49 (zT σ), xI g nb 49 (zI σ), cH hs hq kn]) F w [0, 1, 2, 3] [4] [1, 2, 3, 4, 0] rfl rfl rfl (fun _ => rfl)
              (fun hp => va_runV (As := [.int (nI (j + 1))]) (rest := [.int (sumZ (enc σ) 96 j)]) F.1 (kX5_turnsOf_k l g x nw sn tk hs tx tr na nb σ (j + 1) H.size (by omega)) (cwV 1 hts gL_holds_X5_turnsOf rfl rfl rfl ⟨rfl, hd_X5_turnsOf⟩ ⟨Nat.le_of_ble_eq_true rfl, Nat.le_of_ble_eq_true rfl⟩) ⟨hp.1, va_recv F.2.2.2.1.1 w.1 (q0 := 0) (ci := 5) rfl rfl, hp.2⟩ rfl rfl hl.1 rfl (lv_room (Nat.le_of_ble_eq_true rfl)) dL_holds_222 ⟨by show _ ≤ (103 : Nat); omega, by show _ ≤ (618 : Nat); omega⟩)
              (fun r_282 _ H locs h_283 w => ?_)
            subst h_283
            refine lv_iadd hx hb dL_holds_225 ?_
            refine ktopi (y := sumZ (enc σ) 96 (j + 1)) (by rw [sumZ, enc_T (by omega) (by omega)]) ?_
            refine lv_istore (lv' := [(7, .int (sumZ (enc σ) 96 (j + 1))), (16, .long ((zB (zO σ)) >>> ((nI (j + 1)).toInt64 &&& 63))), (15, .int (-104)), (14, .int (nI 1)), (13, .int (nI (j + 1))), (12, .int (nI 1)), (11, .float (fS (zO σ) j)), (10, .int (nI (zcnt (kindP σ true) j))), (9, .int (nI (zcnt (kindP σ false) j))), (8, .int (nI (zcnt (shutP σ) j))), (6, .int (nI (zcnt (zO σ) 48))), (4, .long (zB (zL σ))), (2, .long (zB (zO σ))), (0, .ref x), (1, .int v)]) hx hb dL_holds_226 hl (by decide) rfl (fun ls hl => ?_)
            refine lv_fload hx hb dL_holds_228 (lv_at hl 6 rfl) ?_
            refine lv_iload hx hb dL_holds_230 (lv_at hl 3 rfl) ?_
            refine lv_if_eq (tgt := 243) hx hb dL_holds_232 (by decide) (fun h_284 => ?_) (fun h_284 => ?_)
            · exact absurd h_284 (by decide)
            refine lv_fconst1 hx hb dL_holds_235 ?_
            refine lv_iload hx hb dL_holds_236 (lv_at hl 4 rfl) ?_
            refine lv_i2f hx hb dL_holds_238 ?_
            refine lv_fdiv hx hb dL_holds_239 (vf32 (fq_ne (by omega))) ?_
            refine ktopf (y := fq (j + 1)) (rfl) ?_
            refine lv_goto (tgt := 244) hx hb dL_holds_240 (by decide) ?_
            refine lv_fadd hx hb dL_holds_244 (vf32 (fA_ne (zO σ) (by omega))) ?_
            refine ktopf (y := fS (zO σ) (j + 1)) ((fS_t ho).symm) ?_
            refine lv_fstore (lv' := [(11, .float (fS (zO σ) (j + 1))), (7, .int (sumZ (enc σ) 96 (j + 1))), (16, .long ((zB (zO σ)) >>> ((nI (j + 1)).toInt64 &&& 63))), (15, .int (-104)), (14, .int (nI 1)), (13, .int (nI (j + 1))), (12, .int (nI 1)), (10, .int (nI (zcnt (kindP σ true) j))), (9, .int (nI (zcnt (kindP σ false) j))), (8, .int (nI (zcnt (shutP σ) j))), (6, .int (nI (zcnt (zO σ) 48))), (4, .long (zB (zL σ))), (2, .long (zB (zO σ))), (0, .ref x), (1, .int v)]) hx hb dL_holds_245 hl (by decide) rfl (fun ls hl => ?_)
            refine lv_iload hx hb dL_holds_247 (lv_at hl 9 rfl) ?_
            refine lv_iload hx hb dL_holds_249 (lv_at hl 3 rfl) ?_
            refine lv_if_lt (tgt := 263) hx hb dL_holds_251 (by decide) (fun h_285 => ?_) (fun h_285 => ?_)
            rotate_left 1
            · exact absurd (by decide) h_285
            refine lv_iconst (v := nI 0) hx hb dL_holds_263 (by decide) ?_
            refine lv_iadd hx hb dL_holds_264 ?_
            refine ktopi (y := nI (zcnt (shutP σ) j + 0)) (nI_add (zcnt (shutP σ) j) 0) ?_
            refine ktopi (y := nI (zcnt (shutP σ) (j + 1))) (by rw [zcnt_f (shut_f1 hf)]; rfl) ?_
            refine lv_istore (lv' := [(8, .int (nI (zcnt (shutP σ) (j + 1)))), (11, .float (fS (zO σ) (j + 1))), (7, .int (sumZ (enc σ) 96 (j + 1))), (16, .long ((zB (zO σ)) >>> ((nI (j + 1)).toInt64 &&& 63))), (15, .int (-104)), (14, .int (nI 1)), (13, .int (nI (j + 1))), (12, .int (nI 1)), (10, .int (nI (zcnt (kindP σ true) j))), (9, .int (nI (zcnt (kindP σ false) j))), (6, .int (nI (zcnt (zO σ) 48))), (4, .long (zB (zL σ))), (2, .long (zB (zO σ))), (0, .ref x), (1, .int v)]) hx hb dL_holds_265 hl (by decide) rfl (fun ls hl => ?_)
            refine lv_iload hx hb dL_holds_267 (lv_at hl 9 rfl) ?_
            refine lv_iload hx hb dL_holds_269 (lv_at hl 4 rfl) ?_
            refine lv_if_ne (tgt := 278) hx hb dL_holds_271 (by decide) (fun h_286 => ?_) (fun h_286 => ?_)
            rotate_left 1
            · exact absurd h_286 (by decide)
            refine lv_iconst (v := nI 0) hx hb dL_holds_278 (by decide) ?_
            refine lv_iadd hx hb dL_holds_279 ?_
            refine ktopi (y := nI (zcnt (kindP σ false) j + 0)) (nI_add (zcnt (kindP σ false) j) 0) ?_
            refine ktopi (y := nI (zcnt (kindP σ false) (j + 1))) (by rw [zcnt_f (kind_ff hf)]; rfl) ?_
            refine lv_istore (lv' := [(9, .int (nI (zcnt (kindP σ false) (j + 1)))), (8, .int (nI (zcnt (shutP σ) (j + 1)))), (11, .float (fS (zO σ) (j + 1))), (7, .int (sumZ (enc σ) 96 (j + 1))), (16, .long ((zB (zO σ)) >>> ((nI (j + 1)).toInt64 &&& 63))), (15, .int (-104)), (14, .int (nI 1)), (13, .int (nI (j + 1))), (12, .int (nI 1)), (10, .int (nI (zcnt (kindP σ true) j))), (6, .int (nI (zcnt (zO σ) 48))), (4, .long (zB (zL σ))), (2, .long (zB (zO σ))), (0, .ref x), (1, .int v)]) hx hb dL_holds_280 hl (by decide) rfl (fun ls hl => ?_)
            refine lv_iload hx hb dL_holds_282 (lv_at hl 9 rfl) ?_
            refine lv_iload hx hb dL_holds_284 (lv_at hl 5 rfl) ?_
            refine lv_iconst (v := nI 1) hx hb dL_holds_286 (by decide) ?_
            refine lv_icmp_ne (tgt := 294) hx hb dL_holds_287 (by decide) (fun h_287 => ?_) (fun h_287 => ?_)
            rotate_left 1
            · exact absurd h_287 (by decide)
            refine lv_iconst (v := nI 0) hx hb dL_holds_294 (by decide) ?_
            refine lv_iadd hx hb dL_holds_295 ?_
            refine ktopi (y := nI (zcnt (kindP σ true) j + 0)) (nI_add (zcnt (kindP σ true) j) 0) ?_
            refine ktopi (y := nI (zcnt (kindP σ true) (j + 1))) (by rw [zcnt_f (kind_ff hf)]; rfl) ?_
            refine lv_istore (lv' := [(10, .int (nI (zcnt (kindP σ true) (j + 1)))), (9, .int (nI (zcnt (kindP σ false) (j + 1)))), (8, .int (nI (zcnt (shutP σ) (j + 1)))), (11, .float (fS (zO σ) (j + 1))), (7, .int (sumZ (enc σ) 96 (j + 1))), (16, .long ((zB (zO σ)) >>> ((nI (j + 1)).toInt64 &&& 63))), (15, .int (-104)), (14, .int (nI 1)), (13, .int (nI (j + 1))), (12, .int (nI 1)), (6, .int (nI (zcnt (zO σ) 48))), (4, .long (zB (zL σ))), (2, .long (zB (zO σ))), (0, .ref x), (1, .int v)]) hx hb dL_holds_296 hl (by decide) rfl (fun ls hl => ?_)
            refine lv_aload_n hx hb dL_holds_298 rfl (lv_at hl 13 rfl) ?_
            refine lv_iload hx hb dL_holds_299 (lv_at hl 8 rfl) ?_
            refine kcalli (wc := [cX x nw sn tk hs tx tr, cR nw na nb σ, xI g na 49 (zT σ), xI g nb 49 (zI σ)]) (wr := [cH hs hq kn]) (wn := fun (u : Unit) => [cX x nw sn tk hs tx tr, cR nw na nb σ, xI g na 49 (zT σ), xI g nb 49 (zI σ), cH hs hq kn]) F w [0, 1, 2, 3] [4] [1, 2, 3, 4, 0] rfl rfl rfl (fun _ => rfl)
              (fun hp => va_runV (As := [.int (nI (j + 1))]) (rest := []) F.1 (kX5_isOpen_k l g x nw sn tk hs tx tr na nb σ (j + 1) H.size (by omega)) (cwV 1 hts gL_holds_X5_isOpen rfl rfl rfl ⟨rfl, hd_X5_isOpen⟩ ⟨Nat.le_of_ble_eq_true rfl, Nat.le_of_ble_eq_true rfl⟩) ⟨hp.1, va_recv F.2.2.2.1.1 w.1 (q0 := 0) (ci := 5) rfl rfl, hp.2⟩ rfl rfl hl.1 rfl (lv_room (Nat.le_of_ble_eq_true rfl)) dL_holds_301 ⟨by show _ ≤ (103 : Nat); omega, by show _ ≤ (618 : Nat); omega⟩)
              (fun r_288 _ H locs h_289 w => ?_)
            subst h_289
            refine ktopi (y := nI 1) (by rw [ho]; rfl) ?_
            refine lv_iload hx hb dL_holds_304 (lv_at hl 7 rfl) ?_
            refine lv_icmp_ne (tgt := 517) hx hb dL_holds_306 (by decide) (fun h_290 => ?_) (fun h_290 => ?_)
            · exact absurd rfl h_290
            refine lv_aload_n hx hb dL_holds_309 rfl (lv_at hl 13 rfl) ?_
            refine lv_iload hx hb dL_holds_310 (lv_at hl 8 rfl) ?_
            refine kcalli (wc := [cX x nw sn tk hs tx tr, cR nw na nb σ, xI g na 49 (zT σ), xI g nb 49 (zI σ)]) (wr := [cH hs hq kn]) (wn := fun (u : Unit) => [cX x nw sn tk hs tx tr, cR nw na nb σ, xI g na 49 (zT σ), xI g nb 49 (zI σ), cH hs hq kn]) F w [0, 1, 2, 3] [4] [1, 2, 3, 4, 0] rfl rfl rfl (fun _ => rfl)
              (fun hp => va_runV (As := [.int (nI (j + 1))]) (rest := []) F.1 (kX5_turnsOf_k l g x nw sn tk hs tx tr na nb σ (j + 1) H.size (by omega)) (cwV 1 hts gL_holds_X5_turnsOf rfl rfl rfl ⟨rfl, hd_X5_turnsOf⟩ ⟨Nat.le_of_ble_eq_true rfl, Nat.le_of_ble_eq_true rfl⟩) ⟨hp.1, va_recv F.2.2.2.1.1 w.1 (q0 := 0) (ci := 5) rfl rfl, hp.2⟩ rfl rfl hl.1 rfl (lv_room (Nat.le_of_ble_eq_true rfl)) dL_holds_312 ⟨by show _ ≤ (103 : Nat); omega, by show _ ≤ (618 : Nat); omega⟩)
              (fun r_291 _ H locs h_292 w => ?_)
            subst h_292
            refine ktopi (y := nI kk) (hk2) ?_
            refine lv_if_lt (tgt := 517) hx hb dL_holds_315 (by decide) (fun h_293 => ?_) (fun h_293 => ?_)
            · exact absurd h_293 (nI_nn hk1)
            refine lv_aload_n hx hb dL_holds_318 rfl (lv_at hl 13 rfl) ?_
            refine lv_iload hx hb dL_holds_319 (lv_at hl 8 rfl) ?_
            refine kcalli (wc := [cX x nw sn tk hs tx tr, cR nw na nb σ, xI g na 49 (zT σ), xI g nb 49 (zI σ)]) (wr := [cH hs hq kn]) (wn := fun (u : Unit) => [cX x nw sn tk hs tx tr, cR nw na nb σ, xI g na 49 (zT σ), xI g nb 49 (zI σ), cH hs hq kn]) F w [0, 1, 2, 3] [4] [1, 2, 3, 4, 0] rfl rfl rfl (fun _ => rfl)
              (fun hp => va_runV (As := [.int (nI (j + 1))]) (rest := []) F.1 (kX5_turnsOf_k l g x nw sn tk hs tx tr na nb σ (j + 1) H.size (by omega)) (cwV 1 hts gL_holds_X5_turnsOf rfl rfl rfl ⟨rfl, hd_X5_turnsOf⟩ ⟨Nat.le_of_ble_eq_true rfl, Nat.le_of_ble_eq_true rfl⟩) ⟨hp.1, va_recv F.2.2.2.1.1 w.1 (q0 := 0) (ci := 5) rfl rfl, hp.2⟩ rfl rfl hl.1 rfl (lv_room (Nat.le_of_ble_eq_true rfl)) dL_holds_321 ⟨by show _ ≤ (103 : Nat); omega, by show _ ≤ (618 : Nat); omega⟩)
              (fun r_294 _ H locs h_295 w => ?_)
            subst h_295
            refine ktopi (y := nI kk) (hk2) ?_
            refine lv_iconst (v := nI 2) hx hb dL_holds_324 (by decide) ?_
            refine lv_irem hx hb dL_holds_325 ((kc0_eq_f (by omega)).mpr (by omega)) ?_
            refine ktopi (y := nI (kk % 2)) (pk_rem (a := kk) (d := 2) (by omega) (by omega) (by omega)) ?_
            refine ktopi (y := nI 1) (by rw [ho] at hk3; have h8 := of_decide_eq_true hk3.symm; exact congrArg nI (by omega)) ?_
            refine lv_iload hx hb dL_holds_326 (lv_at hl 7 rfl) ?_
            refine lv_if_eq (tgt := 335) hx hb dL_holds_328 (by decide) (fun h_296 => ?_) (fun h_296 => ?_)
            · exact absurd h_296 (by decide)
            refine lv_iconst (v := nI 1) hx hb dL_holds_331 (by decide) ?_
            refine lv_goto (tgt := 336) hx hb dL_holds_332 (by decide) ?_
            refine lv_icmp_ne (tgt := 517) hx hb dL_holds_336 (by decide) (fun h_297 => ?_) (fun h_297 => ?_)
            · exact absurd rfl h_297
            obtain ⟨n1, n2, n3, n4⟩ := nxN_s (zO σ) (show j + 1 ≤ 48 by omega)
            have JN_298 : ∀   (H : Heap) (locs : List Loc) (ls : Array Slot), kW g A s [cX x nw sn tk hs tx tr, cR nw na nb σ, xI g na 49 (zT σ), xI g nb 49 (zI σ), cH hs hq kn] H locs → lv_has ls 24 [(10, .int (nI (zcnt (kindP σ true) (j + 1)))), (9, .int (nI (zcnt (kindP σ false) (j + 1)))), (8, .int (nI (zcnt (shutP σ) (j + 1)))), (11, .float (fS (zO σ) (j + 1))), (7, .int (sumZ (enc σ) 96 (j + 1))), (15, .int (-104)), (14, .int (nI 1)), (13, .int (nI (j + 1))), (12, .int (nI 1)), (6, .int (nI (zcnt (zO σ) 48))), (4, .long (zB (zL σ))), (2, .long (zB (zO σ))), (0, .ref x), (1, .int v)] → W p l e rmL_holds s m args below meth c H locs (7 + 2 * j + 1 + 1) (42 + 12 * j + 6 + 6) Q (F0 m 422 ls []) := by
              intro   H locs ls w hl
              rcases (show j + 1 ≤ 16 ∨ (17 ≤ j + 1 ∧ j + 1 ≤ 32) ∨ 33 ≤ j + 1 from by omega) with h_299 | h_299 | h_299
              · skip
                have hr := h_299
                refine lv_aload_n hx hb dL_holds_422 rfl (lv_at hl 12 rfl) ?_
                refine lv_iload hx hb dL_holds_423 (lv_at hl 7 rfl) ?_
                refine lv_iconst (v := nI 0) hx hb dL_holds_425 (by decide) ?_
                refine ktopi (y := bI false) (by decide) ?_
                refine kcalli (wc := [cX x nw sn tk hs tx tr, cR nw na nb σ, xI g na 49 (zT σ), xI g nb 49 (zI σ)]) (wr := [cH hs hq kn]) (wn := fun (u : Unit) => [cX x nw sn tk hs tx tr, cR nw na nb σ, xI g na 49 (zT σ), xI g nb 49 (zI σ), cH hs hq kn]) F w [0, 1, 2, 3] [4] [1, 2, 3, 4, 0] rfl rfl rfl (fun _ => rfl)
                  (fun hp => va_runV (As := [.int (nI (j + 1)), .int (bI false)]) (rest := []) F.1 (kX5_whyNot_k l g x nw sn tk hs tx tr na nb σ (j + 1) false H.size (⟨by omega, by omega⟩)) (cwV 2 hts gL_holds_X5_whyNot rfl rfl rfl ⟨rfl, hd_X5_whyNot⟩ ⟨Nat.le_of_ble_eq_true rfl, Nat.le_of_ble_eq_true rfl⟩) ⟨hp.1, va_recv F.2.2.2.1.1 w.1 (q0 := 0) (ci := 5) rfl rfl, hp.2⟩ rfl rfl hl.1 rfl (lv_room (Nat.le_of_ble_eq_true rfl)) dL_holds_426 ⟨by show _ ≤ (103 : Nat); omega, by show _ ≤ (618 : Nat); omega⟩)
                  (fun r_300 _ H locs h_301 w => ?_)
                subst h_301
                refine lv_iload hx hb dL_holds_429 (lv_at hl 6 rfl) ?_
                refine lv_if_ne (tgt := 438) hx hb dL_holds_431 (by decide) (fun h_302 => ?_) (fun h_302 => ?_)
                rotate_left 1
                · exact absurd h_302 (by decide)
                refine lv_iload hx hb dL_holds_438 (lv_at hl 5 rfl) ?_
                refine lv_bipush (v := (-104)) hx hb dL_holds_440 (by decide) ?_
                refine lv_icmp_eq (tgt := 449) hx hb dL_holds_442 (by decide) (fun h_303 => ?_) (fun h_303 => ?_)
                rotate_left 1
                · exact absurd rfl h_303
                refine lv_iload hx hb dL_holds_449 (lv_at hl 7 rfl) ?_
                refine lv_bipush (v := nI 16) hx hb dL_holds_451 (by decide) ?_
                refine lv_icmp_le (tgt := 467) hx hb dL_holds_453 (by decide) (fun h_304 => ?_) (fun h_304 => ?_)
                rotate_left 1
                · exact absurd ((kc_le_t (by omega) (by omega)).mpr (by omega)) h_304
                refine lv_iconst (v := nI 0) hx hb dL_holds_467 (by decide) ?_
                refine lv_icmp_ne (tgt := 517) hx hb dL_holds_468 (by decide) (fun h_305 => ?_) (fun h_305 => ?_)
                · exact absurd (congrArg nI (reas_0 ho hf (fit_a hr).1)) h_305
                refine lv_aload_n hx hb dL_holds_471 rfl (lv_at hl 12 rfl) ?_
                refine lv_iload hx hb dL_holds_472 (lv_at hl 7 rfl) ?_
                refine lv_iconst (v := nI 1) hx hb dL_holds_474 (by decide) ?_
                refine ktopi (y := bI true) (by decide) ?_
                refine kcalli (wc := [cX x nw sn tk hs tx tr, cR nw na nb σ, xI g na 49 (zT σ), xI g nb 49 (zI σ)]) (wr := [cH hs hq kn]) (wn := fun (u : Unit) => [cX x nw sn tk hs tx tr, cR nw na nb σ, xI g na 49 (zT σ), xI g nb 49 (zI σ), cH hs hq kn]) F w [0, 1, 2, 3] [4] [1, 2, 3, 4, 0] rfl rfl rfl (fun _ => rfl)
                  (fun hp => va_runV (As := [.int (nI (j + 1)), .int (bI true)]) (rest := []) F.1 (kX5_whyNot_k l g x nw sn tk hs tx tr na nb σ (j + 1) true H.size (⟨by omega, by omega⟩)) (cwV 2 hts gL_holds_X5_whyNot rfl rfl rfl ⟨rfl, hd_X5_whyNot⟩ ⟨Nat.le_of_ble_eq_true rfl, Nat.le_of_ble_eq_true rfl⟩) ⟨hp.1, va_recv F.2.2.2.1.1 w.1 (q0 := 0) (ci := 5) rfl rfl, hp.2⟩ rfl rfl hl.1 rfl (lv_room (Nat.le_of_ble_eq_true rfl)) dL_holds_475 ⟨by show _ ≤ (103 : Nat); omega, by show _ ≤ (618 : Nat); omega⟩)
                  (fun r_306 _ H locs h_307 w => ?_)
                subst h_307
                refine lv_iload hx hb dL_holds_478 (lv_at hl 6 rfl) ?_
                refine lv_if_ne (tgt := 487) hx hb dL_holds_480 (by decide) (fun h_308 => ?_) (fun h_308 => ?_)
                rotate_left 1
                · exact absurd h_308 (by decide)
                refine lv_iload hx hb dL_holds_487 (lv_at hl 5 rfl) ?_
                refine lv_bipush (v := (-104)) hx hb dL_holds_489 (by decide) ?_
                refine lv_icmp_eq (tgt := 498) hx hb dL_holds_491 (by decide) (fun h_309 => ?_) (fun h_309 => ?_)
                rotate_left 1
                · exact absurd rfl h_309
                refine lv_iload hx hb dL_holds_498 (lv_at hl 7 rfl) ?_
                refine lv_bipush (v := nI 17) hx hb dL_holds_500 (by decide) ?_
                refine lv_icmp_ge (tgt := 509) hx hb dL_holds_502 (by decide) (fun h_310 => ?_) (fun h_310 => ?_)
                · exact absurd ((kc_ge_t (by omega) (by omega)).mp h_310) (by omega)
                refine lv_iconst (v := nI 3) hx hb dL_holds_505 (by decide) ?_
                refine lv_goto (tgt := 510) hx hb dL_holds_506 (by decide) ?_
                refine lv_icmp_ne (tgt := 517) hx hb dL_holds_510 (by decide) (fun h_311 => ?_) (fun h_311 => ?_)
                · exact absurd (congrArg nI (reas_3 ho hf (fit_a hr).2)) h_311
                refine lv_iconst (v := nI 1) hx hb dL_holds_513 (by decide) ?_
                refine lv_goto (tgt := 518) hx hb dL_holds_514 (by decide) ?_
                refine lv_istore (lv' := [(12, .int (nI 1)), (10, .int (nI (zcnt (kindP σ true) (j + 1)))), (9, .int (nI (zcnt (kindP σ false) (j + 1)))), (8, .int (nI (zcnt (shutP σ) (j + 1)))), (11, .float (fS (zO σ) (j + 1))), (7, .int (sumZ (enc σ) 96 (j + 1))), (15, .int (-104)), (14, .int (nI 1)), (13, .int (nI (j + 1))), (6, .int (nI (zcnt (zO σ) 48))), (4, .long (zB (zL σ))), (2, .long (zB (zO σ))), (0, .ref x), (1, .int v)]) hx hb dL_holds_518 hl (by decide) rfl (fun ls hl => ?_)
                refine lv_iinc (v := nI (j + 1 + 1)) (lv' := [(13, .int (nI (j + 1 + 1))), (12, .int (nI 1)), (10, .int (nI (zcnt (kindP σ true) (j + 1)))), (9, .int (nI (zcnt (kindP σ false) (j + 1)))), (8, .int (nI (zcnt (shutP σ) (j + 1)))), (11, .float (fS (zO σ) (j + 1))), (7, .int (sumZ (enc σ) 96 (j + 1))), (15, .int (-104)), (14, .int (nI 1)), (6, .int (nI (zcnt (zO σ) 48))), (4, .long (zB (zL σ))), (2, .long (zB (zO σ))), (0, .ref x), (1, .int v)]) hx hb dL_holds_520 hl (k := 8) rfl (nI_add (j + 1) 1) (by decide) rfl (fun ls hl => ?_)
                refine lv_goto (tgt := 173) hx hb dL_holds_523 (by decide) ?_
                refine W.widen (k := 7 + 2 * (j + 1)) (n := 42 + 12 * (j + 1)) (by omega) (by omega) ?_
                exact ih_43 (j + 1) (by omega) _ _ _ (by omega) (kW.perm w [0, 1, 2, 3, 4] rfl rfl) (lv_sub hl [0, 1, 5, 2, 3, 4, 6, 9, 10, 11, 12, 13] rfl)
              · skip
                have hr := h_299
                refine lv_aload_n hx hb dL_holds_422 rfl (lv_at hl 12 rfl) ?_
                refine lv_iload hx hb dL_holds_423 (lv_at hl 7 rfl) ?_
                refine lv_iconst (v := nI 0) hx hb dL_holds_425 (by decide) ?_
                refine ktopi (y := bI false) (by decide) ?_
                refine kcalli (wc := [cX x nw sn tk hs tx tr, cR nw na nb σ, xI g na 49 (zT σ), xI g nb 49 (zI σ)]) (wr := [cH hs hq kn]) (wn := fun (u : Unit) => [cX x nw sn tk hs tx tr, cR nw na nb σ, xI g na 49 (zT σ), xI g nb 49 (zI σ), cH hs hq kn]) F w [0, 1, 2, 3] [4] [1, 2, 3, 4, 0] rfl rfl rfl (fun _ => rfl)
                  (fun hp => va_runV (As := [.int (nI (j + 1)), .int (bI false)]) (rest := []) F.1 (kX5_whyNot_k l g x nw sn tk hs tx tr na nb σ (j + 1) false H.size (⟨by omega, by omega⟩)) (cwV 2 hts gL_holds_X5_whyNot rfl rfl rfl ⟨rfl, hd_X5_whyNot⟩ ⟨Nat.le_of_ble_eq_true rfl, Nat.le_of_ble_eq_true rfl⟩) ⟨hp.1, va_recv F.2.2.2.1.1 w.1 (q0 := 0) (ci := 5) rfl rfl, hp.2⟩ rfl rfl hl.1 rfl (lv_room (Nat.le_of_ble_eq_true rfl)) dL_holds_426 ⟨by show _ ≤ (103 : Nat); omega, by show _ ≤ (618 : Nat); omega⟩)
                  (fun r_312 _ H locs h_313 w => ?_)
                subst h_313
                refine lv_iload hx hb dL_holds_429 (lv_at hl 6 rfl) ?_
                refine lv_if_ne (tgt := 438) hx hb dL_holds_431 (by decide) (fun h_314 => ?_) (fun h_314 => ?_)
                rotate_left 1
                · exact absurd h_314 (by decide)
                refine lv_iload hx hb dL_holds_438 (lv_at hl 5 rfl) ?_
                refine lv_bipush (v := (-104)) hx hb dL_holds_440 (by decide) ?_
                refine lv_icmp_eq (tgt := 449) hx hb dL_holds_442 (by decide) (fun h_315 => ?_) (fun h_315 => ?_)
                rotate_left 1
                · exact absurd rfl h_315
                refine lv_iload hx hb dL_holds_449 (lv_at hl 7 rfl) ?_
                refine lv_bipush (v := nI 16) hx hb dL_holds_451 (by decide) ?_
                refine lv_icmp_le (tgt := 467) hx hb dL_holds_453 (by decide) (fun h_316 => ?_) (fun h_316 => ?_)
                · exact absurd ((kc_le_t (by omega) (by omega)).mp h_316) (by omega)
                refine lv_iload hx hb dL_holds_456 (lv_at hl 7 rfl) ?_
                refine lv_bipush (v := nI 33) hx hb dL_holds_458 (by decide) ?_
                refine lv_icmp_ge (tgt := 467) hx hb dL_holds_460 (by decide) (fun h_317 => ?_) (fun h_317 => ?_)
                · exact absurd ((kc_ge_t (by omega) (by omega)).mp h_317) (by omega)
                refine lv_iconst (v := nI 3) hx hb dL_holds_463 (by decide) ?_
                refine lv_goto (tgt := 468) hx hb dL_holds_464 (by decide) ?_
                refine lv_icmp_ne (tgt := 517) hx hb dL_holds_468 (by decide) (fun h_318 => ?_) (fun h_318 => ?_)
                · exact absurd (congrArg nI (reas_3 ho hf (fit_b hr.1 hr.2).1)) h_318
                refine lv_aload_n hx hb dL_holds_471 rfl (lv_at hl 12 rfl) ?_
                refine lv_iload hx hb dL_holds_472 (lv_at hl 7 rfl) ?_
                refine lv_iconst (v := nI 1) hx hb dL_holds_474 (by decide) ?_
                refine ktopi (y := bI true) (by decide) ?_
                refine kcalli (wc := [cX x nw sn tk hs tx tr, cR nw na nb σ, xI g na 49 (zT σ), xI g nb 49 (zI σ)]) (wr := [cH hs hq kn]) (wn := fun (u : Unit) => [cX x nw sn tk hs tx tr, cR nw na nb σ, xI g na 49 (zT σ), xI g nb 49 (zI σ), cH hs hq kn]) F w [0, 1, 2, 3] [4] [1, 2, 3, 4, 0] rfl rfl rfl (fun _ => rfl)
                  (fun hp => va_runV (As := [.int (nI (j + 1)), .int (bI true)]) (rest := []) F.1 (kX5_whyNot_k l g x nw sn tk hs tx tr na nb σ (j + 1) true H.size (⟨by omega, by omega⟩)) (cwV 2 hts gL_holds_X5_whyNot rfl rfl rfl ⟨rfl, hd_X5_whyNot⟩ ⟨Nat.le_of_ble_eq_true rfl, Nat.le_of_ble_eq_true rfl⟩) ⟨hp.1, va_recv F.2.2.2.1.1 w.1 (q0 := 0) (ci := 5) rfl rfl, hp.2⟩ rfl rfl hl.1 rfl (lv_room (Nat.le_of_ble_eq_true rfl)) dL_holds_475 ⟨by show _ ≤ (103 : Nat); omega, by show _ ≤ (618 : Nat); omega⟩)
                  (fun r_319 _ H locs h_320 w => ?_)
                subst h_320
                refine lv_iload hx hb dL_holds_478 (lv_at hl 6 rfl) ?_
                refine lv_if_ne (tgt := 487) hx hb dL_holds_480 (by decide) (fun h_321 => ?_) (fun h_321 => ?_)
                rotate_left 1
                · exact absurd h_321 (by decide)
                refine lv_iload hx hb dL_holds_487 (lv_at hl 5 rfl) ?_
                refine lv_bipush (v := (-104)) hx hb dL_holds_489 (by decide) ?_
                refine lv_icmp_eq (tgt := 498) hx hb dL_holds_491 (by decide) (fun h_322 => ?_) (fun h_322 => ?_)
                rotate_left 1
                · exact absurd rfl h_322
                refine lv_iload hx hb dL_holds_498 (lv_at hl 7 rfl) ?_
                refine lv_bipush (v := nI 17) hx hb dL_holds_500 (by decide) ?_
                refine lv_icmp_ge (tgt := 509) hx hb dL_holds_502 (by decide) (fun h_323 => ?_) (fun h_323 => ?_)
                rotate_left 1
                · exact absurd ((kc_ge_t (by omega) (by omega)).mpr (by omega)) h_323
                refine lv_iconst (v := nI 0) hx hb dL_holds_509 (by decide) ?_
                refine lv_icmp_ne (tgt := 517) hx hb dL_holds_510 (by decide) (fun h_324 => ?_) (fun h_324 => ?_)
                · exact absurd (congrArg nI (reas_0 ho hf (fit_b hr.1 hr.2).2)) h_324
                refine lv_iconst (v := nI 1) hx hb dL_holds_513 (by decide) ?_
                refine lv_goto (tgt := 518) hx hb dL_holds_514 (by decide) ?_
                refine lv_istore (lv' := [(12, .int (nI 1)), (10, .int (nI (zcnt (kindP σ true) (j + 1)))), (9, .int (nI (zcnt (kindP σ false) (j + 1)))), (8, .int (nI (zcnt (shutP σ) (j + 1)))), (11, .float (fS (zO σ) (j + 1))), (7, .int (sumZ (enc σ) 96 (j + 1))), (15, .int (-104)), (14, .int (nI 1)), (13, .int (nI (j + 1))), (6, .int (nI (zcnt (zO σ) 48))), (4, .long (zB (zL σ))), (2, .long (zB (zO σ))), (0, .ref x), (1, .int v)]) hx hb dL_holds_518 hl (by decide) rfl (fun ls hl => ?_)
                refine lv_iinc (v := nI (j + 1 + 1)) (lv' := [(13, .int (nI (j + 1 + 1))), (12, .int (nI 1)), (10, .int (nI (zcnt (kindP σ true) (j + 1)))), (9, .int (nI (zcnt (kindP σ false) (j + 1)))), (8, .int (nI (zcnt (shutP σ) (j + 1)))), (11, .float (fS (zO σ) (j + 1))), (7, .int (sumZ (enc σ) 96 (j + 1))), (15, .int (-104)), (14, .int (nI 1)), (6, .int (nI (zcnt (zO σ) 48))), (4, .long (zB (zL σ))), (2, .long (zB (zO σ))), (0, .ref x), (1, .int v)]) hx hb dL_holds_520 hl (k := 8) rfl (nI_add (j + 1) 1) (by decide) rfl (fun ls hl => ?_)
                refine lv_goto (tgt := 173) hx hb dL_holds_523 (by decide) ?_
                refine W.widen (k := 7 + 2 * (j + 1)) (n := 42 + 12 * (j + 1)) (by omega) (by omega) ?_
                exact ih_43 (j + 1) (by omega) _ _ _ (by omega) (kW.perm w [0, 1, 2, 3, 4] rfl rfl) (lv_sub hl [0, 1, 5, 2, 3, 4, 6, 9, 10, 11, 12, 13] rfl)
              · skip
                have hr := h_299
                refine lv_aload_n hx hb dL_holds_422 rfl (lv_at hl 12 rfl) ?_
                refine lv_iload hx hb dL_holds_423 (lv_at hl 7 rfl) ?_
                refine lv_iconst (v := nI 0) hx hb dL_holds_425 (by decide) ?_
                refine ktopi (y := bI false) (by decide) ?_
                refine kcalli (wc := [cX x nw sn tk hs tx tr, cR nw na nb σ, xI g na 49 (zT σ), xI g nb 49 (zI σ)]) (wr := [cH hs hq kn]) (wn := fun (u : Unit) => [cX x nw sn tk hs tx tr, cR nw na nb σ, xI g na 49 (zT σ), xI g nb 49 (zI σ), cH hs hq kn]) F w [0, 1, 2, 3] [4] [1, 2, 3, 4, 0] rfl rfl rfl (fun _ => rfl)
                  (fun hp => va_runV (As := [.int (nI (j + 1)), .int (bI false)]) (rest := []) F.1 (kX5_whyNot_k l g x nw sn tk hs tx tr na nb σ (j + 1) false H.size (⟨by omega, by omega⟩)) (cwV 2 hts gL_holds_X5_whyNot rfl rfl rfl ⟨rfl, hd_X5_whyNot⟩ ⟨Nat.le_of_ble_eq_true rfl, Nat.le_of_ble_eq_true rfl⟩) ⟨hp.1, va_recv F.2.2.2.1.1 w.1 (q0 := 0) (ci := 5) rfl rfl, hp.2⟩ rfl rfl hl.1 rfl (lv_room (Nat.le_of_ble_eq_true rfl)) dL_holds_426 ⟨by show _ ≤ (103 : Nat); omega, by show _ ≤ (618 : Nat); omega⟩)
                  (fun r_325 _ H locs h_326 w => ?_)
                subst h_326
                refine lv_iload hx hb dL_holds_429 (lv_at hl 6 rfl) ?_
                refine lv_if_ne (tgt := 438) hx hb dL_holds_431 (by decide) (fun h_327 => ?_) (fun h_327 => ?_)
                rotate_left 1
                · exact absurd h_327 (by decide)
                refine lv_iload hx hb dL_holds_438 (lv_at hl 5 rfl) ?_
                refine lv_bipush (v := (-104)) hx hb dL_holds_440 (by decide) ?_
                refine lv_icmp_eq (tgt := 449) hx hb dL_holds_442 (by decide) (fun h_328 => ?_) (fun h_328 => ?_)
                rotate_left 1
                · exact absurd rfl h_328
                refine lv_iload hx hb dL_holds_449 (lv_at hl 7 rfl) ?_
                refine lv_bipush (v := nI 16) hx hb dL_holds_451 (by decide) ?_
                refine lv_icmp_le (tgt := 467) hx hb dL_holds_453 (by decide) (fun h_329 => ?_) (fun h_329 => ?_)
                · exact absurd ((kc_le_t (by omega) (by omega)).mp h_329) (by omega)
                refine lv_iload hx hb dL_holds_456 (lv_at hl 7 rfl) ?_
                refine lv_bipush (v := nI 33) hx hb dL_holds_458 (by decide) ?_
                refine lv_icmp_ge (tgt := 467) hx hb dL_holds_460 (by decide) (fun h_330 => ?_) (fun h_330 => ?_)
                rotate_left 1
                · exact absurd ((kc_ge_t (by omega) (by omega)).mpr (by omega)) h_330
                refine lv_iconst (v := nI 0) hx hb dL_holds_467 (by decide) ?_
                refine lv_icmp_ne (tgt := 517) hx hb dL_holds_468 (by decide) (fun h_331 => ?_) (fun h_331 => ?_)
                · exact absurd (congrArg nI (reas_0 ho hf (fit_c hr).1)) h_331
                refine lv_aload_n hx hb dL_holds_471 rfl (lv_at hl 12 rfl) ?_
                refine lv_iload hx hb dL_holds_472 (lv_at hl 7 rfl) ?_
                refine lv_iconst (v := nI 1) hx hb dL_holds_474 (by decide) ?_
                refine ktopi (y := bI true) (by decide) ?_
                refine kcalli (wc := [cX x nw sn tk hs tx tr, cR nw na nb σ, xI g na 49 (zT σ), xI g nb 49 (zI σ)]) (wr := [cH hs hq kn]) (wn := fun (u : Unit) => [cX x nw sn tk hs tx tr, cR nw na nb σ, xI g na 49 (zT σ), xI g nb 49 (zI σ), cH hs hq kn]) F w [0, 1, 2, 3] [4] [1, 2, 3, 4, 0] rfl rfl rfl (fun _ => rfl)
                  (fun hp => va_runV (As := [.int (nI (j + 1)), .int (bI true)]) (rest := []) F.1 (kX5_whyNot_k l g x nw sn tk hs tx tr na nb σ (j + 1) true H.size (⟨by omega, by omega⟩)) (cwV 2 hts gL_holds_X5_whyNot rfl rfl rfl ⟨rfl, hd_X5_whyNot⟩ ⟨Nat.le_of_ble_eq_true rfl, Nat.le_of_ble_eq_true rfl⟩) ⟨hp.1, va_recv F.2.2.2.1.1 w.1 (q0 := 0) (ci := 5) rfl rfl, hp.2⟩ rfl rfl hl.1 rfl (lv_room (Nat.le_of_ble_eq_true rfl)) dL_holds_475 ⟨by show _ ≤ (103 : Nat); omega, by show _ ≤ (618 : Nat); omega⟩)
                  (fun r_332 _ H locs h_333 w => ?_)
                subst h_333
                refine lv_iload hx hb dL_holds_478 (lv_at hl 6 rfl) ?_
                refine lv_if_ne (tgt := 487) hx hb dL_holds_480 (by decide) (fun h_334 => ?_) (fun h_334 => ?_)
                rotate_left 1
                · exact absurd h_334 (by decide)
                refine lv_iload hx hb dL_holds_487 (lv_at hl 5 rfl) ?_
                refine lv_bipush (v := (-104)) hx hb dL_holds_489 (by decide) ?_
                refine lv_icmp_eq (tgt := 498) hx hb dL_holds_491 (by decide) (fun h_335 => ?_) (fun h_335 => ?_)
                rotate_left 1
                · exact absurd rfl h_335
                refine lv_iload hx hb dL_holds_498 (lv_at hl 7 rfl) ?_
                refine lv_bipush (v := nI 17) hx hb dL_holds_500 (by decide) ?_
                refine lv_icmp_ge (tgt := 509) hx hb dL_holds_502 (by decide) (fun h_336 => ?_) (fun h_336 => ?_)
                rotate_left 1
                · exact absurd ((kc_ge_t (by omega) (by omega)).mpr (by omega)) h_336
                refine lv_iconst (v := nI 0) hx hb dL_holds_509 (by decide) ?_
                refine lv_icmp_ne (tgt := 517) hx hb dL_holds_510 (by decide) (fun h_337 => ?_) (fun h_337 => ?_)
                · exact absurd (congrArg nI (reas_0 ho hf (fit_c hr).2)) h_337
                refine lv_iconst (v := nI 1) hx hb dL_holds_513 (by decide) ?_
                refine lv_goto (tgt := 518) hx hb dL_holds_514 (by decide) ?_
                refine lv_istore (lv' := [(12, .int (nI 1)), (10, .int (nI (zcnt (kindP σ true) (j + 1)))), (9, .int (nI (zcnt (kindP σ false) (j + 1)))), (8, .int (nI (zcnt (shutP σ) (j + 1)))), (11, .float (fS (zO σ) (j + 1))), (7, .int (sumZ (enc σ) 96 (j + 1))), (15, .int (-104)), (14, .int (nI 1)), (13, .int (nI (j + 1))), (6, .int (nI (zcnt (zO σ) 48))), (4, .long (zB (zL σ))), (2, .long (zB (zO σ))), (0, .ref x), (1, .int v)]) hx hb dL_holds_518 hl (by decide) rfl (fun ls hl => ?_)
                refine lv_iinc (v := nI (j + 1 + 1)) (lv' := [(13, .int (nI (j + 1 + 1))), (12, .int (nI 1)), (10, .int (nI (zcnt (kindP σ true) (j + 1)))), (9, .int (nI (zcnt (kindP σ false) (j + 1)))), (8, .int (nI (zcnt (shutP σ) (j + 1)))), (11, .float (fS (zO σ) (j + 1))), (7, .int (sumZ (enc σ) 96 (j + 1))), (15, .int (-104)), (14, .int (nI 1)), (6, .int (nI (zcnt (zO σ) 48))), (4, .long (zB (zL σ))), (2, .long (zB (zO σ))), (0, .ref x), (1, .int v)]) hx hb dL_holds_520 hl (k := 8) rfl (nI_add (j + 1) 1) (by decide) rfl (fun ls hl => ?_)
                refine lv_goto (tgt := 173) hx hb dL_holds_523 (by decide) ?_
                refine W.widen (k := 7 + 2 * (j + 1)) (n := 42 + 12 * (j + 1)) (by omega) (by omega) ?_
                exact ih_43 (j + 1) (by omega) _ _ _ (by omega) (kW.perm w [0, 1, 2, 3, 4] rfl rfl) (lv_sub hl [0, 1, 5, 2, 3, 4, 6, 9, 10, 11, 12, 13] rfl)
            refine lv_aload_n hx hb dL_holds_339 rfl (lv_at hl 13 rfl) ?_
            refine lv_iload hx hb dL_holds_340 (lv_at hl 8 rfl) ?_
            refine kcalli (wc := [cX x nw sn tk hs tx tr, cR nw na nb σ, xI g na 49 (zT σ), xI g nb 49 (zI σ)]) (wr := [cH hs hq kn]) (wn := fun (u : Unit) => [cX x nw sn tk hs tx tr, cR nw na nb σ, xI g na 49 (zT σ), xI g nb 49 (zI σ), cH hs hq kn]) F w [0, 1, 2, 3] [4] [1, 2, 3, 4, 0] rfl rfl rfl (fun _ => rfl)
              (fun hp => vx_runSW (As := [.ref x, .int (nI (j + 1))]) (rest := []) F.1 (kL_nextOpen l hnl g x nw sn tk hs tx tr na nb σ (j + 1) H.size (⟨by omega, by omega⟩)) (vx_cwSW 2 hts gL_holds_L_nextOpen rfl rfl rfl hd_L_nextOpen ⟨Nat.le_of_ble_eq_true rfl, Nat.le_of_ble_eq_true rfl⟩) hp rfl rfl hl.1 rfl (lv_room (Nat.le_of_ble_eq_true rfl)) dL_holds_342 ⟨by show _ ≤ (103 : Nat); omega, by show _ ≤ (618 : Nat); omega⟩)
              (fun r_338 _ H locs h_339 w => ?_)
            subst h_339
            have hn4 := nx_open (p := zO σ) (show j + 1 ≤ 48 by omega) ho
            refine ktopi (y := nI (nxN (zO σ) (j + 1))) (if_pos hn4) ?_
            refine lv_bipush (v := (-104)) hx hb dL_holds_345 (by decide) ?_
            refine lv_icmp_ne (tgt := 354) hx hb dL_holds_347 (by decide) (fun h_340 => ?_) (fun h_340 => ?_)
            rotate_left 1
            · exact absurd h_340 (nI_m104 (by omega))
            refine lv_iconst (v := nI 0) hx hb dL_holds_354 (by decide) ?_
            refine lv_lload hx hb dL_holds_355 (lv_at hl 5 rfl) ?_
            refine lv_lconst (v := 0) hx hb dL_holds_357 (by decide) ?_
            refine W.lcmp hx hb dL_holds_358 ?_
            refine lv_if_ne (tgt := 366) hx hb dL_holds_359 (by decide) (fun h_341 => ?_) (fun h_341 => ?_)
            rotate_left 1
            · exact absurd (lgc_eq.mp h_341) (nx_yes (by omega) (by omega) hn4)
            refine lv_iconst (v := nI 0) hx hb dL_holds_366 (by decide) ?_
            refine lv_icmp_ne (tgt := 517) hx hb dL_holds_367 (by decide) (fun h_342 => ?_) (fun h_342 => ?_)
            · exact absurd rfl h_342
            refine lv_lload hx hb dL_holds_370 (lv_at hl 5 rfl) ?_
            refine lv_lconst (v := 0) hx hb dL_holds_372 (by decide) ?_
            refine W.lcmp hx hb dL_holds_373 ?_
            refine lv_if_eq (tgt := 422) hx hb dL_holds_374 (by decide) (fun h_343 => ?_) (fun h_343 => ?_)
            · exact absurd (lgc_eq.mp h_343) (nx_yes (by omega) (by omega) hn4)
            refine lv_aload_n hx hb dL_holds_377 rfl (lv_at hl 13 rfl) ?_
            refine lv_iload hx hb dL_holds_378 (lv_at hl 8 rfl) ?_
            refine kcalli (wc := [cX x nw sn tk hs tx tr, cR nw na nb σ, xI g na 49 (zT σ), xI g nb 49 (zI σ)]) (wr := [cH hs hq kn]) (wn := fun (u : Unit) => [cX x nw sn tk hs tx tr, cR nw na nb σ, xI g na 49 (zT σ), xI g nb 49 (zI σ), cH hs hq kn]) F w [0, 1, 2, 3] [4] [1, 2, 3, 4, 0] rfl rfl rfl (fun _ => rfl)
              (fun hp => va_runV (As := [.int (nI (j + 1))]) (rest := []) F.1 (kX5_nextOpen_k l g x nw sn tk hs tx tr na nb σ (j + 1) (nxN (zO σ) (j + 1)) H.size (⟨by omega, by omega⟩) (⟨n1, by omega⟩) n3 (n4 hn4)) (cwV 1 hts gL_holds_X5_nextOpen rfl rfl rfl ⟨rfl, hd_X5_nextOpen⟩ ⟨Nat.le_of_ble_eq_true rfl, Nat.le_of_ble_eq_true rfl⟩) ⟨hp.1, va_recv F.2.2.2.1.1 w.1 (q0 := 0) (ci := 5) rfl rfl, hp.2⟩ rfl rfl hl.1 rfl (lv_room (Nat.le_of_ble_eq_true rfl)) dL_holds_380 ⟨by show _ ≤ (103 : Nat); omega, by show _ ≤ (618 : Nat); omega⟩)
              (fun r_344 _ H locs h_345 w => ?_)
            subst h_345
            refine lv_iload hx hb dL_holds_383 (lv_at hl 8 rfl) ?_
            refine lv_icmp_lt (tgt := 517) hx hb dL_holds_385 (by decide) (fun h_346 => ?_) (fun h_346 => ?_)
            · exact absurd ((kc_lt_t (by omega) (by omega)).mp h_346) (by omega)
            refine lv_lload hx hb dL_holds_388 (lv_at hl 5 rfl) ?_
            refine lv_lconst (v := 1) hx hb dL_holds_390 (by decide) ?_
            refine lv_aload_n hx hb dL_holds_391 rfl (lv_at hl 13 rfl) ?_
            refine lv_iload hx hb dL_holds_392 (lv_at hl 8 rfl) ?_
            refine kcalli (wc := [cX x nw sn tk hs tx tr, cR nw na nb σ, xI g na 49 (zT σ), xI g nb 49 (zI σ)]) (wr := [cH hs hq kn]) (wn := fun (u : Unit) => [cX x nw sn tk hs tx tr, cR nw na nb σ, xI g na 49 (zT σ), xI g nb 49 (zI σ), cH hs hq kn]) F w [0, 1, 2, 3] [4] [1, 2, 3, 4, 0] rfl rfl rfl (fun _ => rfl)
              (fun hp => va_runV (As := [.int (nI (j + 1))]) (rest := [.long 1, .long ((zB (zO σ)) >>> ((nI (j + 1)).toInt64 &&& 63))]) F.1 (kX5_nextOpen_k l g x nw sn tk hs tx tr na nb σ (j + 1) (nxN (zO σ) (j + 1)) H.size (⟨by omega, by omega⟩) (⟨n1, by omega⟩) n3 (n4 hn4)) (cwV 1 hts gL_holds_X5_nextOpen rfl rfl rfl ⟨rfl, hd_X5_nextOpen⟩ ⟨Nat.le_of_ble_eq_true rfl, Nat.le_of_ble_eq_true rfl⟩) ⟨hp.1, va_recv F.2.2.2.1.1 w.1 (q0 := 0) (ci := 5) rfl rfl, hp.2⟩ rfl rfl hl.1 rfl (lv_room (Nat.le_of_ble_eq_true rfl)) dL_holds_394 ⟨by show _ ≤ (103 : Nat); omega, by show _ ≤ (618 : Nat); omega⟩)
              (fun r_347 _ H locs h_348 w => ?_)
            subst h_348
            refine lv_iload hx hb dL_holds_397 (lv_at hl 8 rfl) ?_
            refine lv_isub hx hb dL_holds_399 ?_
            refine ktopi (y := nI ((nxN (zO σ) (j + 1)) - (j + 1))) (pk_sub (by omega)) ?_
            refine lv_lshl hx hb dL_holds_400 rfl ?_
            refine ktopl (y := zbit (nxN (zO σ) (j + 1) - (j + 1))) (zm_bit (by omega)) ?_
            refine lv_lconst (v := 1) hx hb dL_holds_401 (by decide) ?_
            refine lv_lsub hx hb dL_holds_402 ?_
            refine lv_land hx hb dL_holds_403 ?_
            refine lv_lconst (v := 0) hx hb dL_holds_404 (by decide) ?_
            refine W.lcmp hx hb dL_holds_405 ?_
            refine lv_if_ne (tgt := 517) hx hb dL_holds_406 (by decide) (fun h_349 => ?_) (fun h_349 => ?_)
            · exact absurd (lgc_eq.mpr (nx_mask (by omega) (by omega) hn4)) h_349
            refine lv_aload_n hx hb dL_holds_409 rfl (lv_at hl 13 rfl) ?_
            refine lv_aload_n hx hb dL_holds_410 rfl (lv_at hl 13 rfl) ?_
            refine lv_iload hx hb dL_holds_411 (lv_at hl 8 rfl) ?_
            refine kcalli (wc := [cX x nw sn tk hs tx tr, cR nw na nb σ, xI g na 49 (zT σ), xI g nb 49 (zI σ)]) (wr := [cH hs hq kn]) (wn := fun (u : Unit) => [cX x nw sn tk hs tx tr, cR nw na nb σ, xI g na 49 (zT σ), xI g nb 49 (zI σ), cH hs hq kn]) F w [0, 1, 2, 3] [4] [1, 2, 3, 4, 0] rfl rfl rfl (fun _ => rfl)
              (fun hp => va_runV (As := [.int (nI (j + 1))]) (rest := [.ref x]) F.1 (kX5_nextOpen_k l g x nw sn tk hs tx tr na nb σ (j + 1) (nxN (zO σ) (j + 1)) H.size (⟨by omega, by omega⟩) (⟨n1, by omega⟩) n3 (n4 hn4)) (cwV 1 hts gL_holds_X5_nextOpen rfl rfl rfl ⟨rfl, hd_X5_nextOpen⟩ ⟨Nat.le_of_ble_eq_true rfl, Nat.le_of_ble_eq_true rfl⟩) ⟨hp.1, va_recv F.2.2.2.1.1 w.1 (q0 := 0) (ci := 5) rfl rfl, hp.2⟩ rfl rfl hl.1 rfl (lv_room (Nat.le_of_ble_eq_true rfl)) dL_holds_413 ⟨by show _ ≤ (103 : Nat); omega, by show _ ≤ (618 : Nat); omega⟩)
              (fun r_350 _ H locs h_351 w => ?_)
            subst h_351
            refine kcalli (wc := [cX x nw sn tk hs tx tr, cR nw na nb σ, xI g na 49 (zT σ), xI g nb 49 (zI σ)]) (wr := [cH hs hq kn]) (wn := fun (u : Unit) => [cX x nw sn tk hs tx tr, cR nw na nb σ, xI g na 49 (zT σ), xI g nb 49 (zI σ), cH hs hq kn]) F w [0, 1, 2, 3] [4] [1, 2, 3, 4, 0] rfl rfl rfl (fun _ => rfl)
              (fun hp => va_runV (As := [.int (nI (nxN (zO σ) (j + 1)))]) (rest := []) F.1 (kX5_isOpen_k l g x nw sn tk hs tx tr na nb σ (nxN (zO σ) (j + 1)) H.size (⟨by omega, by omega⟩)) (cwV 1 hts gL_holds_X5_isOpen rfl rfl rfl ⟨rfl, hd_X5_isOpen⟩ ⟨Nat.le_of_ble_eq_true rfl, Nat.le_of_ble_eq_true rfl⟩) ⟨hp.1, va_recv F.2.2.2.1.1 w.1 (q0 := 0) (ci := 5) rfl rfl, hp.2⟩ rfl rfl hl.1 rfl (lv_room (Nat.le_of_ble_eq_true rfl)) dL_holds_416 ⟨by show _ ≤ (103 : Nat); omega, by show _ ≤ (618 : Nat); omega⟩)
              (fun r_352 _ H locs h_353 w => ?_)
            subst h_353
            refine ktopi (y := nI 1) (by rw [n4 hn4]; rfl) ?_
            refine lv_if_eq (tgt := 517) hx hb dL_holds_419 (by decide) (fun h_354 => ?_) (fun h_354 => ?_)
            · exact absurd h_354 (by decide)
            exact JN_298   _ _ _ (kW.perm w [0, 1, 2, 3, 4] rfl rfl) (lv_sub hl [0, 1, 2, 3, 4, 6, 7, 8, 9, 10, 11, 12, 13, 14] rfl)
          · skip
            refine lv_aload_n hx hb dL_holds_203 rfl (lv_at hl 11 rfl) ?_
            refine lv_iload hx hb dL_holds_204 (lv_at hl 1 rfl) ?_
            refine kcalli (wc := [cX x nw sn tk hs tx tr, cR nw na nb σ, xI g na 49 (zT σ), xI g nb 49 (zI σ)]) (wr := [cH hs hq kn]) (wn := fun (u : Unit) => [cX x nw sn tk hs tx tr, cR nw na nb σ, xI g na 49 (zT σ), xI g nb 49 (zI σ), cH hs hq kn]) F w [0, 1, 2, 3] [4] [1, 2, 3, 4, 0] rfl rfl rfl (fun _ => rfl)
              (fun hp => vx_runSW (As := [.ref x, .int (nI (j + 1))]) (rest := []) F.1 (kL_thingAt l hnl g x nw sn tk hs tx tr na nb σ (j + 1) H.size (by omega)) (vx_cwSW 2 hts gL_holds_L_thingAt rfl rfl rfl hd_L_thingAt ⟨Nat.le_of_ble_eq_true rfl, Nat.le_of_ble_eq_true rfl⟩) hp rfl rfl hl.1 rfl (lv_room (Nat.le_of_ble_eq_true rfl)) dL_holds_206 ⟨by show _ ≤ (103 : Nat); omega, by show _ ≤ (618 : Nat); omega⟩)
              (fun r_355 _ H locs h_356 w => ?_)
            subst h_356
            have hf := h_279.1
            have hh := h_279.2
            refine ktopi (y := nI 0) (by rw [thV_t hf, hh]; rfl) ?_
            refine lv_istore (lv' := [(15, .int (nI 0)), (14, .int (nI 1)), (13, .int (nI (j + 1))), (12, .int (nI 1)), (11, .float (fS (zO σ) j)), (10, .int (nI (zcnt (kindP σ true) j))), (9, .int (nI (zcnt (kindP σ false) j))), (8, .int (nI (zcnt (shutP σ) j))), (7, .int (sumZ (enc σ) 96 j)), (6, .int (nI (zcnt (zO σ) 48))), (4, .long (zB (zL σ))), (2, .long (zB (zO σ))), (0, .ref x), (1, .int v)]) hx hb dL_holds_209 hl (by decide) rfl (fun ls hl => ?_)
            refine lv_lload_n hx hb dL_holds_211 rfl (lv_at hl 11 rfl) ?_
            refine lv_iload hx hb dL_holds_212 (lv_at hl 2 rfl) ?_
            refine lv_lshr hx hb dL_holds_214 rfl ?_
            refine lv_lstore (lv' := [(16, .long ((zB (zO σ)) >>> ((nI (j + 1)).toInt64 &&& 63))), (15, .int (nI 0)), (14, .int (nI 1)), (13, .int (nI (j + 1))), (12, .int (nI 1)), (11, .float (fS (zO σ) j)), (10, .int (nI (zcnt (kindP σ true) j))), (9, .int (nI (zcnt (kindP σ false) j))), (8, .int (nI (zcnt (shutP σ) j))), (7, .int (sumZ (enc σ) 96 j)), (6, .int (nI (zcnt (zO σ) 48))), (4, .long (zB (zL σ))), (2, .long (zB (zO σ))), (0, .ref x), (1, .int v)]) hx hb dL_holds_215 hl (by decide) rfl (fun ls hl => ?_)
            refine lv_iload hx hb dL_holds_217 (lv_at hl 9 rfl) ?_
            refine lv_aload_n hx hb dL_holds_219 rfl (lv_at hl 13 rfl) ?_
            refine lv_iload hx hb dL_holds_220 (lv_at hl 3 rfl) ?_
            refine kcalli (wc := [cX x nw sn tk hs tx tr, cR nw na nb σ, xI g na 49 (zT σ), xI g nb 49 (zI σ)]) (wr := [cH hs hq kn]) (wn := fun (u : Unit) => [cX x nw sn tk hs tx tr, cR nw na nb σ, xI g na 49 (zT σ), xI g nb 49 (zI σ), cH hs hq kn]) F w [0, 1, 2, 3] [4] [1, 2, 3, 4, 0] rfl rfl rfl (fun _ => rfl)
              (fun hp => va_runV (As := [.int (nI (j + 1))]) (rest := [.int (sumZ (enc σ) 96 j)]) F.1 (kX5_turnsOf_k l g x nw sn tk hs tx tr na nb σ (j + 1) H.size (by omega)) (cwV 1 hts gL_holds_X5_turnsOf rfl rfl rfl ⟨rfl, hd_X5_turnsOf⟩ ⟨Nat.le_of_ble_eq_true rfl, Nat.le_of_ble_eq_true rfl⟩) ⟨hp.1, va_recv F.2.2.2.1.1 w.1 (q0 := 0) (ci := 5) rfl rfl, hp.2⟩ rfl rfl hl.1 rfl (lv_room (Nat.le_of_ble_eq_true rfl)) dL_holds_222 ⟨by show _ ≤ (103 : Nat); omega, by show _ ≤ (618 : Nat); omega⟩)
              (fun r_357 _ H locs h_358 w => ?_)
            subst h_358
            refine lv_iadd hx hb dL_holds_225 ?_
            refine ktopi (y := sumZ (enc σ) 96 (j + 1)) (by rw [sumZ, enc_T (by omega) (by omega)]) ?_
            refine lv_istore (lv' := [(7, .int (sumZ (enc σ) 96 (j + 1))), (16, .long ((zB (zO σ)) >>> ((nI (j + 1)).toInt64 &&& 63))), (15, .int (nI 0)), (14, .int (nI 1)), (13, .int (nI (j + 1))), (12, .int (nI 1)), (11, .float (fS (zO σ) j)), (10, .int (nI (zcnt (kindP σ true) j))), (9, .int (nI (zcnt (kindP σ false) j))), (8, .int (nI (zcnt (shutP σ) j))), (6, .int (nI (zcnt (zO σ) 48))), (4, .long (zB (zL σ))), (2, .long (zB (zO σ))), (0, .ref x), (1, .int v)]) hx hb dL_holds_226 hl (by decide) rfl (fun ls hl => ?_)
            refine lv_fload hx hb dL_holds_228 (lv_at hl 6 rfl) ?_
            refine lv_iload hx hb dL_holds_230 (lv_at hl 3 rfl) ?_
            refine lv_if_eq (tgt := 243) hx hb dL_holds_232 (by decide) (fun h_359 => ?_) (fun h_359 => ?_)
            · exact absurd h_359 (by decide)
            refine lv_fconst1 hx hb dL_holds_235 ?_
            refine lv_iload hx hb dL_holds_236 (lv_at hl 4 rfl) ?_
            refine lv_i2f hx hb dL_holds_238 ?_
            refine lv_fdiv hx hb dL_holds_239 (vf32 (fq_ne (by omega))) ?_
            refine ktopf (y := fq (j + 1)) (rfl) ?_
            refine lv_goto (tgt := 244) hx hb dL_holds_240 (by decide) ?_
            refine lv_fadd hx hb dL_holds_244 (vf32 (fA_ne (zO σ) (by omega))) ?_
            refine ktopf (y := fS (zO σ) (j + 1)) ((fS_t ho).symm) ?_
            refine lv_fstore (lv' := [(11, .float (fS (zO σ) (j + 1))), (7, .int (sumZ (enc σ) 96 (j + 1))), (16, .long ((zB (zO σ)) >>> ((nI (j + 1)).toInt64 &&& 63))), (15, .int (nI 0)), (14, .int (nI 1)), (13, .int (nI (j + 1))), (12, .int (nI 1)), (10, .int (nI (zcnt (kindP σ true) j))), (9, .int (nI (zcnt (kindP σ false) j))), (8, .int (nI (zcnt (shutP σ) j))), (6, .int (nI (zcnt (zO σ) 48))), (4, .long (zB (zL σ))), (2, .long (zB (zO σ))), (0, .ref x), (1, .int v)]) hx hb dL_holds_245 hl (by decide) rfl (fun ls hl => ?_)
            refine lv_iload hx hb dL_holds_247 (lv_at hl 9 rfl) ?_
            refine lv_iload hx hb dL_holds_249 (lv_at hl 3 rfl) ?_
            refine lv_if_lt (tgt := 263) hx hb dL_holds_251 (by decide) (fun h_360 => ?_) (fun h_360 => ?_)
            · exact absurd h_360 (by decide)
            refine lv_iload hx hb dL_holds_254 (lv_at hl 4 rfl) ?_
            refine lv_if_ne (tgt := 263) hx hb dL_holds_256 (by decide) (fun h_361 => ?_) (fun h_361 => ?_)
            rotate_left 1
            · exact absurd h_361 (by decide)
            refine lv_iconst (v := nI 0) hx hb dL_holds_263 (by decide) ?_
            refine lv_iadd hx hb dL_holds_264 ?_
            refine ktopi (y := nI (zcnt (shutP σ) j + 0)) (nI_add (zcnt (shutP σ) j) 0) ?_
            refine ktopi (y := nI (zcnt (shutP σ) (j + 1))) (by rw [zcnt_f (shut_f2 ho)]; rfl) ?_
            refine lv_istore (lv' := [(8, .int (nI (zcnt (shutP σ) (j + 1)))), (11, .float (fS (zO σ) (j + 1))), (7, .int (sumZ (enc σ) 96 (j + 1))), (16, .long ((zB (zO σ)) >>> ((nI (j + 1)).toInt64 &&& 63))), (15, .int (nI 0)), (14, .int (nI 1)), (13, .int (nI (j + 1))), (12, .int (nI 1)), (10, .int (nI (zcnt (kindP σ true) j))), (9, .int (nI (zcnt (kindP σ false) j))), (6, .int (nI (zcnt (zO σ) 48))), (4, .long (zB (zL σ))), (2, .long (zB (zO σ))), (0, .ref x), (1, .int v)]) hx hb dL_holds_265 hl (by decide) rfl (fun ls hl => ?_)
            refine lv_iload hx hb dL_holds_267 (lv_at hl 9 rfl) ?_
            refine lv_iload hx hb dL_holds_269 (lv_at hl 4 rfl) ?_
            refine lv_if_ne (tgt := 278) hx hb dL_holds_271 (by decide) (fun h_362 => ?_) (fun h_362 => ?_)
            · exact absurd rfl h_362
            refine lv_iconst (v := nI 1) hx hb dL_holds_274 (by decide) ?_
            refine lv_goto (tgt := 279) hx hb dL_holds_275 (by decide) ?_
            refine lv_iadd hx hb dL_holds_279 ?_
            refine ktopi (y := nI (zcnt (kindP σ false) j + 1)) (nI_add (zcnt (kindP σ false) j) 1) ?_
            refine ktopi (y := nI (zcnt (kindP σ false) (j + 1))) (by rw [zcnt_t (kind_tt hf hh)]) ?_
            refine lv_istore (lv' := [(9, .int (nI (zcnt (kindP σ false) (j + 1)))), (8, .int (nI (zcnt (shutP σ) (j + 1)))), (11, .float (fS (zO σ) (j + 1))), (7, .int (sumZ (enc σ) 96 (j + 1))), (16, .long ((zB (zO σ)) >>> ((nI (j + 1)).toInt64 &&& 63))), (15, .int (nI 0)), (14, .int (nI 1)), (13, .int (nI (j + 1))), (12, .int (nI 1)), (10, .int (nI (zcnt (kindP σ true) j))), (6, .int (nI (zcnt (zO σ) 48))), (4, .long (zB (zL σ))), (2, .long (zB (zO σ))), (0, .ref x), (1, .int v)]) hx hb dL_holds_280 hl (by decide) rfl (fun ls hl => ?_)
            refine lv_iload hx hb dL_holds_282 (lv_at hl 9 rfl) ?_
            refine lv_iload hx hb dL_holds_284 (lv_at hl 5 rfl) ?_
            refine lv_iconst (v := nI 1) hx hb dL_holds_286 (by decide) ?_
            refine lv_icmp_ne (tgt := 294) hx hb dL_holds_287 (by decide) (fun h_363 => ?_) (fun h_363 => ?_)
            rotate_left 1
            · exact absurd h_363 (by decide)
            refine lv_iconst (v := nI 0) hx hb dL_holds_294 (by decide) ?_
            refine lv_iadd hx hb dL_holds_295 ?_
            refine ktopi (y := nI (zcnt (kindP σ true) j + 0)) (nI_add (zcnt (kindP σ true) j) 0) ?_
            refine ktopi (y := nI (zcnt (kindP σ true) (j + 1))) (by rw [zcnt_f (kind_tf (by rw [hh]; decide))]; rfl) ?_
            refine lv_istore (lv' := [(10, .int (nI (zcnt (kindP σ true) (j + 1)))), (9, .int (nI (zcnt (kindP σ false) (j + 1)))), (8, .int (nI (zcnt (shutP σ) (j + 1)))), (11, .float (fS (zO σ) (j + 1))), (7, .int (sumZ (enc σ) 96 (j + 1))), (16, .long ((zB (zO σ)) >>> ((nI (j + 1)).toInt64 &&& 63))), (15, .int (nI 0)), (14, .int (nI 1)), (13, .int (nI (j + 1))), (12, .int (nI 1)), (6, .int (nI (zcnt (zO σ) 48))), (4, .long (zB (zL σ))), (2, .long (zB (zO σ))), (0, .ref x), (1, .int v)]) hx hb dL_holds_296 hl (by decide) rfl (fun ls hl => ?_)
            refine lv_aload_n hx hb dL_holds_298 rfl (lv_at hl 13 rfl) ?_
            refine lv_iload hx hb dL_holds_299 (lv_at hl 8 rfl) ?_
            refine kcalli (wc := [cX x nw sn tk hs tx tr, cR nw na nb σ, xI g na 49 (zT σ), xI g nb 49 (zI σ)]) (wr := [cH hs hq kn]) (wn := fun (u : Unit) => [cX x nw sn tk hs tx tr, cR nw na nb σ, xI g na 49 (zT σ), xI g nb 49 (zI σ), cH hs hq kn]) F w [0, 1, 2, 3] [4] [1, 2, 3, 4, 0] rfl rfl rfl (fun _ => rfl)
              (fun hp => va_runV (As := [.int (nI (j + 1))]) (rest := []) F.1 (kX5_isOpen_k l g x nw sn tk hs tx tr na nb σ (j + 1) H.size (by omega)) (cwV 1 hts gL_holds_X5_isOpen rfl rfl rfl ⟨rfl, hd_X5_isOpen⟩ ⟨Nat.le_of_ble_eq_true rfl, Nat.le_of_ble_eq_true rfl⟩) ⟨hp.1, va_recv F.2.2.2.1.1 w.1 (q0 := 0) (ci := 5) rfl rfl, hp.2⟩ rfl rfl hl.1 rfl (lv_room (Nat.le_of_ble_eq_true rfl)) dL_holds_301 ⟨by show _ ≤ (103 : Nat); omega, by show _ ≤ (618 : Nat); omega⟩)
              (fun r_364 _ H locs h_365 w => ?_)
            subst h_365
            refine ktopi (y := nI 1) (by rw [ho]; rfl) ?_
            refine lv_iload hx hb dL_holds_304 (lv_at hl 7 rfl) ?_
            refine lv_icmp_ne (tgt := 517) hx hb dL_holds_306 (by decide) (fun h_366 => ?_) (fun h_366 => ?_)
            · exact absurd rfl h_366
            refine lv_aload_n hx hb dL_holds_309 rfl (lv_at hl 13 rfl) ?_
            refine lv_iload hx hb dL_holds_310 (lv_at hl 8 rfl) ?_
            refine kcalli (wc := [cX x nw sn tk hs tx tr, cR nw na nb σ, xI g na 49 (zT σ), xI g nb 49 (zI σ)]) (wr := [cH hs hq kn]) (wn := fun (u : Unit) => [cX x nw sn tk hs tx tr, cR nw na nb σ, xI g na 49 (zT σ), xI g nb 49 (zI σ), cH hs hq kn]) F w [0, 1, 2, 3] [4] [1, 2, 3, 4, 0] rfl rfl rfl (fun _ => rfl)
              (fun hp => va_runV (As := [.int (nI (j + 1))]) (rest := []) F.1 (kX5_turnsOf_k l g x nw sn tk hs tx tr na nb σ (j + 1) H.size (by omega)) (cwV 1 hts gL_holds_X5_turnsOf rfl rfl rfl ⟨rfl, hd_X5_turnsOf⟩ ⟨Nat.le_of_ble_eq_true rfl, Nat.le_of_ble_eq_true rfl⟩) ⟨hp.1, va_recv F.2.2.2.1.1 w.1 (q0 := 0) (ci := 5) rfl rfl, hp.2⟩ rfl rfl hl.1 rfl (lv_room (Nat.le_of_ble_eq_true rfl)) dL_holds_312 ⟨by show _ ≤ (103 : Nat); omega, by show _ ≤ (618 : Nat); omega⟩)
              (fun r_367 _ H locs h_368 w => ?_)
            subst h_368
            refine ktopi (y := nI kk) (hk2) ?_
            refine lv_if_lt (tgt := 517) hx hb dL_holds_315 (by decide) (fun h_369 => ?_) (fun h_369 => ?_)
            · exact absurd h_369 (nI_nn hk1)
            refine lv_aload_n hx hb dL_holds_318 rfl (lv_at hl 13 rfl) ?_
            refine lv_iload hx hb dL_holds_319 (lv_at hl 8 rfl) ?_
            refine kcalli (wc := [cX x nw sn tk hs tx tr, cR nw na nb σ, xI g na 49 (zT σ), xI g nb 49 (zI σ)]) (wr := [cH hs hq kn]) (wn := fun (u : Unit) => [cX x nw sn tk hs tx tr, cR nw na nb σ, xI g na 49 (zT σ), xI g nb 49 (zI σ), cH hs hq kn]) F w [0, 1, 2, 3] [4] [1, 2, 3, 4, 0] rfl rfl rfl (fun _ => rfl)
              (fun hp => va_runV (As := [.int (nI (j + 1))]) (rest := []) F.1 (kX5_turnsOf_k l g x nw sn tk hs tx tr na nb σ (j + 1) H.size (by omega)) (cwV 1 hts gL_holds_X5_turnsOf rfl rfl rfl ⟨rfl, hd_X5_turnsOf⟩ ⟨Nat.le_of_ble_eq_true rfl, Nat.le_of_ble_eq_true rfl⟩) ⟨hp.1, va_recv F.2.2.2.1.1 w.1 (q0 := 0) (ci := 5) rfl rfl, hp.2⟩ rfl rfl hl.1 rfl (lv_room (Nat.le_of_ble_eq_true rfl)) dL_holds_321 ⟨by show _ ≤ (103 : Nat); omega, by show _ ≤ (618 : Nat); omega⟩)
              (fun r_370 _ H locs h_371 w => ?_)
            subst h_371
            refine ktopi (y := nI kk) (hk2) ?_
            refine lv_iconst (v := nI 2) hx hb dL_holds_324 (by decide) ?_
            refine lv_irem hx hb dL_holds_325 ((kc0_eq_f (by omega)).mpr (by omega)) ?_
            refine ktopi (y := nI (kk % 2)) (pk_rem (a := kk) (d := 2) (by omega) (by omega) (by omega)) ?_
            refine ktopi (y := nI 1) (by rw [ho] at hk3; have h8 := of_decide_eq_true hk3.symm; exact congrArg nI (by omega)) ?_
            refine lv_iload hx hb dL_holds_326 (lv_at hl 7 rfl) ?_
            refine lv_if_eq (tgt := 335) hx hb dL_holds_328 (by decide) (fun h_372 => ?_) (fun h_372 => ?_)
            · exact absurd h_372 (by decide)
            refine lv_iconst (v := nI 1) hx hb dL_holds_331 (by decide) ?_
            refine lv_goto (tgt := 336) hx hb dL_holds_332 (by decide) ?_
            refine lv_icmp_ne (tgt := 517) hx hb dL_holds_336 (by decide) (fun h_373 => ?_) (fun h_373 => ?_)
            · exact absurd rfl h_373
            obtain ⟨n1, n2, n3, n4⟩ := nxN_s (zO σ) (show j + 1 ≤ 48 by omega)
            have JN_374 : ∀   (H : Heap) (locs : List Loc) (ls : Array Slot), kW g A s [cX x nw sn tk hs tx tr, cR nw na nb σ, xI g na 49 (zT σ), xI g nb 49 (zI σ), cH hs hq kn] H locs → lv_has ls 24 [(10, .int (nI (zcnt (kindP σ true) (j + 1)))), (9, .int (nI (zcnt (kindP σ false) (j + 1)))), (8, .int (nI (zcnt (shutP σ) (j + 1)))), (11, .float (fS (zO σ) (j + 1))), (7, .int (sumZ (enc σ) 96 (j + 1))), (15, .int (nI 0)), (14, .int (nI 1)), (13, .int (nI (j + 1))), (12, .int (nI 1)), (6, .int (nI (zcnt (zO σ) 48))), (4, .long (zB (zL σ))), (2, .long (zB (zO σ))), (0, .ref x), (1, .int v)] → W p l e rmL_holds s m args below meth c H locs (7 + 2 * j + 1 + 1) (42 + 12 * j + 6 + 6) Q (F0 m 422 ls []) := by
              intro   H locs ls w hl
              refine lv_aload_n hx hb dL_holds_422 rfl (lv_at hl 12 rfl) ?_
              refine lv_iload hx hb dL_holds_423 (lv_at hl 7 rfl) ?_
              refine lv_iconst (v := nI 0) hx hb dL_holds_425 (by decide) ?_
              refine ktopi (y := bI false) (by decide) ?_
              refine kcalli (wc := [cX x nw sn tk hs tx tr, cR nw na nb σ, xI g na 49 (zT σ), xI g nb 49 (zI σ)]) (wr := [cH hs hq kn]) (wn := fun (u : Unit) => [cX x nw sn tk hs tx tr, cR nw na nb σ, xI g na 49 (zT σ), xI g nb 49 (zI σ), cH hs hq kn]) F w [0, 1, 2, 3] [4] [1, 2, 3, 4, 0] rfl rfl rfl (fun _ => rfl)
                (fun hp => va_runV (As := [.int (nI (j + 1)), .int (bI false)]) (rest := []) F.1 (kX5_whyNot_k l g x nw sn tk hs tx tr na nb σ (j + 1) false H.size (⟨by omega, by omega⟩)) (cwV 2 hts gL_holds_X5_whyNot rfl rfl rfl ⟨rfl, hd_X5_whyNot⟩ ⟨Nat.le_of_ble_eq_true rfl, Nat.le_of_ble_eq_true rfl⟩) ⟨hp.1, va_recv F.2.2.2.1.1 w.1 (q0 := 0) (ci := 5) rfl rfl, hp.2⟩ rfl rfl hl.1 rfl (lv_room (Nat.le_of_ble_eq_true rfl)) dL_holds_426 ⟨by show _ ≤ (103 : Nat); omega, by show _ ≤ (618 : Nat); omega⟩)
                (fun r_375 _ H locs h_376 w => ?_)
              subst h_376
              refine lv_iload hx hb dL_holds_429 (lv_at hl 6 rfl) ?_
              refine lv_if_ne (tgt := 438) hx hb dL_holds_431 (by decide) (fun h_377 => ?_) (fun h_377 => ?_)
              rotate_left 1
              · exact absurd h_377 (by decide)
              refine lv_iload hx hb dL_holds_438 (lv_at hl 5 rfl) ?_
              refine lv_bipush (v := (-104)) hx hb dL_holds_440 (by decide) ?_
              refine lv_icmp_eq (tgt := 449) hx hb dL_holds_442 (by decide) (fun h_378 => ?_) (fun h_378 => ?_)
              · exact absurd h_378 (by decide)
              refine lv_iconst (v := nI 2) hx hb dL_holds_445 (by decide) ?_
              refine lv_goto (tgt := 468) hx hb dL_holds_446 (by decide) ?_
              refine lv_icmp_ne (tgt := 517) hx hb dL_holds_468 (by decide) (fun h_379 => ?_) (fun h_379 => ?_)
              · exact absurd (congrArg nI (reas_2 ho hf)) h_379
              refine lv_aload_n hx hb dL_holds_471 rfl (lv_at hl 12 rfl) ?_
              refine lv_iload hx hb dL_holds_472 (lv_at hl 7 rfl) ?_
              refine lv_iconst (v := nI 1) hx hb dL_holds_474 (by decide) ?_
              refine ktopi (y := bI true) (by decide) ?_
              refine kcalli (wc := [cX x nw sn tk hs tx tr, cR nw na nb σ, xI g na 49 (zT σ), xI g nb 49 (zI σ)]) (wr := [cH hs hq kn]) (wn := fun (u : Unit) => [cX x nw sn tk hs tx tr, cR nw na nb σ, xI g na 49 (zT σ), xI g nb 49 (zI σ), cH hs hq kn]) F w [0, 1, 2, 3] [4] [1, 2, 3, 4, 0] rfl rfl rfl (fun _ => rfl)
                (fun hp => va_runV (As := [.int (nI (j + 1)), .int (bI true)]) (rest := []) F.1 (kX5_whyNot_k l g x nw sn tk hs tx tr na nb σ (j + 1) true H.size (⟨by omega, by omega⟩)) (cwV 2 hts gL_holds_X5_whyNot rfl rfl rfl ⟨rfl, hd_X5_whyNot⟩ ⟨Nat.le_of_ble_eq_true rfl, Nat.le_of_ble_eq_true rfl⟩) ⟨hp.1, va_recv F.2.2.2.1.1 w.1 (q0 := 0) (ci := 5) rfl rfl, hp.2⟩ rfl rfl hl.1 rfl (lv_room (Nat.le_of_ble_eq_true rfl)) dL_holds_475 ⟨by show _ ≤ (103 : Nat); omega, by show _ ≤ (618 : Nat); omega⟩)
                (fun r_380 _ H locs h_381 w => ?_)
              subst h_381
              refine lv_iload hx hb dL_holds_478 (lv_at hl 6 rfl) ?_
              refine lv_if_ne (tgt := 487) hx hb dL_holds_480 (by decide) (fun h_382 => ?_) (fun h_382 => ?_)
              rotate_left 1
              · exact absurd h_382 (by decide)
              refine lv_iload hx hb dL_holds_487 (lv_at hl 5 rfl) ?_
              refine lv_bipush (v := (-104)) hx hb dL_holds_489 (by decide) ?_
              refine lv_icmp_eq (tgt := 498) hx hb dL_holds_491 (by decide) (fun h_383 => ?_) (fun h_383 => ?_)
              · exact absurd h_383 (by decide)
              refine lv_iconst (v := nI 2) hx hb dL_holds_494 (by decide) ?_
              refine lv_goto (tgt := 510) hx hb dL_holds_495 (by decide) ?_
              refine lv_icmp_ne (tgt := 517) hx hb dL_holds_510 (by decide) (fun h_384 => ?_) (fun h_384 => ?_)
              · exact absurd (congrArg nI (reas_2 ho hf)) h_384
              refine lv_iconst (v := nI 1) hx hb dL_holds_513 (by decide) ?_
              refine lv_goto (tgt := 518) hx hb dL_holds_514 (by decide) ?_
              refine lv_istore (lv' := [(12, .int (nI 1)), (10, .int (nI (zcnt (kindP σ true) (j + 1)))), (9, .int (nI (zcnt (kindP σ false) (j + 1)))), (8, .int (nI (zcnt (shutP σ) (j + 1)))), (11, .float (fS (zO σ) (j + 1))), (7, .int (sumZ (enc σ) 96 (j + 1))), (15, .int (nI 0)), (14, .int (nI 1)), (13, .int (nI (j + 1))), (6, .int (nI (zcnt (zO σ) 48))), (4, .long (zB (zL σ))), (2, .long (zB (zO σ))), (0, .ref x), (1, .int v)]) hx hb dL_holds_518 hl (by decide) rfl (fun ls hl => ?_)
              refine lv_iinc (v := nI (j + 1 + 1)) (lv' := [(13, .int (nI (j + 1 + 1))), (12, .int (nI 1)), (10, .int (nI (zcnt (kindP σ true) (j + 1)))), (9, .int (nI (zcnt (kindP σ false) (j + 1)))), (8, .int (nI (zcnt (shutP σ) (j + 1)))), (11, .float (fS (zO σ) (j + 1))), (7, .int (sumZ (enc σ) 96 (j + 1))), (15, .int (nI 0)), (14, .int (nI 1)), (6, .int (nI (zcnt (zO σ) 48))), (4, .long (zB (zL σ))), (2, .long (zB (zO σ))), (0, .ref x), (1, .int v)]) hx hb dL_holds_520 hl (k := 8) rfl (nI_add (j + 1) 1) (by decide) rfl (fun ls hl => ?_)
              refine lv_goto (tgt := 173) hx hb dL_holds_523 (by decide) ?_
              refine W.widen (k := 7 + 2 * (j + 1)) (n := 42 + 12 * (j + 1)) (by omega) (by omega) ?_
              exact ih_43 (j + 1) (by omega) _ _ _ (by omega) (kW.perm w [0, 1, 2, 3, 4] rfl rfl) (lv_sub hl [0, 1, 5, 2, 3, 4, 6, 9, 10, 11, 12, 13] rfl)
            refine lv_aload_n hx hb dL_holds_339 rfl (lv_at hl 13 rfl) ?_
            refine lv_iload hx hb dL_holds_340 (lv_at hl 8 rfl) ?_
            refine kcalli (wc := [cX x nw sn tk hs tx tr, cR nw na nb σ, xI g na 49 (zT σ), xI g nb 49 (zI σ)]) (wr := [cH hs hq kn]) (wn := fun (u : Unit) => [cX x nw sn tk hs tx tr, cR nw na nb σ, xI g na 49 (zT σ), xI g nb 49 (zI σ), cH hs hq kn]) F w [0, 1, 2, 3] [4] [1, 2, 3, 4, 0] rfl rfl rfl (fun _ => rfl)
              (fun hp => vx_runSW (As := [.ref x, .int (nI (j + 1))]) (rest := []) F.1 (kL_nextOpen l hnl g x nw sn tk hs tx tr na nb σ (j + 1) H.size (⟨by omega, by omega⟩)) (vx_cwSW 2 hts gL_holds_L_nextOpen rfl rfl rfl hd_L_nextOpen ⟨Nat.le_of_ble_eq_true rfl, Nat.le_of_ble_eq_true rfl⟩) hp rfl rfl hl.1 rfl (lv_room (Nat.le_of_ble_eq_true rfl)) dL_holds_342 ⟨by show _ ≤ (103 : Nat); omega, by show _ ≤ (618 : Nat); omega⟩)
              (fun r_385 _ H locs h_386 w => ?_)
            subst h_386
            have hn4 := nx_open (p := zO σ) (show j + 1 ≤ 48 by omega) ho
            refine ktopi (y := nI (nxN (zO σ) (j + 1))) (if_pos hn4) ?_
            refine lv_bipush (v := (-104)) hx hb dL_holds_345 (by decide) ?_
            refine lv_icmp_ne (tgt := 354) hx hb dL_holds_347 (by decide) (fun h_387 => ?_) (fun h_387 => ?_)
            rotate_left 1
            · exact absurd h_387 (nI_m104 (by omega))
            refine lv_iconst (v := nI 0) hx hb dL_holds_354 (by decide) ?_
            refine lv_lload hx hb dL_holds_355 (lv_at hl 5 rfl) ?_
            refine lv_lconst (v := 0) hx hb dL_holds_357 (by decide) ?_
            refine W.lcmp hx hb dL_holds_358 ?_
            refine lv_if_ne (tgt := 366) hx hb dL_holds_359 (by decide) (fun h_388 => ?_) (fun h_388 => ?_)
            rotate_left 1
            · exact absurd (lgc_eq.mp h_388) (nx_yes (by omega) (by omega) hn4)
            refine lv_iconst (v := nI 0) hx hb dL_holds_366 (by decide) ?_
            refine lv_icmp_ne (tgt := 517) hx hb dL_holds_367 (by decide) (fun h_389 => ?_) (fun h_389 => ?_)
            · exact absurd rfl h_389
            refine lv_lload hx hb dL_holds_370 (lv_at hl 5 rfl) ?_
            refine lv_lconst (v := 0) hx hb dL_holds_372 (by decide) ?_
            refine W.lcmp hx hb dL_holds_373 ?_
            refine lv_if_eq (tgt := 422) hx hb dL_holds_374 (by decide) (fun h_390 => ?_) (fun h_390 => ?_)
            · exact absurd (lgc_eq.mp h_390) (nx_yes (by omega) (by omega) hn4)
            refine lv_aload_n hx hb dL_holds_377 rfl (lv_at hl 13 rfl) ?_
            refine lv_iload hx hb dL_holds_378 (lv_at hl 8 rfl) ?_
            refine kcalli (wc := [cX x nw sn tk hs tx tr, cR nw na nb σ, xI g na 49 (zT σ), xI g nb 49 (zI σ)]) (wr := [cH hs hq kn]) (wn := fun (u : Unit) => [cX x nw sn tk hs tx tr, cR nw na nb σ, xI g na 49 (zT σ), xI g nb 49 (zI σ), cH hs hq kn]) F w [0, 1, 2, 3] [4] [1, 2, 3, 4, 0] rfl rfl rfl (fun _ => rfl)
              (fun hp => va_runV (As := [.int (nI (j + 1))]) (rest := []) F.1 (kX5_nextOpen_k l g x nw sn tk hs tx tr na nb σ (j + 1) (nxN (zO σ) (j + 1)) H.size (⟨by omega, by omega⟩) (⟨n1, by omega⟩) n3 (n4 hn4)) (cwV 1 hts gL_holds_X5_nextOpen rfl rfl rfl ⟨rfl, hd_X5_nextOpen⟩ ⟨Nat.le_of_ble_eq_true rfl, Nat.le_of_ble_eq_true rfl⟩) ⟨hp.1, va_recv F.2.2.2.1.1 w.1 (q0 := 0) (ci := 5) rfl rfl, hp.2⟩ rfl rfl hl.1 rfl (lv_room (Nat.le_of_ble_eq_true rfl)) dL_holds_380 ⟨by show _ ≤ (103 : Nat); omega, by show _ ≤ (618 : Nat); omega⟩)
              (fun r_391 _ H locs h_392 w => ?_)
            subst h_392
            refine lv_iload hx hb dL_holds_383 (lv_at hl 8 rfl) ?_
            refine lv_icmp_lt (tgt := 517) hx hb dL_holds_385 (by decide) (fun h_393 => ?_) (fun h_393 => ?_)
            · exact absurd ((kc_lt_t (by omega) (by omega)).mp h_393) (by omega)
            refine lv_lload hx hb dL_holds_388 (lv_at hl 5 rfl) ?_
            refine lv_lconst (v := 1) hx hb dL_holds_390 (by decide) ?_
            refine lv_aload_n hx hb dL_holds_391 rfl (lv_at hl 13 rfl) ?_
            refine lv_iload hx hb dL_holds_392 (lv_at hl 8 rfl) ?_
            refine kcalli (wc := [cX x nw sn tk hs tx tr, cR nw na nb σ, xI g na 49 (zT σ), xI g nb 49 (zI σ)]) (wr := [cH hs hq kn]) (wn := fun (u : Unit) => [cX x nw sn tk hs tx tr, cR nw na nb σ, xI g na 49 (zT σ), xI g nb 49 (zI σ), cH hs hq kn]) F w [0, 1, 2, 3] [4] [1, 2, 3, 4, 0] rfl rfl rfl (fun _ => rfl)
              (fun hp => va_runV (As := [.int (nI (j + 1))]) (rest := [.long 1, .long ((zB (zO σ)) >>> ((nI (j + 1)).toInt64 &&& 63))]) F.1 (kX5_nextOpen_k l g x nw sn tk hs tx tr na nb σ (j + 1) (nxN (zO σ) (j + 1)) H.size (⟨by omega, by omega⟩) (⟨n1, by omega⟩) n3 (n4 hn4)) (cwV 1 hts gL_holds_X5_nextOpen rfl rfl rfl ⟨rfl, hd_X5_nextOpen⟩ ⟨Nat.le_of_ble_eq_true rfl, Nat.le_of_ble_eq_true rfl⟩) ⟨hp.1, va_recv F.2.2.2.1.1 w.1 (q0 := 0) (ci := 5) rfl rfl, hp.2⟩ rfl rfl hl.1 rfl (lv_room (Nat.le_of_ble_eq_true rfl)) dL_holds_394 ⟨by show _ ≤ (103 : Nat); omega, by show _ ≤ (618 : Nat); omega⟩)
              (fun r_394 _ H locs h_395 w => ?_)
            subst h_395
            refine lv_iload hx hb dL_holds_397 (lv_at hl 8 rfl) ?_
            refine lv_isub hx hb dL_holds_399 ?_
            refine ktopi (y := nI ((nxN (zO σ) (j + 1)) - (j + 1))) (pk_sub (by omega)) ?_
            refine lv_lshl hx hb dL_holds_400 rfl ?_
            refine ktopl (y := zbit (nxN (zO σ) (j + 1) - (j + 1))) (zm_bit (by omega)) ?_
            refine lv_lconst (v := 1) hx hb dL_holds_401 (by decide) ?_
            refine lv_lsub hx hb dL_holds_402 ?_
            refine lv_land hx hb dL_holds_403 ?_
            refine lv_lconst (v := 0) hx hb dL_holds_404 (by decide) ?_
            refine W.lcmp hx hb dL_holds_405 ?_
            refine lv_if_ne (tgt := 517) hx hb dL_holds_406 (by decide) (fun h_396 => ?_) (fun h_396 => ?_)
            · exact absurd (lgc_eq.mpr (nx_mask (by omega) (by omega) hn4)) h_396
            refine lv_aload_n hx hb dL_holds_409 rfl (lv_at hl 13 rfl) ?_
            refine lv_aload_n hx hb dL_holds_410 rfl (lv_at hl 13 rfl) ?_
            refine lv_iload hx hb dL_holds_411 (lv_at hl 8 rfl) ?_
            refine kcalli (wc := [cX x nw sn tk hs tx tr, cR nw na nb σ, xI g na 49 (zT σ), xI g nb 49 (zI σ)]) (wr := [cH hs hq kn]) (wn := fun (u : Unit) => [cX x nw sn tk hs tx tr, cR nw na nb σ, xI g na 49 (zT σ), xI g nb 49 (zI σ), cH hs hq kn]) F w [0, 1, 2, 3] [4] [1, 2, 3, 4, 0] rfl rfl rfl (fun _ => rfl)
              (fun hp => va_runV (As := [.int (nI (j + 1))]) (rest := [.ref x]) F.1 (kX5_nextOpen_k l g x nw sn tk hs tx tr na nb σ (j + 1) (nxN (zO σ) (j + 1)) H.size (⟨by omega, by omega⟩) (⟨n1, by omega⟩) n3 (n4 hn4)) (cwV 1 hts gL_holds_X5_nextOpen rfl rfl rfl ⟨rfl, hd_X5_nextOpen⟩ ⟨Nat.le_of_ble_eq_true rfl, Nat.le_of_ble_eq_true rfl⟩) ⟨hp.1, va_recv F.2.2.2.1.1 w.1 (q0 := 0) (ci := 5) rfl rfl, hp.2⟩ rfl rfl hl.1 rfl (lv_room (Nat.le_of_ble_eq_true rfl)) dL_holds_413 ⟨by show _ ≤ (103 : Nat); omega, by show _ ≤ (618 : Nat); omega⟩)
              (fun r_397 _ H locs h_398 w => ?_)
            subst h_398
            refine kcalli (wc := [cX x nw sn tk hs tx tr, cR nw na nb σ, xI g na 49 (zT σ), xI g nb 49 (zI σ)]) (wr := [cH hs hq kn]) (wn := fun (u : Unit) => [cX x nw sn tk hs tx tr, cR nw na nb σ, xI g na 49 (zT σ), xI g nb 49 (zI σ), cH hs hq kn]) F w [0, 1, 2, 3] [4] [1, 2, 3, 4, 0] rfl rfl rfl (fun _ => rfl)
              (fun hp => va_runV (As := [.int (nI (nxN (zO σ) (j + 1)))]) (rest := []) F.1 (kX5_isOpen_k l g x nw sn tk hs tx tr na nb σ (nxN (zO σ) (j + 1)) H.size (⟨by omega, by omega⟩)) (cwV 1 hts gL_holds_X5_isOpen rfl rfl rfl ⟨rfl, hd_X5_isOpen⟩ ⟨Nat.le_of_ble_eq_true rfl, Nat.le_of_ble_eq_true rfl⟩) ⟨hp.1, va_recv F.2.2.2.1.1 w.1 (q0 := 0) (ci := 5) rfl rfl, hp.2⟩ rfl rfl hl.1 rfl (lv_room (Nat.le_of_ble_eq_true rfl)) dL_holds_416 ⟨by show _ ≤ (103 : Nat); omega, by show _ ≤ (618 : Nat); omega⟩)
              (fun r_399 _ H locs h_400 w => ?_)
            subst h_400
            refine ktopi (y := nI 1) (by rw [n4 hn4]; rfl) ?_
            refine lv_if_eq (tgt := 517) hx hb dL_holds_419 (by decide) (fun h_401 => ?_) (fun h_401 => ?_)
            · exact absurd h_401 (by decide)
            exact JN_374   _ _ _ (kW.perm w [0, 1, 2, 3, 4] rfl rfl) (lv_sub hl [0, 1, 2, 3, 4, 6, 7, 8, 9, 10, 11, 12, 13, 14] rfl)
          · skip
            refine lv_aload_n hx hb dL_holds_203 rfl (lv_at hl 11 rfl) ?_
            refine lv_iload hx hb dL_holds_204 (lv_at hl 1 rfl) ?_
            refine kcalli (wc := [cX x nw sn tk hs tx tr, cR nw na nb σ, xI g na 49 (zT σ), xI g nb 49 (zI σ)]) (wr := [cH hs hq kn]) (wn := fun (u : Unit) => [cX x nw sn tk hs tx tr, cR nw na nb σ, xI g na 49 (zT σ), xI g nb 49 (zI σ), cH hs hq kn]) F w [0, 1, 2, 3] [4] [1, 2, 3, 4, 0] rfl rfl rfl (fun _ => rfl)
              (fun hp => vx_runSW (As := [.ref x, .int (nI (j + 1))]) (rest := []) F.1 (kL_thingAt l hnl g x nw sn tk hs tx tr na nb σ (j + 1) H.size (by omega)) (vx_cwSW 2 hts gL_holds_L_thingAt rfl rfl rfl hd_L_thingAt ⟨Nat.le_of_ble_eq_true rfl, Nat.le_of_ble_eq_true rfl⟩) hp rfl rfl hl.1 rfl (lv_room (Nat.le_of_ble_eq_true rfl)) dL_holds_206 ⟨by show _ ≤ (103 : Nat); omega, by show _ ≤ (618 : Nat); omega⟩)
              (fun r_402 _ H locs h_403 w => ?_)
            subst h_403
            have hf := h_279.1
            have hh := h_279.2
            refine ktopi (y := nI 1) (by rw [thV_t hf, hh]; rfl) ?_
            refine lv_istore (lv' := [(15, .int (nI 1)), (14, .int (nI 1)), (13, .int (nI (j + 1))), (12, .int (nI 1)), (11, .float (fS (zO σ) j)), (10, .int (nI (zcnt (kindP σ true) j))), (9, .int (nI (zcnt (kindP σ false) j))), (8, .int (nI (zcnt (shutP σ) j))), (7, .int (sumZ (enc σ) 96 j)), (6, .int (nI (zcnt (zO σ) 48))), (4, .long (zB (zL σ))), (2, .long (zB (zO σ))), (0, .ref x), (1, .int v)]) hx hb dL_holds_209 hl (by decide) rfl (fun ls hl => ?_)
            refine lv_lload_n hx hb dL_holds_211 rfl (lv_at hl 11 rfl) ?_
            refine lv_iload hx hb dL_holds_212 (lv_at hl 2 rfl) ?_
            refine lv_lshr hx hb dL_holds_214 rfl ?_
            refine lv_lstore (lv' := [(16, .long ((zB (zO σ)) >>> ((nI (j + 1)).toInt64 &&& 63))), (15, .int (nI 1)), (14, .int (nI 1)), (13, .int (nI (j + 1))), (12, .int (nI 1)), (11, .float (fS (zO σ) j)), (10, .int (nI (zcnt (kindP σ true) j))), (9, .int (nI (zcnt (kindP σ false) j))), (8, .int (nI (zcnt (shutP σ) j))), (7, .int (sumZ (enc σ) 96 j)), (6, .int (nI (zcnt (zO σ) 48))), (4, .long (zB (zL σ))), (2, .long (zB (zO σ))), (0, .ref x), (1, .int v)]) hx hb dL_holds_215 hl (by decide) rfl (fun ls hl => ?_)
            refine lv_iload hx hb dL_holds_217 (lv_at hl 9 rfl) ?_
            refine lv_aload_n hx hb dL_holds_219 rfl (lv_at hl 13 rfl) ?_
            refine lv_iload hx hb dL_holds_220 (lv_at hl 3 rfl) ?_
            refine kcalli (wc := [cX x nw sn tk hs tx tr, cR nw na nb σ, xI g na 49 (zT σ), xI g nb 49 (zI σ)]) (wr := [cH hs hq kn]) (wn := fun (u : Unit) => [cX x nw sn tk hs tx tr, cR nw na nb σ, xI g na 49 (zT σ), xI g nb 49 (zI σ), cH hs hq kn]) F w [0, 1, 2, 3] [4] [1, 2, 3, 4, 0] rfl rfl rfl (fun _ => rfl)
              (fun hp => va_runV (As := [.int (nI (j + 1))]) (rest := [.int (sumZ (enc σ) 96 j)]) F.1 (kX5_turnsOf_k l g x nw sn tk hs tx tr na nb σ (j + 1) H.size (by omega)) (cwV 1 hts gL_holds_X5_turnsOf rfl rfl rfl ⟨rfl, hd_X5_turnsOf⟩ ⟨Nat.le_of_ble_eq_true rfl, Nat.le_of_ble_eq_true rfl⟩) ⟨hp.1, va_recv F.2.2.2.1.1 w.1 (q0 := 0) (ci := 5) rfl rfl, hp.2⟩ rfl rfl hl.1 rfl (lv_room (Nat.le_of_ble_eq_true rfl)) dL_holds_222 ⟨by show _ ≤ (103 : Nat); omega, by show _ ≤ (618 : Nat); omega⟩)
              (fun r_404 _ H locs h_405 w => ?_)
            subst h_405
            refine lv_iadd hx hb dL_holds_225 ?_
            refine ktopi (y := sumZ (enc σ) 96 (j + 1)) (by rw [sumZ, enc_T (by omega) (by omega)]) ?_
            refine lv_istore (lv' := [(7, .int (sumZ (enc σ) 96 (j + 1))), (16, .long ((zB (zO σ)) >>> ((nI (j + 1)).toInt64 &&& 63))), (15, .int (nI 1)), (14, .int (nI 1)), (13, .int (nI (j + 1))), (12, .int (nI 1)), (11, .float (fS (zO σ) j)), (10, .int (nI (zcnt (kindP σ true) j))), (9, .int (nI (zcnt (kindP σ false) j))), (8, .int (nI (zcnt (shutP σ) j))), (6, .int (nI (zcnt (zO σ) 48))), (4, .long (zB (zL σ))), (2, .long (zB (zO σ))), (0, .ref x), (1, .int v)]) hx hb dL_holds_226 hl (by decide) rfl (fun ls hl => ?_)
            refine lv_fload hx hb dL_holds_228 (lv_at hl 6 rfl) ?_
            refine lv_iload hx hb dL_holds_230 (lv_at hl 3 rfl) ?_
            refine lv_if_eq (tgt := 243) hx hb dL_holds_232 (by decide) (fun h_406 => ?_) (fun h_406 => ?_)
            · exact absurd h_406 (by decide)
            refine lv_fconst1 hx hb dL_holds_235 ?_
            refine lv_iload hx hb dL_holds_236 (lv_at hl 4 rfl) ?_
            refine lv_i2f hx hb dL_holds_238 ?_
            refine lv_fdiv hx hb dL_holds_239 (vf32 (fq_ne (by omega))) ?_
            refine ktopf (y := fq (j + 1)) (rfl) ?_
            refine lv_goto (tgt := 244) hx hb dL_holds_240 (by decide) ?_
            refine lv_fadd hx hb dL_holds_244 (vf32 (fA_ne (zO σ) (by omega))) ?_
            refine ktopf (y := fS (zO σ) (j + 1)) ((fS_t ho).symm) ?_
            refine lv_fstore (lv' := [(11, .float (fS (zO σ) (j + 1))), (7, .int (sumZ (enc σ) 96 (j + 1))), (16, .long ((zB (zO σ)) >>> ((nI (j + 1)).toInt64 &&& 63))), (15, .int (nI 1)), (14, .int (nI 1)), (13, .int (nI (j + 1))), (12, .int (nI 1)), (10, .int (nI (zcnt (kindP σ true) j))), (9, .int (nI (zcnt (kindP σ false) j))), (8, .int (nI (zcnt (shutP σ) j))), (6, .int (nI (zcnt (zO σ) 48))), (4, .long (zB (zL σ))), (2, .long (zB (zO σ))), (0, .ref x), (1, .int v)]) hx hb dL_holds_245 hl (by decide) rfl (fun ls hl => ?_)
            refine lv_iload hx hb dL_holds_247 (lv_at hl 9 rfl) ?_
            refine lv_iload hx hb dL_holds_249 (lv_at hl 3 rfl) ?_
            refine lv_if_lt (tgt := 263) hx hb dL_holds_251 (by decide) (fun h_407 => ?_) (fun h_407 => ?_)
            · exact absurd h_407 (by decide)
            refine lv_iload hx hb dL_holds_254 (lv_at hl 4 rfl) ?_
            refine lv_if_ne (tgt := 263) hx hb dL_holds_256 (by decide) (fun h_408 => ?_) (fun h_408 => ?_)
            rotate_left 1
            · exact absurd h_408 (by decide)
            refine lv_iconst (v := nI 0) hx hb dL_holds_263 (by decide) ?_
            refine lv_iadd hx hb dL_holds_264 ?_
            refine ktopi (y := nI (zcnt (shutP σ) j + 0)) (nI_add (zcnt (shutP σ) j) 0) ?_
            refine ktopi (y := nI (zcnt (shutP σ) (j + 1))) (by rw [zcnt_f (shut_f2 ho)]; rfl) ?_
            refine lv_istore (lv' := [(8, .int (nI (zcnt (shutP σ) (j + 1)))), (11, .float (fS (zO σ) (j + 1))), (7, .int (sumZ (enc σ) 96 (j + 1))), (16, .long ((zB (zO σ)) >>> ((nI (j + 1)).toInt64 &&& 63))), (15, .int (nI 1)), (14, .int (nI 1)), (13, .int (nI (j + 1))), (12, .int (nI 1)), (10, .int (nI (zcnt (kindP σ true) j))), (9, .int (nI (zcnt (kindP σ false) j))), (6, .int (nI (zcnt (zO σ) 48))), (4, .long (zB (zL σ))), (2, .long (zB (zO σ))), (0, .ref x), (1, .int v)]) hx hb dL_holds_265 hl (by decide) rfl (fun ls hl => ?_)
            refine lv_iload hx hb dL_holds_267 (lv_at hl 9 rfl) ?_
            refine lv_iload hx hb dL_holds_269 (lv_at hl 4 rfl) ?_
            refine lv_if_ne (tgt := 278) hx hb dL_holds_271 (by decide) (fun h_409 => ?_) (fun h_409 => ?_)
            rotate_left 1
            · exact absurd h_409 (by decide)
            refine lv_iconst (v := nI 0) hx hb dL_holds_278 (by decide) ?_
            refine lv_iadd hx hb dL_holds_279 ?_
            refine ktopi (y := nI (zcnt (kindP σ false) j + 0)) (nI_add (zcnt (kindP σ false) j) 0) ?_
            refine ktopi (y := nI (zcnt (kindP σ false) (j + 1))) (by rw [zcnt_f (kind_tf (by rw [hh]; decide))]; rfl) ?_
            refine lv_istore (lv' := [(9, .int (nI (zcnt (kindP σ false) (j + 1)))), (8, .int (nI (zcnt (shutP σ) (j + 1)))), (11, .float (fS (zO σ) (j + 1))), (7, .int (sumZ (enc σ) 96 (j + 1))), (16, .long ((zB (zO σ)) >>> ((nI (j + 1)).toInt64 &&& 63))), (15, .int (nI 1)), (14, .int (nI 1)), (13, .int (nI (j + 1))), (12, .int (nI 1)), (10, .int (nI (zcnt (kindP σ true) j))), (6, .int (nI (zcnt (zO σ) 48))), (4, .long (zB (zL σ))), (2, .long (zB (zO σ))), (0, .ref x), (1, .int v)]) hx hb dL_holds_280 hl (by decide) rfl (fun ls hl => ?_)
            refine lv_iload hx hb dL_holds_282 (lv_at hl 9 rfl) ?_
            refine lv_iload hx hb dL_holds_284 (lv_at hl 5 rfl) ?_
            refine lv_iconst (v := nI 1) hx hb dL_holds_286 (by decide) ?_
            refine lv_icmp_ne (tgt := 294) hx hb dL_holds_287 (by decide) (fun h_410 => ?_) (fun h_410 => ?_)
            · exact absurd rfl h_410
            refine lv_iconst (v := nI 1) hx hb dL_holds_290 (by decide) ?_
            refine lv_goto (tgt := 295) hx hb dL_holds_291 (by decide) ?_
            refine lv_iadd hx hb dL_holds_295 ?_
            refine ktopi (y := nI (zcnt (kindP σ true) j + 1)) (nI_add (zcnt (kindP σ true) j) 1) ?_
            refine ktopi (y := nI (zcnt (kindP σ true) (j + 1))) (by rw [zcnt_t (kind_tt hf hh)]) ?_
            refine lv_istore (lv' := [(10, .int (nI (zcnt (kindP σ true) (j + 1)))), (9, .int (nI (zcnt (kindP σ false) (j + 1)))), (8, .int (nI (zcnt (shutP σ) (j + 1)))), (11, .float (fS (zO σ) (j + 1))), (7, .int (sumZ (enc σ) 96 (j + 1))), (16, .long ((zB (zO σ)) >>> ((nI (j + 1)).toInt64 &&& 63))), (15, .int (nI 1)), (14, .int (nI 1)), (13, .int (nI (j + 1))), (12, .int (nI 1)), (6, .int (nI (zcnt (zO σ) 48))), (4, .long (zB (zL σ))), (2, .long (zB (zO σ))), (0, .ref x), (1, .int v)]) hx hb dL_holds_296 hl (by decide) rfl (fun ls hl => ?_)
            refine lv_aload_n hx hb dL_holds_298 rfl (lv_at hl 13 rfl) ?_
            refine lv_iload hx hb dL_holds_299 (lv_at hl 8 rfl) ?_
            refine kcalli (wc := [cX x nw sn tk hs tx tr, cR nw na nb σ, xI g na 49 (zT σ), xI g nb 49 (zI σ)]) (wr := [cH hs hq kn]) (wn := fun (u : Unit) => [cX x nw sn tk hs tx tr, cR nw na nb σ, xI g na 49 (zT σ), xI g nb 49 (zI σ), cH hs hq kn]) F w [0, 1, 2, 3] [4] [1, 2, 3, 4, 0] rfl rfl rfl (fun _ => rfl)
              (fun hp => va_runV (As := [.int (nI (j + 1))]) (rest := []) F.1 (kX5_isOpen_k l g x nw sn tk hs tx tr na nb σ (j + 1) H.size (by omega)) (cwV 1 hts gL_holds_X5_isOpen rfl rfl rfl ⟨rfl, hd_X5_isOpen⟩ ⟨Nat.le_of_ble_eq_true rfl, Nat.le_of_ble_eq_true rfl⟩) ⟨hp.1, va_recv F.2.2.2.1.1 w.1 (q0 := 0) (ci := 5) rfl rfl, hp.2⟩ rfl rfl hl.1 rfl (lv_room (Nat.le_of_ble_eq_true rfl)) dL_holds_301 ⟨by show _ ≤ (103 : Nat); omega, by show _ ≤ (618 : Nat); omega⟩)
              (fun r_411 _ H locs h_412 w => ?_)
            subst h_412
            refine ktopi (y := nI 1) (by rw [ho]; rfl) ?_
            refine lv_iload hx hb dL_holds_304 (lv_at hl 7 rfl) ?_
            refine lv_icmp_ne (tgt := 517) hx hb dL_holds_306 (by decide) (fun h_413 => ?_) (fun h_413 => ?_)
            · exact absurd rfl h_413
            refine lv_aload_n hx hb dL_holds_309 rfl (lv_at hl 13 rfl) ?_
            refine lv_iload hx hb dL_holds_310 (lv_at hl 8 rfl) ?_
            refine kcalli (wc := [cX x nw sn tk hs tx tr, cR nw na nb σ, xI g na 49 (zT σ), xI g nb 49 (zI σ)]) (wr := [cH hs hq kn]) (wn := fun (u : Unit) => [cX x nw sn tk hs tx tr, cR nw na nb σ, xI g na 49 (zT σ), xI g nb 49 (zI σ), cH hs hq kn]) F w [0, 1, 2, 3] [4] [1, 2, 3, 4, 0] rfl rfl rfl (fun _ => rfl)
              (fun hp => va_runV (As := [.int (nI (j + 1))]) (rest := []) F.1 (kX5_turnsOf_k l g x nw sn tk hs tx tr na nb σ (j + 1) H.size (by omega)) (cwV 1 hts gL_holds_X5_turnsOf rfl rfl rfl ⟨rfl, hd_X5_turnsOf⟩ ⟨Nat.le_of_ble_eq_true rfl, Nat.le_of_ble_eq_true rfl⟩) ⟨hp.1, va_recv F.2.2.2.1.1 w.1 (q0 := 0) (ci := 5) rfl rfl, hp.2⟩ rfl rfl hl.1 rfl (lv_room (Nat.le_of_ble_eq_true rfl)) dL_holds_312 ⟨by show _ ≤ (103 : Nat); omega, by show _ ≤ (618 : Nat); omega⟩)
              (fun r_414 _ H locs h_415 w => ?_)
            subst h_415
            refine ktopi (y := nI kk) (hk2) ?_
            refine lv_if_lt (tgt := 517) hx hb dL_holds_315 (by decide) (fun h_416 => ?_) (fun h_416 => ?_)
            · exact absurd h_416 (nI_nn hk1)
            refine lv_aload_n hx hb dL_holds_318 rfl (lv_at hl 13 rfl) ?_
            refine lv_iload hx hb dL_holds_319 (lv_at hl 8 rfl) ?_
            refine kcalli (wc := [cX x nw sn tk hs tx tr, cR nw na nb σ, xI g na 49 (zT σ), xI g nb 49 (zI σ)]) (wr := [cH hs hq kn]) (wn := fun (u : Unit) => [cX x nw sn tk hs tx tr, cR nw na nb σ, xI g na 49 (zT σ), xI g nb 49 (zI σ), cH hs hq kn]) F w [0, 1, 2, 3] [4] [1, 2, 3, 4, 0] rfl rfl rfl (fun _ => rfl)
              (fun hp => va_runV (As := [.int (nI (j + 1))]) (rest := []) F.1 (kX5_turnsOf_k l g x nw sn tk hs tx tr na nb σ (j + 1) H.size (by omega)) (cwV 1 hts gL_holds_X5_turnsOf rfl rfl rfl ⟨rfl, hd_X5_turnsOf⟩ ⟨Nat.le_of_ble_eq_true rfl, Nat.le_of_ble_eq_true rfl⟩) ⟨hp.1, va_recv F.2.2.2.1.1 w.1 (q0 := 0) (ci := 5) rfl rfl, hp.2⟩ rfl rfl hl.1 rfl (lv_room (Nat.le_of_ble_eq_true rfl)) dL_holds_321 ⟨by show _ ≤ (103 : Nat); omega, by show _ ≤ (618 : Nat); omega⟩)
              (fun r_417 _ H locs h_418 w => ?_)
            subst h_418
            refine ktopi (y := nI kk) (hk2) ?_
            refine lv_iconst (v := nI 2) hx hb dL_holds_324 (by decide) ?_
            refine lv_irem hx hb dL_holds_325 ((kc0_eq_f (by omega)).mpr (by omega)) ?_
            refine ktopi (y := nI (kk % 2)) (pk_rem (a := kk) (d := 2) (by omega) (by omega) (by omega)) ?_
            refine ktopi (y := nI 1) (by rw [ho] at hk3; have h8 := of_decide_eq_true hk3.symm; exact congrArg nI (by omega)) ?_
            refine lv_iload hx hb dL_holds_326 (lv_at hl 7 rfl) ?_
            refine lv_if_eq (tgt := 335) hx hb dL_holds_328 (by decide) (fun h_419 => ?_) (fun h_419 => ?_)
            · exact absurd h_419 (by decide)
            refine lv_iconst (v := nI 1) hx hb dL_holds_331 (by decide) ?_
            refine lv_goto (tgt := 336) hx hb dL_holds_332 (by decide) ?_
            refine lv_icmp_ne (tgt := 517) hx hb dL_holds_336 (by decide) (fun h_420 => ?_) (fun h_420 => ?_)
            · exact absurd rfl h_420
            obtain ⟨n1, n2, n3, n4⟩ := nxN_s (zO σ) (show j + 1 ≤ 48 by omega)
            have JN_421 : ∀   (H : Heap) (locs : List Loc) (ls : Array Slot), kW g A s [cX x nw sn tk hs tx tr, cR nw na nb σ, xI g na 49 (zT σ), xI g nb 49 (zI σ), cH hs hq kn] H locs → lv_has ls 24 [(10, .int (nI (zcnt (kindP σ true) (j + 1)))), (9, .int (nI (zcnt (kindP σ false) (j + 1)))), (8, .int (nI (zcnt (shutP σ) (j + 1)))), (11, .float (fS (zO σ) (j + 1))), (7, .int (sumZ (enc σ) 96 (j + 1))), (15, .int (nI 1)), (14, .int (nI 1)), (13, .int (nI (j + 1))), (12, .int (nI 1)), (6, .int (nI (zcnt (zO σ) 48))), (4, .long (zB (zL σ))), (2, .long (zB (zO σ))), (0, .ref x), (1, .int v)] → W p l e rmL_holds s m args below meth c H locs (7 + 2 * j + 1 + 1) (42 + 12 * j + 6 + 6) Q (F0 m 422 ls []) := by
              intro   H locs ls w hl
              refine lv_aload_n hx hb dL_holds_422 rfl (lv_at hl 12 rfl) ?_
              refine lv_iload hx hb dL_holds_423 (lv_at hl 7 rfl) ?_
              refine lv_iconst (v := nI 0) hx hb dL_holds_425 (by decide) ?_
              refine ktopi (y := bI false) (by decide) ?_
              refine kcalli (wc := [cX x nw sn tk hs tx tr, cR nw na nb σ, xI g na 49 (zT σ), xI g nb 49 (zI σ)]) (wr := [cH hs hq kn]) (wn := fun (u : Unit) => [cX x nw sn tk hs tx tr, cR nw na nb σ, xI g na 49 (zT σ), xI g nb 49 (zI σ), cH hs hq kn]) F w [0, 1, 2, 3] [4] [1, 2, 3, 4, 0] rfl rfl rfl (fun _ => rfl)
                (fun hp => va_runV (As := [.int (nI (j + 1)), .int (bI false)]) (rest := []) F.1 (kX5_whyNot_k l g x nw sn tk hs tx tr na nb σ (j + 1) false H.size (⟨by omega, by omega⟩)) (cwV 2 hts gL_holds_X5_whyNot rfl rfl rfl ⟨rfl, hd_X5_whyNot⟩ ⟨Nat.le_of_ble_eq_true rfl, Nat.le_of_ble_eq_true rfl⟩) ⟨hp.1, va_recv F.2.2.2.1.1 w.1 (q0 := 0) (ci := 5) rfl rfl, hp.2⟩ rfl rfl hl.1 rfl (lv_room (Nat.le_of_ble_eq_true rfl)) dL_holds_426 ⟨by show _ ≤ (103 : Nat); omega, by show _ ≤ (618 : Nat); omega⟩)
                (fun r_422 _ H locs h_423 w => ?_)
              subst h_423
              refine lv_iload hx hb dL_holds_429 (lv_at hl 6 rfl) ?_
              refine lv_if_ne (tgt := 438) hx hb dL_holds_431 (by decide) (fun h_424 => ?_) (fun h_424 => ?_)
              rotate_left 1
              · exact absurd h_424 (by decide)
              refine lv_iload hx hb dL_holds_438 (lv_at hl 5 rfl) ?_
              refine lv_bipush (v := (-104)) hx hb dL_holds_440 (by decide) ?_
              refine lv_icmp_eq (tgt := 449) hx hb dL_holds_442 (by decide) (fun h_425 => ?_) (fun h_425 => ?_)
              · exact absurd h_425 (by decide)
              refine lv_iconst (v := nI 2) hx hb dL_holds_445 (by decide) ?_
              refine lv_goto (tgt := 468) hx hb dL_holds_446 (by decide) ?_
              refine lv_icmp_ne (tgt := 517) hx hb dL_holds_468 (by decide) (fun h_426 => ?_) (fun h_426 => ?_)
              · exact absurd (congrArg nI (reas_2 ho hf)) h_426
              refine lv_aload_n hx hb dL_holds_471 rfl (lv_at hl 12 rfl) ?_
              refine lv_iload hx hb dL_holds_472 (lv_at hl 7 rfl) ?_
              refine lv_iconst (v := nI 1) hx hb dL_holds_474 (by decide) ?_
              refine ktopi (y := bI true) (by decide) ?_
              refine kcalli (wc := [cX x nw sn tk hs tx tr, cR nw na nb σ, xI g na 49 (zT σ), xI g nb 49 (zI σ)]) (wr := [cH hs hq kn]) (wn := fun (u : Unit) => [cX x nw sn tk hs tx tr, cR nw na nb σ, xI g na 49 (zT σ), xI g nb 49 (zI σ), cH hs hq kn]) F w [0, 1, 2, 3] [4] [1, 2, 3, 4, 0] rfl rfl rfl (fun _ => rfl)
                (fun hp => va_runV (As := [.int (nI (j + 1)), .int (bI true)]) (rest := []) F.1 (kX5_whyNot_k l g x nw sn tk hs tx tr na nb σ (j + 1) true H.size (⟨by omega, by omega⟩)) (cwV 2 hts gL_holds_X5_whyNot rfl rfl rfl ⟨rfl, hd_X5_whyNot⟩ ⟨Nat.le_of_ble_eq_true rfl, Nat.le_of_ble_eq_true rfl⟩) ⟨hp.1, va_recv F.2.2.2.1.1 w.1 (q0 := 0) (ci := 5) rfl rfl, hp.2⟩ rfl rfl hl.1 rfl (lv_room (Nat.le_of_ble_eq_true rfl)) dL_holds_475 ⟨by show _ ≤ (103 : Nat); omega, by show _ ≤ (618 : Nat); omega⟩)
                (fun r_427 _ H locs h_428 w => ?_)
              subst h_428
              refine lv_iload hx hb dL_holds_478 (lv_at hl 6 rfl) ?_
              refine lv_if_ne (tgt := 487) hx hb dL_holds_480 (by decide) (fun h_429 => ?_) (fun h_429 => ?_)
              rotate_left 1
              · exact absurd h_429 (by decide)
              refine lv_iload hx hb dL_holds_487 (lv_at hl 5 rfl) ?_
              refine lv_bipush (v := (-104)) hx hb dL_holds_489 (by decide) ?_
              refine lv_icmp_eq (tgt := 498) hx hb dL_holds_491 (by decide) (fun h_430 => ?_) (fun h_430 => ?_)
              · exact absurd h_430 (by decide)
              refine lv_iconst (v := nI 2) hx hb dL_holds_494 (by decide) ?_
              refine lv_goto (tgt := 510) hx hb dL_holds_495 (by decide) ?_
              refine lv_icmp_ne (tgt := 517) hx hb dL_holds_510 (by decide) (fun h_431 => ?_) (fun h_431 => ?_)
              · exact absurd (congrArg nI (reas_2 ho hf)) h_431
              refine lv_iconst (v := nI 1) hx hb dL_holds_513 (by decide) ?_
              refine lv_goto (tgt := 518) hx hb dL_holds_514 (by decide) ?_
              refine lv_istore (lv' := [(12, .int (nI 1)), (10, .int (nI (zcnt (kindP σ true) (j + 1)))), (9, .int (nI (zcnt (kindP σ false) (j + 1)))), (8, .int (nI (zcnt (shutP σ) (j + 1)))), (11, .float (fS (zO σ) (j + 1))), (7, .int (sumZ (enc σ) 96 (j + 1))), (15, .int (nI 1)), (14, .int (nI 1)), (13, .int (nI (j + 1))), (6, .int (nI (zcnt (zO σ) 48))), (4, .long (zB (zL σ))), (2, .long (zB (zO σ))), (0, .ref x), (1, .int v)]) hx hb dL_holds_518 hl (by decide) rfl (fun ls hl => ?_)
              refine lv_iinc (v := nI (j + 1 + 1)) (lv' := [(13, .int (nI (j + 1 + 1))), (12, .int (nI 1)), (10, .int (nI (zcnt (kindP σ true) (j + 1)))), (9, .int (nI (zcnt (kindP σ false) (j + 1)))), (8, .int (nI (zcnt (shutP σ) (j + 1)))), (11, .float (fS (zO σ) (j + 1))), (7, .int (sumZ (enc σ) 96 (j + 1))), (15, .int (nI 1)), (14, .int (nI 1)), (6, .int (nI (zcnt (zO σ) 48))), (4, .long (zB (zL σ))), (2, .long (zB (zO σ))), (0, .ref x), (1, .int v)]) hx hb dL_holds_520 hl (k := 8) rfl (nI_add (j + 1) 1) (by decide) rfl (fun ls hl => ?_)
              refine lv_goto (tgt := 173) hx hb dL_holds_523 (by decide) ?_
              refine W.widen (k := 7 + 2 * (j + 1)) (n := 42 + 12 * (j + 1)) (by omega) (by omega) ?_
              exact ih_43 (j + 1) (by omega) _ _ _ (by omega) (kW.perm w [0, 1, 2, 3, 4] rfl rfl) (lv_sub hl [0, 1, 5, 2, 3, 4, 6, 9, 10, 11, 12, 13] rfl)
            refine lv_aload_n hx hb dL_holds_339 rfl (lv_at hl 13 rfl) ?_
            refine lv_iload hx hb dL_holds_340 (lv_at hl 8 rfl) ?_
            refine kcalli (wc := [cX x nw sn tk hs tx tr, cR nw na nb σ, xI g na 49 (zT σ), xI g nb 49 (zI σ)]) (wr := [cH hs hq kn]) (wn := fun (u : Unit) => [cX x nw sn tk hs tx tr, cR nw na nb σ, xI g na 49 (zT σ), xI g nb 49 (zI σ), cH hs hq kn]) F w [0, 1, 2, 3] [4] [1, 2, 3, 4, 0] rfl rfl rfl (fun _ => rfl)
              (fun hp => vx_runSW (As := [.ref x, .int (nI (j + 1))]) (rest := []) F.1 (kL_nextOpen l hnl g x nw sn tk hs tx tr na nb σ (j + 1) H.size (⟨by omega, by omega⟩)) (vx_cwSW 2 hts gL_holds_L_nextOpen rfl rfl rfl hd_L_nextOpen ⟨Nat.le_of_ble_eq_true rfl, Nat.le_of_ble_eq_true rfl⟩) hp rfl rfl hl.1 rfl (lv_room (Nat.le_of_ble_eq_true rfl)) dL_holds_342 ⟨by show _ ≤ (103 : Nat); omega, by show _ ≤ (618 : Nat); omega⟩)
              (fun r_432 _ H locs h_433 w => ?_)
            subst h_433
            have hn4 := nx_open (p := zO σ) (show j + 1 ≤ 48 by omega) ho
            refine ktopi (y := nI (nxN (zO σ) (j + 1))) (if_pos hn4) ?_
            refine lv_bipush (v := (-104)) hx hb dL_holds_345 (by decide) ?_
            refine lv_icmp_ne (tgt := 354) hx hb dL_holds_347 (by decide) (fun h_434 => ?_) (fun h_434 => ?_)
            rotate_left 1
            · exact absurd h_434 (nI_m104 (by omega))
            refine lv_iconst (v := nI 0) hx hb dL_holds_354 (by decide) ?_
            refine lv_lload hx hb dL_holds_355 (lv_at hl 5 rfl) ?_
            refine lv_lconst (v := 0) hx hb dL_holds_357 (by decide) ?_
            refine W.lcmp hx hb dL_holds_358 ?_
            refine lv_if_ne (tgt := 366) hx hb dL_holds_359 (by decide) (fun h_435 => ?_) (fun h_435 => ?_)
            rotate_left 1
            · exact absurd (lgc_eq.mp h_435) (nx_yes (by omega) (by omega) hn4)
            refine lv_iconst (v := nI 0) hx hb dL_holds_366 (by decide) ?_
            refine lv_icmp_ne (tgt := 517) hx hb dL_holds_367 (by decide) (fun h_436 => ?_) (fun h_436 => ?_)
            · exact absurd rfl h_436
            refine lv_lload hx hb dL_holds_370 (lv_at hl 5 rfl) ?_
            refine lv_lconst (v := 0) hx hb dL_holds_372 (by decide) ?_
            refine W.lcmp hx hb dL_holds_373 ?_
            refine lv_if_eq (tgt := 422) hx hb dL_holds_374 (by decide) (fun h_437 => ?_) (fun h_437 => ?_)
            · exact absurd (lgc_eq.mp h_437) (nx_yes (by omega) (by omega) hn4)
            refine lv_aload_n hx hb dL_holds_377 rfl (lv_at hl 13 rfl) ?_
            refine lv_iload hx hb dL_holds_378 (lv_at hl 8 rfl) ?_
            refine kcalli (wc := [cX x nw sn tk hs tx tr, cR nw na nb σ, xI g na 49 (zT σ), xI g nb 49 (zI σ)]) (wr := [cH hs hq kn]) (wn := fun (u : Unit) => [cX x nw sn tk hs tx tr, cR nw na nb σ, xI g na 49 (zT σ), xI g nb 49 (zI σ), cH hs hq kn]) F w [0, 1, 2, 3] [4] [1, 2, 3, 4, 0] rfl rfl rfl (fun _ => rfl)
              (fun hp => va_runV (As := [.int (nI (j + 1))]) (rest := []) F.1 (kX5_nextOpen_k l g x nw sn tk hs tx tr na nb σ (j + 1) (nxN (zO σ) (j + 1)) H.size (⟨by omega, by omega⟩) (⟨n1, by omega⟩) n3 (n4 hn4)) (cwV 1 hts gL_holds_X5_nextOpen rfl rfl rfl ⟨rfl, hd_X5_nextOpen⟩ ⟨Nat.le_of_ble_eq_true rfl, Nat.le_of_ble_eq_true rfl⟩) ⟨hp.1, va_recv F.2.2.2.1.1 w.1 (q0 := 0) (ci := 5) rfl rfl, hp.2⟩ rfl rfl hl.1 rfl (lv_room (Nat.le_of_ble_eq_true rfl)) dL_holds_380 ⟨by show _ ≤ (103 : Nat); omega, by show _ ≤ (618 : Nat); omega⟩)
              (fun r_438 _ H locs h_439 w => ?_)
            subst h_439
            refine lv_iload hx hb dL_holds_383 (lv_at hl 8 rfl) ?_
            refine lv_icmp_lt (tgt := 517) hx hb dL_holds_385 (by decide) (fun h_440 => ?_) (fun h_440 => ?_)
            · exact absurd ((kc_lt_t (by omega) (by omega)).mp h_440) (by omega)
            refine lv_lload hx hb dL_holds_388 (lv_at hl 5 rfl) ?_
            refine lv_lconst (v := 1) hx hb dL_holds_390 (by decide) ?_
            refine lv_aload_n hx hb dL_holds_391 rfl (lv_at hl 13 rfl) ?_
            refine lv_iload hx hb dL_holds_392 (lv_at hl 8 rfl) ?_
            refine kcalli (wc := [cX x nw sn tk hs tx tr, cR nw na nb σ, xI g na 49 (zT σ), xI g nb 49 (zI σ)]) (wr := [cH hs hq kn]) (wn := fun (u : Unit) => [cX x nw sn tk hs tx tr, cR nw na nb σ, xI g na 49 (zT σ), xI g nb 49 (zI σ), cH hs hq kn]) F w [0, 1, 2, 3] [4] [1, 2, 3, 4, 0] rfl rfl rfl (fun _ => rfl)
              (fun hp => va_runV (As := [.int (nI (j + 1))]) (rest := [.long 1, .long ((zB (zO σ)) >>> ((nI (j + 1)).toInt64 &&& 63))]) F.1 (kX5_nextOpen_k l g x nw sn tk hs tx tr na nb σ (j + 1) (nxN (zO σ) (j + 1)) H.size (⟨by omega, by omega⟩) (⟨n1, by omega⟩) n3 (n4 hn4)) (cwV 1 hts gL_holds_X5_nextOpen rfl rfl rfl ⟨rfl, hd_X5_nextOpen⟩ ⟨Nat.le_of_ble_eq_true rfl, Nat.le_of_ble_eq_true rfl⟩) ⟨hp.1, va_recv F.2.2.2.1.1 w.1 (q0 := 0) (ci := 5) rfl rfl, hp.2⟩ rfl rfl hl.1 rfl (lv_room (Nat.le_of_ble_eq_true rfl)) dL_holds_394 ⟨by show _ ≤ (103 : Nat); omega, by show _ ≤ (618 : Nat); omega⟩)
              (fun r_441 _ H locs h_442 w => ?_)
            subst h_442
            refine lv_iload hx hb dL_holds_397 (lv_at hl 8 rfl) ?_
            refine lv_isub hx hb dL_holds_399 ?_
            refine ktopi (y := nI ((nxN (zO σ) (j + 1)) - (j + 1))) (pk_sub (by omega)) ?_
            refine lv_lshl hx hb dL_holds_400 rfl ?_
            refine ktopl (y := zbit (nxN (zO σ) (j + 1) - (j + 1))) (zm_bit (by omega)) ?_
            refine lv_lconst (v := 1) hx hb dL_holds_401 (by decide) ?_
            refine lv_lsub hx hb dL_holds_402 ?_
            refine lv_land hx hb dL_holds_403 ?_
            refine lv_lconst (v := 0) hx hb dL_holds_404 (by decide) ?_
            refine W.lcmp hx hb dL_holds_405 ?_
            refine lv_if_ne (tgt := 517) hx hb dL_holds_406 (by decide) (fun h_443 => ?_) (fun h_443 => ?_)
            · exact absurd (lgc_eq.mpr (nx_mask (by omega) (by omega) hn4)) h_443
            refine lv_aload_n hx hb dL_holds_409 rfl (lv_at hl 13 rfl) ?_
            refine lv_aload_n hx hb dL_holds_410 rfl (lv_at hl 13 rfl) ?_
            refine lv_iload hx hb dL_holds_411 (lv_at hl 8 rfl) ?_
            refine kcalli (wc := [cX x nw sn tk hs tx tr, cR nw na nb σ, xI g na 49 (zT σ), xI g nb 49 (zI σ)]) (wr := [cH hs hq kn]) (wn := fun (u : Unit) => [cX x nw sn tk hs tx tr, cR nw na nb σ, xI g na 49 (zT σ), xI g nb 49 (zI σ), cH hs hq kn]) F w [0, 1, 2, 3] [4] [1, 2, 3, 4, 0] rfl rfl rfl (fun _ => rfl)
              (fun hp => va_runV (As := [.int (nI (j + 1))]) (rest := [.ref x]) F.1 (kX5_nextOpen_k l g x nw sn tk hs tx tr na nb σ (j + 1) (nxN (zO σ) (j + 1)) H.size (⟨by omega, by omega⟩) (⟨n1, by omega⟩) n3 (n4 hn4)) (cwV 1 hts gL_holds_X5_nextOpen rfl rfl rfl ⟨rfl, hd_X5_nextOpen⟩ ⟨Nat.le_of_ble_eq_true rfl, Nat.le_of_ble_eq_true rfl⟩) ⟨hp.1, va_recv F.2.2.2.1.1 w.1 (q0 := 0) (ci := 5) rfl rfl, hp.2⟩ rfl rfl hl.1 rfl (lv_room (Nat.le_of_ble_eq_true rfl)) dL_holds_413 ⟨by show _ ≤ (103 : Nat); omega, by show _ ≤ (618 : Nat); omega⟩)
              (fun r_444 _ H locs h_445 w => ?_)
            subst h_445
            refine kcalli (wc := [cX x nw sn tk hs tx tr, cR nw na nb σ, xI g na 49 (zT σ), xI g nb 49 (zI σ)]) (wr := [cH hs hq kn]) (wn := fun (u : Unit) => [cX x nw sn tk hs tx tr, cR nw na nb σ, xI g na 49 (zT σ), xI g nb 49 (zI σ), cH hs hq kn]) F w [0, 1, 2, 3] [4] [1, 2, 3, 4, 0] rfl rfl rfl (fun _ => rfl)
              (fun hp => va_runV (As := [.int (nI (nxN (zO σ) (j + 1)))]) (rest := []) F.1 (kX5_isOpen_k l g x nw sn tk hs tx tr na nb σ (nxN (zO σ) (j + 1)) H.size (⟨by omega, by omega⟩)) (cwV 1 hts gL_holds_X5_isOpen rfl rfl rfl ⟨rfl, hd_X5_isOpen⟩ ⟨Nat.le_of_ble_eq_true rfl, Nat.le_of_ble_eq_true rfl⟩) ⟨hp.1, va_recv F.2.2.2.1.1 w.1 (q0 := 0) (ci := 5) rfl rfl, hp.2⟩ rfl rfl hl.1 rfl (lv_room (Nat.le_of_ble_eq_true rfl)) dL_holds_416 ⟨by show _ ≤ (103 : Nat); omega, by show _ ≤ (618 : Nat); omega⟩)
              (fun r_446 _ H locs h_447 w => ?_)
            subst h_447
            refine ktopi (y := nI 1) (by rw [n4 hn4]; rfl) ?_
            refine lv_if_eq (tgt := 517) hx hb dL_holds_419 (by decide) (fun h_448 => ?_) (fun h_448 => ?_)
            · exact absurd h_448 (by decide)
            exact JN_421   _ _ _ (kW.perm w [0, 1, 2, 3, 4] rfl rfl) (lv_sub hl [0, 1, 2, 3, 4, 6, 7, 8, 9, 10, 11, 12, 13, 14] rfl)
  refine W.widen (k := 7 + 2 * 0) (n := 42 + 12 * 0) (by omega) (by omega) ?_
  exact LP_43 _ 0 (by omega) _ _ _ (Nat.lt_succ_self _) (kW.perm w [0, 1, 2, 3, 4] rfl rfl) (lv_sub hl [0, 1, 2, 3, 4, 5, 6, 7, 8, 9, 10, 11] rfl)
