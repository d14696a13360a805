/-! ===== the law's acts ===== -/
theorem off_d {d : Nat} (h : d < 2147483648) (h2 : ¬ (1 ≤ d ∧ d ≤ 48)) : ¬ (1 ≤ (nI d).toInt ∧ (nI d).toInt ≤ 48) := by rw [ki_n h]; omega
theorem off_r {d t : Nat} (h : d < 2147483648) (ht : t < 2147483648) (h2 : ¬ (1 ≤ d ∧ d ≤ t ∧ t ≤ 48)) : ¬ (1 ≤ (nI d).toInt ∧ (nI d).toInt ≤ (nI t).toInt ∧ (nI t).toInt ≤ 48) := by rw [ki_n h, ki_n ht]; omega
theorem off_k {d k : Nat} (h : d < 2147483648) (hk : k < 2147483648) (h2 : ¬ ((1 ≤ d ∧ d ≤ 48) ∧ k ≤ 1)) : ¬ ((1 ≤ (nI d).toInt ∧ (nI d).toInt ≤ 48) ∧ (nI k = 0 ∨ nI k = 1)) := by
  rw [ki_n h]
  intro hc
  have := kdz_of hk hc.2
  omega
theorem xor_self0 (p : Nat → Bool) : zB p ^^^ zB p = zB (fun _ => false) := by
  rw [zB_xor]; exact zB_cong fun d _ _ => by rw [Bool.xor_self]
theorem zcnt_no : zcnt (fun _ => false) 48 = 0 := zcnt_0 48 fun _ _ _ => rfl
theorem add_no (x : Int32) : x + nI (zcnt (fun _ => false) 48) = x := by rw [zcnt_no]; exact Int32.add_zero x
theorem add_n0 (x : Int32) : x + nI 0 = x := Int32.add_zero x
theorem passN_I (k : Nat) (σ : Sg) : ∀ j, zI (passN k j σ) = zI σ
  | 0 => rfl
  | j + 1 => by
    rw [passN]
    unfold turnL
    split
    · exact passN_I k σ j
    · exact passN_I k σ j
theorem zI_pass (k : Nat) (σ : Sg) : zI (passS k σ) k = zI σ k + 1 := by
  rw [passS_time]
  show upd (zI (passN k (48 / k) σ)) k (zI (passN k (48 / k) σ) k + 1) k = _
  rw [upd_s, passN_I]
theorem zO_turn_at {σ : Sg} (d : Nat) : zO (turnS d σ) d = !zO σ d := by
  show zodd (upd (zT σ) d (zT σ d + 1) d) = !zodd (zT σ d)
  rw [upd_s, zodd_1]
theorem tA_turn1 {σ : Sg} {d : Nat} (h1 : 1 ≤ d) (h2 : d ≤ 48) : tA σ + nI 1 = tA (turnS d σ) := (tA_turn h1 h2).symm
theorem tA_same {σ τ : Sg} (h : zT τ = zT σ) : tA τ = tA σ := sumZ_cong (Nat.le_refl _) (fun d _ _ => by rw [h])
theorem zL_lock_at {σ : Sg} (d : Nat) : zL (lockS d σ) d = !zL σ d := bup_s
theorem zS_skip_at {σ : Sg} (d : Nat) : zS (skipS d σ) d = !zS σ d := bup_s
theorem rowM_t {σ : Sg} {n j : Nat} (h : zS σ (n + j) = true) : rowM σ n j + nI (zcnt (fun _ => false) 48) = rowM σ n (j + 1) := by rw [add_no, rowM, if_pos h]
theorem rowM_n {σ : Sg} {n j : Nat} (h : zS σ (n + j) = false) : rowM σ n j + nI (zcnt (turnP σ (n + j)) 48) = rowM σ n (j + 1) := by rw [rowM, if_neg (by rw [h]; decide)]
theorem rowC_tt {σ : Sg} {n j : Nat} (h : zS σ (n + j) = true) : nI (rowC n j σ + 0) = nI (rowC n (j + 1) σ) := by rw [rowC_t (by rw [rowN_S]; exact h)]; rfl
theorem rowC_nn {σ : Sg} {n j : Nat} (h : zS σ (n + j) = false) : nI (rowC n j σ + 1) = nI (rowC n (j + 1) σ) := by rw [rowC_n (by rw [rowN_S]; exact h)]
theorem row_xor0 {σ : Sg} {n j : Nat} (h : zS σ (n + j) = true) : zB (zO (rowN n j σ)) ^^^ zB (fun _ => false) = zB (zO (rowN n (j + 1) σ)) := by rw [zB_0, xor_0, row_skip h]
theorem hd_L_pass : yL_pass.cls ≠ "java/lang/invoke/MethodHandle" ∧ yL_pass.cls ≠ "java/lang/invoke/VarHandle" ∧ (parseMethodDescriptor yL_pass.desc).map (fun d => d.parameters.length) = some 2 := by decide +kernel
theorem hd_L_passRow : yL_passRow.cls ≠ "java/lang/invoke/MethodHandle" ∧ yL_passRow.cls ≠ "java/lang/invoke/VarHandle" ∧ (parseMethodDescriptor yL_passRow.desc).map (fun d => d.parameters.length) = some 3 := by decide +kernel
theorem hd_L_reads : yL_reads.cls ≠ "java/lang/invoke/MethodHandle" ∧ yL_reads.cls ≠ "java/lang/invoke/VarHandle" ∧ (parseMethodDescriptor yL_reads.desc).map (fun d => d.parameters.length) = some 2 := by decide +kernel
theorem hd_L_store : yL_store.cls ≠ "java/lang/invoke/MethodHandle" ∧ yL_store.cls ≠ "java/lang/invoke/VarHandle" ∧ (parseMethodDescriptor yL_store.desc).map (fun d => d.parameters.length) = some 3 := by decide +kernel
theorem hd_L_takeOut : yL_takeOut.cls ≠ "java/lang/invoke/MethodHandle" ∧ yL_takeOut.cls ≠ "java/lang/invoke/VarHandle" ∧ (parseMethodDescriptor yL_takeOut.desc).map (fun d => d.parameters.length) = some 2 := by decide +kernel
theorem hd_L_turnDoor : yL_turnDoor.cls ≠ "java/lang/invoke/MethodHandle" ∧ yL_turnDoor.cls ≠ "java/lang/invoke/VarHandle" ∧ (parseMethodDescriptor yL_turnDoor.desc).map (fun d => d.parameters.length) = some 2 := by decide +kernel
theorem hd_L_turnLock : yL_turnLock.cls ≠ "java/lang/invoke/MethodHandle" ∧ yL_turnLock.cls ≠ "java/lang/invoke/VarHandle" ∧ (parseMethodDescriptor yL_turnLock.desc).map (fun d => d.parameters.length) = some 2 := by decide +kernel
theorem hd_L_turnSkip : yL_turnSkip.cls ≠ "java/lang/invoke/MethodHandle" ∧ yL_turnSkip.cls ≠ "java/lang/invoke/VarHandle" ∧ (parseMethodDescriptor yL_turnSkip.desc).map (fun d => d.parameters.length) = some 2 := by decide +kernel
abbrev rmL_acts : Room := { frames := 9, cells := 60, slots := 360, locals := 205 }
set_option maxHeartbeats 40000000 in
set_option maxRecDepth 100000 in
theorem kL_acts (l : Launch) (hnl : l.stackTraces = false) (g : GG) (x : Nat) (nw : Nat) (sn : Nat) (tk : Bool) (hs : Nat) (tx : Nat) (tr : Nat) (na : Nat) (nb : Nat) (σ : Sg) (hq : Nat) (kn : Nat) (ρ : Nat → Nat) (α : Nat → Nat) (β : Nat → Nat) (γ : Nat → Sg) (ch : Nat) (L : Nat) (T : Nat → Int32) (tw : Nat) (od : Nat) (os : Nat) (po : Nat) (re : Nat) (ca : Nat) (ta : Nat) (tb : Nat) (τ : Sg) (vb : Int32) (n1 : Nat) (n2 : Nat) (nm : Nat) (en : Nat) (v : Int32) (yv : Int32) (sz : Nat) (hL : L ≤ 60) (hkn : kn ≤ 4) : Met l yL_acts wsL_acts rmL_acts (va_Pc [.ref x, .int v, .int yv] (kPre g [cX x nw sn tk hs tx tr, cR nw na nb σ, xI g na 49 (zT σ), xI g nb 49 (zI σ), cH hs hq kn, xQ g hq 4 (rq ρ), cR (ρ 0) (α 0) (β 0) (γ 0), xI g (α 0) 49 (zT (γ 0)), xI g (β 0) 49 (zI (γ 0)), cR (ρ 1) (α 1) (β 1) (γ 1), xI g (α 1) 49 (zT (γ 1)), xI g (β 1) 49 (zI (γ 1)), cR (ρ 2) (α 2) (β 2) (γ 2), xI g (α 2) 49 (zT (γ 2)), xI g (β 2) 49 (zI (γ 2)), cR (ρ 3) (α 3) (β 3) (γ 3), xI g (α 3) 49 (zT (γ 3)), xI g (β 3) 49 (zI (γ 3)), cT tx ch L, xC g ch 60 T, cTr tr tw od os po re ca, cR tw ta tb τ, xI g ta 49 (zT τ), xI g tb 49 (zI τ), cO od vb n1 n2 nm en] sz)) (va_Qi (fun (r : Int32) (u : SA) => r = bI true ∧ actP σ kn γ u.1 u.2.1 u.2.2.2.2.2.1 u.2.2.2.2.2.2.1) (kB g (va_A [cX x nw sn tk hs tx tr, cR nw na nb σ, xI g na 49 (zT σ), xI g nb 49 (zI σ), cH hs hq kn, xQ g hq 4 (rq ρ), cR (ρ 0) (α 0) (β 0) (γ 0), xI g (α 0) 49 (zT (γ 0)), xI g (β 0) 49 (zI (γ 0)), cR (ρ 1) (α 1) (β 1) (γ 1), xI g (α 1) 49 (zT (γ 1)), xI g (β 1) 49 (zI (γ 1)), cR (ρ 2) (α 2) (β 2) (γ 2), xI g (α 2) 49 (zT (γ 2)), xI g (β 2) 49 (zI (γ 2)), cR (ρ 3) (α 3) (β 3) (γ 3), xI g (α 3) 49 (zT (γ 3)), xI g (β 3) 49 (zI (γ 3)), cT tx ch L, xC g ch 60 T, cTr tr tw od os po re ca, cR tw ta tb τ, xI g ta 49 (zT τ), xI g tb 49 (zI τ), cO od vb n1 n2 nm en] sz) (fun u => [cX x nw sn tk hs tx tr, cR nw na nb u.1, xI g na 49 (zT u.1), xI g nb 49 (zI u.1), cH hs hq u.2.1, xQ g hq 4 (rq u.2.2.1), cR (u.2.2.1 0) (u.2.2.2.1 0) (u.2.2.2.2.1 0) (u.2.2.2.2.2.1 0), xI g (u.2.2.2.1 0) 49 (zT (u.2.2.2.2.2.1 0)), xI g (u.2.2.2.2.1 0) 49 (zI (u.2.2.2.2.2.1 0)), cR (u.2.2.1 1) (u.2.2.2.1 1) (u.2.2.2.2.1 1) (u.2.2.2.2.2.1 1), xI g (u.2.2.2.1 1) 49 (zT (u.2.2.2.2.2.1 1)), xI g (u.2.2.2.2.1 1) 49 (zI (u.2.2.2.2.2.1 1)), cR (u.2.2.1 2) (u.2.2.2.1 2) (u.2.2.2.2.1 2) (u.2.2.2.2.2.1 2), xI g (u.2.2.2.1 2) 49 (zT (u.2.2.2.2.2.1 2)), xI g (u.2.2.2.2.1 2) 49 (zI (u.2.2.2.2.2.1 2)), cR (u.2.2.1 3) (u.2.2.2.1 3) (u.2.2.2.2.1 3) (u.2.2.2.2.2.1 3), xI g (u.2.2.2.1 3) 49 (zT (u.2.2.2.2.2.1 3)), xI g (u.2.2.2.2.1 3) 49 (zI (u.2.2.2.2.2.1 3)), cT tx ch u.2.2.2.2.2.2.1, xC g ch 60 u.2.2.2.2.2.2.2.1, cTr tr tw od u.2.2.2.2.2.2.2.2.1 u.2.2.2.2.2.2.2.2.2.1 u.2.2.2.2.2.2.2.2.2.2.1 u.2.2.2.2.2.2.2.2.2.2.2.1, cR tw ta tb u.2.2.2.2.2.2.2.2.2.2.2.2.1, xI g ta 49 (zT u.2.2.2.2.2.2.2.2.2.2.2.2.1), xI g tb 49 (zI u.2.2.2.2.2.2.2.2.2.2.2.2.1), cO od u.2.2.2.2.2.2.2.2.2.2.2.2.2.1 u.2.2.2.2.2.2.2.2.2.2.2.2.2.2.1 u.2.2.2.2.2.2.2.2.2.2.2.2.2.2.2.1 u.2.2.2.2.2.2.2.2.2.2.2.2.2.2.2.2.1 u.2.2.2.2.2.2.2.2.2.2.2.2.2.2.2.2.2])) (va_A [cX x nw sn tk hs tx tr, cR nw na nb σ, xI g na 49 (zT σ), xI g nb 49 (zI σ), cH hs hq kn, xQ g hq 4 (rq ρ), cR (ρ 0) (α 0) (β 0) (γ 0), xI g (α 0) 49 (zT (γ 0)), xI g (β 0) 49 (zI (γ 0)), cR (ρ 1) (α 1) (β 1) (γ 1), xI g (α 1) 49 (zT (γ 1)), xI g (β 1) 49 (zI (γ 1)), cR (ρ 2) (α 2) (β 2) (γ 2), xI g (α 2) 49 (zT (γ 2)), xI g (β 2) 49 (zI (γ 2)), cR (ρ 3) (α 3) (β 3) (γ 3), xI g (α 3) 49 (zT (γ 3)), xI g (β 3) 49 (zI (γ 3)), cT tx ch L, xC g ch 60 T, cTr tr tw od os po re ca, cR tw ta tb τ, xI g ta 49 (zT τ), xI g tb 49 (zI τ), cO od vb n1 n2 nm en] sz)) 60 360 (va_A [cX x nw sn tk hs tx tr, cR nw na nb σ, xI g na 49 (zT σ), xI g nb 49 (zI σ), cH hs hq kn, xQ g hq 4 (rq ρ), cR (ρ 0) (α 0) (β 0) (γ 0), xI g (α 0) 49 (zT (γ 0)), xI g (β 0) 49 (zI (γ 0)), cR (ρ 1) (α 1) (β 1) (γ 1), xI g (α 1) 49 (zT (γ 1)), xI g (β 1) 49 (zI (γ 1)), cR (ρ 2) (α 2) (β 2) (γ 2), xI g (α 2) 49 (zT (γ 2)), xI g (β 2) 49 (zI (γ 2)), cR (ρ 3) (α 3) (β 3) (γ 3), xI g (α 3) 49 (zT (γ 3)), xI g (β 3) 49 (zI (γ 3)), cT tx ch L, xC g ch 60 T, cTr tr tw od os po re ca, cR tw ta tb τ, xI g ta 49 (zT τ), xI g tb 49 (zI τ), cO od vb n1 n2 nm en] sz) := by
  refine kMet (cc := cL_acts) (maxL := 22) (ret := (some .boolean)) (own := RL) (by decide) rfl rfl (Nat.le_of_ble_eq_true rfl) ?_
  intro p e s m args below meth c ls Q H locs A F w hl hnm hA hQ
  have hx := F.1.1
  have hb := F.1.2.1
  have hts := F.1.2.2.2.2
  have hl : lv_has ls 22 [(0, .ref x), (1, .int v), (2, .int yv)] := hl
  refine lv_iload_n hx hb dL_acts_0 rfl (lv_at hl 1 rfl) ?_
  refine lv_bipush (v := nI 40) hx hb dL_acts_1 (by decide) ?_
  have lw_1 := lowN_lt v (n := 40) (by omega)
  refine kcalli (wc := []) (wr := [cX x nw sn tk hs tx tr, cR nw na nb σ, xI g na 49 (zT σ), xI g nb 49 (zI σ), cH hs hq kn, xQ g hq 4 (rq ρ), cR (ρ 0) (α 0) (β 0) (γ 0), xI g (α 0) 49 (zT (γ 0)), xI g (β 0) 49 (zI (γ 0)), cR (ρ 1) (α 1) (β 1) (γ 1), xI g (α 1) 49 (zT (γ 1)), xI g (β 1) 49 (zI (γ 1)), cR (ρ 2) (α 2) (β 2) (γ 2), xI g (α 2) 49 (zT (γ 2)), xI g (β 2) 49 (zI (γ 2)), cR (ρ 3) (α 3) (β 3) (γ 3), xI g (α 3) 49 (zT (γ 3)), xI g (β 3) 49 (zI (γ 3)), cT tx ch L, xC g ch 60 T, cTr tr tw od os po re ca, cR tw ta tb τ, xI g ta 49 (zT τ), xI g tb 49 (zI τ), cO od vb n1 n2 nm en]) (wn := fun (u : Unit) => [cX x nw sn tk hs tx tr, cR nw na nb σ, xI g na 49 (zT σ), xI g nb 49 (zI σ), cH hs hq kn, xQ g hq 4 (rq ρ), cR (ρ 0) (α 0) (β 0) (γ 0), xI g (α 0) 49 (zT (γ 0)), xI g (β 0) 49 (zI (γ 0)), cR (ρ 1) (α 1) (β 1) (γ 1), xI g (α 1) 49 (zT (γ 1)), xI g (β 1) 49 (zI (γ 1)), cR (ρ 2) (α 2) (β 2) (γ 2), xI g (α 2) 49 (zT (γ 2)), xI g (β 2) 49 (zI (γ 2)), cR (ρ 3) (α 3) (β 3) (γ 3), xI g (α 3) 49 (zT (γ 3)), xI g (β 3) 49 (zI (γ 3)), cT tx ch L, xC g ch 60 T, cTr tr tw od os po re ca, cR tw ta tb τ, xI g ta 49 (zT τ), xI g tb 49 (zI τ), cO od vb n1 n2 nm en]) F w [] [0, 1, 2, 3, 4, 5, 6, 7, 8, 9, 10, 11, 12, 13, 14, 15, 16, 17, 18, 19, 20, 21, 22, 23, 24] [0, 1, 2, 3, 4, 5, 6, 7, 8, 9, 10, 11, 12, 13, 14, 15, 16, 17, 18, 19, 20, 21, 22, 23, 24] rfl rfl rfl (fun _ => rfl)
    (fun hp => va_runS (As := [.int v, .int (nI 40)]) (rest := []) F.1 (kL_low l g v 40 H.size (by omega)) (va_cwS 2 hts gL_acts_L_low rfl rfl rfl hd_L_low ⟨Nat.le_of_ble_eq_true rfl, Nat.le_of_ble_eq_true rfl⟩) hp rfl rfl hl.1 rfl (lv_room (Nat.le_of_ble_eq_true rfl)) dL_acts_3 ⟨by show _ ≤ (60 : Nat); omega, by show _ ≤ (360 : Nat); omega⟩)
    (fun r_2 _ H locs h_3 w => ?_)
  subst h_3
  obtain ⟨hw9, hhw9⟩ : ∃ z, z = lowN v 40 := ⟨_, rfl⟩
  refine ktopi (y := nI hw9) (by rw [hhw9]) ?_
  refine lv_istore_n (lv' := [(3, .int (nI hw9)), (0, .ref x), (1, .int v), (2, .int yv)]) hx hb dL_acts_6 rfl hl (by decide) rfl (fun ls hl => ?_)
  have JN_4 : ∀ (d9 : Nat) (hd9 : d9 = 0 ∨ d9 = 49 ∨ (1 ≤ d9 ∧ d9 ≤ 48)) (H : Heap) (locs : List Loc) (ls : Array Slot), kW g A s [cX x nw sn tk hs tx tr, cR nw na nb σ, xI g na 49 (zT σ), xI g nb 49 (zI σ), cH hs hq kn, xQ g hq 4 (rq ρ), cR (ρ 0) (α 0) (β 0) (γ 0), xI g (α 0) 49 (zT (γ 0)), xI g (β 0) 49 (zI (γ 0)), cR (ρ 1) (α 1) (β 1) (γ 1), xI g (α 1) 49 (zT (γ 1)), xI g (β 1) 49 (zI (γ 1)), cR (ρ 2) (α 2) (β 2) (γ 2), xI g (α 2) 49 (zT (γ 2)), xI g (β 2) 49 (zI (γ 2)), cR (ρ 3) (α 3) (β 3) (γ 3), xI g (α 3) 49 (zT (γ 3)), xI g (β 3) 49 (zI (γ 3)), cT tx ch L, xC g ch 60 T, cTr tr tw od os po re ca, cR tw ta tb τ, xI g ta 49 (zT τ), xI g tb 49 (zI τ), cO od vb n1 n2 nm en] H locs → lv_has ls 22 [(3, .int (nI hw9)), (0, .ref x), (1, .int v), (2, .int yv)] → W p l e rmL_acts s m args below meth c H locs 0 0 Q (F0 m 38 ls [.int (nI d9)]) := by
    intro d9 hd9 H locs ls w hl
    refine lv_istore (lv' := [(4, .int (nI d9)), (3, .int (nI hw9)), (0, .ref x), (1, .int v), (2, .int yv)]) hx hb dL_acts_38 hl (by decide) rfl (fun ls hl => ?_)
    have JN_5 : ∀  (hdo : d9 = 0 ∨ d9 = 49) (H : Heap) (locs : List Loc) (ls : Array Slot), kW g A s [cX x nw sn tk hs tx tr, cR nw na nb σ, xI g na 49 (zT σ), xI g nb 49 (zI σ), cH hs hq kn, xQ g hq 4 (rq ρ), cR (ρ 0) (α 0) (β 0) (γ 0), xI g (α 0) 49 (zT (γ 0)), xI g (β 0) 49 (zI (γ 0)), cR (ρ 1) (α 1) (β 1) (γ 1), xI g (α 1) 49 (zT (γ 1)), xI g (β 1) 49 (zI (γ 1)), cR (ρ 2) (α 2) (β 2) (γ 2), xI g (α 2) 49 (zT (γ 2)), xI g (β 2) 49 (zI (γ 2)), cR (ρ 3) (α 3) (β 3) (γ 3), xI g (α 3) 49 (zT (γ 3)), xI g (β 3) 49 (zI (γ 3)), cT tx ch L, xC g ch 60 T, cTr tr tw od os po re ca, cR tw ta tb τ, xI g ta 49 (zT τ), xI g tb 49 (zI τ), cO od vb n1 n2 nm en] H locs → lv_has ls 22 [(4, .int (nI d9)), (3, .int (nI hw9)), (0, .ref x), (1, .int v), (2, .int yv)] → W p l e rmL_acts s m args below meth c H locs 0 0 Q (F0 m 57 ls [.int (bI true)]) := by
      intro  hdo H locs ls w hl
      refine lv_istore (lv' := [(5, .int (bI true)), (4, .int (nI d9)), (3, .int (nI hw9)), (0, .ref x), (1, .int v), (2, .int yv)]) hx hb dL_acts_57 hl (by decide) rfl (fun ls hl => ?_)
      refine lv_aload_n hx hb dL_acts_59 rfl (lv_at hl 3 rfl) ?_
      refine kcalll (wc := [cX x nw sn tk hs tx tr, cR nw na nb σ, xI g na 49 (zT σ), xI g nb 49 (zI σ)]) (wr := [cH hs hq kn, xQ g hq 4 (rq ρ), cR (ρ 0) (α 0) (β 0) (γ 0), xI g (α 0) 49 (zT (γ 0)), xI g (β 0) 49 (zI (γ 0)), cR (ρ 1) (α 1) (β 1) (γ 1), xI g (α 1) 49 (zT (γ 1)), xI g (β 1) 49 (zI (γ 1)), cR (ρ 2) (α 2) (β 2) (γ 2), xI g (α 2) 49 (zT (γ 2)), xI g (β 2) 49 (zI (γ 2)), cR (ρ 3) (α 3) (β 3) (γ 3), xI g (α 3) 49 (zT (γ 3)), xI g (β 3) 49 (zI (γ 3)), cT tx ch L, xC g ch 60 T, cTr tr tw od os po re ca, cR tw ta tb τ, xI g ta 49 (zT τ), xI g tb 49 (zI τ), cO od vb n1 n2 nm en]) (wn := fun (u : Unit) => [cX x nw sn tk hs tx tr, cR nw na nb σ, xI g na 49 (zT σ), xI g nb 49 (zI σ), cH hs hq kn, xQ g hq 4 (rq ρ), cR (ρ 0) (α 0) (β 0) (γ 0), xI g (α 0) 49 (zT (γ 0)), xI g (β 0) 49 (zI (γ 0)), cR (ρ 1) (α 1) (β 1) (γ 1), xI g (α 1) 49 (zT (γ 1)), xI g (β 1) 49 (zI (γ 1)), cR (ρ 2) (α 2) (β 2) (γ 2), xI g (α 2) 49 (zT (γ 2)), xI g (β 2) 49 (zI (γ 2)), cR (ρ 3) (α 3) (β 3) (γ 3), xI g (α 3) 49 (zT (γ 3)), xI g (β 3) 49 (zI (γ 3)), cT tx ch L, xC g ch 60 T, cTr tr tw od os po re ca, cR tw ta tb τ, xI g ta 49 (zT τ), xI g tb 49 (zI τ), cO od vb n1 n2 nm en]) F w [0, 1, 2, 3] [4, 5, 6, 7, 8, 9, 10, 11, 12, 13, 14, 15, 16, 17, 18, 19, 20, 21, 22, 23, 24] [21, 22, 23, 24, 0, 1, 2, 3, 4, 5, 6, 7, 8, 9, 10, 11, 12, 13, 14, 15, 16, 17, 18, 19, 20] rfl rfl rfl (fun _ => rfl)
        (fun hp => va_runV (As := []) (rest := []) F.1 (kX5_openSet l g x nw sn tk hs tx tr na nb σ H.size ) (cwV 0 hts gL_acts_X5_openSet rfl rfl rfl ⟨rfl, hd_X5_openSet⟩ ⟨Nat.le_of_ble_eq_true rfl, Nat.le_of_ble_eq_true rfl⟩) ⟨hp.1, va_recv F.2.2.2.1.1 w.1 (q0 := 0) (ci := 5) rfl rfl, hp.2⟩ rfl rfl hl.1 rfl (lv_room (Nat.le_of_ble_eq_true rfl)) dL_acts_60 ⟨by show _ ≤ (60 : Nat); omega, by show _ ≤ (360 : Nat); omega⟩)
        (fun r_6 _ H locs h_7 w => ?_)
      subst h_7
      refine lv_lstore (lv' := [(6, .long (zB (zO σ))), (5, .int (bI true)), (4, .int (nI d9)), (3, .int (nI hw9)), (0, .ref x), (1, .int v), (2, .int yv)]) hx hb dL_acts_63 hl (by decide) rfl (fun ls hl => ?_)
      refine lv_aload_n hx hb dL_acts_65 rfl (lv_at hl 4 rfl) ?_
      refine kcalll (wc := [cX x nw sn tk hs tx tr, cR nw na nb σ, xI g na 49 (zT σ), xI g nb 49 (zI σ)]) (wr := [cH hs hq kn, xQ g hq 4 (rq ρ), cR (ρ 0) (α 0) (β 0) (γ 0), xI g (α 0) 49 (zT (γ 0)), xI g (β 0) 49 (zI (γ 0)), cR (ρ 1) (α 1) (β 1) (γ 1), xI g (α 1) 49 (zT (γ 1)), xI g (β 1) 49 (zI (γ 1)), cR (ρ 2) (α 2) (β 2) (γ 2), xI g (α 2) 49 (zT (γ 2)), xI g (β 2) 49 (zI (γ 2)), cR (ρ 3) (α 3) (β 3) (γ 3), xI g (α 3) 49 (zT (γ 3)), xI g (β 3) 49 (zI (γ 3)), cT tx ch L, xC g ch 60 T, cTr tr tw od os po re ca, cR tw ta tb τ, xI g ta 49 (zT τ), xI g tb 49 (zI τ), cO od vb n1 n2 nm en]) (wn := fun (u : Unit) => [cX x nw sn tk hs tx tr, cR nw na nb σ, xI g na 49 (zT σ), xI g nb 49 (zI σ), cH hs hq kn, xQ g hq 4 (rq ρ), cR (ρ 0) (α 0) (β 0) (γ 0), xI g (α 0) 49 (zT (γ 0)), xI g (β 0) 49 (zI (γ 0)), cR (ρ 1) (α 1) (β 1) (γ 1), xI g (α 1) 49 (zT (γ 1)), xI g (β 1) 49 (zI (γ 1)), cR (ρ 2) (α 2) (β 2) (γ 2), xI g (α 2) 49 (zT (γ 2)), xI g (β 2) 49 (zI (γ 2)), cR (ρ 3) (α 3) (β 3) (γ 3), xI g (α 3) 49 (zT (γ 3)), xI g (β 3) 49 (zI (γ 3)), cT tx ch L, xC g ch 60 T, cTr tr tw od os po re ca, cR tw ta tb τ, xI g ta 49 (zT τ), xI g tb 49 (zI τ), cO od vb n1 n2 nm en]) F w [0, 1, 2, 3] [4, 5, 6, 7, 8, 9, 10, 11, 12, 13, 14, 15, 16, 17, 18, 19, 20, 21, 22, 23, 24] [21, 22, 23, 24, 0, 1, 2, 3, 4, 5, 6, 7, 8, 9, 10, 11, 12, 13, 14, 15, 16, 17, 18, 19, 20] rfl rfl rfl (fun _ => rfl)
        (fun hp => va_runS (As := [.ref x]) (rest := []) F.1 (kL_locked l g x nw sn tk hs tx tr na nb σ H.size ) (va_cwS 1 hts gL_acts_L_locked rfl rfl rfl hd_L_locked ⟨Nat.le_of_ble_eq_true rfl, Nat.le_of_ble_eq_true rfl⟩) hp rfl rfl hl.1 rfl (lv_room (Nat.le_of_ble_eq_true rfl)) dL_acts_66 ⟨by show _ ≤ (60 : Nat); omega, by show _ ≤ (360 : Nat); omega⟩)
        (fun r_8 _ H locs h_9 w => ?_)
      subst h_9
      refine lv_lstore (lv' := [(8, .long (zB (zL σ))), (6, .long (zB (zO σ))), (5, .int (bI true)), (4, .int (nI d9)), (3, .int (nI hw9)), (0, .ref x), (1, .int v), (2, .int yv)]) hx hb dL_acts_69 hl (by decide) rfl (fun ls hl => ?_)
      refine lv_aload_n hx hb dL_acts_71 rfl (lv_at hl 5 rfl) ?_
      refine kcalli (wc := [cX x nw sn tk hs tx tr, cR nw na nb σ, xI g na 49 (zT σ), xI g nb 49 (zI σ)]) (wr := [cH hs hq kn, xQ g hq 4 (rq ρ), cR (ρ 0) (α 0) (β 0) (γ 0), xI g (α 0) 49 (zT (γ 0)), xI g (β 0) 49 (zI (γ 0)), cR (ρ 1) (α 1) (β 1) (γ 1), xI g (α 1) 49 (zT (γ 1)), xI g (β 1) 49 (zI (γ 1)), cR (ρ 2) (α 2) (β 2) (γ 2), xI g (α 2) 49 (zT (γ 2)), xI g (β 2) 49 (zI (γ 2)), cR (ρ 3) (α 3) (β 3) (γ 3), xI g (α 3) 49 (zT (γ 3)), xI g (β 3) 49 (zI (γ 3)), cT tx ch L, xC g ch 60 T, cTr tr tw od os po re ca, cR tw ta tb τ, xI g ta 49 (zT τ), xI g tb 49 (zI τ), cO od vb n1 n2 nm en]) (wn := fun (u : Unit) => [cX x nw sn tk hs tx tr, cR nw na nb σ, xI g na 49 (zT σ), xI g nb 49 (zI σ), cH hs hq kn, xQ g hq 4 (rq ρ), cR (ρ 0) (α 0) (β 0) (γ 0), xI g (α 0) 49 (zT (γ 0)), xI g (β 0) 49 (zI (γ 0)), cR (ρ 1) (α 1) (β 1) (γ 1), xI g (α 1) 49 (zT (γ 1)), xI g (β 1) 49 (zI (γ 1)), cR (ρ 2) (α 2) (β 2) (γ 2), xI g (α 2) 49 (zT (γ 2)), xI g (β 2) 49 (zI (γ 2)), cR (ρ 3) (α 3) (β 3) (γ 3), xI g (α 3) 49 (zT (γ 3)), xI g (β 3) 49 (zI (γ 3)), cT tx ch L, xC g ch 60 T, cTr tr tw od os po re ca, cR tw ta tb τ, xI g ta 49 (zT τ), xI g tb 49 (zI τ), cO od vb n1 n2 nm en]) F w [0, 1, 2, 3] [4, 5, 6, 7, 8, 9, 10, 11, 12, 13, 14, 15, 16, 17, 18, 19, 20, 21, 22, 23, 24] [21, 22, 23, 24, 0, 1, 2, 3, 4, 5, 6, 7, 8, 9, 10, 11, 12, 13, 14, 15, 16, 17, 18, 19, 20] rfl rfl rfl (fun _ => rfl)
        (fun hp => va_runV (As := []) (rest := []) F.1 (kX5_turnsInAll l g x nw sn tk hs tx tr na nb σ H.size ) (cwV 0 hts gL_acts_X5_turnsInAll rfl rfl rfl ⟨rfl, hd_X5_turnsInAll⟩ ⟨Nat.le_of_ble_eq_true rfl, Nat.le_of_ble_eq_true rfl⟩) ⟨hp.1, va_recv F.2.2.2.1.1 w.1 (q0 := 0) (ci := 5) rfl rfl, hp.2⟩ rfl rfl hl.1 rfl (lv_room (Nat.le_of_ble_eq_true rfl)) dL_acts_72 ⟨by show _ ≤ (60 : Nat); omega, by show _ ≤ (360 : Nat); omega⟩)
        (fun r_10 _ H locs h_11 w => ?_)
      subst h_11
      refine ktopi (y := tA σ) (rfl) ?_
      refine lv_istore (lv' := [(10, .int (tA σ)), (8, .long (zB (zL σ))), (6, .long (zB (zO σ))), (5, .int (bI true)), (4, .int (nI d9)), (3, .int (nI hw9)), (0, .ref x), (1, .int v), (2, .int yv)]) hx hb dL_acts_75 hl (by decide) rfl (fun ls hl => ?_)
      refine lv_aload_n hx hb dL_acts_77 rfl (lv_at hl 6 rfl) ?_
      refine lv_iconst (v := nI 0) hx hb dL_acts_78 (by decide) ?_
      refine ktopi (y := bI false) (by decide) ?_
      refine kcalli (wc := [cX x nw sn tk hs tx tr, cR nw na nb σ, xI g na 49 (zT σ), xI g nb 49 (zI σ)]) (wr := [cH hs hq kn, xQ g hq 4 (rq ρ), cR (ρ 0) (α 0) (β 0) (γ 0), xI g (α 0) 49 (zT (γ 0)), xI g (β 0) 49 (zI (γ 0)), cR (ρ 1) (α 1) (β 1) (γ 1), xI g (α 1) 49 (zT (γ 1)), xI g (β 1) 49 (zI (γ 1)), cR (ρ 2) (α 2) (β 2) (γ 2), xI g (α 2) 49 (zT (γ 2)), xI g (β 2) 49 (zI (γ 2)), cR (ρ 3) (α 3) (β 3) (γ 3), xI g (α 3) 49 (zT (γ 3)), xI g (β 3) 49 (zI (γ 3)), cT tx ch L, xC g ch 60 T, cTr tr tw od os po re ca, cR tw ta tb τ, xI g ta 49 (zT τ), xI g tb 49 (zI τ), cO od vb n1 n2 nm en]) (wn := fun (u : Unit) => [cX x nw sn tk hs tx tr, cR nw na nb σ, xI g na 49 (zT σ), xI g nb 49 (zI σ), cH hs hq kn, xQ g hq 4 (rq ρ), cR (ρ 0) (α 0) (β 0) (γ 0), xI g (α 0) 49 (zT (γ 0)), xI g (β 0) 49 (zI (γ 0)), cR (ρ 1) (α 1) (β 1) (γ 1), xI g (α 1) 49 (zT (γ 1)), xI g (β 1) 49 (zI (γ 1)), cR (ρ 2) (α 2) (β 2) (γ 2), xI g (α 2) 49 (zT (γ 2)), xI g (β 2) 49 (zI (γ 2)), cR (ρ 3) (α 3) (β 3) (γ 3), xI g (α 3) 49 (zT (γ 3)), xI g (β 3) 49 (zI (γ 3)), cT tx ch L, xC g ch 60 T, cTr tr tw od os po re ca, cR tw ta tb τ, xI g ta 49 (zT τ), xI g tb 49 (zI τ), cO od vb n1 n2 nm en]) F w [0, 1, 2, 3] [4, 5, 6, 7, 8, 9, 10, 11, 12, 13, 14, 15, 16, 17, 18, 19, 20, 21, 22, 23, 24] [21, 22, 23, 24, 0, 1, 2, 3, 4, 5, 6, 7, 8, 9, 10, 11, 12, 13, 14, 15, 16, 17, 18, 19, 20] rfl rfl rfl (fun _ => rfl)
        (fun hp => va_runV (As := [.int (bI false)]) (rest := []) F.1 (kX5_thingsOf_k l g x nw sn tk hs tx tr na nb σ false H.size ) (cwV 1 hts gL_acts_X5_thingsOf rfl rfl rfl ⟨rfl, hd_X5_thingsOf⟩ ⟨Nat.le_of_ble_eq_true rfl, Nat.le_of_ble_eq_true rfl⟩) ⟨hp.1, va_recv F.2.2.2.1.1 w.1 (q0 := 0) (ci := 5) rfl rfl, hp.2⟩ rfl rfl hl.1 rfl (lv_room (Nat.le_of_ble_eq_true rfl)) dL_acts_79 ⟨by show _ ≤ (60 : Nat); omega, by show _ ≤ (360 : Nat); omega⟩)
        (fun r_12 _ H locs h_13 w => ?_)
      subst h_13
      refine lv_istore (lv' := [(11, .int (nI (zcnt (kindP σ false) 48))), (10, .int (tA σ)), (8, .long (zB (zL σ))), (6, .long (zB (zO σ))), (5, .int (bI true)), (4, .int (nI d9)), (3, .int (nI hw9)), (0, .ref x), (1, .int v), (2, .int yv)]) hx hb dL_acts_82 hl (by decide) rfl (fun ls hl => ?_)
      refine lv_aload_n hx hb dL_acts_84 rfl (lv_at hl 7 rfl) ?_
      refine lv_iconst (v := nI 1) hx hb dL_acts_85 (by decide) ?_
      refine ktopi (y := bI true) (by decide) ?_
      refine kcalli (wc := [cX x nw sn tk hs tx tr, cR nw na nb σ, xI g na 49 (zT σ), xI g nb 49 (zI σ)]) (wr := [cH hs hq kn, xQ g hq 4 (rq ρ), cR (ρ 0) (α 0) (β 0) (γ 0), xI g (α 0) 49 (zT (γ 0)), xI g (β 0) 49 (zI (γ 0)), cR (ρ 1) (α 1) (β 1) (γ 1), xI g (α 1) 49 (zT (γ 1)), xI g (β 1) 49 (zI (γ 1)), cR (ρ 2) (α 2) (β 2) (γ 2), xI g (α 2) 49 (zT (γ 2)), xI g (β 2) 49 (zI (γ 2)), cR (ρ 3) (α 3) (β 3) (γ 3), xI g (α 3) 49 (zT (γ 3)), xI g (β 3) 49 (zI (γ 3)), cT tx ch L, xC g ch 60 T, cTr tr tw od os po re ca, cR tw ta tb τ, xI g ta 49 (zT τ), xI g tb 49 (zI τ), cO od vb n1 n2 nm en]) (wn := fun (u : Unit) => [cX x nw sn tk hs tx tr, cR nw na nb σ, xI g na 49 (zT σ), xI g nb 49 (zI σ), cH hs hq kn, xQ g hq 4 (rq ρ), cR (ρ 0) (α 0) (β 0) (γ 0), xI g (α 0) 49 (zT (γ 0)), xI g (β 0) 49 (zI (γ 0)), cR (ρ 1) (α 1) (β 1) (γ 1), xI g (α 1) 49 (zT (γ 1)), xI g (β 1) 49 (zI (γ 1)), cR (ρ 2) (α 2) (β 2) (γ 2), xI g (α 2) 49 (zT (γ 2)), xI g (β 2) 49 (zI (γ 2)), cR (ρ 3) (α 3) (β 3) (γ 3), xI g (α 3) 49 (zT (γ 3)), xI g (β 3) 49 (zI (γ 3)), cT tx ch L, xC g ch 60 T, cTr tr tw od os po re ca, cR tw ta tb τ, xI g ta 49 (zT τ), xI g tb 49 (zI τ), cO od vb n1 n2 nm en]) F w [0, 1, 2, 3] [4, 5, 6, 7, 8, 9, 10, 11, 12, 13, 14, 15, 16, 17, 18, 19, 20, 21, 22, 23, 24] [21, 22, 23, 24, 0, 1, 2, 3, 4, 5, 6, 7, 8, 9, 10, 11, 12, 13, 14, 15, 16, 17, 18, 19, 20] rfl rfl rfl (fun _ => rfl)
        (fun hp => va_runV (As := [.int (bI true)]) (rest := []) F.1 (kX5_thingsOf_k l g x nw sn tk hs tx tr na nb σ true H.size ) (cwV 1 hts gL_acts_X5_thingsOf rfl rfl rfl ⟨rfl, hd_X5_thingsOf⟩ ⟨Nat.le_of_ble_eq_true rfl, Nat.le_of_ble_eq_true rfl⟩) ⟨hp.1, va_recv F.2.2.2.1.1 w.1 (q0 := 0) (ci := 5) rfl rfl, hp.2⟩ rfl rfl hl.1 rfl (lv_room (Nat.le_of_ble_eq_true rfl)) dL_acts_86 ⟨by show _ ≤ (60 : Nat); omega, by show _ ≤ (360 : Nat); omega⟩)
        (fun r_14 _ H locs h_15 w => ?_)
      subst h_15
      refine lv_istore (lv' := [(12, .int (nI (zcnt (kindP σ true) 48))), (11, .int (nI (zcnt (kindP σ false) 48))), (10, .int (tA σ)), (8, .long (zB (zL σ))), (6, .long (zB (zO σ))), (5, .int (bI true)), (4, .int (nI d9)), (3, .int (nI hw9)), (0, .ref x), (1, .int v), (2, .int yv)]) hx hb dL_acts_89 hl (by decide) rfl (fun ls hl => ?_)
      refine lv_iload_n hx hb dL_acts_91 rfl (lv_at hl 7 rfl) ?_
      refine lv_bipush (v := nI 7) hx hb dL_acts_92 (by decide) ?_
      refine lv_icmp_ge (tgt := 217) hx hb dL_acts_94 (by decide) (fun h_16 => ?_) (fun h_16 => ?_)
      · have h_16 : hw9 ≥ 7 := (kc_ge_t (by omega) (by omega)).mp h_16
        refine lv_iload_n hx hb dL_acts_217 rfl (lv_at hl 7 rfl) ?_
        refine lv_bipush (v := nI 11) hx hb dL_acts_218 (by decide) ?_
        refine lv_icmp_ge (tgt := 444) hx hb dL_acts_220 (by decide) (fun h_17 => ?_) (fun h_17 => ?_)
        · have h_17 : hw9 ≥ 11 := (kc_ge_t (by omega) (by omega)).mp h_17
          refine lv_iload_n hx hb dL_acts_444 rfl (lv_at hl 7 rfl) ?_
          refine lv_bipush (v := nI 19) hx hb dL_acts_445 (by decide) ?_
          refine lv_icmp_ge (tgt := 582) hx hb dL_acts_447 (by decide) (fun h_18 => ?_) (fun h_18 => ?_)
          · have h_18 : hw9 ≥ 19 := (kc_ge_t (by omega) (by omega)).mp h_18
            refine lv_iload_n hx hb dL_acts_582 rfl (lv_at hl 7 rfl) ?_
            refine lv_bipush (v := nI 26) hx hb dL_acts_583 (by decide) ?_
            refine lv_icmp_ge (tgt := 741) hx hb dL_acts_585 (by decide) (fun h_19 => ?_) (fun h_19 => ?_)
            · have h_19 : hw9 ≥ 26 := (kc_ge_t (by omega) (by omega)).mp h_19
              refine lv_iconst (v := nI 0) hx hb dL_acts_741 (by decide) ?_
              refine lv_istore (lv' := [(13, .int (nI 0)), (12, .int (nI (zcnt (kindP σ true) 48))), (11, .int (nI (zcnt (kindP σ false) 48))), (10, .int (tA σ)), (8, .long (zB (zL σ))), (6, .long (zB (zO σ))), (5, .int (bI true)), (4, .int (nI d9)), (3, .int (nI hw9)), (0, .ref x), (1, .int v), (2, .int yv)]) hx hb dL_acts_742 hl (by decide) rfl (fun ls hl => ?_)
              refine lv_iload hx hb dL_acts_744 (lv_at hl 0 rfl) ?_
              refine lv_bipush (v := nI 48) hx hb dL_acts_746 (by decide) ?_
              refine lv_icmp_ge (tgt := 826) hx hb dL_acts_748 (by decide) (fun h_20 => ?_) (fun h_20 => ?_)
              · exact absurd h_20 (by decide)
              refine lv_iload hx hb dL_acts_751 (lv_at hl 6 rfl) ?_
              refine lv_if_ne (tgt := 826) hx hb dL_acts_753 (by decide) (fun h_21 => ?_) (fun h_21 => ?_)
              rotate_left 1
              · exact absurd h_21 (by decide)
              refine W.widen (k := 48) (n := 288) (by omega) (by omega) ?_
              obtain ⟨d8, hd8⟩ : ∃ z, z = d9 := ⟨_, rfl⟩
              rw [← hd8] at hl
              have hdo : d8 = 0 ∨ d8 = 49 := by omega
              have hl : lv_has ls 22 [(12, .int (nI (zcnt (kindP σ true) 48))), (11, .int (nI (zcnt (kindP σ false) 48))), (10, .int (tA σ)), (8, .long (zB (zL σ))), (6, .long (zB (zO σ))), (5, .int (bI true)), (4, .int (nI d8)), (3, .int (nI hw9)), (0, .ref x), (1, .int v), (2, .int yv)] := lv_sub hl [1, 2, 3, 4, 5, 6, 7, 8, 9, 10, 11] rfl
              refine lv_iload_n hx hb dL_acts_826 rfl (lv_at hl 7 rfl) ?_
              refine lv_bipush (v := nI 31) hx hb dL_acts_827 (by decide) ?_
              refine lv_icmp_ge (tgt := 1048) hx hb dL_acts_829 (by decide) (fun h_22 => ?_) (fun h_22 => ?_)
              · have h_22 : hw9 ≥ 31 := (kc_ge_t (by omega) (by omega)).mp h_22
                refine lv_iload_n hx hb dL_acts_1048 rfl (lv_at hl 7 rfl) ?_
                refine lv_bipush (v := nI 34) hx hb dL_acts_1049 (by decide) ?_
                refine lv_icmp_ge (tgt := 1220) hx hb dL_acts_1051 (by decide) (fun h_23 => ?_) (fun h_23 => ?_)
                · have h_23 : hw9 ≥ 34 := (kc_ge_t (by omega) (by omega)).mp h_23
                  refine lv_aload_n hx hb dL_acts_1220 rfl (lv_at hl 8 rfl) ?_
                  refine lv_iload_n hx hb dL_acts_1221 rfl (lv_at hl 10 rfl) ?_
                  refine kcalli (wc := [cX x nw sn tk hs tx tr, cR nw na nb σ, xI g na 49 (zT σ), xI g nb 49 (zI σ), cH hs hq kn, xQ g hq 4 (rq ρ), cR (ρ 0) (α 0) (β 0) (γ 0), xI g (α 0) 49 (zT (γ 0)), xI g (β 0) 49 (zI (γ 0)), cR (ρ 1) (α 1) (β 1) (γ 1), xI g (α 1) 49 (zT (γ 1)), xI g (β 1) 49 (zI (γ 1)), cR (ρ 2) (α 2) (β 2) (γ 2), xI g (α 2) 49 (zT (γ 2)), xI g (β 2) 49 (zI (γ 2)), cR (ρ 3) (α 3) (β 3) (γ 3), xI g (α 3) 49 (zT (γ 3)), xI g (β 3) 49 (zI (γ 3)), cT tx ch L, xC g ch 60 T, cTr tr tw od os po re ca, cR tw ta tb τ, xI g ta 49 (zT τ), xI g tb 49 (zI τ), cO od vb n1 n2 nm en]) (wr := []) (wn := fun (u : SA) => [cX x nw sn tk hs tx tr, cR nw na nb u.1, xI g na 49 (zT u.1), xI g nb 49 (zI u.1), cH hs hq u.2.1, xQ g hq 4 (rq u.2.2.1), cR (u.2.2.1 0) (u.2.2.2.1 0) (u.2.2.2.2.1 0) (u.2.2.2.2.2.1 0), xI g (u.2.2.2.1 0) 49 (zT (u.2.2.2.2.2.1 0)), xI g (u.2.2.2.2.1 0) 49 (zI (u.2.2.2.2.2.1 0)), cR (u.2.2.1 1) (u.2.2.2.1 1) (u.2.2.2.2.1 1) (u.2.2.2.2.2.1 1), xI g (u.2.2.2.1 1) 49 (zT (u.2.2.2.2.2.1 1)), xI g (u.2.2.2.2.1 1) 49 (zI (u.2.2.2.2.2.1 1)), cR (u.2.2.1 2) (u.2.2.2.1 2) (u.2.2.2.2.1 2) (u.2.2.2.2.2.1 2), xI g (u.2.2.2.1 2) 49 (zT (u.2.2.2.2.2.1 2)), xI g (u.2.2.2.2.1 2) 49 (zI (u.2.2.2.2.2.1 2)), cR (u.2.2.1 3) (u.2.2.2.1 3) (u.2.2.2.2.1 3) (u.2.2.2.2.2.1 3), xI g (u.2.2.2.1 3) 49 (zT (u.2.2.2.2.2.1 3)), xI g (u.2.2.2.2.1 3) 49 (zI (u.2.2.2.2.2.1 3)), cT tx ch u.2.2.2.2.2.2.1, xC g ch 60 u.2.2.2.2.2.2.2.1, cTr tr tw od u.2.2.2.2.2.2.2.2.1 u.2.2.2.2.2.2.2.2.2.1 u.2.2.2.2.2.2.2.2.2.2.1 u.2.2.2.2.2.2.2.2.2.2.2.1, cR tw ta tb u.2.2.2.2.2.2.2.2.2.2.2.2.1, xI g ta 49 (zT u.2.2.2.2.2.2.2.2.2.2.2.2.1), xI g tb 49 (zI u.2.2.2.2.2.2.2.2.2.2.2.2.1), cO od u.2.2.2.2.2.2.2.2.2.2.2.2.2.1 u.2.2.2.2.2.2.2.2.2.2.2.2.2.2.1 u.2.2.2.2.2.2.2.2.2.2.2.2.2.2.2.1 u.2.2.2.2.2.2.2.2.2.2.2.2.2.2.2.2.1 u.2.2.2.2.2.2.2.2.2.2.2.2.2.2.2.2.2]) F w [0, 1, 2, 3, 4, 5, 6, 7, 8, 9, 10, 11, 12, 13, 14, 15, 16, 17, 18, 19, 20, 21, 22, 23, 24] [] [0, 1, 2, 3, 4, 5, 6, 7, 8, 9, 10, 11, 12, 13, 14, 15, 16, 17, 18, 19, 20, 21, 22, 23, 24] rfl rfl rfl (fun _ => rfl)
                    (fun hp => va_runS (As := [.ref x, .int yv]) (rest := []) F.1 (kL_reads l hnl g x nw sn tk hs tx tr na nb σ hq kn ρ α β γ ch L T tw od os po re ca ta tb τ vb n1 n2 nm en yv H.size hL hkn) (va_cwS 2 hts gL_acts_L_reads rfl rfl rfl hd_L_reads ⟨Nat.le_of_ble_eq_true rfl, Nat.le_of_ble_eq_true rfl⟩) hp rfl rfl hl.1 rfl (lv_room (Nat.le_of_ble_eq_true rfl)) dL_acts_1222 ⟨Nat.le_of_ble_eq_true rfl, Nat.le_of_ble_eq_true rfl⟩)
                    (fun r_24 u H locs h_25 w => ?_)
                  try dsimp only at h_25
                  obtain ⟨u_26, hu9⟩ : ∃ z, z = u := ⟨_, rfl⟩
                  subst hu9
                  have w : kW g A s [cX x nw sn tk hs tx tr, cR nw na nb u_26.1, xI g na 49 (zT u_26.1), xI g nb 49 (zI u_26.1), cH hs hq u_26.2.1, xQ g hq 4 (rq u_26.2.2.1), cR (u_26.2.2.1 0) (u_26.2.2.2.1 0) (u_26.2.2.2.2.1 0) (u_26.2.2.2.2.2.1 0), xI g (u_26.2.2.2.1 0) 49 (zT (u_26.2.2.2.2.2.1 0)), xI g (u_26.2.2.2.2.1 0) 49 (zI (u_26.2.2.2.2.2.1 0)), cR (u_26.2.2.1 1) (u_26.2.2.2.1 1) (u_26.2.2.2.2.1 1) (u_26.2.2.2.2.2.1 1), xI g (u_26.2.2.2.1 1) 49 (zT (u_26.2.2.2.2.2.1 1)), xI g (u_26.2.2.2.2.1 1) 49 (zI (u_26.2.2.2.2.2.1 1)), cR (u_26.2.2.1 2) (u_26.2.2.2.1 2) (u_26.2.2.2.2.1 2) (u_26.2.2.2.2.2.1 2), xI g (u_26.2.2.2.1 2) 49 (zT (u_26.2.2.2.2.2.1 2)), xI g (u_26.2.2.2.2.1 2) 49 (zI (u_26.2.2.2.2.2.1 2)), cR (u_26.2.2.1 3) (u_26.2.2.2.1 3) (u_26.2.2.2.2.1 3) (u_26.2.2.2.2.2.1 3), xI g (u_26.2.2.2.1 3) 49 (zT (u_26.2.2.2.2.2.1 3)), xI g (u_26.2.2.2.2.1 3) 49 (zI (u_26.2.2.2.2.2.1 3)), cT tx ch u_26.2.2.2.2.2.2.1, xC g ch 60 u_26.2.2.2.2.2.2.2.1, cTr tr tw od u_26.2.2.2.2.2.2.2.2.1 u_26.2.2.2.2.2.2.2.2.2.1 u_26.2.2.2.2.2.2.2.2.2.2.1 u_26.2.2.2.2.2.2.2.2.2.2.2.1, cR tw ta tb u_26.2.2.2.2.2.2.2.2.2.2.2.2.1, xI g ta 49 (zT u_26.2.2.2.2.2.2.2.2.2.2.2.2.1), xI g tb 49 (zI u_26.2.2.2.2.2.2.2.2.2.2.2.2.1), cO od u_26.2.2.2.2.2.2.2.2.2.2.2.2.2.1 u_26.2.2.2.2.2.2.2.2.2.2.2.2.2.2.1 u_26.2.2.2.2.2.2.2.2.2.2.2.2.2.2.2.1 u_26.2.2.2.2.2.2.2.2.2.2.2.2.2.2.2.2.1 u_26.2.2.2.2.2.2.2.2.2.2.2.2.2.2.2.2.2] H locs := w
                  obtain ⟨hra, hrb⟩ := h_25
                  subst hra
                  refine W.widen (k := 60) (n := 360) (by omega) (by omega) ?_
                  subst hA
                  subst hQ
                  exact kretz F w (u_26.1, u_26.2.1, u_26.2.2.1, u_26.2.2.2.1, u_26.2.2.2.2.1, u_26.2.2.2.2.2.1, u_26.2.2.2.2.2.2.1, u_26.2.2.2.2.2.2.2.1, u_26.2.2.2.2.2.2.2.2.1, u_26.2.2.2.2.2.2.2.2.2.1, u_26.2.2.2.2.2.2.2.2.2.2.1, u_26.2.2.2.2.2.2.2.2.2.2.2.1, u_26.2.2.2.2.2.2.2.2.2.2.2.2.1, u_26.2.2.2.2.2.2.2.2.2.2.2.2.2.1, u_26.2.2.2.2.2.2.2.2.2.2.2.2.2.2.1, u_26.2.2.2.2.2.2.2.2.2.2.2.2.2.2.2.1, u_26.2.2.2.2.2.2.2.2.2.2.2.2.2.2.2.2.1, u_26.2.2.2.2.2.2.2.2.2.2.2.2.2.2.2.2.2) [0, 1, 2, 3, 4, 5, 6, 7, 8, 9, 10, 11, 12, 13, 14, 15, 16, 17, 18, 19, 20, 21, 22, 23, 24] rfl rfl (⟨rfl, hrb⟩) (kz_n _) (Nat.le_of_ble_eq_true rfl) (Nat.le_of_ble_eq_true rfl) dL_acts_1225
                · have h_23 : hw9 < 34 := (kc_ge_f (by omega) (by omega)).mp h_23
                  refine lv_iload hx hb dL_acts_1054 (lv_at hl 5 rfl) ?_
                  refine lv_if_eq (tgt := 1064) hx hb dL_acts_1056 (by decide) (fun h_27 => ?_) (fun h_27 => ?_)
                  · exact absurd h_27 (by decide)
                  refine lv_bipush (v := (-104)) hx hb dL_acts_1059 (by decide) ?_
                  refine lv_goto (tgt := 1070) hx hb dL_acts_1061 (by decide) ?_
                  refine lv_istore (lv' := [(13, .int (-104)), (12, .int (nI (zcnt (kindP σ true) 48))), (11, .int (nI (zcnt (kindP σ false) 48))), (10, .int (tA σ)), (8, .long (zB (zL σ))), (6, .long (zB (zO σ))), (5, .int (bI true)), (4, .int (nI d8)), (3, .int (nI hw9)), (0, .ref x), (1, .int v), (2, .int yv)]) hx hb dL_acts_1070 hl (by decide) rfl (fun ls hl => ?_)
                  refine lv_iload hx hb dL_acts_1072 (lv_at hl 6 rfl) ?_
                  refine lv_if_ne (tgt := 1097) hx hb dL_acts_1074 (by decide) (fun h_28 => ?_) (fun h_28 => ?_)
                  rotate_left 1
                  · exact absurd h_28 (by decide)
                  refine lv_iconst (v := nI 0) hx hb dL_acts_1097 (by decide) ?_
                  refine lv_istore (lv' := [(14, .int (nI 0)), (13, .int (-104)), (12, .int (nI (zcnt (kindP σ true) 48))), (11, .int (nI (zcnt (kindP σ false) 48))), (10, .int (tA σ)), (8, .long (zB (zL σ))), (6, .long (zB (zO σ))), (5, .int (bI true)), (4, .int (nI d8)), (3, .int (nI hw9)), (0, .ref x), (1, .int v), (2, .int yv)]) hx hb dL_acts_1098 hl (by decide) rfl (fun ls hl => ?_)
                  refine lv_aload_n hx hb dL_acts_1100 rfl (lv_at hl 10 rfl) ?_
                  refine lv_iload hx hb dL_acts_1101 (lv_at hl 8 rfl) ?_
                  refine kcalli (wc := [cX x nw sn tk hs tx tr]) (wr := [cR nw na nb σ, xI g na 49 (zT σ), xI g nb 49 (zI σ), cH hs hq kn, xQ g hq 4 (rq ρ), cR (ρ 0) (α 0) (β 0) (γ 0), xI g (α 0) 49 (zT (γ 0)), xI g (β 0) 49 (zI (γ 0)), cR (ρ 1) (α 1) (β 1) (γ 1), xI g (α 1) 49 (zT (γ 1)), xI g (β 1) 49 (zI (γ 1)), cR (ρ 2) (α 2) (β 2) (γ 2), xI g (α 2) 49 (zT (γ 2)), xI g (β 2) 49 (zI (γ 2)), cR (ρ 3) (α 3) (β 3) (γ 3), xI g (α 3) 49 (zT (γ 3)), xI g (β 3) 49 (zI (γ 3)), cT tx ch L, xC g ch 60 T, cTr tr tw od os po re ca, cR tw ta tb τ, xI g ta 49 (zT τ), xI g tb 49 (zI τ), cO od vb n1 n2 nm en]) (wn := fun (u : Unit) => [cX x nw sn tk hs tx tr, cR nw na nb σ, xI g na 49 (zT σ), xI g nb 49 (zI σ), cH hs hq kn, xQ g hq 4 (rq ρ), cR (ρ 0) (α 0) (β 0) (γ 0), xI g (α 0) 49 (zT (γ 0)), xI g (β 0) 49 (zI (γ 0)), cR (ρ 1) (α 1) (β 1) (γ 1), xI g (α 1) 49 (zT (γ 1)), xI g (β 1) 49 (zI (γ 1)), cR (ρ 2) (α 2) (β 2) (γ 2), xI g (α 2) 49 (zT (γ 2)), xI g (β 2) 49 (zI (γ 2)), cR (ρ 3) (α 3) (β 3) (γ 3), xI g (α 3) 49 (zT (γ 3)), xI g (β 3) 49 (zI (γ 3)), cT tx ch L, xC g ch 60 T, cTr tr tw od os po re ca, cR tw ta tb τ, xI g ta 49 (zT τ), xI g tb 49 (zI τ), cO od vb n1 n2 nm en]) F w [0] [1, 2, 3, 4, 5, 6, 7, 8, 9, 10, 11, 12, 13, 14, 15, 16, 17, 18, 19, 20, 21, 22, 23, 24] [24, 0, 1, 2, 3, 4, 5, 6, 7, 8, 9, 10, 11, 12, 13, 14, 15, 16, 17, 18, 19, 20, 21, 22, 23] rfl rfl rfl (fun _ => rfl)
                    (fun hp => vx_runSW (As := [.ref x, .int (nI d8)]) (rest := []) F.1 (kL_takeOut_A l hnl g x nw sn tk hs tx tr (nI d8) H.size (off_d (by omega) (by omega))) (vx_cwSW 2 hts gL_acts_L_takeOut rfl rfl rfl hd_L_takeOut ⟨Nat.le_of_ble_eq_true rfl, Nat.le_of_ble_eq_true rfl⟩) hp rfl rfl hl.1 rfl (lv_room (Nat.le_of_ble_eq_true rfl)) dL_acts_1103 ⟨Nat.le_of_ble_eq_true rfl, Nat.le_of_ble_eq_true rfl⟩)
                    (fun r_29 _ H locs h_30 w => ?_)
                  subst h_30
                  refine lv_istore (lv' := [(15, .int (-102)), (14, .int (nI 0)), (13, .int (-104)), (12, .int (nI (zcnt (kindP σ true) 48))), (11, .int (nI (zcnt (kindP σ false) 48))), (10, .int (tA σ)), (8, .long (zB (zL σ))), (6, .long (zB (zO σ))), (5, .int (bI true)), (4, .int (nI d8)), (3, .int (nI hw9)), (0, .ref x), (1, .int v), (2, .int yv)]) hx hb dL_acts_1106 hl (by decide) rfl (fun ls hl => ?_)
                  refine lv_iload hx hb dL_acts_1108 (lv_at hl 0 rfl) ?_
                  refine lv_iload hx hb dL_acts_1110 (lv_at hl 8 rfl) ?_
                  refine lv_if_eq (tgt := 1120) hx hb dL_acts_1112 (by decide) (fun h_31 => ?_) (fun h_31 => ?_)
                  · exact absurd h_31 (by decide)
                  refine lv_bipush (v := (-102)) hx hb dL_acts_1115 (by decide) ?_
                  refine lv_goto (tgt := 1132) hx hb dL_acts_1117 (by decide) ?_
                  refine lv_icmp_ne (tgt := 1218) hx hb dL_acts_1132 (by decide) (fun h_32 => ?_) (fun h_32 => ?_)
                  · exact absurd rfl h_32
                  refine lv_aload_n hx hb dL_acts_1135 rfl (lv_at hl 11 rfl) ?_
                  refine lv_iconst (v := nI 0) hx hb dL_acts_1136 (by decide) ?_
                  refine ktopi (y := bI false) (by decide) ?_
                  refine kcalli (wc := [cX x nw sn tk hs tx tr, cR nw na nb σ, xI g na 49 (zT σ), xI g nb 49 (zI σ)]) (wr := [cH hs hq kn, xQ g hq 4 (rq ρ), cR (ρ 0) (α 0) (β 0) (γ 0), xI g (α 0) 49 (zT (γ 0)), xI g (β 0) 49 (zI (γ 0)), cR (ρ 1) (α 1) (β 1) (γ 1), xI g (α 1) 49 (zT (γ 1)), xI g (β 1) 49 (zI (γ 1)), cR (ρ 2) (α 2) (β 2) (γ 2), xI g (α 2) 49 (zT (γ 2)), xI g (β 2) 49 (zI (γ 2)), cR (ρ 3) (α 3) (β 3) (γ 3), xI g (α 3) 49 (zT (γ 3)), xI g (β 3) 49 (zI (γ 3)), cT tx ch L, xC g ch 60 T, cTr tr tw od os po re ca, cR tw ta tb τ, xI g ta 49 (zT τ), xI g tb 49 (zI τ), cO od vb n1 n2 nm en]) (wn := fun (u : Unit) => [cX x nw sn tk hs tx tr, cR nw na nb σ, xI g na 49 (zT σ), xI g nb 49 (zI σ), cH hs hq kn, xQ g hq 4 (rq ρ), cR (ρ 0) (α 0) (β 0) (γ 0), xI g (α 0) 49 (zT (γ 0)), xI g (β 0) 49 (zI (γ 0)), cR (ρ 1) (α 1) (β 1) (γ 1), xI g (α 1) 49 (zT (γ 1)), xI g (β 1) 49 (zI (γ 1)), cR (ρ 2) (α 2) (β 2) (γ 2), xI g (α 2) 49 (zT (γ 2)), xI g (β 2) 49 (zI (γ 2)), cR (ρ 3) (α 3) (β 3) (γ 3), xI g (α 3) 49 (zT (γ 3)), xI g (β 3) 49 (zI (γ 3)), cT tx ch L, xC g ch 60 T, cTr tr tw od os po re ca, cR tw ta tb τ, xI g ta 49 (zT τ), xI g tb 49 (zI τ), cO od vb n1 n2 nm en]) F w [0, 1, 2, 3] [4, 5, 6, 7, 8, 9, 10, 11, 12, 13, 14, 15, 16, 17, 18, 19, 20, 21, 22, 23, 24] [21, 22, 23, 24, 0, 1, 2, 3, 4, 5, 6, 7, 8, 9, 10, 11, 12, 13, 14, 15, 16, 17, 18, 19, 20] rfl rfl rfl (fun _ => rfl)
                    (fun hp => va_runV (As := [.int (bI false)]) (rest := []) F.1 (kX5_thingsOf_k l g x nw sn tk hs tx tr na nb σ false H.size ) (cwV 1 hts gL_acts_X5_thingsOf rfl rfl rfl ⟨rfl, hd_X5_thingsOf⟩ ⟨Nat.le_of_ble_eq_true rfl, Nat.le_of_ble_eq_true rfl⟩) ⟨hp.1, va_recv F.2.2.2.1.1 w.1 (q0 := 0) (ci := 5) rfl rfl, hp.2⟩ rfl rfl hl.1 rfl (lv_room (Nat.le_of_ble_eq_true rfl)) dL_acts_1137 ⟨Nat.le_of_ble_eq_true rfl, Nat.le_of_ble_eq_true rfl⟩)
                    (fun r_33 _ H locs h_34 w => ?_)
                  subst h_34
                  refine lv_iload hx hb dL_acts_1140 (lv_at hl 4 rfl) ?_
                  refine lv_iload hx hb dL_acts_1142 (lv_at hl 1 rfl) ?_
                  refine lv_if_eq (tgt := 1156) hx hb dL_acts_1144 (by decide) (fun h_35 => ?_) (fun h_35 => ?_)
                  rotate_left 1
                  · exact absurd rfl h_35
                  refine lv_iconst (v := nI 0) hx hb dL_acts_1156 (by decide) ?_
                  refine lv_isub hx hb dL_acts_1157 ?_
                  refine ktopi (y := nI (zcnt (kindP σ false) 48)) (pk_sub (Nat.zero_le _)) ?_
                  refine lv_icmp_ne (tgt := 1218) hx hb dL_acts_1158 (by decide) (fun h_36 => ?_) (fun h_36 => ?_)
                  · exact absurd rfl h_36
                  refine lv_aload_n hx hb dL_acts_1161 rfl (lv_at hl 11 rfl) ?_
                  refine lv_iconst (v := nI 1) hx hb dL_acts_1162 (by decide) ?_
                  refine ktopi (y := bI true) (by decide) ?_
                  refine kcalli (wc := [cX x nw sn tk hs tx tr, cR nw na nb σ, xI g na 49 (zT σ), xI g nb 49 (zI σ)]) (wr := [cH hs hq kn, xQ g hq 4 (rq ρ), cR (ρ 0) (α 0) (β 0) (γ 0), xI g (α 0) 49 (zT (γ 0)), xI g (β 0) 49 (zI (γ 0)), cR (ρ 1) (α 1) (β 1) (γ 1), xI g (α 1) 49 (zT (γ 1)), xI g (β 1) 49 (zI (γ 1)), cR (ρ 2) (α 2) (β 2) (γ 2), xI g (α 2) 49 (zT (γ 2)), xI g (β 2) 49 (zI (γ 2)), cR (ρ 3) (α 3) (β 3) (γ 3), xI g (α 3) 49 (zT (γ 3)), xI g (β 3) 49 (zI (γ 3)), cT tx ch L, xC g ch 60 T, cTr tr tw od os po re ca, cR tw ta tb τ, xI g ta 49 (zT τ), xI g tb 49 (zI τ), cO od vb n1 n2 nm en]) (wn := fun (u : Unit) => [cX x nw sn tk hs tx tr, cR nw na nb σ, xI g na 49 (zT σ), xI g nb 49 (zI σ), cH hs hq kn, xQ g hq 4 (rq ρ), cR (ρ 0) (α 0) (β 0) (γ 0), xI g (α 0) 49 (zT (γ 0)), xI g (β 0) 49 (zI (γ 0)), cR (ρ 1) (α 1) (β 1) (γ 1), xI g (α 1) 49 (zT (γ 1)), xI g (β 1) 49 (zI (γ 1)), cR (ρ 2) (α 2) (β 2) (γ 2), xI g (α 2) 49 (zT (γ 2)), xI g (β 2) 49 (zI (γ 2)), cR (ρ 3) (α 3) (β 3) (γ 3), xI g (α 3) 49 (zT (γ 3)), xI g (β 3) 49 (zI (γ 3)), cT tx ch L, xC g ch 60 T, cTr tr tw od os po re ca, cR tw ta tb τ, xI g ta 49 (zT τ), xI g tb 49 (zI τ), cO od vb n1 n2 nm en]) F w [0, 1, 2, 3] [4, 5, 6, 7, 8, 9, 10, 11, 12, 13, 14, 15, 16, 17, 18, 19, 20, 21, 22, 23, 24] [21, 22, 23, 24, 0, 1, 2, 3, 4, 5, 6, 7, 8, 9, 10, 11, 12, 13, 14, 15, 16, 17, 18, 19, 20] rfl rfl rfl (fun _ => rfl)
                    (fun hp => va_runV (As := [.int (bI true)]) (rest := []) F.1 (kX5_thingsOf_k l g x nw sn tk hs tx tr na nb σ true H.size ) (cwV 1 hts gL_acts_X5_thingsOf rfl rfl rfl ⟨rfl, hd_X5_thingsOf⟩ ⟨Nat.le_of_ble_eq_true rfl, Nat.le_of_ble_eq_true rfl⟩) ⟨hp.1, va_recv F.2.2.2.1.1 w.1 (q0 := 0) (ci := 5) rfl rfl, hp.2⟩ rfl rfl hl.1 rfl (lv_room (Nat.le_of_ble_eq_true rfl)) dL_acts_1163 ⟨Nat.le_of_ble_eq_true rfl, Nat.le_of_ble_eq_true rfl⟩)
                    (fun r_37 _ H locs h_38 w => ?_)
                  subst h_38
                  refine lv_iload hx hb dL_acts_1166 (lv_at hl 3 rfl) ?_
                  refine lv_iload hx hb dL_acts_1168 (lv_at hl 1 rfl) ?_
                  refine lv_if_eq (tgt := 1183) hx hb dL_acts_1170 (by decide) (fun h_39 => ?_) (fun h_39 => ?_)
                  rotate_left 1
                  · exact absurd rfl h_39
                  refine lv_iconst (v := nI 0) hx hb dL_acts_1183 (by decide) ?_
                  refine lv_isub hx hb dL_acts_1184 ?_
                  refine ktopi (y := nI (zcnt (kindP σ true) 48)) (pk_sub (Nat.zero_le _)) ?_
                  refine lv_icmp_ne (tgt := 1218) hx hb dL_acts_1185 (by decide) (fun h_40 => ?_) (fun h_40 => ?_)
                  · exact absurd rfl h_40
                  refine lv_iload hx hb dL_acts_1188 (lv_at hl 1 rfl) ?_
                  refine lv_if_eq (tgt := 1204) hx hb dL_acts_1190 (by decide) (fun h_41 => ?_) (fun h_41 => ?_)
                  rotate_left 1
                  · exact absurd rfl h_41
                  refine lv_aload_n hx hb dL_acts_1204 rfl (lv_at hl 11 rfl) ?_
                  refine kcalll (wc := [cX x nw sn tk hs tx tr, cR nw na nb σ, xI g na 49 (zT σ), xI g nb 49 (zI σ)]) (wr := [cH hs hq kn, xQ g hq 4 (rq ρ), cR (ρ 0) (α 0) (β 0) (γ 0), xI g (α 0) 49 (zT (γ 0)), xI g (β 0) 49 (zI (γ 0)), cR (ρ 1) (α 1) (β 1) (γ 1), xI g (α 1) 49 (zT (γ 1)), xI g (β 1) 49 (zI (γ 1)), cR (ρ 2) (α 2) (β 2) (γ 2), xI g (α 2) 49 (zT (γ 2)), xI g (β 2) 49 (zI (γ 2)), cR (ρ 3) (α 3) (β 3) (γ 3), xI g (α 3) 49 (zT (γ 3)), xI g (β 3) 49 (zI (γ 3)), cT tx ch L, xC g ch 60 T, cTr tr tw od os po re ca, cR tw ta tb τ, xI g ta 49 (zT τ), xI g tb 49 (zI τ), cO od vb n1 n2 nm en]) (wn := fun (u : Unit) => [cX x nw sn tk hs tx tr, cR nw na nb σ, xI g na 49 (zT σ), xI g nb 49 (zI σ), cH hs hq kn, xQ g hq 4 (rq ρ), cR (ρ 0) (α 0) (β 0) (γ 0), xI g (α 0) 49 (zT (γ 0)), xI g (β 0) 49 (zI (γ 0)), cR (ρ 1) (α 1) (β 1) (γ 1), xI g (α 1) 49 (zT (γ 1)), xI g (β 1) 49 (zI (γ 1)), cR (ρ 2) (α 2) (β 2) (γ 2), xI g (α 2) 49 (zT (γ 2)), xI g (β 2) 49 (zI (γ 2)), cR (ρ 3) (α 3) (β 3) (γ 3), xI g (α 3) 49 (zT (γ 3)), xI g (β 3) 49 (zI (γ 3)), cT tx ch L, xC g ch 60 T, cTr tr tw od os po re ca, cR tw ta tb τ, xI g ta 49 (zT τ), xI g tb 49 (zI τ), cO od vb n1 n2 nm en]) F w [0, 1, 2, 3] [4, 5, 6, 7, 8, 9, 10, 11, 12, 13, 14, 15, 16, 17, 18, 19, 20, 21, 22, 23, 24] [21, 22, 23, 24, 0, 1, 2, 3, 4, 5, 6, 7, 8, 9, 10, 11, 12, 13, 14, 15, 16, 17, 18, 19, 20] rfl rfl rfl (fun _ => rfl)
                    (fun hp => va_runV (As := []) (rest := []) F.1 (kX5_openSet l g x nw sn tk hs tx tr na nb σ H.size ) (cwV 0 hts gL_acts_X5_openSet rfl rfl rfl ⟨rfl, hd_X5_openSet⟩ ⟨Nat.le_of_ble_eq_true rfl, Nat.le_of_ble_eq_true rfl⟩) ⟨hp.1, va_recv F.2.2.2.1.1 w.1 (q0 := 0) (ci := 5) rfl rfl, hp.2⟩ rfl rfl hl.1 rfl (lv_room (Nat.le_of_ble_eq_true rfl)) dL_acts_1205 ⟨Nat.le_of_ble_eq_true rfl, Nat.le_of_ble_eq_true rfl⟩)
                    (fun r_42 _ H locs h_43 w => ?_)
                  subst h_43
                  refine lv_lload hx hb dL_acts_1208 (lv_at hl 7 rfl) ?_
                  refine W.lcmp hx hb dL_acts_1210 ?_
                  refine lv_if_ne (tgt := 1218) hx hb dL_acts_1211 (by decide) (fun h_44 => ?_) (fun h_44 => ?_)
                  · exact absurd (lgc_eq.mpr rfl) h_44
                  refine lv_iconst (v := nI 1) hx hb dL_acts_1214 (by decide) ?_
                  refine lv_goto (tgt := 1219) hx hb dL_acts_1215 (by decide) ?_
                  refine ktopi (y := bI true) (by decide) ?_
                  refine W.widen (k := 60) (n := 360) (by omega) (by omega) ?_
                  subst hA
                  subst hQ
                  exact kretz F w (σ, kn, ρ, α, β, γ, L, T, os, po, re, ca, τ, vb, n1, n2, nm, en) [0, 1, 2, 3, 4, 5, 6, 7, 8, 9, 10, 11, 12, 13, 14, 15, 16, 17, 18, 19, 20, 21, 22, 23, 24] rfl rfl (⟨rfl, actP_0 hL⟩) (kz_n _) (Nat.le_of_ble_eq_true rfl) (Nat.le_of_ble_eq_true rfl) dL_acts_1219
              · have h_22 : hw9 < 31 := (kc_ge_f (by omega) (by omega)).mp h_22
                have JN_45 : ∀ (k9 : Nat) (hk9 : k9 ≤ 2) (H : Heap) (locs : List Loc) (ls : Array Slot), kW g A s [cX x nw sn tk hs tx tr, cR nw na nb σ, xI g na 49 (zT σ), xI g nb 49 (zI σ), cH hs hq kn, xQ g hq 4 (rq ρ), cR (ρ 0) (α 0) (β 0) (γ 0), xI g (α 0) 49 (zT (γ 0)), xI g (β 0) 49 (zI (γ 0)), cR (ρ 1) (α 1) (β 1) (γ 1), xI g (α 1) 49 (zT (γ 1)), xI g (β 1) 49 (zI (γ 1)), cR (ρ 2) (α 2) (β 2) (γ 2), xI g (α 2) 49 (zT (γ 2)), xI g (β 2) 49 (zI (γ 2)), cR (ρ 3) (α 3) (β 3) (γ 3), xI g (α 3) 49 (zT (γ 3)), xI g (β 3) 49 (zI (γ 3)), cT tx ch L, xC g ch 60 T, cTr tr tw od os po re ca, cR tw ta tb τ, xI g ta 49 (zT τ), xI g tb 49 (zI τ), cO od vb n1 n2 nm en] H locs → lv_has ls 22 [(12, .int (nI (zcnt (kindP σ true) 48))), (11, .int (nI (zcnt (kindP σ false) 48))), (10, .int (tA σ)), (8, .long (zB (zL σ))), (6, .long (zB (zO σ))), (5, .int (bI true)), (4, .int (nI d8)), (3, .int (nI hw9)), (0, .ref x), (1, .int v), (2, .int yv)] → W p l e rmL_acts s m args below meth c H locs 48 288 Q (F0 m 856 ls [.int (nI k9)]) := by
                  intro k9 hk9 H locs ls w hl
                  refine lv_istore (lv' := [(13, .int (nI k9)), (12, .int (nI (zcnt (kindP σ true) 48))), (11, .int (nI (zcnt (kindP σ false) 48))), (10, .int (tA σ)), (8, .long (zB (zL σ))), (6, .long (zB (zO σ))), (5, .int (bI true)), (4, .int (nI d8)), (3, .int (nI hw9)), (0, .ref x), (1, .int v), (2, .int yv)]) hx hb dL_acts_856 hl (by decide) rfl (fun ls hl => ?_)
                  have hbad : ¬ ((1 ≤ d8 ∧ d8 ≤ 48) ∧ k9 ≤ 1) := by omega
                  refine lv_iload hx hb dL_acts_858 (lv_at hl 6 rfl) ?_
                  refine lv_if_ne (tgt := 869) hx hb dL_acts_860 (by decide) (fun h_46 => ?_) (fun h_46 => ?_)
                  rotate_left 1
                  · exact absurd h_46 (by decide)
                  refine lv_iconst (v := nI 1) hx hb dL_acts_869 (by decide) ?_
                  refine lv_goto (tgt := 874) hx hb dL_acts_870 (by decide) ?_
                  refine ktopi (y := bI true) (by decide) ?_
                  refine lv_istore (lv' := [(14, .int (bI true)), (13, .int (nI k9)), (12, .int (nI (zcnt (kindP σ true) 48))), (11, .int (nI (zcnt (kindP σ false) 48))), (10, .int (tA σ)), (8, .long (zB (zL σ))), (6, .long (zB (zO σ))), (5, .int (bI true)), (4, .int (nI d8)), (3, .int (nI hw9)), (0, .ref x), (1, .int v), (2, .int yv)]) hx hb dL_acts_874 hl (by decide) rfl (fun ls hl => ?_)
                  refine lv_iload hx hb dL_acts_876 (lv_at hl 0 rfl) ?_
                  refine lv_if_eq (tgt := 885) hx hb dL_acts_878 (by decide) (fun h_47 => ?_) (fun h_47 => ?_)
                  · exact absurd h_47 (by decide)
                  refine lv_iconst (v := nI 0) hx hb dL_acts_881 (by decide) ?_
                  refine lv_goto (tgt := 893) hx hb dL_acts_882 (by decide) ?_
                  refine lv_istore (lv' := [(15, .int (nI 0)), (14, .int (bI true)), (13, .int (nI k9)), (12, .int (nI (zcnt (kindP σ true) 48))), (11, .int (nI (zcnt (kindP σ false) 48))), (10, .int (tA σ)), (8, .long (zB (zL σ))), (6, .long (zB (zO σ))), (5, .int (bI true)), (4, .int (nI d8)), (3, .int (nI hw9)), (0, .ref x), (1, .int v), (2, .int yv)]) hx hb dL_acts_893 hl (by decide) rfl (fun ls hl => ?_)
                  refine lv_aload_n hx hb dL_acts_895 rfl (lv_at hl 11 rfl) ?_
                  refine lv_iload hx hb dL_acts_896 (lv_at hl 9 rfl) ?_
                  refine lv_iload hx hb dL_acts_898 (lv_at hl 2 rfl) ?_
                  refine kcalli (wc := [cX x nw sn tk hs tx tr]) (wr := [cR nw na nb σ, xI g na 49 (zT σ), xI g nb 49 (zI σ), cH hs hq kn, xQ g hq 4 (rq ρ), cR (ρ 0) (α 0) (β 0) (γ 0), xI g (α 0) 49 (zT (γ 0)), xI g (β 0) 49 (zI (γ 0)), cR (ρ 1) (α 1) (β 1) (γ 1), xI g (α 1) 49 (zT (γ 1)), xI g (β 1) 49 (zI (γ 1)), cR (ρ 2) (α 2) (β 2) (γ 2), xI g (α 2) 49 (zT (γ 2)), xI g (β 2) 49 (zI (γ 2)), cR (ρ 3) (α 3) (β 3) (γ 3), xI g (α 3) 49 (zT (γ 3)), xI g (β 3) 49 (zI (γ 3)), cT tx ch L, xC g ch 60 T, cTr tr tw od os po re ca, cR tw ta tb τ, xI g ta 49 (zT τ), xI g tb 49 (zI τ), cO od vb n1 n2 nm en]) (wn := fun (u : Unit) => [cX x nw sn tk hs tx tr, cR nw na nb σ, xI g na 49 (zT σ), xI g nb 49 (zI σ), cH hs hq kn, xQ g hq 4 (rq ρ), cR (ρ 0) (α 0) (β 0) (γ 0), xI g (α 0) 49 (zT (γ 0)), xI g (β 0) 49 (zI (γ 0)), cR (ρ 1) (α 1) (β 1) (γ 1), xI g (α 1) 49 (zT (γ 1)), xI g (β 1) 49 (zI (γ 1)), cR (ρ 2) (α 2) (β 2) (γ 2), xI g (α 2) 49 (zT (γ 2)), xI g (β 2) 49 (zI (γ 2)), cR (ρ 3) (α 3) (β 3) (γ 3), xI g (α 3) 49 (zT (γ 3)), xI g (β 3) 49 (zI (γ 3)), cT tx ch L, xC g ch 60 T, cTr tr tw od os po re ca, cR tw ta tb τ, xI g ta 49 (zT τ), xI g tb 49 (zI τ), cO od vb n1 n2 nm en]) F w [0] [1, 2, 3, 4, 5, 6, 7, 8, 9, 10, 11, 12, 13, 14, 15, 16, 17, 18, 19, 20, 21, 22, 23, 24] [24, 0, 1, 2, 3, 4, 5, 6, 7, 8, 9, 10, 11, 12, 13, 14, 15, 16, 17, 18, 19, 20, 21, 22, 23] rfl rfl rfl (fun _ => rfl)
                    (fun hp => vx_runSW (As := [.ref x, .int (nI d8), .int (nI k9)]) (rest := []) F.1 (kL_store_A l hnl g x nw sn tk hs tx tr (nI d8) (nI k9) H.size (off_k (by omega) (by omega) hbad)) (vx_cwSW 3 hts gL_acts_L_store rfl rfl rfl hd_L_store ⟨Nat.le_of_ble_eq_true rfl, Nat.le_of_ble_eq_true rfl⟩) hp rfl rfl hl.1 rfl (lv_room (Nat.le_of_ble_eq_true rfl)) dL_acts_900 ⟨Nat.le_of_ble_eq_true rfl, Nat.le_of_ble_eq_true rfl⟩)
                    (fun r_48 _ H locs h_49 w => ?_)
                  subst h_49
                  refine lv_istore (lv' := [(16, .int (-102)), (15, .int (nI 0)), (14, .int (bI true)), (13, .int (nI k9)), (12, .int (nI (zcnt (kindP σ true) 48))), (11, .int (nI (zcnt (kindP σ false) 48))), (10, .int (tA σ)), (8, .long (zB (zL σ))), (6, .long (zB (zO σ))), (5, .int (bI true)), (4, .int (nI d8)), (3, .int (nI hw9)), (0, .ref x), (1, .int v), (2, .int yv)]) hx hb dL_acts_903 hl (by decide) rfl (fun ls hl => ?_)
                  refine lv_iload hx hb dL_acts_905 (lv_at hl 2 rfl) ?_
                  refine lv_if_ne (tgt := 919) hx hb dL_acts_907 (by decide) (fun h_50 => ?_) (fun h_50 => ?_)
                  rotate_left 1
                  · exact absurd h_50 (by decide)
                  refine lv_iconst (v := nI 0) hx hb dL_acts_919 (by decide) ?_
                  refine lv_istore (lv' := [(17, .int (nI 0)), (16, .int (-102)), (15, .int (nI 0)), (14, .int (bI true)), (13, .int (nI k9)), (12, .int (nI (zcnt (kindP σ true) 48))), (11, .int (nI (zcnt (kindP σ false) 48))), (10, .int (tA σ)), (8, .long (zB (zL σ))), (6, .long (zB (zO σ))), (5, .int (bI true)), (4, .int (nI d8)), (3, .int (nI hw9)), (0, .ref x), (1, .int v), (2, .int yv)]) hx hb dL_acts_920 hl (by decide) rfl (fun ls hl => ?_)
                  refine lv_iload hx hb dL_acts_922 (lv_at hl 1 rfl) ?_
                  refine lv_iload hx hb dL_acts_924 (lv_at hl 3 rfl) ?_
                  refine lv_if_eq (tgt := 934) hx hb dL_acts_926 (by decide) (fun h_51 => ?_) (fun h_51 => ?_)
                  · exact absurd h_51 (by decide)
                  refine lv_bipush (v := (-102)) hx hb dL_acts_929 (by decide) ?_
                  refine lv_goto (tgt := 960) hx hb dL_acts_931 (by decide) ?_
                  refine lv_icmp_ne (tgt := 1046) hx hb dL_acts_960 (by decide) (fun h_52 => ?_) (fun h_52 => ?_)
                  · exact absurd rfl h_52
                  refine lv_aload_n hx hb dL_acts_963 rfl (lv_at hl 13 rfl) ?_
                  refine lv_iconst (v := nI 0) hx hb dL_acts_964 (by decide) ?_
                  refine ktopi (y := bI false) (by decide) ?_
                  refine kcalli (wc := [cX x nw sn tk hs tx tr, cR nw na nb σ, xI g na 49 (zT σ), xI g nb 49 (zI σ)]) (wr := [cH hs hq kn, xQ g hq 4 (rq ρ), cR (ρ 0) (α 0) (β 0) (γ 0), xI g (α 0) 49 (zT (γ 0)), xI g (β 0) 49 (zI (γ 0)), cR (ρ 1) (α 1) (β 1) (γ 1), xI g (α 1) 49 (zT (γ 1)), xI g (β 1) 49 (zI (γ 1)), cR (ρ 2) (α 2) (β 2) (γ 2), xI g (α 2) 49 (zT (γ 2)), xI g (β 2) 49 (zI (γ 2)), cR (ρ 3) (α 3) (β 3) (γ 3), xI g (α 3) 49 (zT (γ 3)), xI g (β 3) 49 (zI (γ 3)), cT tx ch L, xC g ch 60 T, cTr tr tw od os po re ca, cR tw ta tb τ, xI g ta 49 (zT τ), xI g tb 49 (zI τ), cO od vb n1 n2 nm en]) (wn := fun (u : Unit) => [cX x nw sn tk hs tx tr, cR nw na nb σ, xI g na 49 (zT σ), xI g nb 49 (zI σ), cH hs hq kn, xQ g hq 4 (rq ρ), cR (ρ 0) (α 0) (β 0) (γ 0), xI g (α 0) 49 (zT (γ 0)), xI g (β 0) 49 (zI (γ 0)), cR (ρ 1) (α 1) (β 1) (γ 1), xI g (α 1) 49 (zT (γ 1)), xI g (β 1) 49 (zI (γ 1)), cR (ρ 2) (α 2) (β 2) (γ 2), xI g (α 2) 49 (zT (γ 2)), xI g (β 2) 49 (zI (γ 2)), cR (ρ 3) (α 3) (β 3) (γ 3), xI g (α 3) 49 (zT (γ 3)), xI g (β 3) 49 (zI (γ 3)), cT tx ch L, xC g ch 60 T, cTr tr tw od os po re ca, cR tw ta tb τ, xI g ta 49 (zT τ), xI g tb 49 (zI τ), cO od vb n1 n2 nm en]) F w [0, 1, 2, 3] [4, 5, 6, 7, 8, 9, 10, 11, 12, 13, 14, 15, 16, 17, 18, 19, 20, 21, 22, 23, 24] [21, 22, 23, 24, 0, 1, 2, 3, 4, 5, 6, 7, 8, 9, 10, 11, 12, 13, 14, 15, 16, 17, 18, 19, 20] rfl rfl rfl (fun _ => rfl)
                    (fun hp => va_runV (As := [.int (bI false)]) (rest := []) F.1 (kX5_thingsOf_k l g x nw sn tk hs tx tr na nb σ false H.size ) (cwV 1 hts gL_acts_X5_thingsOf rfl rfl rfl ⟨rfl, hd_X5_thingsOf⟩ ⟨Nat.le_of_ble_eq_true rfl, Nat.le_of_ble_eq_true rfl⟩) ⟨hp.1, va_recv F.2.2.2.1.1 w.1 (q0 := 0) (ci := 5) rfl rfl, hp.2⟩ rfl rfl hl.1 rfl (lv_room (Nat.le_of_ble_eq_true rfl)) dL_acts_965 ⟨Nat.le_of_ble_eq_true rfl, Nat.le_of_ble_eq_true rfl⟩)
                    (fun r_53 _ H locs h_54 w => ?_)
                  subst h_54
                  refine lv_iload hx hb dL_acts_968 (lv_at hl 6 rfl) ?_
                  refine lv_iload hx hb dL_acts_970 (lv_at hl 0 rfl) ?_
                  refine lv_if_eq (tgt := 984) hx hb dL_acts_972 (by decide) (fun h_55 => ?_) (fun h_55 => ?_)
                  rotate_left 1
                  · exact absurd rfl h_55
                  refine lv_iconst (v := nI 0) hx hb dL_acts_984 (by decide) ?_
                  refine lv_iadd hx hb dL_acts_985 ?_
                  refine ktopi (y := nI (zcnt (kindP σ false) 48 + 0)) (nI_add (zcnt (kindP σ false) 48) 0) ?_
                  refine ktopi (y := nI (zcnt (kindP σ false) 48)) (rfl) ?_
                  refine lv_icmp_ne (tgt := 1046) hx hb dL_acts_986 (by decide) (fun h_56 => ?_) (fun h_56 => ?_)
                  · exact absurd rfl h_56
                  refine lv_aload_n hx hb dL_acts_989 rfl (lv_at hl 13 rfl) ?_
                  refine lv_iconst (v := nI 1) hx hb dL_acts_990 (by decide) ?_
                  refine ktopi (y := bI true) (by decide) ?_
                  refine kcalli (wc := [cX x nw sn tk hs tx tr, cR nw na nb σ, xI g na 49 (zT σ), xI g nb 49 (zI σ)]) (wr := [cH hs hq kn, xQ g hq 4 (rq ρ), cR (ρ 0) (α 0) (β 0) (γ 0), xI g (α 0) 49 (zT (γ 0)), xI g (β 0) 49 (zI (γ 0)), cR (ρ 1) (α 1) (β 1) (γ 1), xI g (α 1) 49 (zT (γ 1)), xI g (β 1) 49 (zI (γ 1)), cR (ρ 2) (α 2) (β 2) (γ 2), xI g (α 2) 49 (zT (γ 2)), xI g (β 2) 49 (zI (γ 2)), cR (ρ 3) (α 3) (β 3) (γ 3), xI g (α 3) 49 (zT (γ 3)), xI g (β 3) 49 (zI (γ 3)), cT tx ch L, xC g ch 60 T, cTr tr tw od os po re ca, cR tw ta tb τ, xI g ta 49 (zT τ), xI g tb 49 (zI τ), cO od vb n1 n2 nm en]) (wn := fun (u : Unit) => [cX x nw sn tk hs tx tr, cR nw na nb σ, xI g na 49 (zT σ), xI g nb 49 (zI σ), cH hs hq kn, xQ g hq 4 (rq ρ), cR (ρ 0) (α 0) (β 0) (γ 0), xI g (α 0) 49 (zT (γ 0)), xI g (β 0) 49 (zI (γ 0)), cR (ρ 1) (α 1) (β 1) (γ 1), xI g (α 1) 49 (zT (γ 1)), xI g (β 1) 49 (zI (γ 1)), cR (ρ 2) (α 2) (β 2) (γ 2), xI g (α 2) 49 (zT (γ 2)), xI g (β 2) 49 (zI (γ 2)), cR (ρ 3) (α 3) (β 3) (γ 3), xI g (α 3) 49 (zT (γ 3)), xI g (β 3) 49 (zI (γ 3)), cT tx ch L, xC g ch 60 T, cTr tr tw od os po re ca, cR tw ta tb τ, xI g ta 49 (zT τ), xI g tb 49 (zI τ), cO od vb n1 n2 nm en]) F w [0, 1, 2, 3] [4, 5, 6, 7, 8, 9, 10, 11, 12, 13, 14, 15, 16, 17, 18, 19, 20, 21, 22, 23, 24] [21, 22, 23, 24, 0, 1, 2, 3, 4, 5, 6, 7, 8, 9, 10, 11, 12, 13, 14, 15, 16, 17, 18, 19, 20] rfl rfl rfl (fun _ => rfl)
                    (fun hp => va_runV (As := [.int (bI true)]) (rest := []) F.1 (kX5_thingsOf_k l g x nw sn tk hs tx tr na nb σ true H.size ) (cwV 1 hts gL_acts_X5_thingsOf rfl rfl rfl ⟨rfl, hd_X5_thingsOf⟩ ⟨Nat.le_of_ble_eq_true rfl, Nat.le_of_ble_eq_true rfl⟩) ⟨hp.1, va_recv F.2.2.2.1.1 w.1 (q0 := 0) (ci := 5) rfl rfl, hp.2⟩ rfl rfl hl.1 rfl (lv_room (Nat.le_of_ble_eq_true rfl)) dL_acts_991 ⟨Nat.le_of_ble_eq_true rfl, Nat.le_of_ble_eq_true rfl⟩)
                    (fun r_57 _ H locs h_58 w => ?_)
                  subst h_58
                  refine lv_iload hx hb dL_acts_994 (lv_at hl 5 rfl) ?_
                  refine lv_iload hx hb dL_acts_996 (lv_at hl 0 rfl) ?_
                  refine lv_if_eq (tgt := 1011) hx hb dL_acts_998 (by decide) (fun h_59 => ?_) (fun h_59 => ?_)
                  rotate_left 1
                  · exact absurd rfl h_59
                  refine lv_iconst (v := nI 0) hx hb dL_acts_1011 (by decide) ?_
                  refine lv_iadd hx hb dL_acts_1012 ?_
                  refine ktopi (y := nI (zcnt (kindP σ true) 48 + 0)) (nI_add (zcnt (kindP σ true) 48) 0) ?_
                  refine ktopi (y := nI (zcnt (kindP σ true) 48)) (rfl) ?_
                  refine lv_icmp_ne (tgt := 1046) hx hb dL_acts_1013 (by decide) (fun h_60 => ?_) (fun h_60 => ?_)
                  · exact absurd rfl h_60
                  refine lv_iload hx hb dL_acts_1016 (lv_at hl 0 rfl) ?_
                  refine lv_if_eq (tgt := 1032) hx hb dL_acts_1018 (by decide) (fun h_61 => ?_) (fun h_61 => ?_)
                  rotate_left 1
                  · exact absurd rfl h_61
                  refine lv_aload_n hx hb dL_acts_1032 rfl (lv_at hl 13 rfl) ?_
                  refine kcalll (wc := [cX x nw sn tk hs tx tr, cR nw na nb σ, xI g na 49 (zT σ), xI g nb 49 (zI σ)]) (wr := [cH hs hq kn, xQ g hq 4 (rq ρ), cR (ρ 0) (α 0) (β 0) (γ 0), xI g (α 0) 49 (zT (γ 0)), xI g (β 0) 49 (zI (γ 0)), cR (ρ 1) (α 1) (β 1) (γ 1), xI g (α 1) 49 (zT (γ 1)), xI g (β 1) 49 (zI (γ 1)), cR (ρ 2) (α 2) (β 2) (γ 2), xI g (α 2) 49 (zT (γ 2)), xI g (β 2) 49 (zI (γ 2)), cR (ρ 3) (α 3) (β 3) (γ 3), xI g (α 3) 49 (zT (γ 3)), xI g (β 3) 49 (zI (γ 3)), cT tx ch L, xC g ch 60 T, cTr tr tw od os po re ca, cR tw ta tb τ, xI g ta 49 (zT τ), xI g tb 49 (zI τ), cO od vb n1 n2 nm en]) (wn := fun (u : Unit) => [cX x nw sn tk hs tx tr, cR nw na nb σ, xI g na 49 (zT σ), xI g nb 49 (zI σ), cH hs hq kn, xQ g hq 4 (rq ρ), cR (ρ 0) (α 0) (β 0) (γ 0), xI g (α 0) 49 (zT (γ 0)), xI g (β 0) 49 (zI (γ 0)), cR (ρ 1) (α 1) (β 1) (γ 1), xI g (α 1) 49 (zT (γ 1)), xI g (β 1) 49 (zI (γ 1)), cR (ρ 2) (α 2) (β 2) (γ 2), xI g (α 2) 49 (zT (γ 2)), xI g (β 2) 49 (zI (γ 2)), cR (ρ 3) (α 3) (β 3) (γ 3), xI g (α 3) 49 (zT (γ 3)), xI g (β 3) 49 (zI (γ 3)), cT tx ch L, xC g ch 60 T, cTr tr tw od os po re ca, cR tw ta tb τ, xI g ta 49 (zT τ), xI g tb 49 (zI τ), cO od vb n1 n2 nm en]) F w [0, 1, 2, 3] [4, 5, 6, 7, 8, 9, 10, 11, 12, 13, 14, 15, 16, 17, 18, 19, 20, 21, 22, 23, 24] [21, 22, 23, 24, 0, 1, 2, 3, 4, 5, 6, 7, 8, 9, 10, 11, 12, 13, 14, 15, 16, 17, 18, 19, 20] rfl rfl rfl (fun _ => rfl)
                    (fun hp => va_runV (As := []) (rest := []) F.1 (kX5_openSet l g x nw sn tk hs tx tr na nb σ H.size ) (cwV 0 hts gL_acts_X5_openSet rfl rfl rfl ⟨rfl, hd_X5_openSet⟩ ⟨Nat.le_of_ble_eq_true rfl, Nat.le_of_ble_eq_true rfl⟩) ⟨hp.1, va_recv F.2.2.2.1.1 w.1 (q0 := 0) (ci := 5) rfl rfl, hp.2⟩ rfl rfl hl.1 rfl (lv_room (Nat.le_of_ble_eq_true rfl)) dL_acts_1033 ⟨Nat.le_of_ble_eq_true rfl, Nat.le_of_ble_eq_true rfl⟩)
                    (fun r_62 _ H locs h_63 w => ?_)
                  subst h_63
                  refine lv_lload hx hb dL_acts_1036 (lv_at hl 9 rfl) ?_
                  refine W.lcmp hx hb dL_acts_1038 ?_
                  refine lv_if_ne (tgt := 1046) hx hb dL_acts_1039 (by decide) (fun h_64 => ?_) (fun h_64 => ?_)
                  · exact absurd (lgc_eq.mpr rfl) h_64
                  refine lv_iconst (v := nI 1) hx hb dL_acts_1042 (by decide) ?_
                  refine lv_goto (tgt := 1047) hx hb dL_acts_1043 (by decide) ?_
                  refine ktopi (y := bI true) (by decide) ?_
                  refine W.widen (k := 60) (n := 360) (by omega) (by omega) ?_
                  subst hA
                  subst hQ
                  exact kretz F w (σ, kn, ρ, α, β, γ, L, T, os, po, re, ca, τ, vb, n1, n2, nm, en) [0, 1, 2, 3, 4, 5, 6, 7, 8, 9, 10, 11, 12, 13, 14, 15, 16, 17, 18, 19, 20, 21, 22, 23, 24] rfl rfl (⟨rfl, actP_0 hL⟩) (kz_n _) (Nat.le_of_ble_eq_true rfl) (Nat.le_of_ble_eq_true rfl) dL_acts_1047
                refine lv_iload_n hx hb dL_acts_832 rfl (lv_at hl 10 rfl) ?_
                refine lv_bipush (v := nI 7) hx hb dL_acts_833 (by decide) ?_
                refine lv_ishr hx hb dL_acts_835 ?_
                refine lv_iload_n hx hb dL_acts_836 rfl (lv_at hl 10 rfl) ?_
                refine lv_bipush (v := nI 12) hx hb dL_acts_837 (by decide) ?_
                refine lv_ishr hx hb dL_acts_839 ?_
                refine lv_bipush (v := nI 14) hx hb dL_acts_840 (by decide) ?_
                have lw_65 := lowN_lt (yv >>> ((nI 12) &&& 31)) (n := 14) (by omega)
                refine kcalli (wc := []) (wr := [cX x nw sn tk hs tx tr, cR nw na nb σ, xI g na 49 (zT σ), xI g nb 49 (zI σ), cH hs hq kn, xQ g hq 4 (rq ρ), cR (ρ 0) (α 0) (β 0) (γ 0), xI g (α 0) 49 (zT (γ 0)), xI g (β 0) 49 (zI (γ 0)), cR (ρ 1) (α 1) (β 1) (γ 1), xI g (α 1) 49 (zT (γ 1)), xI g (β 1) 49 (zI (γ 1)), cR (ρ 2) (α 2) (β 2) (γ 2), xI g (α 2) 49 (zT (γ 2)), xI g (β 2) 49 (zI (γ 2)), cR (ρ 3) (α 3) (β 3) (γ 3), xI g (α 3) 49 (zT (γ 3)), xI g (β 3) 49 (zI (γ 3)), cT tx ch L, xC g ch 60 T, cTr tr tw od os po re ca, cR tw ta tb τ, xI g ta 49 (zT τ), xI g tb 49 (zI τ), cO od vb n1 n2 nm en]) (wn := fun (u : Unit) => [cX x nw sn tk hs tx tr, cR nw na nb σ, xI g na 49 (zT σ), xI g nb 49 (zI σ), cH hs hq kn, xQ g hq 4 (rq ρ), cR (ρ 0) (α 0) (β 0) (γ 0), xI g (α 0) 49 (zT (γ 0)), xI g (β 0) 49 (zI (γ 0)), cR (ρ 1) (α 1) (β 1) (γ 1), xI g (α 1) 49 (zT (γ 1)), xI g (β 1) 49 (zI (γ 1)), cR (ρ 2) (α 2) (β 2) (γ 2), xI g (α 2) 49 (zT (γ 2)), xI g (β 2) 49 (zI (γ 2)), cR (ρ 3) (α 3) (β 3) (γ 3), xI g (α 3) 49 (zT (γ 3)), xI g (β 3) 49 (zI (γ 3)), cT tx ch L, xC g ch 60 T, cTr tr tw od os po re ca, cR tw ta tb τ, xI g ta 49 (zT τ), xI g tb 49 (zI τ), cO od vb n1 n2 nm en]) F w [] [0, 1, 2, 3, 4, 5, 6, 7, 8, 9, 10, 11, 12, 13, 14, 15, 16, 17, 18, 19, 20, 21, 22, 23, 24] [0, 1, 2, 3, 4, 5, 6, 7, 8, 9, 10, 11, 12, 13, 14, 15, 16, 17, 18, 19, 20, 21, 22, 23, 24] rfl rfl rfl (fun _ => rfl)
                  (fun hp => va_runS (As := [.int (yv >>> ((nI 12) &&& 31)), .int (nI 14)]) (rest := [.int (yv >>> ((nI 7) &&& 31))]) F.1 (kL_low l g (yv >>> ((nI 12) &&& 31)) 14 H.size (by omega)) (va_cwS 2 hts gL_acts_L_low rfl rfl rfl hd_L_low ⟨Nat.le_of_ble_eq_true rfl, Nat.le_of_ble_eq_true rfl⟩) hp rfl rfl hl.1 rfl (lv_room (Nat.le_of_ble_eq_true rfl)) dL_acts_842 ⟨Nat.le_of_ble_eq_true rfl, Nat.le_of_ble_eq_true rfl⟩)
                  (fun r_66 _ H locs h_67 w => ?_)
                subst h_67
                refine lv_if_ne (tgt := 852) hx hb dL_acts_845 (by decide) (fun h_68 => ?_) (fun h_68 => ?_)
                · have h_68 : lowN (yv >>> ((nI 12) &&& 31)) 14 ≠ 0 := (kc0_ne_t (by omega)).mp h_68
                  refine lv_iconst (v := nI 2) hx hb dL_acts_852 (by decide) ?_
                  have lw_69 := lowN_lt (yv >>> ((nI 7) &&& 31)) (n := 2) (by omega)
                  refine kcalli (wc := []) (wr := [cX x nw sn tk hs tx tr, cR nw na nb σ, xI g na 49 (zT σ), xI g nb 49 (zI σ), cH hs hq kn, xQ g hq 4 (rq ρ), cR (ρ 0) (α 0) (β 0) (γ 0), xI g (α 0) 49 (zT (γ 0)), xI g (β 0) 49 (zI (γ 0)), cR (ρ 1) (α 1) (β 1) (γ 1), xI g (α 1) 49 (zT (γ 1)), xI g (β 1) 49 (zI (γ 1)), cR (ρ 2) (α 2) (β 2) (γ 2), xI g (α 2) 49 (zT (γ 2)), xI g (β 2) 49 (zI (γ 2)), cR (ρ 3) (α 3) (β 3) (γ 3), xI g (α 3) 49 (zT (γ 3)), xI g (β 3) 49 (zI (γ 3)), cT tx ch L, xC g ch 60 T, cTr tr tw od os po re ca, cR tw ta tb τ, xI g ta 49 (zT τ), xI g tb 49 (zI τ), cO od vb n1 n2 nm en]) (wn := fun (u : Unit) => [cX x nw sn tk hs tx tr, cR nw na nb σ, xI g na 49 (zT σ), xI g nb 49 (zI σ), cH hs hq kn, xQ g hq 4 (rq ρ), cR (ρ 0) (α 0) (β 0) (γ 0), xI g (α 0) 49 (zT (γ 0)), xI g (β 0) 49 (zI (γ 0)), cR (ρ 1) (α 1) (β 1) (γ 1), xI g (α 1) 49 (zT (γ 1)), xI g (β 1) 49 (zI (γ 1)), cR (ρ 2) (α 2) (β 2) (γ 2), xI g (α 2) 49 (zT (γ 2)), xI g (β 2) 49 (zI (γ 2)), cR (ρ 3) (α 3) (β 3) (γ 3), xI g (α 3) 49 (zT (γ 3)), xI g (β 3) 49 (zI (γ 3)), cT tx ch L, xC g ch 60 T, cTr tr tw od os po re ca, cR tw ta tb τ, xI g ta 49 (zT τ), xI g tb 49 (zI τ), cO od vb n1 n2 nm en]) F w [] [0, 1, 2, 3, 4, 5, 6, 7, 8, 9, 10, 11, 12, 13, 14, 15, 16, 17, 18, 19, 20, 21, 22, 23, 24] [0, 1, 2, 3, 4, 5, 6, 7, 8, 9, 10, 11, 12, 13, 14, 15, 16, 17, 18, 19, 20, 21, 22, 23, 24] rfl rfl rfl (fun _ => rfl)
                    (fun hp => va_runS (As := [.int (yv >>> ((nI 7) &&& 31)), .int (nI 2)]) (rest := []) F.1 (kL_low l g (yv >>> ((nI 7) &&& 31)) 2 H.size (by omega)) (va_cwS 2 hts gL_acts_L_low rfl rfl rfl hd_L_low ⟨Nat.le_of_ble_eq_true rfl, Nat.le_of_ble_eq_true rfl⟩) hp rfl rfl hl.1 rfl (lv_room (Nat.le_of_ble_eq_true rfl)) dL_acts_853 ⟨Nat.le_of_ble_eq_true rfl, Nat.le_of_ble_eq_true rfl⟩)
                    (fun r_70 _ H locs h_71 w => ?_)
                  subst h_71
                  exact JN_45 (lowN (yv >>> ((nI 7) &&& 31)) 2) (by omega) _ _ _ (kW.perm w [0, 1, 2, 3, 4, 5, 6, 7, 8, 9, 10, 11, 12, 13, 14, 15, 16, 17, 18, 19, 20, 21, 22, 23, 24] rfl rfl) (lv_sub hl [0, 1, 2, 3, 4, 5, 6, 7, 8, 9, 10] rfl)
                · have h_68 : lowN (yv >>> ((nI 12) &&& 31)) 14 = 0 := (kc0_ne_f (by omega)).mp h_68
                  refine lv_iconst (v := nI 3) hx hb dL_acts_848 (by decide) ?_
                  refine lv_goto (tgt := 853) hx hb dL_acts_849 (by decide) ?_
                  have lw_72 := lowN_lt (yv >>> ((nI 7) &&& 31)) (n := 3) (by omega)
                  refine kcalli (wc := []) (wr := [cX x nw sn tk hs tx tr, cR nw na nb σ, xI g na 49 (zT σ), xI g nb 49 (zI σ), cH hs hq kn, xQ g hq 4 (rq ρ), cR (ρ 0) (α 0) (β 0) (γ 0), xI g (α 0) 49 (zT (γ 0)), xI g (β 0) 49 (zI (γ 0)), cR (ρ 1) (α 1) (β 1) (γ 1), xI g (α 1) 49 (zT (γ 1)), xI g (β 1) 49 (zI (γ 1)), cR (ρ 2) (α 2) (β 2) (γ 2), xI g (α 2) 49 (zT (γ 2)), xI g (β 2) 49 (zI (γ 2)), cR (ρ 3) (α 3) (β 3) (γ 3), xI g (α 3) 49 (zT (γ 3)), xI g (β 3) 49 (zI (γ 3)), cT tx ch L, xC g ch 60 T, cTr tr tw od os po re ca, cR tw ta tb τ, xI g ta 49 (zT τ), xI g tb 49 (zI τ), cO od vb n1 n2 nm en]) (wn := fun (u : Unit) => [cX x nw sn tk hs tx tr, cR nw na nb σ, xI g na 49 (zT σ), xI g nb 49 (zI σ), cH hs hq kn, xQ g hq 4 (rq ρ), cR (ρ 0) (α 0) (β 0) (γ 0), xI g (α 0) 49 (zT (γ 0)), xI g (β 0) 49 (zI (γ 0)), cR (ρ 1) (α 1) (β 1) (γ 1), xI g (α 1) 49 (zT (γ 1)), xI g (β 1) 49 (zI (γ 1)), cR (ρ 2) (α 2) (β 2) (γ 2), xI g (α 2) 49 (zT (γ 2)), xI g (β 2) 49 (zI (γ 2)), cR (ρ 3) (α 3) (β 3) (γ 3), xI g (α 3) 49 (zT (γ 3)), xI g (β 3) 49 (zI (γ 3)), cT tx ch L, xC g ch 60 T, cTr tr tw od os po re ca, cR tw ta tb τ, xI g ta 49 (zT τ), xI g tb 49 (zI τ), cO od vb n1 n2 nm en]) F w [] [0, 1, 2, 3, 4, 5, 6, 7, 8, 9, 10, 11, 12, 13, 14, 15, 16, 17, 18, 19, 20, 21, 22, 23, 24] [0, 1, 2, 3, 4, 5, 6, 7, 8, 9, 10, 11, 12, 13, 14, 15, 16, 17, 18, 19, 20, 21, 22, 23, 24] rfl rfl rfl (fun _ => rfl)
                    (fun hp => va_runS (As := [.int (yv >>> ((nI 7) &&& 31)), .int (nI 3)]) (rest := []) F.1 (kL_low l g (yv >>> ((nI 7) &&& 31)) 3 H.size (by omega)) (va_cwS 2 hts gL_acts_L_low rfl rfl rfl hd_L_low ⟨Nat.le_of_ble_eq_true rfl, Nat.le_of_ble_eq_true rfl⟩) hp rfl rfl hl.1 rfl (lv_room (Nat.le_of_ble_eq_true rfl)) dL_acts_853 ⟨Nat.le_of_ble_eq_true rfl, Nat.le_of_ble_eq_true rfl⟩)
                    (fun r_73 _ H locs h_74 w => ?_)
                  subst h_74
                  exact JN_45 (lowN (yv >>> ((nI 7) &&& 31)) 3) (by omega) _ _ _ (kW.perm w [0, 1, 2, 3, 4, 5, 6, 7, 8, 9, 10, 11, 12, 13, 14, 15, 16, 17, 18, 19, 20, 21, 22, 23, 24] rfl rfl) (lv_sub hl [0, 1, 2, 3, 4, 5, 6, 7, 8, 9, 10] rfl)
            · have h_19 : hw9 < 26 := (kc_ge_f (by omega) (by omega)).mp h_19
              refine lv_iload_n hx hb dL_acts_588 rfl (lv_at hl 7 rfl) ?_
              refine lv_bipush (v := nI 22) hx hb dL_acts_589 (by decide) ?_
              refine lv_icmp_ge (tgt := 598) hx hb dL_acts_591 (by decide) (fun h_75 => ?_) (fun h_75 => ?_)
              · have h_75 : hw9 ≥ 22 := (kc_ge_t (by omega) (by omega)).mp h_75
                refine lv_iconst (v := nI 0) hx hb dL_acts_598 (by decide) ?_
                refine lv_istore (lv' := [(13, .int (nI 0)), (12, .int (nI (zcnt (kindP σ true) 48))), (11, .int (nI (zcnt (kindP σ false) 48))), (10, .int (tA σ)), (8, .long (zB (zL σ))), (6, .long (zB (zO σ))), (5, .int (bI true)), (4, .int (nI d9)), (3, .int (nI hw9)), (0, .ref x), (1, .int v), (2, .int yv)]) hx hb dL_acts_599 hl (by decide) rfl (fun ls hl => ?_)
                refine lv_iload hx hb dL_acts_601 (lv_at hl 6 rfl) ?_
                refine lv_if_ne (tgt := 636) hx hb dL_acts_603 (by decide) (fun h_76 => ?_) (fun h_76 => ?_)
                rotate_left 1
                · exact absurd h_76 (by decide)
                refine lv_iconst (v := nI 0) hx hb dL_acts_636 (by decide) ?_
                refine lv_istore (lv' := [(14, .int (nI 0)), (13, .int (nI 0)), (12, .int (nI (zcnt (kindP σ true) 48))), (11, .int (nI (zcnt (kindP σ false) 48))), (10, .int (tA σ)), (8, .long (zB (zL σ))), (6, .long (zB (zO σ))), (5, .int (bI true)), (4, .int (nI d9)), (3, .int (nI hw9)), (0, .ref x), (1, .int v), (2, .int yv)]) hx hb dL_acts_637 hl (by decide) rfl (fun ls hl => ?_)
                refine lv_iload hx hb dL_acts_639 (lv_at hl 1 rfl) ?_
                refine lv_if_eq (tgt := 653) hx hb dL_acts_641 (by decide) (fun h_77 => ?_) (fun h_77 => ?_)
                rotate_left 1
                · exact absurd rfl h_77
                refine lv_aload_n hx hb dL_acts_653 rfl (lv_at hl 10 rfl) ?_
                refine lv_iload hx hb dL_acts_654 (lv_at hl 8 rfl) ?_
                refine kcalli (wc := [cX x nw sn tk hs tx tr]) (wr := [cR nw na nb σ, xI g na 49 (zT σ), xI g nb 49 (zI σ), cH hs hq kn, xQ g hq 4 (rq ρ), cR (ρ 0) (α 0) (β 0) (γ 0), xI g (α 0) 49 (zT (γ 0)), xI g (β 0) 49 (zI (γ 0)), cR (ρ 1) (α 1) (β 1) (γ 1), xI g (α 1) 49 (zT (γ 1)), xI g (β 1) 49 (zI (γ 1)), cR (ρ 2) (α 2) (β 2) (γ 2), xI g (α 2) 49 (zT (γ 2)), xI g (β 2) 49 (zI (γ 2)), cR (ρ 3) (α 3) (β 3) (γ 3), xI g (α 3) 49 (zT (γ 3)), xI g (β 3) 49 (zI (γ 3)), cT tx ch L, xC g ch 60 T, cTr tr tw od os po re ca, cR tw ta tb τ, xI g ta 49 (zT τ), xI g tb 49 (zI τ), cO od vb n1 n2 nm en]) (wn := fun (u : Unit) => [cX x nw sn tk hs tx tr, cR nw na nb σ, xI g na 49 (zT σ), xI g nb 49 (zI σ), cH hs hq kn, xQ g hq 4 (rq ρ), cR (ρ 0) (α 0) (β 0) (γ 0), xI g (α 0) 49 (zT (γ 0)), xI g (β 0) 49 (zI (γ 0)), cR (ρ 1) (α 1) (β 1) (γ 1), xI g (α 1) 49 (zT (γ 1)), xI g (β 1) 49 (zI (γ 1)), cR (ρ 2) (α 2) (β 2) (γ 2), xI g (α 2) 49 (zT (γ 2)), xI g (β 2) 49 (zI (γ 2)), cR (ρ 3) (α 3) (β 3) (γ 3), xI g (α 3) 49 (zT (γ 3)), xI g (β 3) 49 (zI (γ 3)), cT tx ch L, xC g ch 60 T, cTr tr tw od os po re ca, cR tw ta tb τ, xI g ta 49 (zT τ), xI g tb 49 (zI τ), cO od vb n1 n2 nm en]) F w [0] [1, 2, 3, 4, 5, 6, 7, 8, 9, 10, 11, 12, 13, 14, 15, 16, 17, 18, 19, 20, 21, 22, 23, 24] [24, 0, 1, 2, 3, 4, 5, 6, 7, 8, 9, 10, 11, 12, 13, 14, 15, 16, 17, 18, 19, 20, 21, 22, 23] rfl rfl rfl (fun _ => rfl)
                  (fun hp => vx_runSW (As := [.ref x, .int (nI d9)]) (rest := []) F.1 (kL_turnSkip_A l hnl g x nw sn tk hs tx tr (nI d9) H.size (off_d (by omega) (by omega))) (vx_cwSW 2 hts gL_acts_L_turnSkip rfl rfl rfl hd_L_turnSkip ⟨Nat.le_of_ble_eq_true rfl, Nat.le_of_ble_eq_true rfl⟩) hp rfl rfl hl.1 rfl (lv_room (Nat.le_of_ble_eq_true rfl)) dL_acts_656 ⟨by show _ ≤ (60 : Nat); omega, by show _ ≤ (360 : Nat); omega⟩)
                  (fun r_78 _ H locs h_79 w => ?_)
                subst h_79
                refine lv_istore (lv' := [(15, .int (-102)), (14, .int (nI 0)), (13, .int (nI 0)), (12, .int (nI (zcnt (kindP σ true) 48))), (11, .int (nI (zcnt (kindP σ false) 48))), (10, .int (tA σ)), (8, .long (zB (zL σ))), (6, .long (zB (zO σ))), (5, .int (bI true)), (4, .int (nI d9)), (3, .int (nI hw9)), (0, .ref x), (1, .int v), (2, .int yv)]) hx hb dL_acts_659 hl (by decide) rfl (fun ls hl => ?_)
                refine lv_iload hx hb dL_acts_661 (lv_at hl 0 rfl) ?_
                refine lv_iload hx hb dL_acts_663 (lv_at hl 8 rfl) ?_
                refine lv_if_eq (tgt := 673) hx hb dL_acts_665 (by decide) (fun h_80 => ?_) (fun h_80 => ?_)
                · exact absurd h_80 (by decide)
                refine lv_bipush (v := (-102)) hx hb dL_acts_668 (by decide) ?_
                refine lv_goto (tgt := 683) hx hb dL_acts_670 (by decide) ?_
                refine lv_icmp_ne (tgt := 739) hx hb dL_acts_683 (by decide) (fun h_81 => ?_) (fun h_81 => ?_)
                · exact absurd rfl h_81
                refine lv_iload hx hb dL_acts_686 (lv_at hl 8 rfl) ?_
                refine lv_if_ne (tgt := 716) hx hb dL_acts_688 (by decide) (fun h_82 => ?_) (fun h_82 => ?_)
                rotate_left 1
                · exact absurd h_82 (by decide)
                refine lv_aload_n hx hb dL_acts_716 rfl (lv_at hl 11 rfl) ?_
                refine kcalll (wc := [cX x nw sn tk hs tx tr, cR nw na nb σ, xI g na 49 (zT σ), xI g nb 49 (zI σ)]) (wr := [cH hs hq kn, xQ g hq 4 (rq ρ), cR (ρ 0) (α 0) (β 0) (γ 0), xI g (α 0) 49 (zT (γ 0)), xI g (β 0) 49 (zI (γ 0)), cR (ρ 1) (α 1) (β 1) (γ 1), xI g (α 1) 49 (zT (γ 1)), xI g (β 1) 49 (zI (γ 1)), cR (ρ 2) (α 2) (β 2) (γ 2), xI g (α 2) 49 (zT (γ 2)), xI g (β 2) 49 (zI (γ 2)), cR (ρ 3) (α 3) (β 3) (γ 3), xI g (α 3) 49 (zT (γ 3)), xI g (β 3) 49 (zI (γ 3)), cT tx ch L, xC g ch 60 T, cTr tr tw od os po re ca, cR tw ta tb τ, xI g ta 49 (zT τ), xI g tb 49 (zI τ), cO od vb n1 n2 nm en]) (wn := fun (u : Unit) => [cX x nw sn tk hs tx tr, cR nw na nb σ, xI g na 49 (zT σ), xI g nb 49 (zI σ), cH hs hq kn, xQ g hq 4 (rq ρ), cR (ρ 0) (α 0) (β 0) (γ 0), xI g (α 0) 49 (zT (γ 0)), xI g (β 0) 49 (zI (γ 0)), cR (ρ 1) (α 1) (β 1) (γ 1), xI g (α 1) 49 (zT (γ 1)), xI g (β 1) 49 (zI (γ 1)), cR (ρ 2) (α 2) (β 2) (γ 2), xI g (α 2) 49 (zT (γ 2)), xI g (β 2) 49 (zI (γ 2)), cR (ρ 3) (α 3) (β 3) (γ 3), xI g (α 3) 49 (zT (γ 3)), xI g (β 3) 49 (zI (γ 3)), cT tx ch L, xC g ch 60 T, cTr tr tw od os po re ca, cR tw ta tb τ, xI g ta 49 (zT τ), xI g tb 49 (zI τ), cO od vb n1 n2 nm en]) F w [0, 1, 2, 3] [4, 5, 6, 7, 8, 9, 10, 11, 12, 13, 14, 15, 16, 17, 18, 19, 20, 21, 22, 23, 24] [21, 22, 23, 24, 0, 1, 2, 3, 4, 5, 6, 7, 8, 9, 10, 11, 12, 13, 14, 15, 16, 17, 18, 19, 20] rfl rfl rfl (fun _ => rfl)
                  (fun hp => va_runV (As := []) (rest := []) F.1 (kX5_openSet l g x nw sn tk hs tx tr na nb σ H.size ) (cwV 0 hts gL_acts_X5_openSet rfl rfl rfl ⟨rfl, hd_X5_openSet⟩ ⟨Nat.le_of_ble_eq_true rfl, Nat.le_of_ble_eq_true rfl⟩) ⟨hp.1, va_recv F.2.2.2.1.1 w.1 (q0 := 0) (ci := 5) rfl rfl, hp.2⟩ rfl rfl hl.1 rfl (lv_room (Nat.le_of_ble_eq_true rfl)) dL_acts_717 ⟨by show _ ≤ (60 : Nat); omega, by show _ ≤ (360 : Nat); omega⟩)
                  (fun r_83 _ H locs h_84 w => ?_)
                subst h_84
                refine lv_lload hx hb dL_acts_720 (lv_at hl 7 rfl) ?_
                refine W.lcmp hx hb dL_acts_722 ?_
                refine lv_if_ne (tgt := 739) hx hb dL_acts_723 (by decide) (fun h_85 => ?_) (fun h_85 => ?_)
                · exact absurd (lgc_eq.mpr rfl) h_85
                refine lv_aload_n hx hb dL_acts_726 rfl (lv_at hl 11 rfl) ?_
                refine kcalli (wc := [cX x nw sn tk hs tx tr, cR nw na nb σ, xI g na 49 (zT σ), xI g nb 49 (zI σ)]) (wr := [cH hs hq kn, xQ g hq 4 (rq ρ), cR (ρ 0) (α 0) (β 0) (γ 0), xI g (α 0) 49 (zT (γ 0)), xI g (β 0) 49 (zI (γ 0)), cR (ρ 1) (α 1) (β 1) (γ 1), xI g (α 1) 49 (zT (γ 1)), xI g (β 1) 49 (zI (γ 1)), cR (ρ 2) (α 2) (β 2) (γ 2), xI g (α 2) 49 (zT (γ 2)), xI g (β 2) 49 (zI (γ 2)), cR (ρ 3) (α 3) (β 3) (γ 3), xI g (α 3) 49 (zT (γ 3)), xI g (β 3) 49 (zI (γ 3)), cT tx ch L, xC g ch 60 T, cTr tr tw od os po re ca, cR tw ta tb τ, xI g ta 49 (zT τ), xI g tb 49 (zI τ), cO od vb n1 n2 nm en]) (wn := fun (u : Unit) => [cX x nw sn tk hs tx tr, cR nw na nb σ, xI g na 49 (zT σ), xI g nb 49 (zI σ), cH hs hq kn, xQ g hq 4 (rq ρ), cR (ρ 0) (α 0) (β 0) (γ 0), xI g (α 0) 49 (zT (γ 0)), xI g (β 0) 49 (zI (γ 0)), cR (ρ 1) (α 1) (β 1) (γ 1), xI g (α 1) 49 (zT (γ 1)), xI g (β 1) 49 (zI (γ 1)), cR (ρ 2) (α 2) (β 2) (γ 2), xI g (α 2) 49 (zT (γ 2)), xI g (β 2) 49 (zI (γ 2)), cR (ρ 3) (α 3) (β 3) (γ 3), xI g (α 3) 49 (zT (γ 3)), xI g (β 3) 49 (zI (γ 3)), cT tx ch L, xC g ch 60 T, cTr tr tw od os po re ca, cR tw ta tb τ, xI g ta 49 (zT τ), xI g tb 49 (zI τ), cO od vb n1 n2 nm en]) F w [0, 1, 2, 3] [4, 5, 6, 7, 8, 9, 10, 11, 12, 13, 14, 15, 16, 17, 18, 19, 20, 21, 22, 23, 24] [21, 22, 23, 24, 0, 1, 2, 3, 4, 5, 6, 7, 8, 9, 10, 11, 12, 13, 14, 15, 16, 17, 18, 19, 20] rfl rfl rfl (fun _ => rfl)
                  (fun hp => va_runV (As := []) (rest := []) F.1 (kX5_turnsInAll l g x nw sn tk hs tx tr na nb σ H.size ) (cwV 0 hts gL_acts_X5_turnsInAll rfl rfl rfl ⟨rfl, hd_X5_turnsInAll⟩ ⟨Nat.le_of_ble_eq_true rfl, Nat.le_of_ble_eq_true rfl⟩) ⟨hp.1, va_recv F.2.2.2.1.1 w.1 (q0 := 0) (ci := 5) rfl rfl, hp.2⟩ rfl rfl hl.1 rfl (lv_room (Nat.le_of_ble_eq_true rfl)) dL_acts_727 ⟨by show _ ≤ (60 : Nat); omega, by show _ ≤ (360 : Nat); omega⟩)
                  (fun r_86 _ H locs h_87 w => ?_)
                subst h_87
                refine ktopi (y := tA σ) (rfl) ?_
                refine lv_iload hx hb dL_acts_730 (lv_at hl 5 rfl) ?_
                refine lv_icmp_ne (tgt := 739) hx hb dL_acts_732 (by decide) (fun h_88 => ?_) (fun h_88 => ?_)
                · exact absurd rfl h_88
                refine lv_iconst (v := nI 1) hx hb dL_acts_735 (by decide) ?_
                refine lv_goto (tgt := 740) hx hb dL_acts_736 (by decide) ?_
                refine ktopi (y := bI true) (by decide) ?_
                refine W.widen (k := 60) (n := 360) (by omega) (by omega) ?_
                subst hA
                subst hQ
                exact kretz F w (σ, kn, ρ, α, β, γ, L, T, os, po, re, ca, τ, vb, n1, n2, nm, en) [0, 1, 2, 3, 4, 5, 6, 7, 8, 9, 10, 11, 12, 13, 14, 15, 16, 17, 18, 19, 20, 21, 22, 23, 24] rfl rfl (⟨rfl, actP_0 hL⟩) (kz_n _) (Nat.le_of_ble_eq_true rfl) (Nat.le_of_ble_eq_true rfl) dL_acts_740
              · have h_75 : hw9 < 22 := (kc_ge_f (by omega) (by omega)).mp h_75
                refine lv_iconst (v := nI 1) hx hb dL_acts_594 (by decide) ?_
                refine lv_goto (tgt := 599) hx hb dL_acts_595 (by decide) ?_
                refine lv_istore (lv' := [(13, .int (nI 1)), (12, .int (nI (zcnt (kindP σ true) 48))), (11, .int (nI (zcnt (kindP σ false) 48))), (10, .int (tA σ)), (8, .long (zB (zL σ))), (6, .long (zB (zO σ))), (5, .int (bI true)), (4, .int (nI d9)), (3, .int (nI hw9)), (0, .ref x), (1, .int v), (2, .int yv)]) hx hb dL_acts_599 hl (by decide) rfl (fun ls hl => ?_)
                refine lv_iload hx hb dL_acts_601 (lv_at hl 6 rfl) ?_
                refine lv_if_ne (tgt := 636) hx hb dL_acts_603 (by decide) (fun h_89 => ?_) (fun h_89 => ?_)
                rotate_left 1
                · exact absurd h_89 (by decide)
                refine lv_iconst (v := nI 0) hx hb dL_acts_636 (by decide) ?_
                refine lv_istore (lv' := [(14, .int (nI 0)), (13, .int (nI 1)), (12, .int (nI (zcnt (kindP σ true) 48))), (11, .int (nI (zcnt (kindP σ false) 48))), (10, .int (tA σ)), (8, .long (zB (zL σ))), (6, .long (zB (zO σ))), (5, .int (bI true)), (4, .int (nI d9)), (3, .int (nI hw9)), (0, .ref x), (1, .int v), (2, .int yv)]) hx hb dL_acts_637 hl (by decide) rfl (fun ls hl => ?_)
                refine lv_iload hx hb dL_acts_639 (lv_at hl 1 rfl) ?_
                refine lv_if_eq (tgt := 653) hx hb dL_acts_641 (by decide) (fun h_90 => ?_) (fun h_90 => ?_)
                · exact absurd h_90 (by decide)
                refine lv_aload_n hx hb dL_acts_644 rfl (lv_at hl 10 rfl) ?_
                refine lv_iload hx hb dL_acts_645 (lv_at hl 8 rfl) ?_
                refine kcalli (wc := [cX x nw sn tk hs tx tr]) (wr := [cR nw na nb σ, xI g na 49 (zT σ), xI g nb 49 (zI σ), cH hs hq kn, xQ g hq 4 (rq ρ), cR (ρ 0) (α 0) (β 0) (γ 0), xI g (α 0) 49 (zT (γ 0)), xI g (β 0) 49 (zI (γ 0)), cR (ρ 1) (α 1) (β 1) (γ 1), xI g (α 1) 49 (zT (γ 1)), xI g (β 1) 49 (zI (γ 1)), cR (ρ 2) (α 2) (β 2) (γ 2), xI g (α 2) 49 (zT (γ 2)), xI g (β 2) 49 (zI (γ 2)), cR (ρ 3) (α 3) (β 3) (γ 3), xI g (α 3) 49 (zT (γ 3)), xI g (β 3) 49 (zI (γ 3)), cT tx ch L, xC g ch 60 T, cTr tr tw od os po re ca, cR tw ta tb τ, xI g ta 49 (zT τ), xI g tb 49 (zI τ), cO od vb n1 n2 nm en]) (wn := fun (u : Unit) => [cX x nw sn tk hs tx tr, cR nw na nb σ, xI g na 49 (zT σ), xI g nb 49 (zI σ), cH hs hq kn, xQ g hq 4 (rq ρ), cR (ρ 0) (α 0) (β 0) (γ 0), xI g (α 0) 49 (zT (γ 0)), xI g (β 0) 49 (zI (γ 0)), cR (ρ 1) (α 1) (β 1) (γ 1), xI g (α 1) 49 (zT (γ 1)), xI g (β 1) 49 (zI (γ 1)), cR (ρ 2) (α 2) (β 2) (γ 2), xI g (α 2) 49 (zT (γ 2)), xI g (β 2) 49 (zI (γ 2)), cR (ρ 3) (α 3) (β 3) (γ 3), xI g (α 3) 49 (zT (γ 3)), xI g (β 3) 49 (zI (γ 3)), cT tx ch L, xC g ch 60 T, cTr tr tw od os po re ca, cR tw ta tb τ, xI g ta 49 (zT τ), xI g tb 49 (zI τ), cO od vb n1 n2 nm en]) F w [0] [1, 2, 3, 4, 5, 6, 7, 8, 9, 10, 11, 12, 13, 14, 15, 16, 17, 18, 19, 20, 21, 22, 23, 24] [24, 0, 1, 2, 3, 4, 5, 6, 7, 8, 9, 10, 11, 12, 13, 14, 15, 16, 17, 18, 19, 20, 21, 22, 23] rfl rfl rfl (fun _ => rfl)
                  (fun hp => vx_runSW (As := [.ref x, .int (nI d9)]) (rest := []) F.1 (kL_turnLock_A l hnl g x nw sn tk hs tx tr (nI d9) H.size (off_d (by omega) (by omega))) (vx_cwSW 2 hts gL_acts_L_turnLock rfl rfl rfl hd_L_turnLock ⟨Nat.le_of_ble_eq_true rfl, Nat.le_of_ble_eq_true rfl⟩) hp rfl rfl hl.1 rfl (lv_room (Nat.le_of_ble_eq_true rfl)) dL_acts_647 ⟨by show _ ≤ (60 : Nat); omega, by show _ ≤ (360 : Nat); omega⟩)
                  (fun r_91 _ H locs h_92 w => ?_)
                subst h_92
                refine lv_goto (tgt := 659) hx hb dL_acts_650 (by decide) ?_
                refine lv_istore (lv' := [(15, .int (-102)), (14, .int (nI 0)), (13, .int (nI 1)), (12, .int (nI (zcnt (kindP σ true) 48))), (11, .int (nI (zcnt (kindP σ false) 48))), (10, .int (tA σ)), (8, .long (zB (zL σ))), (6, .long (zB (zO σ))), (5, .int (bI true)), (4, .int (nI d9)), (3, .int (nI hw9)), (0, .ref x), (1, .int v), (2, .int yv)]) hx hb dL_acts_659 hl (by decide) rfl (fun ls hl => ?_)
                refine lv_iload hx hb dL_acts_661 (lv_at hl 0 rfl) ?_
                refine lv_iload hx hb dL_acts_663 (lv_at hl 8 rfl) ?_
                refine lv_if_eq (tgt := 673) hx hb dL_acts_665 (by decide) (fun h_93 => ?_) (fun h_93 => ?_)
                · exact absurd h_93 (by decide)
                refine lv_bipush (v := (-102)) hx hb dL_acts_668 (by decide) ?_
                refine lv_goto (tgt := 683) hx hb dL_acts_670 (by decide) ?_
                refine lv_icmp_ne (tgt := 739) hx hb dL_acts_683 (by decide) (fun h_94 => ?_) (fun h_94 => ?_)
                · exact absurd rfl h_94
                refine lv_iload hx hb dL_acts_686 (lv_at hl 8 rfl) ?_
                refine lv_if_ne (tgt := 716) hx hb dL_acts_688 (by decide) (fun h_95 => ?_) (fun h_95 => ?_)
                rotate_left 1
                · exact absurd h_95 (by decide)
                refine lv_aload_n hx hb dL_acts_716 rfl (lv_at hl 11 rfl) ?_
                refine kcalll (wc := [cX x nw sn tk hs tx tr, cR nw na nb σ, xI g na 49 (zT σ), xI g nb 49 (zI σ)]) (wr := [cH hs hq kn, xQ g hq 4 (rq ρ), cR (ρ 0) (α 0) (β 0) (γ 0), xI g (α 0) 49 (zT (γ 0)), xI g (β 0) 49 (zI (γ 0)), cR (ρ 1) (α 1) (β 1) (γ 1), xI g (α 1) 49 (zT (γ 1)), xI g (β 1) 49 (zI (γ 1)), cR (ρ 2) (α 2) (β 2) (γ 2), xI g (α 2) 49 (zT (γ 2)), xI g (β 2) 49 (zI (γ 2)), cR (ρ 3) (α 3) (β 3) (γ 3), xI g (α 3) 49 (zT (γ 3)), xI g (β 3) 49 (zI (γ 3)), cT tx ch L, xC g ch 60 T, cTr tr tw od os po re ca, cR tw ta tb τ, xI g ta 49 (zT τ), xI g tb 49 (zI τ), cO od vb n1 n2 nm en]) (wn := fun (u : Unit) => [cX x nw sn tk hs tx tr, cR nw na nb σ, xI g na 49 (zT σ), xI g nb 49 (zI σ), cH hs hq kn, xQ g hq 4 (rq ρ), cR (ρ 0) (α 0) (β 0) (γ 0), xI g (α 0) 49 (zT (γ 0)), xI g (β 0) 49 (zI (γ 0)), cR (ρ 1) (α 1) (β 1) (γ 1), xI g (α 1) 49 (zT (γ 1)), xI g (β 1) 49 (zI (γ 1)), cR (ρ 2) (α 2) (β 2) (γ 2), xI g (α 2) 49 (zT (γ 2)), xI g (β 2) 49 (zI (γ 2)), cR (ρ 3) (α 3) (β 3) (γ 3), xI g (α 3) 49 (zT (γ 3)), xI g (β 3) 49 (zI (γ 3)), cT tx ch L, xC g ch 60 T, cTr tr tw od os po re ca, cR tw ta tb τ, xI g ta 49 (zT τ), xI g tb 49 (zI τ), cO od vb n1 n2 nm en]) F w [0, 1, 2, 3] [4, 5, 6, 7, 8, 9, 10, 11, 12, 13, 14, 15, 16, 17, 18, 19, 20, 21, 22, 23, 24] [21, 22, 23, 24, 0, 1, 2, 3, 4, 5, 6, 7, 8, 9, 10, 11, 12, 13, 14, 15, 16, 17, 18, 19, 20] rfl rfl rfl (fun _ => rfl)
                  (fun hp => va_runV (As := []) (rest := []) F.1 (kX5_openSet l g x nw sn tk hs tx tr na nb σ H.size ) (cwV 0 hts gL_acts_X5_openSet rfl rfl rfl ⟨rfl, hd_X5_openSet⟩ ⟨Nat.le_of_ble_eq_true rfl, Nat.le_of_ble_eq_true rfl⟩) ⟨hp.1, va_recv F.2.2.2.1.1 w.1 (q0 := 0) (ci := 5) rfl rfl, hp.2⟩ rfl rfl hl.1 rfl (lv_room (Nat.le_of_ble_eq_true rfl)) dL_acts_717 ⟨by show _ ≤ (60 : Nat); omega, by show _ ≤ (360 : Nat); omega⟩)
                  (fun r_96 _ H locs h_97 w => ?_)
                subst h_97
                refine lv_lload hx hb dL_acts_720 (lv_at hl 7 rfl) ?_
                refine W.lcmp hx hb dL_acts_722 ?_
                refine lv_if_ne (tgt := 739) hx hb dL_acts_723 (by decide) (fun h_98 => ?_) (fun h_98 => ?_)
                · exact absurd (lgc_eq.mpr rfl) h_98
                refine lv_aload_n hx hb dL_acts_726 rfl (lv_at hl 11 rfl) ?_
                refine kcalli (wc := [cX x nw sn tk hs tx tr, cR nw na nb σ, xI g na 49 (zT σ), xI g nb 49 (zI σ)]) (wr := [cH hs hq kn, xQ g hq 4 (rq ρ), cR (ρ 0) (α 0) (β 0) (γ 0), xI g (α 0) 49 (zT (γ 0)), xI g (β 0) 49 (zI (γ 0)), cR (ρ 1) (α 1) (β 1) (γ 1), xI g (α 1) 49 (zT (γ 1)), xI g (β 1) 49 (zI (γ 1)), cR (ρ 2) (α 2) (β 2) (γ 2), xI g (α 2) 49 (zT (γ 2)), xI g (β 2) 49 (zI (γ 2)), cR (ρ 3) (α 3) (β 3) (γ 3), xI g (α 3) 49 (zT (γ 3)), xI g (β 3) 49 (zI (γ 3)), cT tx ch L, xC g ch 60 T, cTr tr tw od os po re ca, cR tw ta tb τ, xI g ta 49 (zT τ), xI g tb 49 (zI τ), cO od vb n1 n2 nm en]) (wn := fun (u : Unit) => [cX x nw sn tk hs tx tr, cR nw na nb σ, xI g na 49 (zT σ), xI g nb 49 (zI σ), cH hs hq kn, xQ g hq 4 (rq ρ), cR (ρ 0) (α 0) (β 0) (γ 0), xI g (α 0) 49 (zT (γ 0)), xI g (β 0) 49 (zI (γ 0)), cR (ρ 1) (α 1) (β 1) (γ 1), xI g (α 1) 49 (zT (γ 1)), xI g (β 1) 49 (zI (γ 1)), cR (ρ 2) (α 2) (β 2) (γ 2), xI g (α 2) 49 (zT (γ 2)), xI g (β 2) 49 (zI (γ 2)), cR (ρ 3) (α 3) (β 3) (γ 3), xI g (α 3) 49 (zT (γ 3)), xI g (β 3) 49 (zI (γ 3)), cT tx ch L, xC g ch 60 T, cTr tr tw od os po re ca, cR tw ta tb τ, xI g ta 49 (zT τ), xI g tb 49 (zI τ), cO od vb n1 n2 nm en]) F w [0, 1, 2, 3] [4, 5, 6, 7, 8, 9, 10, 11, 12, 13, 14, 15, 16, 17, 18, 19, 20, 21, 22, 23, 24] [21, 22, 23, 24, 0, 1, 2, 3, 4, 5, 6, 7, 8, 9, 10, 11, 12, 13, 14, 15, 16, 17, 18, 19, 20] rfl rfl rfl (fun _ => rfl)
                  (fun hp => va_runV (As := []) (rest := []) F.1 (kX5_turnsInAll l g x nw sn tk hs tx tr na nb σ H.size ) (cwV 0 hts gL_acts_X5_turnsInAll rfl rfl rfl ⟨rfl, hd_X5_turnsInAll⟩ ⟨Nat.le_of_ble_eq_true rfl, Nat.le_of_ble_eq_true rfl⟩) ⟨hp.1, va_recv F.2.2.2.1.1 w.1 (q0 := 0) (ci := 5) rfl rfl, hp.2⟩ rfl rfl hl.1 rfl (lv_room (Nat.le_of_ble_eq_true rfl)) dL_acts_727 ⟨by show _ ≤ (60 : Nat); omega, by show _ ≤ (360 : Nat); omega⟩)
                  (fun r_99 _ H locs h_100 w => ?_)
                subst h_100
                refine ktopi (y := tA σ) (rfl) ?_
                refine lv_iload hx hb dL_acts_730 (lv_at hl 5 rfl) ?_
                refine lv_icmp_ne (tgt := 739) hx hb dL_acts_732 (by decide) (fun h_101 => ?_) (fun h_101 => ?_)
                · exact absurd rfl h_101
                refine lv_iconst (v := nI 1) hx hb dL_acts_735 (by decide) ?_
                refine lv_goto (tgt := 740) hx hb dL_acts_736 (by decide) ?_
                refine ktopi (y := bI true) (by decide) ?_
                refine W.widen (k := 60) (n := 360) (by omega) (by omega) ?_
                subst hA
                subst hQ
                exact kretz F w (σ, kn, ρ, α, β, γ, L, T, os, po, re, ca, τ, vb, n1, n2, nm, en) [0, 1, 2, 3, 4, 5, 6, 7, 8, 9, 10, 11, 12, 13, 14, 15, 16, 17, 18, 19, 20, 21, 22, 23, 24] rfl rfl (⟨rfl, actP_0 hL⟩) (kz_n _) (Nat.le_of_ble_eq_true rfl) (Nat.le_of_ble_eq_true rfl) dL_acts_740
          · have h_18 : hw9 < 19 := (kc_ge_f (by omega) (by omega)).mp h_18
            refine lv_iload hx hb dL_acts_450 (lv_at hl 5 rfl) ?_
            refine lv_if_ne (tgt := 468) hx hb dL_acts_452 (by decide) (fun h_102 => ?_) (fun h_102 => ?_)
            rotate_left 1
            · exact absurd h_102 (by decide)
            refine lv_iconst (v := nI 0) hx hb dL_acts_468 (by decide) ?_
            refine lv_istore (lv' := [(13, .int (nI 0)), (12, .int (nI (zcnt (kindP σ true) 48))), (11, .int (nI (zcnt (kindP σ false) 48))), (10, .int (tA σ)), (8, .long (zB (zL σ))), (6, .long (zB (zO σ))), (5, .int (bI true)), (4, .int (nI d9)), (3, .int (nI hw9)), (0, .ref x), (1, .int v), (2, .int yv)]) hx hb dL_acts_469 hl (by decide) rfl (fun ls hl => ?_)
            refine lv_iload hx hb dL_acts_471 (lv_at hl 6 rfl) ?_
            refine lv_if_ne (tgt := 489) hx hb dL_acts_473 (by decide) (fun h_103 => ?_) (fun h_103 => ?_)
            rotate_left 1
            · exact absurd h_103 (by decide)
            refine lv_iconst (v := nI 0) hx hb dL_acts_489 (by decide) ?_
            refine lv_istore (lv' := [(14, .int (nI 0)), (13, .int (nI 0)), (12, .int (nI (zcnt (kindP σ true) 48))), (11, .int (nI (zcnt (kindP σ false) 48))), (10, .int (tA σ)), (8, .long (zB (zL σ))), (6, .long (zB (zO σ))), (5, .int (bI true)), (4, .int (nI d9)), (3, .int (nI hw9)), (0, .ref x), (1, .int v), (2, .int yv)]) hx hb dL_acts_490 hl (by decide) rfl (fun ls hl => ?_)
            refine lv_aload_n hx hb dL_acts_492 rfl (lv_at hl 10 rfl) ?_
            refine lv_iload hx hb dL_acts_493 (lv_at hl 8 rfl) ?_
            refine kcalli (wc := [cX x nw sn tk hs tx tr]) (wr := [cR nw na nb σ, xI g na 49 (zT σ), xI g nb 49 (zI σ), cH hs hq kn, xQ g hq 4 (rq ρ), cR (ρ 0) (α 0) (β 0) (γ 0), xI g (α 0) 49 (zT (γ 0)), xI g (β 0) 49 (zI (γ 0)), cR (ρ 1) (α 1) (β 1) (γ 1), xI g (α 1) 49 (zT (γ 1)), xI g (β 1) 49 (zI (γ 1)), cR (ρ 2) (α 2) (β 2) (γ 2), xI g (α 2) 49 (zT (γ 2)), xI g (β 2) 49 (zI (γ 2)), cR (ρ 3) (α 3) (β 3) (γ 3), xI g (α 3) 49 (zT (γ 3)), xI g (β 3) 49 (zI (γ 3)), cT tx ch L, xC g ch 60 T, cTr tr tw od os po re ca, cR tw ta tb τ, xI g ta 49 (zT τ), xI g tb 49 (zI τ), cO od vb n1 n2 nm en]) (wn := fun (u : Unit) => [cX x nw sn tk hs tx tr, cR nw na nb σ, xI g na 49 (zT σ), xI g nb 49 (zI σ), cH hs hq kn, xQ g hq 4 (rq ρ), cR (ρ 0) (α 0) (β 0) (γ 0), xI g (α 0) 49 (zT (γ 0)), xI g (β 0) 49 (zI (γ 0)), cR (ρ 1) (α 1) (β 1) (γ 1), xI g (α 1) 49 (zT (γ 1)), xI g (β 1) 49 (zI (γ 1)), cR (ρ 2) (α 2) (β 2) (γ 2), xI g (α 2) 49 (zT (γ 2)), xI g (β 2) 49 (zI (γ 2)), cR (ρ 3) (α 3) (β 3) (γ 3), xI g (α 3) 49 (zT (γ 3)), xI g (β 3) 49 (zI (γ 3)), cT tx ch L, xC g ch 60 T, cTr tr tw od os po re ca, cR tw ta tb τ, xI g ta 49 (zT τ), xI g tb 49 (zI τ), cO od vb n1 n2 nm en]) F w [0] [1, 2, 3, 4, 5, 6, 7, 8, 9, 10, 11, 12, 13, 14, 15, 16, 17, 18, 19, 20, 21, 22, 23, 24] [24, 0, 1, 2, 3, 4, 5, 6, 7, 8, 9, 10, 11, 12, 13, 14, 15, 16, 17, 18, 19, 20, 21, 22, 23] rfl rfl rfl (fun _ => rfl)
              (fun hp => vx_runSW (As := [.ref x, .int (nI d9)]) (rest := []) F.1 (kL_turnDoor_A l hnl g x nw sn tk hs tx tr (nI d9) H.size (off_d (by omega) (by omega))) (vx_cwSW 2 hts gL_acts_L_turnDoor rfl rfl rfl hd_L_turnDoor ⟨Nat.le_of_ble_eq_true rfl, Nat.le_of_ble_eq_true rfl⟩) hp rfl rfl hl.1 rfl (lv_room (Nat.le_of_ble_eq_true rfl)) dL_acts_495 ⟨by show _ ≤ (60 : Nat); omega, by show _ ≤ (360 : Nat); omega⟩)
              (fun r_104 _ H locs h_105 w => ?_)
            subst h_105
            refine lv_iload hx hb dL_acts_498 (lv_at hl 7 rfl) ?_
            refine lv_if_eq (tgt := 508) hx hb dL_acts_500 (by decide) (fun h_106 => ?_) (fun h_106 => ?_)
            · exact absurd h_106 (by decide)
            refine lv_bipush (v := (-102)) hx hb dL_acts_503 (by decide) ?_
            refine lv_goto (tgt := 528) hx hb dL_acts_505 (by decide) ?_
            refine lv_icmp_ne (tgt := 580) hx hb dL_acts_528 (by decide) (fun h_107 => ?_) (fun h_107 => ?_)
            · exact absurd rfl h_107
            refine lv_aload_n hx hb dL_acts_531 rfl (lv_at hl 10 rfl) ?_
            refine kcalll (wc := [cX x nw sn tk hs tx tr, cR nw na nb σ, xI g na 49 (zT σ), xI g nb 49 (zI σ)]) (wr := [cH hs hq kn, xQ g hq 4 (rq ρ), cR (ρ 0) (α 0) (β 0) (γ 0), xI g (α 0) 49 (zT (γ 0)), xI g (β 0) 49 (zI (γ 0)), cR (ρ 1) (α 1) (β 1) (γ 1), xI g (α 1) 49 (zT (γ 1)), xI g (β 1) 49 (zI (γ 1)), cR (ρ 2) (α 2) (β 2) (γ 2), xI g (α 2) 49 (zT (γ 2)), xI g (β 2) 49 (zI (γ 2)), cR (ρ 3) (α 3) (β 3) (γ 3), xI g (α 3) 49 (zT (γ 3)), xI g (β 3) 49 (zI (γ 3)), cT tx ch L, xC g ch 60 T, cTr tr tw od os po re ca, cR tw ta tb τ, xI g ta 49 (zT τ), xI g tb 49 (zI τ), cO od vb n1 n2 nm en]) (wn := fun (u : Unit) => [cX x nw sn tk hs tx tr, cR nw na nb σ, xI g na 49 (zT σ), xI g nb 49 (zI σ), cH hs hq kn, xQ g hq 4 (rq ρ), cR (ρ 0) (α 0) (β 0) (γ 0), xI g (α 0) 49 (zT (γ 0)), xI g (β 0) 49 (zI (γ 0)), cR (ρ 1) (α 1) (β 1) (γ 1), xI g (α 1) 49 (zT (γ 1)), xI g (β 1) 49 (zI (γ 1)), cR (ρ 2) (α 2) (β 2) (γ 2), xI g (α 2) 49 (zT (γ 2)), xI g (β 2) 49 (zI (γ 2)), cR (ρ 3) (α 3) (β 3) (γ 3), xI g (α 3) 49 (zT (γ 3)), xI g (β 3) 49 (zI (γ 3)), cT tx ch L, xC g ch 60 T, cTr tr tw od os po re ca, cR tw ta tb τ, xI g ta 49 (zT τ), xI g tb 49 (zI τ), cO od vb n1 n2 nm en]) F w [0, 1, 2, 3] [4, 5, 6, 7, 8, 9, 10, 11, 12, 13, 14, 15, 16, 17, 18, 19, 20, 21, 22, 23, 24] [21, 22, 23, 24, 0, 1, 2, 3, 4, 5, 6, 7, 8, 9, 10, 11, 12, 13, 14, 15, 16, 17, 18, 19, 20] rfl rfl rfl (fun _ => rfl)
              (fun hp => va_runV (As := []) (rest := []) F.1 (kX5_openSet l g x nw sn tk hs tx tr na nb σ H.size ) (cwV 0 hts gL_acts_X5_openSet rfl rfl rfl ⟨rfl, hd_X5_openSet⟩ ⟨Nat.le_of_ble_eq_true rfl, Nat.le_of_ble_eq_true rfl⟩) ⟨hp.1, va_recv F.2.2.2.1.1 w.1 (q0 := 0) (ci := 5) rfl rfl, hp.2⟩ rfl rfl hl.1 rfl (lv_room (Nat.le_of_ble_eq_true rfl)) dL_acts_532 ⟨by show _ ≤ (60 : Nat); omega, by show _ ≤ (360 : Nat); omega⟩)
              (fun r_108 _ H locs h_109 w => ?_)
            subst h_109
            refine lv_iload hx hb dL_acts_535 (lv_at hl 0 rfl) ?_
            refine lv_if_eq (tgt := 550) hx hb dL_acts_537 (by decide) (fun h_110 => ?_) (fun h_110 => ?_)
            rotate_left 1
            · exact absurd rfl h_110
            refine lv_lload hx hb dL_acts_550 (lv_at hl 6 rfl) ?_
            refine W.lcmp hx hb dL_acts_552 ?_
            refine lv_if_ne (tgt := 580) hx hb dL_acts_553 (by decide) (fun h_111 => ?_) (fun h_111 => ?_)
            · exact absurd (lgc_eq.mpr rfl) h_111
            refine lv_aload_n hx hb dL_acts_556 rfl (lv_at hl 10 rfl) ?_
            refine kcalli (wc := [cX x nw sn tk hs tx tr, cR nw na nb σ, xI g na 49 (zT σ), xI g nb 49 (zI σ)]) (wr := [cH hs hq kn, xQ g hq 4 (rq ρ), cR (ρ 0) (α 0) (β 0) (γ 0), xI g (α 0) 49 (zT (γ 0)), xI g (β 0) 49 (zI (γ 0)), cR (ρ 1) (α 1) (β 1) (γ 1), xI g (α 1) 49 (zT (γ 1)), xI g (β 1) 49 (zI (γ 1)), cR (ρ 2) (α 2) (β 2) (γ 2), xI g (α 2) 49 (zT (γ 2)), xI g (β 2) 49 (zI (γ 2)), cR (ρ 3) (α 3) (β 3) (γ 3), xI g (α 3) 49 (zT (γ 3)), xI g (β 3) 49 (zI (γ 3)), cT tx ch L, xC g ch 60 T, cTr tr tw od os po re ca, cR tw ta tb τ, xI g ta 49 (zT τ), xI g tb 49 (zI τ), cO od vb n1 n2 nm en]) (wn := fun (u : Unit) => [cX x nw sn tk hs tx tr, cR nw na nb σ, xI g na 49 (zT σ), xI g nb 49 (zI σ), cH hs hq kn, xQ g hq 4 (rq ρ), cR (ρ 0) (α 0) (β 0) (γ 0), xI g (α 0) 49 (zT (γ 0)), xI g (β 0) 49 (zI (γ 0)), cR (ρ 1) (α 1) (β 1) (γ 1), xI g (α 1) 49 (zT (γ 1)), xI g (β 1) 49 (zI (γ 1)), cR (ρ 2) (α 2) (β 2) (γ 2), xI g (α 2) 49 (zT (γ 2)), xI g (β 2) 49 (zI (γ 2)), cR (ρ 3) (α 3) (β 3) (γ 3), xI g (α 3) 49 (zT (γ 3)), xI g (β 3) 49 (zI (γ 3)), cT tx ch L, xC g ch 60 T, cTr tr tw od os po re ca, cR tw ta tb τ, xI g ta 49 (zT τ), xI g tb 49 (zI τ), cO od vb n1 n2 nm en]) F w [0, 1, 2, 3] [4, 5, 6, 7, 8, 9, 10, 11, 12, 13, 14, 15, 16, 17, 18, 19, 20, 21, 22, 23, 24] [21, 22, 23, 24, 0, 1, 2, 3, 4, 5, 6, 7, 8, 9, 10, 11, 12, 13, 14, 15, 16, 17, 18, 19, 20] rfl rfl rfl (fun _ => rfl)
              (fun hp => va_runV (As := []) (rest := []) F.1 (kX5_turnsInAll l g x nw sn tk hs tx tr na nb σ H.size ) (cwV 0 hts gL_acts_X5_turnsInAll rfl rfl rfl ⟨rfl, hd_X5_turnsInAll⟩ ⟨Nat.le_of_ble_eq_true rfl, Nat.le_of_ble_eq_true rfl⟩) ⟨hp.1, va_recv F.2.2.2.1.1 w.1 (q0 := 0) (ci := 5) rfl rfl, hp.2⟩ rfl rfl hl.1 rfl (lv_room (Nat.le_of_ble_eq_true rfl)) dL_acts_557 ⟨by show _ ≤ (60 : Nat); omega, by show _ ≤ (360 : Nat); omega⟩)
              (fun r_112 _ H locs h_113 w => ?_)
            subst h_113
            refine ktopi (y := tA σ) (rfl) ?_
            refine lv_iload hx hb dL_acts_560 (lv_at hl 4 rfl) ?_
            refine lv_iload hx hb dL_acts_562 (lv_at hl 0 rfl) ?_
            refine lv_if_eq (tgt := 571) hx hb dL_acts_564 (by decide) (fun h_114 => ?_) (fun h_114 => ?_)
            rotate_left 1
            · exact absurd rfl h_114
            refine lv_iconst (v := nI 0) hx hb dL_acts_571 (by decide) ?_
            refine lv_iadd hx hb dL_acts_572 ?_
            refine ktopi (y := tA σ) (add_n0 _) ?_
            refine lv_icmp_ne (tgt := 580) hx hb dL_acts_573 (by decide) (fun h_115 => ?_) (fun h_115 => ?_)
            · exact absurd rfl h_115
            refine lv_iconst (v := nI 1) hx hb dL_acts_576 (by decide) ?_
            refine lv_goto (tgt := 581) hx hb dL_acts_577 (by decide) ?_
            refine ktopi (y := bI true) (by decide) ?_
            refine W.widen (k := 60) (n := 360) (by omega) (by omega) ?_
            subst hA
            subst hQ
            exact kretz F w (σ, kn, ρ, α, β, γ, L, T, os, po, re, ca, τ, vb, n1, n2, nm, en) [0, 1, 2, 3, 4, 5, 6, 7, 8, 9, 10, 11, 12, 13, 14, 15, 16, 17, 18, 19, 20, 21, 22, 23, 24] rfl rfl (⟨rfl, actP_0 hL⟩) (kz_n _) (Nat.le_of_ble_eq_true rfl) (Nat.le_of_ble_eq_true rfl) dL_acts_581
        · have h_17 : hw9 < 11 := (kc_ge_f (by omega) (by omega)).mp h_17
          have JN_116 : ∀ (t9 : Nat) (ht9 : t9 ≤ 97) (H : Heap) (locs : List Loc) (ls : Array Slot), kW g A s [cX x nw sn tk hs tx tr, cR nw na nb σ, xI g na 49 (zT σ), xI g nb 49 (zI σ), cH hs hq kn, xQ g hq 4 (rq ρ), cR (ρ 0) (α 0) (β 0) (γ 0), xI g (α 0) 49 (zT (γ 0)), xI g (β 0) 49 (zI (γ 0)), cR (ρ 1) (α 1) (β 1) (γ 1), xI g (α 1) 49 (zT (γ 1)), xI g (β 1) 49 (zI (γ 1)), cR (ρ 2) (α 2) (β 2) (γ 2), xI g (α 2) 49 (zT (γ 2)), xI g (β 2) 49 (zI (γ 2)), cR (ρ 3) (α 3) (β 3) (γ 3), xI g (α 3) 49 (zT (γ 3)), xI g (β 3) 49 (zI (γ 3)), cT tx ch L, xC g ch 60 T, cTr tr tw od os po re ca, cR tw ta tb τ, xI g ta 49 (zT τ), xI g tb 49 (zI τ), cO od vb n1 n2 nm en] H locs → lv_has ls 22 [(12, .int (nI (zcnt (kindP σ true) 48))), (11, .int (nI (zcnt (kindP σ false) 48))), (10, .int (tA σ)), (8, .long (zB (zL σ))), (6, .long (zB (zO σ))), (5, .int (bI true)), (4, .int (nI d9)), (3, .int (nI hw9)), (0, .ref x), (1, .int v), (2, .int yv)] → W p l e rmL_acts s m args below meth c H locs 0 0 Q (F0 m 270 ls [.int (nI t9)]) := by
            intro t9 ht9 H locs ls w hl
            refine lv_istore (lv' := [(13, .int (nI t9)), (12, .int (nI (zcnt (kindP σ true) 48))), (11, .int (nI (zcnt (kindP σ false) 48))), (10, .int (tA σ)), (8, .long (zB (zL σ))), (6, .long (zB (zO σ))), (5, .int (bI true)), (4, .int (nI d9)), (3, .int (nI hw9)), (0, .ref x), (1, .int v), (2, .int yv)]) hx hb dL_acts_270 hl (by decide) rfl (fun ls hl => ?_)
            have hbad : ¬ (1 ≤ d9 ∧ d9 ≤ t9 ∧ t9 ≤ 48) := by omega
            refine lv_iload hx hb dL_acts_272 (lv_at hl 6 rfl) ?_
            refine lv_if_ne (tgt := 291) hx hb dL_acts_274 (by decide) (fun h_117 => ?_) (fun h_117 => ?_)
            rotate_left 1
            · exact absurd h_117 (by decide)
            refine lv_iconst (v := nI 1) hx hb dL_acts_291 (by decide) ?_
            refine lv_goto (tgt := 296) hx hb dL_acts_292 (by decide) ?_
            refine ktopi (y := bI true) (by decide) ?_
            refine lv_istore (lv' := [(14, .int (bI true)), (13, .int (nI t9)), (12, .int (nI (zcnt (kindP σ true) 48))), (11, .int (nI (zcnt (kindP σ false) 48))), (10, .int (tA σ)), (8, .long (zB (zL σ))), (6, .long (zB (zO σ))), (5, .int (bI true)), (4, .int (nI d9)), (3, .int (nI hw9)), (0, .ref x), (1, .int v), (2, .int yv)]) hx hb dL_acts_296 hl (by decide) rfl (fun ls hl => ?_)
            refine lv_lload hx hb dL_acts_298 (lv_at hl 6 rfl) ?_
            refine lv_lstore (lv' := [(15, .long (zB (zO σ))), (14, .int (bI true)), (13, .int (nI t9)), (12, .int (nI (zcnt (kindP σ true) 48))), (11, .int (nI (zcnt (kindP σ false) 48))), (10, .int (tA σ)), (8, .long (zB (zL σ))), (6, .long (zB (zO σ))), (5, .int (bI true)), (4, .int (nI d9)), (3, .int (nI hw9)), (0, .ref x), (1, .int v), (2, .int yv)]) hx hb dL_acts_300 hl (by decide) rfl (fun ls hl => ?_)
            refine lv_iconst (v := nI 0) hx hb dL_acts_302 (by decide) ?_
            refine lv_istore (lv' := [(17, .int (nI 0)), (15, .long (zB (zO σ))), (14, .int (bI true)), (13, .int (nI t9)), (12, .int (nI (zcnt (kindP σ true) 48))), (11, .int (nI (zcnt (kindP σ false) 48))), (10, .int (tA σ)), (8, .long (zB (zL σ))), (6, .long (zB (zO σ))), (5, .int (bI true)), (4, .int (nI d9)), (3, .int (nI hw9)), (0, .ref x), (1, .int v), (2, .int yv)]) hx hb dL_acts_303 hl (by decide) rfl (fun ls hl => ?_)
            refine lv_iconst (v := nI 0) hx hb dL_acts_305 (by decide) ?_
            refine lv_istore (lv' := [(18, .int (nI 0)), (17, .int (nI 0)), (15, .long (zB (zO σ))), (14, .int (bI true)), (13, .int (nI t9)), (12, .int (nI (zcnt (kindP σ true) 48))), (11, .int (nI (zcnt (kindP σ false) 48))), (10, .int (tA σ)), (8, .long (zB (zL σ))), (6, .long (zB (zO σ))), (5, .int (bI true)), (4, .int (nI d9)), (3, .int (nI hw9)), (0, .ref x), (1, .int v), (2, .int yv)]) hx hb dL_acts_306 hl (by decide) rfl (fun ls hl => ?_)
            refine lv_iload hx hb dL_acts_308 (lv_at hl 11 rfl) ?_
            refine lv_istore (lv' := [(19, .int (nI d9)), (18, .int (nI 0)), (17, .int (nI 0)), (15, .long (zB (zO σ))), (14, .int (bI true)), (13, .int (nI t9)), (12, .int (nI (zcnt (kindP σ true) 48))), (11, .int (nI (zcnt (kindP σ false) 48))), (10, .int (tA σ)), (8, .long (zB (zL σ))), (6, .long (zB (zO σ))), (5, .int (bI true)), (4, .int (nI d9)), (3, .int (nI hw9)), (0, .ref x), (1, .int v), (2, .int yv)]) hx hb dL_acts_310 hl (by decide) rfl (fun ls hl => ?_)
            have JN_118 : ∀   (H : Heap) (locs : List Loc) (ls : Array Slot), kW g A s [cX x nw sn tk hs tx tr, cR nw na nb σ, xI g na 49 (zT σ), xI g nb 49 (zI σ), cH hs hq kn, xQ g hq 4 (rq ρ), cR (ρ 0) (α 0) (β 0) (γ 0), xI g (α 0) 49 (zT (γ 0)), xI g (β 0) 49 (zI (γ 0)), cR (ρ 1) (α 1) (β 1) (γ 1), xI g (α 1) 49 (zT (γ 1)), xI g (β 1) 49 (zI (γ 1)), cR (ρ 2) (α 2) (β 2) (γ 2), xI g (α 2) 49 (zT (γ 2)), xI g (β 2) 49 (zI (γ 2)), cR (ρ 3) (α 3) (β 3) (γ 3), xI g (α 3) 49 (zT (γ 3)), xI g (β 3) 49 (zI (γ 3)), cT tx ch L, xC g ch 60 T, cTr tr tw od os po re ca, cR tw ta tb τ, xI g ta 49 (zT τ), xI g tb 49 (zI τ), cO od vb n1 n2 nm en] H locs → lv_has ls 22 [(19, .int (nI d9)), (18, .int (nI 0)), (17, .int (nI 0)), (15, .long (zB (zO σ))), (14, .int (bI true)), (13, .int (nI t9)), (12, .int (nI (zcnt (kindP σ true) 48))), (11, .int (nI (zcnt (kindP σ false) 48))), (10, .int (tA σ)), (8, .long (zB (zL σ))), (6, .long (zB (zO σ))), (5, .int (bI true)), (4, .int (nI d9)), (3, .int (nI hw9)), (0, .ref x), (1, .int v), (2, .int yv)] → W p l e rmL_acts s m args below meth c H locs 0 0 Q (F0 m 393 ls []) := by
              intro   H locs ls w hl
              refine lv_aload_n hx hb dL_acts_393 rfl (lv_at hl 14 rfl) ?_
              refine lv_iload hx hb dL_acts_394 (lv_at hl 12 rfl) ?_
              refine lv_iload hx hb dL_acts_396 (lv_at hl 5 rfl) ?_
              refine kcalli (wc := [cX x nw sn tk hs tx tr]) (wr := [cR nw na nb σ, xI g na 49 (zT σ), xI g nb 49 (zI σ), cH hs hq kn, xQ g hq 4 (rq ρ), cR (ρ 0) (α 0) (β 0) (γ 0), xI g (α 0) 49 (zT (γ 0)), xI g (β 0) 49 (zI (γ 0)), cR (ρ 1) (α 1) (β 1) (γ 1), xI g (α 1) 49 (zT (γ 1)), xI g (β 1) 49 (zI (γ 1)), cR (ρ 2) (α 2) (β 2) (γ 2), xI g (α 2) 49 (zT (γ 2)), xI g (β 2) 49 (zI (γ 2)), cR (ρ 3) (α 3) (β 3) (γ 3), xI g (α 3) 49 (zT (γ 3)), xI g (β 3) 49 (zI (γ 3)), cT tx ch L, xC g ch 60 T, cTr tr tw od os po re ca, cR tw ta tb τ, xI g ta 49 (zT τ), xI g tb 49 (zI τ), cO od vb n1 n2 nm en]) (wn := fun (u : Unit) => [cX x nw sn tk hs tx tr, cR nw na nb σ, xI g na 49 (zT σ), xI g nb 49 (zI σ), cH hs hq kn, xQ g hq 4 (rq ρ), cR (ρ 0) (α 0) (β 0) (γ 0), xI g (α 0) 49 (zT (γ 0)), xI g (β 0) 49 (zI (γ 0)), cR (ρ 1) (α 1) (β 1) (γ 1), xI g (α 1) 49 (zT (γ 1)), xI g (β 1) 49 (zI (γ 1)), cR (ρ 2) (α 2) (β 2) (γ 2), xI g (α 2) 49 (zT (γ 2)), xI g (β 2) 49 (zI (γ 2)), cR (ρ 3) (α 3) (β 3) (γ 3), xI g (α 3) 49 (zT (γ 3)), xI g (β 3) 49 (zI (γ 3)), cT tx ch L, xC g ch 60 T, cTr tr tw od os po re ca, cR tw ta tb τ, xI g ta 49 (zT τ), xI g tb 49 (zI τ), cO od vb n1 n2 nm en]) F w [0] [1, 2, 3, 4, 5, 6, 7, 8, 9, 10, 11, 12, 13, 14, 15, 16, 17, 18, 19, 20, 21, 22, 23, 24] [24, 0, 1, 2, 3, 4, 5, 6, 7, 8, 9, 10, 11, 12, 13, 14, 15, 16, 17, 18, 19, 20, 21, 22, 23] rfl rfl rfl (fun _ => rfl)
                (fun hp => vx_runSW (As := [.ref x, .int (nI d9), .int (nI t9)]) (rest := []) F.1 (kL_passRow_A l hnl g x nw sn tk hs tx tr (nI d9) (nI t9) H.size (off_r (by omega) (by omega) hbad)) (vx_cwSW 3 hts gL_acts_L_passRow rfl rfl rfl hd_L_passRow ⟨Nat.le_of_ble_eq_true rfl, Nat.le_of_ble_eq_true rfl⟩) hp rfl rfl hl.1 rfl (lv_room (Nat.le_of_ble_eq_true rfl)) dL_acts_398 ⟨by show _ ≤ (60 : Nat); omega, by show _ ≤ (360 : Nat); omega⟩)
                (fun r_119 _ H locs h_120 w => ?_)
              subst h_120
              refine lv_iload hx hb dL_acts_401 (lv_at hl 4 rfl) ?_
              refine lv_if_eq (tgt := 411) hx hb dL_acts_403 (by decide) (fun h_121 => ?_) (fun h_121 => ?_)
              · exact absurd h_121 (by decide)
              refine lv_bipush (v := (-102)) hx hb dL_acts_406 (by decide) ?_
              refine lv_goto (tgt := 413) hx hb dL_acts_408 (by decide) ?_
              refine lv_icmp_ne (tgt := 442) hx hb dL_acts_413 (by decide) (fun h_122 => ?_) (fun h_122 => ?_)
              · exact absurd rfl h_122
              refine lv_aload_n hx hb dL_acts_416 rfl (lv_at hl 14 rfl) ?_
              refine kcalll (wc := [cX x nw sn tk hs tx tr, cR nw na nb σ, xI g na 49 (zT σ), xI g nb 49 (zI σ)]) (wr := [cH hs hq kn, xQ g hq 4 (rq ρ), cR (ρ 0) (α 0) (β 0) (γ 0), xI g (α 0) 49 (zT (γ 0)), xI g (β 0) 49 (zI (γ 0)), cR (ρ 1) (α 1) (β 1) (γ 1), xI g (α 1) 49 (zT (γ 1)), xI g (β 1) 49 (zI (γ 1)), cR (ρ 2) (α 2) (β 2) (γ 2), xI g (α 2) 49 (zT (γ 2)), xI g (β 2) 49 (zI (γ 2)), cR (ρ 3) (α 3) (β 3) (γ 3), xI g (α 3) 49 (zT (γ 3)), xI g (β 3) 49 (zI (γ 3)), cT tx ch L, xC g ch 60 T, cTr tr tw od os po re ca, cR tw ta tb τ, xI g ta 49 (zT τ), xI g tb 49 (zI τ), cO od vb n1 n2 nm en]) (wn := fun (u : Unit) => [cX x nw sn tk hs tx tr, cR nw na nb σ, xI g na 49 (zT σ), xI g nb 49 (zI σ), cH hs hq kn, xQ g hq 4 (rq ρ), cR (ρ 0) (α 0) (β 0) (γ 0), xI g (α 0) 49 (zT (γ 0)), xI g (β 0) 49 (zI (γ 0)), cR (ρ 1) (α 1) (β 1) (γ 1), xI g (α 1) 49 (zT (γ 1)), xI g (β 1) 49 (zI (γ 1)), cR (ρ 2) (α 2) (β 2) (γ 2), xI g (α 2) 49 (zT (γ 2)), xI g (β 2) 49 (zI (γ 2)), cR (ρ 3) (α 3) (β 3) (γ 3), xI g (α 3) 49 (zT (γ 3)), xI g (β 3) 49 (zI (γ 3)), cT tx ch L, xC g ch 60 T, cTr tr tw od os po re ca, cR tw ta tb τ, xI g ta 49 (zT τ), xI g tb 49 (zI τ), cO od vb n1 n2 nm en]) F w [0, 1, 2, 3] [4, 5, 6, 7, 8, 9, 10, 11, 12, 13, 14, 15, 16, 17, 18, 19, 20, 21, 22, 23, 24] [21, 22, 23, 24, 0, 1, 2, 3, 4, 5, 6, 7, 8, 9, 10, 11, 12, 13, 14, 15, 16, 17, 18, 19, 20] rfl rfl rfl (fun _ => rfl)
                (fun hp => va_runV (As := []) (rest := []) F.1 (kX5_openSet l g x nw sn tk hs tx tr na nb σ H.size ) (cwV 0 hts gL_acts_X5_openSet rfl rfl rfl ⟨rfl, hd_X5_openSet⟩ ⟨Nat.le_of_ble_eq_true rfl, Nat.le_of_ble_eq_true rfl⟩) ⟨hp.1, va_recv F.2.2.2.1.1 w.1 (q0 := 0) (ci := 5) rfl rfl, hp.2⟩ rfl rfl hl.1 rfl (lv_room (Nat.le_of_ble_eq_true rfl)) dL_acts_417 ⟨by show _ ≤ (60 : Nat); omega, by show _ ≤ (360 : Nat); omega⟩)
                (fun r_123 _ H locs h_124 w => ?_)
              subst h_124
              refine lv_lload hx hb dL_acts_420 (lv_at hl 3 rfl) ?_
              refine W.lcmp hx hb dL_acts_422 ?_
              refine lv_if_ne (tgt := 442) hx hb dL_acts_423 (by decide) (fun h_125 => ?_) (fun h_125 => ?_)
              · exact absurd (lgc_eq.mpr rfl) h_125
              refine lv_aload_n hx hb dL_acts_426 rfl (lv_at hl 14 rfl) ?_
              refine kcalli (wc := [cX x nw sn tk hs tx tr, cR nw na nb σ, xI g na 49 (zT σ), xI g nb 49 (zI σ)]) (wr := [cH hs hq kn, xQ g hq 4 (rq ρ), cR (ρ 0) (α 0) (β 0) (γ 0), xI g (α 0) 49 (zT (γ 0)), xI g (β 0) 49 (zI (γ 0)), cR (ρ 1) (α 1) (β 1) (γ 1), xI g (α 1) 49 (zT (γ 1)), xI g (β 1) 49 (zI (γ 1)), cR (ρ 2) (α 2) (β 2) (γ 2), xI g (α 2) 49 (zT (γ 2)), xI g (β 2) 49 (zI (γ 2)), cR (ρ 3) (α 3) (β 3) (γ 3), xI g (α 3) 49 (zT (γ 3)), xI g (β 3) 49 (zI (γ 3)), cT tx ch L, xC g ch 60 T, cTr tr tw od os po re ca, cR tw ta tb τ, xI g ta 49 (zT τ), xI g tb 49 (zI τ), cO od vb n1 n2 nm en]) (wn := fun (u : Unit) => [cX x nw sn tk hs tx tr, cR nw na nb σ, xI g na 49 (zT σ), xI g nb 49 (zI σ), cH hs hq kn, xQ g hq 4 (rq ρ), cR (ρ 0) (α 0) (β 0) (γ 0), xI g (α 0) 49 (zT (γ 0)), xI g (β 0) 49 (zI (γ 0)), cR (ρ 1) (α 1) (β 1) (γ 1), xI g (α 1) 49 (zT (γ 1)), xI g (β 1) 49 (zI (γ 1)), cR (ρ 2) (α 2) (β 2) (γ 2), xI g (α 2) 49 (zT (γ 2)), xI g (β 2) 49 (zI (γ 2)), cR (ρ 3) (α 3) (β 3) (γ 3), xI g (α 3) 49 (zT (γ 3)), xI g (β 3) 49 (zI (γ 3)), cT tx ch L, xC g ch 60 T, cTr tr tw od os po re ca, cR tw ta tb τ, xI g ta 49 (zT τ), xI g tb 49 (zI τ), cO od vb n1 n2 nm en]) F w [0, 1, 2, 3] [4, 5, 6, 7, 8, 9, 10, 11, 12, 13, 14, 15, 16, 17, 18, 19, 20, 21, 22, 23, 24] [21, 22, 23, 24, 0, 1, 2, 3, 4, 5, 6, 7, 8, 9, 10, 11, 12, 13, 14, 15, 16, 17, 18, 19, 20] rfl rfl rfl (fun _ => rfl)
                (fun hp => va_runV (As := []) (rest := []) F.1 (kX5_turnsInAll l g x nw sn tk hs tx tr na nb σ H.size ) (cwV 0 hts gL_acts_X5_turnsInAll rfl rfl rfl ⟨rfl, hd_X5_turnsInAll⟩ ⟨Nat.le_of_ble_eq_true rfl, Nat.le_of_ble_eq_true rfl⟩) ⟨hp.1, va_recv F.2.2.2.1.1 w.1 (q0 := 0) (ci := 5) rfl rfl, hp.2⟩ rfl rfl hl.1 rfl (lv_room (Nat.le_of_ble_eq_true rfl)) dL_acts_427 ⟨by show _ ≤ (60 : Nat); omega, by show _ ≤ (360 : Nat); omega⟩)
                (fun r_126 _ H locs h_127 w => ?_)
              subst h_127
              refine ktopi (y := tA σ) (rfl) ?_
              refine lv_iload hx hb dL_acts_430 (lv_at hl 8 rfl) ?_
              refine lv_iload hx hb dL_acts_432 (lv_at hl 1 rfl) ?_
              refine lv_iadd hx hb dL_acts_434 ?_
              refine ktopi (y := tA σ) (add_n0 _) ?_
              refine lv_icmp_ne (tgt := 442) hx hb dL_acts_435 (by decide) (fun h_128 => ?_) (fun h_128 => ?_)
              · exact absurd rfl h_128
              refine lv_iconst (v := nI 1) hx hb dL_acts_438 (by decide) ?_
              refine lv_goto (tgt := 443) hx hb dL_acts_439 (by decide) ?_
              refine ktopi (y := bI true) (by decide) ?_
              refine W.widen (k := 60) (n := 360) (by omega) (by omega) ?_
              subst hA
              subst hQ
              exact kretz F w (σ, kn, ρ, α, β, γ, L, T, os, po, re, ca, τ, vb, n1, n2, nm, en) [0, 1, 2, 3, 4, 5, 6, 7, 8, 9, 10, 11, 12, 13, 14, 15, 16, 17, 18, 19, 20, 21, 22, 23, 24] rfl rfl (⟨rfl, actP_0 hL⟩) (kz_n _) (Nat.le_of_ble_eq_true rfl) (Nat.le_of_ble_eq_true rfl) dL_acts_443
            refine lv_iload hx hb dL_acts_312 (lv_at hl 0 rfl) ?_
            refine lv_iload hx hb dL_acts_314 (lv_at hl 5 rfl) ?_
            refine lv_icmp_gt (tgt := 393) hx hb dL_acts_316 (by decide) (fun h_129 => ?_) (fun h_129 => ?_)
            · have h_129 : d9 > t9 := (kc_gt_t (by omega) (by omega)).mp h_129
              exact JN_118   _ _ _ (kW.perm w [0, 1, 2, 3, 4, 5, 6, 7, 8, 9, 10, 11, 12, 13, 14, 15, 16, 17, 18, 19, 20, 21, 22, 23, 24] rfl rfl) (lv_sub hl [0, 1, 2, 3, 4, 5, 6, 7, 8, 9, 10, 11, 12, 13, 14, 15, 16] rfl)
            · have h_129 : d9 ≤ t9 := (kc_gt_f (by omega) (by omega)).mp h_129
              refine lv_iload hx hb dL_acts_319 (lv_at hl 4 rfl) ?_
              refine lv_if_ne (tgt := 393) hx hb dL_acts_321 (by decide) (fun h_130 => ?_) (fun h_130 => ?_)
              rotate_left 1
              · exact absurd h_130 (by decide)
              exact JN_118   _ _ _ (kW.perm w [0, 1, 2, 3, 4, 5, 6, 7, 8, 9, 10, 11, 12, 13, 14, 15, 16, 17, 18, 19, 20, 21, 22, 23, 24] rfl rfl) (lv_sub hl [0, 1, 2, 3, 4, 5, 6, 7, 8, 9, 10, 11, 12, 13, 14, 15, 16] rfl)
          refine lv_iload_n hx hb dL_acts_223 rfl (lv_at hl 10 rfl) ?_
          refine lv_bipush (v := nI 11) hx hb dL_acts_224 (by decide) ?_
          refine lv_ishr hx hb dL_acts_226 ?_
          refine lv_bipush (v := nI 14) hx hb dL_acts_227 (by decide) ?_
          have lw_131 := lowN_lt (yv >>> ((nI 11) &&& 31)) (n := 14) (by omega)
          refine kcalli (wc := []) (wr := [cX x nw sn tk hs tx tr, cR nw na nb σ, xI g na 49 (zT σ), xI g nb 49 (zI σ), cH hs hq kn, xQ g hq 4 (rq ρ), cR (ρ 0) (α 0) (β 0) (γ 0), xI g (α 0) 49 (zT (γ 0)), xI g (β 0) 49 (zI (γ 0)), cR (ρ 1) (α 1) (β 1) (γ 1), xI g (α 1) 49 (zT (γ 1)), xI g (β 1) 49 (zI (γ 1)), cR (ρ 2) (α 2) (β 2) (γ 2), xI g (α 2) 49 (zT (γ 2)), xI g (β 2) 49 (zI (γ 2)), cR (ρ 3) (α 3) (β 3) (γ 3), xI g (α 3) 49 (zT (γ 3)), xI g (β 3) 49 (zI (γ 3)), cT tx ch L, xC g ch 60 T, cTr tr tw od os po re ca, cR tw ta tb τ, xI g ta 49 (zT τ), xI g tb 49 (zI τ), cO od vb n1 n2 nm en]) (wn := fun (u : Unit) => [cX x nw sn tk hs tx tr, cR nw na nb σ, xI g na 49 (zT σ), xI g nb 49 (zI σ), cH hs hq kn, xQ g hq 4 (rq ρ), cR (ρ 0) (α 0) (β 0) (γ 0), xI g (α 0) 49 (zT (γ 0)), xI g (β 0) 49 (zI (γ 0)), cR (ρ 1) (α 1) (β 1) (γ 1), xI g (α 1) 49 (zT (γ 1)), xI g (β 1) 49 (zI (γ 1)), cR (ρ 2) (α 2) (β 2) (γ 2), xI g (α 2) 49 (zT (γ 2)), xI g (β 2) 49 (zI (γ 2)), cR (ρ 3) (α 3) (β 3) (γ 3), xI g (α 3) 49 (zT (γ 3)), xI g (β 3) 49 (zI (γ 3)), cT tx ch L, xC g ch 60 T, cTr tr tw od os po re ca, cR tw ta tb τ, xI g ta 49 (zT τ), xI g tb 49 (zI τ), cO od vb n1 n2 nm en]) F w [] [0, 1, 2, 3, 4, 5, 6, 7, 8, 9, 10, 11, 12, 13, 14, 15, 16, 17, 18, 19, 20, 21, 22, 23, 24] [0, 1, 2, 3, 4, 5, 6, 7, 8, 9, 10, 11, 12, 13, 14, 15, 16, 17, 18, 19, 20, 21, 22, 23, 24] rfl rfl rfl (fun _ => rfl)
            (fun hp => va_runS (As := [.int (yv >>> ((nI 11) &&& 31)), .int (nI 14)]) (rest := []) F.1 (kL_low l g (yv >>> ((nI 11) &&& 31)) 14 H.size (by omega)) (va_cwS 2 hts gL_acts_L_low rfl rfl rfl hd_L_low ⟨Nat.le_of_ble_eq_true rfl, Nat.le_of_ble_eq_true rfl⟩) hp rfl rfl hl.1 rfl (lv_room (Nat.le_of_ble_eq_true rfl)) dL_acts_229 ⟨by show _ ≤ (60 : Nat); omega, by show _ ≤ (360 : Nat); omega⟩)
            (fun r_132 _ H locs h_133 w => ?_)
          subst h_133
          refine lv_if_ne (tgt := 246) hx hb dL_acts_232 (by decide) (fun h_134 => ?_) (fun h_134 => ?_)
          · have h_134 : lowN (yv >>> ((nI 11) &&& 31)) 14 ≠ 0 := (kc0_ne_t (by omega)).mp h_134
            refine lv_iload hx hb dL_acts_246 (lv_at hl 5 rfl) ?_
            refine lv_if_eq (tgt := 256) hx hb dL_acts_248 (by decide) (fun h_135 => ?_) (fun h_135 => ?_)
            · exact absurd h_135 (by decide)
            refine lv_iload hx hb dL_acts_251 (lv_at hl 6 rfl) ?_
            refine lv_goto (tgt := 270) hx hb dL_acts_253 (by decide) ?_
            exact JN_116 d9 (by omega) _ _ _ (kW.perm w [0, 1, 2, 3, 4, 5, 6, 7, 8, 9, 10, 11, 12, 13, 14, 15, 16, 17, 18, 19, 20, 21, 22, 23, 24] rfl rfl) (lv_sub hl [0, 1, 2, 3, 4, 5, 6, 7, 8, 9, 10] rfl)
          · have h_134 : lowN (yv >>> ((nI 11) &&& 31)) 14 = 0 := (kc0_ne_f (by omega)).mp h_134
            refine lv_iload_n hx hb dL_acts_235 rfl (lv_at hl 10 rfl) ?_
            refine lv_iconst (v := nI 5) hx hb dL_acts_236 (by decide) ?_
            refine lv_ishr hx hb dL_acts_237 ?_
            refine lv_bipush (v := nI 51) hx hb dL_acts_238 (by decide) ?_
            have lw_136 := lowN_lt (yv >>> ((nI 5) &&& 31)) (n := 51) (by omega)
            refine kcalli (wc := []) (wr := [cX x nw sn tk hs tx tr, cR nw na nb σ, xI g na 49 (zT σ), xI g nb 49 (zI σ), cH hs hq kn, xQ g hq 4 (rq ρ), cR (ρ 0) (α 0) (β 0) (γ 0), xI g (α 0) 49 (zT (γ 0)), xI g (β 0) 49 (zI (γ 0)), cR (ρ 1) (α 1) (β 1) (γ 1), xI g (α 1) 49 (zT (γ 1)), xI g (β 1) 49 (zI (γ 1)), cR (ρ 2) (α 2) (β 2) (γ 2), xI g (α 2) 49 (zT (γ 2)), xI g (β 2) 49 (zI (γ 2)), cR (ρ 3) (α 3) (β 3) (γ 3), xI g (α 3) 49 (zT (γ 3)), xI g (β 3) 49 (zI (γ 3)), cT tx ch L, xC g ch 60 T, cTr tr tw od os po re ca, cR tw ta tb τ, xI g ta 49 (zT τ), xI g tb 49 (zI τ), cO od vb n1 n2 nm en]) (wn := fun (u : Unit) => [cX x nw sn tk hs tx tr, cR nw na nb σ, xI g na 49 (zT σ), xI g nb 49 (zI σ), cH hs hq kn, xQ g hq 4 (rq ρ), cR (ρ 0) (α 0) (β 0) (γ 0), xI g (α 0) 49 (zT (γ 0)), xI g (β 0) 49 (zI (γ 0)), cR (ρ 1) (α 1) (β 1) (γ 1), xI g (α 1) 49 (zT (γ 1)), xI g (β 1) 49 (zI (γ 1)), cR (ρ 2) (α 2) (β 2) (γ 2), xI g (α 2) 49 (zT (γ 2)), xI g (β 2) 49 (zI (γ 2)), cR (ρ 3) (α 3) (β 3) (γ 3), xI g (α 3) 49 (zT (γ 3)), xI g (β 3) 49 (zI (γ 3)), cT tx ch L, xC g ch 60 T, cTr tr tw od os po re ca, cR tw ta tb τ, xI g ta 49 (zT τ), xI g tb 49 (zI τ), cO od vb n1 n2 nm en]) F w [] [0, 1, 2, 3, 4, 5, 6, 7, 8, 9, 10, 11, 12, 13, 14, 15, 16, 17, 18, 19, 20, 21, 22, 23, 24] [0, 1, 2, 3, 4, 5, 6, 7, 8, 9, 10, 11, 12, 13, 14, 15, 16, 17, 18, 19, 20, 21, 22, 23, 24] rfl rfl rfl (fun _ => rfl)
              (fun hp => va_runS (As := [.int (yv >>> ((nI 5) &&& 31)), .int (nI 51)]) (rest := []) F.1 (kL_low l g (yv >>> ((nI 5) &&& 31)) 51 H.size (by omega)) (va_cwS 2 hts gL_acts_L_low rfl rfl rfl hd_L_low ⟨Nat.le_of_ble_eq_true rfl, Nat.le_of_ble_eq_true rfl⟩) hp rfl rfl hl.1 rfl (lv_room (Nat.le_of_ble_eq_true rfl)) dL_acts_240 ⟨by show _ ≤ (60 : Nat); omega, by show _ ≤ (360 : Nat); omega⟩)
              (fun r_137 _ H locs h_138 w => ?_)
            subst h_138
            refine lv_goto (tgt := 270) hx hb dL_acts_243 (by decide) ?_
            exact JN_116 (lowN (yv >>> ((nI 5) &&& 31)) 51) (by omega) _ _ _ (kW.perm w [0, 1, 2, 3, 4, 5, 6, 7, 8, 9, 10, 11, 12, 13, 14, 15, 16, 17, 18, 19, 20, 21, 22, 23, 24] rfl rfl) (lv_sub hl [0, 1, 2, 3, 4, 5, 6, 7, 8, 9, 10] rfl)
      · have h_16 : hw9 < 7 := (kc_ge_f (by omega) (by omega)).mp h_16
        refine lv_iload hx hb dL_acts_97 (lv_at hl 5 rfl) ?_
        refine lv_if_eq (tgt := 106) hx hb dL_acts_99 (by decide) (fun h_139 => ?_) (fun h_139 => ?_)
        · exact absurd h_139 (by decide)
        refine lv_iconst (v := nI 0) hx hb dL_acts_102 (by decide) ?_
        refine lv_goto (tgt := 112) hx hb dL_acts_103 (by decide) ?_
        refine lv_istore (lv' := [(13, .int (nI 0)), (12, .int (nI (zcnt (kindP σ true) 48))), (11, .int (nI (zcnt (kindP σ false) 48))), (10, .int (tA σ)), (8, .long (zB (zL σ))), (6, .long (zB (zO σ))), (5, .int (bI true)), (4, .int (nI d9)), (3, .int (nI hw9)), (0, .ref x), (1, .int v), (2, .int yv)]) hx hb dL_acts_112 hl (by decide) rfl (fun ls hl => ?_)
        refine lv_iload hx hb dL_acts_114 (lv_at hl 6 rfl) ?_
        refine lv_if_eq (tgt := 124) hx hb dL_acts_116 (by decide) (fun h_140 => ?_) (fun h_140 => ?_)
        · exact absurd h_140 (by decide)
        refine lv_lload hx hb dL_acts_119 (lv_at hl 5 rfl) ?_
        refine lv_goto (tgt := 139) hx hb dL_acts_121 (by decide) ?_
        refine lv_lstore (lv' := [(14, .long (zB (zO σ))), (13, .int (nI 0)), (12, .int (nI (zcnt (kindP σ true) 48))), (11, .int (nI (zcnt (kindP σ false) 48))), (10, .int (tA σ)), (8, .long (zB (zL σ))), (6, .long (zB (zO σ))), (5, .int (bI true)), (4, .int (nI d9)), (3, .int (nI hw9)), (0, .ref x), (1, .int v), (2, .int yv)]) hx hb dL_acts_139 hl (by decide) rfl (fun ls hl => ?_)
        refine lv_aload_n hx hb dL_acts_141 rfl (lv_at hl 10 rfl) ?_
        refine lv_iload hx hb dL_acts_142 (lv_at hl 8 rfl) ?_
        refine kcalli (wc := [cX x nw sn tk hs tx tr]) (wr := [cR nw na nb σ, xI g na 49 (zT σ), xI g nb 49 (zI σ), cH hs hq kn, xQ g hq 4 (rq ρ), cR (ρ 0) (α 0) (β 0) (γ 0), xI g (α 0) 49 (zT (γ 0)), xI g (β 0) 49 (zI (γ 0)), cR (ρ 1) (α 1) (β 1) (γ 1), xI g (α 1) 49 (zT (γ 1)), xI g (β 1) 49 (zI (γ 1)), cR (ρ 2) (α 2) (β 2) (γ 2), xI g (α 2) 49 (zT (γ 2)), xI g (β 2) 49 (zI (γ 2)), cR (ρ 3) (α 3) (β 3) (γ 3), xI g (α 3) 49 (zT (γ 3)), xI g (β 3) 49 (zI (γ 3)), cT tx ch L, xC g ch 60 T, cTr tr tw od os po re ca, cR tw ta tb τ, xI g ta 49 (zT τ), xI g tb 49 (zI τ), cO od vb n1 n2 nm en]) (wn := fun (u : Unit) => [cX x nw sn tk hs tx tr, cR nw na nb σ, xI g na 49 (zT σ), xI g nb 49 (zI σ), cH hs hq kn, xQ g hq 4 (rq ρ), cR (ρ 0) (α 0) (β 0) (γ 0), xI g (α 0) 49 (zT (γ 0)), xI g (β 0) 49 (zI (γ 0)), cR (ρ 1) (α 1) (β 1) (γ 1), xI g (α 1) 49 (zT (γ 1)), xI g (β 1) 49 (zI (γ 1)), cR (ρ 2) (α 2) (β 2) (γ 2), xI g (α 2) 49 (zT (γ 2)), xI g (β 2) 49 (zI (γ 2)), cR (ρ 3) (α 3) (β 3) (γ 3), xI g (α 3) 49 (zT (γ 3)), xI g (β 3) 49 (zI (γ 3)), cT tx ch L, xC g ch 60 T, cTr tr tw od os po re ca, cR tw ta tb τ, xI g ta 49 (zT τ), xI g tb 49 (zI τ), cO od vb n1 n2 nm en]) F w [0] [1, 2, 3, 4, 5, 6, 7, 8, 9, 10, 11, 12, 13, 14, 15, 16, 17, 18, 19, 20, 21, 22, 23, 24] [24, 0, 1, 2, 3, 4, 5, 6, 7, 8, 9, 10, 11, 12, 13, 14, 15, 16, 17, 18, 19, 20, 21, 22, 23] rfl rfl rfl (fun _ => rfl)
          (fun hp => vx_runSW (As := [.ref x, .int (nI d9)]) (rest := []) F.1 (kL_pass_A l hnl g x nw sn tk hs tx tr (nI d9) H.size (off_d (by omega) (by omega))) (vx_cwSW 2 hts gL_acts_L_pass rfl rfl rfl hd_L_pass ⟨Nat.le_of_ble_eq_true rfl, Nat.le_of_ble_eq_true rfl⟩) hp rfl rfl hl.1 rfl (lv_room (Nat.le_of_ble_eq_true rfl)) dL_acts_144 ⟨by show _ ≤ (60 : Nat); omega, by show _ ≤ (360 : Nat); omega⟩)
          (fun r_141 _ H locs h_142 w => ?_)
        subst h_142
        refine lv_iload hx hb dL_acts_147 (lv_at hl 7 rfl) ?_
        refine lv_if_eq (tgt := 157) hx hb dL_acts_149 (by decide) (fun h_143 => ?_) (fun h_143 => ?_)
        · exact absurd h_143 (by decide)
        refine lv_bipush (v := (-102)) hx hb dL_acts_152 (by decide) ?_
        refine lv_goto (tgt := 162) hx hb dL_acts_154 (by decide) ?_
        refine lv_icmp_ne (tgt := 215) hx hb dL_acts_162 (by decide) (fun h_144 => ?_) (fun h_144 => ?_)
        · exact absurd rfl h_144
        refine lv_aload_n hx hb dL_acts_165 rfl (lv_at hl 10 rfl) ?_
        refine kcalll (wc := [cX x nw sn tk hs tx tr, cR nw na nb σ, xI g na 49 (zT σ), xI g nb 49 (zI σ)]) (wr := [cH hs hq kn, xQ g hq 4 (rq ρ), cR (ρ 0) (α 0) (β 0) (γ 0), xI g (α 0) 49 (zT (γ 0)), xI g (β 0) 49 (zI (γ 0)), cR (ρ 1) (α 1) (β 1) (γ 1), xI g (α 1) 49 (zT (γ 1)), xI g (β 1) 49 (zI (γ 1)), cR (ρ 2) (α 2) (β 2) (γ 2), xI g (α 2) 49 (zT (γ 2)), xI g (β 2) 49 (zI (γ 2)), cR (ρ 3) (α 3) (β 3) (γ 3), xI g (α 3) 49 (zT (γ 3)), xI g (β 3) 49 (zI (γ 3)), cT tx ch L, xC g ch 60 T, cTr tr tw od os po re ca, cR tw ta tb τ, xI g ta 49 (zT τ), xI g tb 49 (zI τ), cO od vb n1 n2 nm en]) (wn := fun (u : Unit) => [cX x nw sn tk hs tx tr, cR nw na nb σ, xI g na 49 (zT σ), xI g nb 49 (zI σ), cH hs hq kn, xQ g hq 4 (rq ρ), cR (ρ 0) (α 0) (β 0) (γ 0), xI g (α 0) 49 (zT (γ 0)), xI g (β 0) 49 (zI (γ 0)), cR (ρ 1) (α 1) (β 1) (γ 1), xI g (α 1) 49 (zT (γ 1)), xI g (β 1) 49 (zI (γ 1)), cR (ρ 2) (α 2) (β 2) (γ 2), xI g (α 2) 49 (zT (γ 2)), xI g (β 2) 49 (zI (γ 2)), cR (ρ 3) (α 3) (β 3) (γ 3), xI g (α 3) 49 (zT (γ 3)), xI g (β 3) 49 (zI (γ 3)), cT tx ch L, xC g ch 60 T, cTr tr tw od os po re ca, cR tw ta tb τ, xI g ta 49 (zT τ), xI g tb 49 (zI τ), cO od vb n1 n2 nm en]) F w [0, 1, 2, 3] [4, 5, 6, 7, 8, 9, 10, 11, 12, 13, 14, 15, 16, 17, 18, 19, 20, 21, 22, 23, 24] [21, 22, 23, 24, 0, 1, 2, 3, 4, 5, 6, 7, 8, 9, 10, 11, 12, 13, 14, 15, 16, 17, 18, 19, 20] rfl rfl rfl (fun _ => rfl)
          (fun hp => va_runV (As := []) (rest := []) F.1 (kX5_openSet l g x nw sn tk hs tx tr na nb σ H.size ) (cwV 0 hts gL_acts_X5_openSet rfl rfl rfl ⟨rfl, hd_X5_openSet⟩ ⟨Nat.le_of_ble_eq_true rfl, Nat.le_of_ble_eq_true rfl⟩) ⟨hp.1, va_recv F.2.2.2.1.1 w.1 (q0 := 0) (ci := 5) rfl rfl, hp.2⟩ rfl rfl hl.1 rfl (lv_room (Nat.le_of_ble_eq_true rfl)) dL_acts_166 ⟨by show _ ≤ (60 : Nat); omega, by show _ ≤ (360 : Nat); omega⟩)
          (fun r_145 _ H locs h_146 w => ?_)
        subst h_146
        refine lv_lload hx hb dL_acts_169 (lv_at hl 0 rfl) ?_
        refine W.lcmp hx hb dL_acts_171 ?_
        refine lv_if_ne (tgt := 215) hx hb dL_acts_172 (by decide) (fun h_147 => ?_) (fun h_147 => ?_)
        · exact absurd (lgc_eq.mpr rfl) h_147
        refine lv_aload_n hx hb dL_acts_175 rfl (lv_at hl 10 rfl) ?_
        refine kcalli (wc := [cX x nw sn tk hs tx tr, cR nw na nb σ, xI g na 49 (zT σ), xI g nb 49 (zI σ)]) (wr := [cH hs hq kn, xQ g hq 4 (rq ρ), cR (ρ 0) (α 0) (β 0) (γ 0), xI g (α 0) 49 (zT (γ 0)), xI g (β 0) 49 (zI (γ 0)), cR (ρ 1) (α 1) (β 1) (γ 1), xI g (α 1) 49 (zT (γ 1)), xI g (β 1) 49 (zI (γ 1)), cR (ρ 2) (α 2) (β 2) (γ 2), xI g (α 2) 49 (zT (γ 2)), xI g (β 2) 49 (zI (γ 2)), cR (ρ 3) (α 3) (β 3) (γ 3), xI g (α 3) 49 (zT (γ 3)), xI g (β 3) 49 (zI (γ 3)), cT tx ch L, xC g ch 60 T, cTr tr tw od os po re ca, cR tw ta tb τ, xI g ta 49 (zT τ), xI g tb 49 (zI τ), cO od vb n1 n2 nm en]) (wn := fun (u : Unit) => [cX x nw sn tk hs tx tr, cR nw na nb σ, xI g na 49 (zT σ), xI g nb 49 (zI σ), cH hs hq kn, xQ g hq 4 (rq ρ), cR (ρ 0) (α 0) (β 0) (γ 0), xI g (α 0) 49 (zT (γ 0)), xI g (β 0) 49 (zI (γ 0)), cR (ρ 1) (α 1) (β 1) (γ 1), xI g (α 1) 49 (zT (γ 1)), xI g (β 1) 49 (zI (γ 1)), cR (ρ 2) (α 2) (β 2) (γ 2), xI g (α 2) 49 (zT (γ 2)), xI g (β 2) 49 (zI (γ 2)), cR (ρ 3) (α 3) (β 3) (γ 3), xI g (α 3) 49 (zT (γ 3)), xI g (β 3) 49 (zI (γ 3)), cT tx ch L, xC g ch 60 T, cTr tr tw od os po re ca, cR tw ta tb τ, xI g ta 49 (zT τ), xI g tb 49 (zI τ), cO od vb n1 n2 nm en]) F w [0, 1, 2, 3] [4, 5, 6, 7, 8, 9, 10, 11, 12, 13, 14, 15, 16, 17, 18, 19, 20, 21, 22, 23, 24] [21, 22, 23, 24, 0, 1, 2, 3, 4, 5, 6, 7, 8, 9, 10, 11, 12, 13, 14, 15, 16, 17, 18, 19, 20] rfl rfl rfl (fun _ => rfl)
          (fun hp => va_runV (As := []) (rest := []) F.1 (kX5_turnsInAll l g x nw sn tk hs tx tr na nb σ H.size ) (cwV 0 hts gL_acts_X5_turnsInAll rfl rfl rfl ⟨rfl, hd_X5_turnsInAll⟩ ⟨Nat.le_of_ble_eq_true rfl, Nat.le_of_ble_eq_true rfl⟩) ⟨hp.1, va_recv F.2.2.2.1.1 w.1 (q0 := 0) (ci := 5) rfl rfl, hp.2⟩ rfl rfl hl.1 rfl (lv_room (Nat.le_of_ble_eq_true rfl)) dL_acts_176 ⟨by show _ ≤ (60 : Nat); omega, by show _ ≤ (360 : Nat); omega⟩)
          (fun r_148 _ H locs h_149 w => ?_)
        subst h_149
        refine ktopi (y := tA σ) (rfl) ?_
        refine lv_iload hx hb dL_acts_179 (lv_at hl 4 rfl) ?_
        refine lv_lload hx hb dL_acts_181 (lv_at hl 6 rfl) ?_
        refine lv_lload hx hb dL_acts_183 (lv_at hl 0 rfl) ?_
        refine lv_lxor hx hb dL_acts_185 ?_
        refine ktopl (y := zB (fun _ => false)) (xor_self0 _) ?_
        refine kcalli (wc := []) (wr := [cX x nw sn tk hs tx tr, cR nw na nb σ, xI g na 49 (zT σ), xI g nb 49 (zI σ), cH hs hq kn, xQ g hq 4 (rq ρ), cR (ρ 0) (α 0) (β 0) (γ 0), xI g (α 0) 49 (zT (γ 0)), xI g (β 0) 49 (zI (γ 0)), cR (ρ 1) (α 1) (β 1) (γ 1), xI g (α 1) 49 (zT (γ 1)), xI g (β 1) 49 (zI (γ 1)), cR (ρ 2) (α 2) (β 2) (γ 2), xI g (α 2) 49 (zT (γ 2)), xI g (β 2) 49 (zI (γ 2)), cR (ρ 3) (α 3) (β 3) (γ 3), xI g (α 3) 49 (zT (γ 3)), xI g (β 3) 49 (zI (γ 3)), cT tx ch L, xC g ch 60 T, cTr tr tw od os po re ca, cR tw ta tb τ, xI g ta 49 (zT τ), xI g tb 49 (zI τ), cO od vb n1 n2 nm en]) (wn := fun (u : Unit) => [cX x nw sn tk hs tx tr, cR nw na nb σ, xI g na 49 (zT σ), xI g nb 49 (zI σ), cH hs hq kn, xQ g hq 4 (rq ρ), cR (ρ 0) (α 0) (β 0) (γ 0), xI g (α 0) 49 (zT (γ 0)), xI g (β 0) 49 (zI (γ 0)), cR (ρ 1) (α 1) (β 1) (γ 1), xI g (α 1) 49 (zT (γ 1)), xI g (β 1) 49 (zI (γ 1)), cR (ρ 2) (α 2) (β 2) (γ 2), xI g (α 2) 49 (zT (γ 2)), xI g (β 2) 49 (zI (γ 2)), cR (ρ 3) (α 3) (β 3) (γ 3), xI g (α 3) 49 (zT (γ 3)), xI g (β 3) 49 (zI (γ 3)), cT tx ch L, xC g ch 60 T, cTr tr tw od os po re ca, cR tw ta tb τ, xI g ta 49 (zT τ), xI g tb 49 (zI τ), cO od vb n1 n2 nm en]) F w [] [0, 1, 2, 3, 4, 5, 6, 7, 8, 9, 10, 11, 12, 13, 14, 15, 16, 17, 18, 19, 20, 21, 22, 23, 24] [0, 1, 2, 3, 4, 5, 6, 7, 8, 9, 10, 11, 12, 13, 14, 15, 16, 17, 18, 19, 20, 21, 22, 23, 24] rfl rfl rfl (fun _ => rfl)
          (fun hp => va_runS (As := [.long (zB (fun _ => false))]) (rest := [.int (tA σ), .int (tA σ)]) F.1 (kL_ones l g (fun _ => false) H.size ) (va_cwS 1 hts gL_acts_L_ones rfl rfl rfl hd_L_ones ⟨Nat.le_of_ble_eq_true rfl, Nat.le_of_ble_eq_true rfl⟩) hp rfl rfl hl.1 rfl (lv_room (Nat.le_of_ble_eq_true rfl)) dL_acts_186 ⟨by show _ ≤ (60 : Nat); omega, by show _ ≤ (360 : Nat); omega⟩)
          (fun r_150 _ H locs h_151 w => ?_)
        subst h_151
        refine lv_iadd hx hb dL_acts_189 ?_
        refine ktopi (y := tA σ) (add_no _) ?_
        refine lv_icmp_ne (tgt := 215) hx hb dL_acts_190 (by decide) (fun h_152 => ?_) (fun h_152 => ?_)
        · exact absurd rfl h_152
        refine lv_iload hx hb dL_acts_193 (lv_at hl 7 rfl) ?_
        refine lv_if_ne (tgt := 211) hx hb dL_acts_195 (by decide) (fun h_153 => ?_) (fun h_153 => ?_)
        rotate_left 1
        · exact absurd h_153 (by decide)
        refine lv_iconst (v := nI 1) hx hb dL_acts_211 (by decide) ?_
        refine lv_goto (tgt := 216) hx hb dL_acts_212 (by decide) ?_
        refine ktopi (y := bI true) (by decide) ?_
        refine W.widen (k := 60) (n := 360) (by omega) (by omega) ?_
        subst hA
        subst hQ
        exact kretz F w (σ, kn, ρ, α, β, γ, L, T, os, po, re, ca, τ, vb, n1, n2, nm, en) [0, 1, 2, 3, 4, 5, 6, 7, 8, 9, 10, 11, 12, 13, 14, 15, 16, 17, 18, 19, 20, 21, 22, 23, 24] rfl rfl (⟨rfl, actP_0 hL⟩) (kz_n _) (Nat.le_of_ble_eq_true rfl) (Nat.le_of_ble_eq_true rfl) dL_acts_216
    have JN_154 : ∀  (hdi : 1 ≤ d9 ∧ d9 ≤ 48) (H : Heap) (locs : List Loc) (ls : Array Slot), kW g A s [cX x nw sn tk hs tx tr, cR nw na nb σ, xI g na 49 (zT σ), xI g nb 49 (zI σ), cH hs hq kn, xQ g hq 4 (rq ρ), cR (ρ 0) (α 0) (β 0) (γ 0), xI g (α 0) 49 (zT (γ 0)), xI g (β 0) 49 (zI (γ 0)), cR (ρ 1) (α 1) (β 1) (γ 1), xI g (α 1) 49 (zT (γ 1)), xI g (β 1) 49 (zI (γ 1)), cR (ρ 2) (α 2) (β 2) (γ 2), xI g (α 2) 49 (zT (γ 2)), xI g (β 2) 49 (zI (γ 2)), cR (ρ 3) (α 3) (β 3) (γ 3), xI g (α 3) 49 (zT (γ 3)), xI g (β 3) 49 (zI (γ 3)), cT tx ch L, xC g ch 60 T, cTr tr tw od os po re ca, cR tw ta tb τ, xI g ta 49 (zT τ), xI g tb 49 (zI τ), cO od vb n1 n2 nm en] H locs → lv_has ls 22 [(4, .int (nI d9)), (3, .int (nI hw9)), (0, .ref x), (1, .int v), (2, .int yv)] → W p l e rmL_acts s m args below meth c H locs 0 0 Q (F0 m 57 ls [.int (bI false)]) := by
      intro  hdi H locs ls w hl
      refine lv_istore (lv' := [(5, .int (bI false)), (4, .int (nI d9)), (3, .int (nI hw9)), (0, .ref x), (1, .int v), (2, .int yv)]) hx hb dL_acts_57 hl (by decide) rfl (fun ls hl => ?_)
      refine lv_aload_n hx hb dL_acts_59 rfl (lv_at hl 3 rfl) ?_
      refine kcalll (wc := [cX x nw sn tk hs tx tr, cR nw na nb σ, xI g na 49 (zT σ), xI g nb 49 (zI σ)]) (wr := [cH hs hq kn, xQ g hq 4 (rq ρ), cR (ρ 0) (α 0) (β 0) (γ 0), xI g (α 0) 49 (zT (γ 0)), xI g (β 0) 49 (zI (γ 0)), cR (ρ 1) (α 1) (β 1) (γ 1), xI g (α 1) 49 (zT (γ 1)), xI g (β 1) 49 (zI (γ 1)), cR (ρ 2) (α 2) (β 2) (γ 2), xI g (α 2) 49 (zT (γ 2)), xI g (β 2) 49 (zI (γ 2)), cR (ρ 3) (α 3) (β 3) (γ 3), xI g (α 3) 49 (zT (γ 3)), xI g (β 3) 49 (zI (γ 3)), cT tx ch L, xC g ch 60 T, cTr tr tw od os po re ca, cR tw ta tb τ, xI g ta 49 (zT τ), xI g tb 49 (zI τ), cO od vb n1 n2 nm en]) (wn := fun (u : Unit) => [cX x nw sn tk hs tx tr, cR nw na nb σ, xI g na 49 (zT σ), xI g nb 49 (zI σ), cH hs hq kn, xQ g hq 4 (rq ρ), cR (ρ 0) (α 0) (β 0) (γ 0), xI g (α 0) 49 (zT (γ 0)), xI g (β 0) 49 (zI (γ 0)), cR (ρ 1) (α 1) (β 1) (γ 1), xI g (α 1) 49 (zT (γ 1)), xI g (β 1) 49 (zI (γ 1)), cR (ρ 2) (α 2) (β 2) (γ 2), xI g (α 2) 49 (zT (γ 2)), xI g (β 2) 49 (zI (γ 2)), cR (ρ 3) (α 3) (β 3) (γ 3), xI g (α 3) 49 (zT (γ 3)), xI g (β 3) 49 (zI (γ 3)), cT tx ch L, xC g ch 60 T, cTr tr tw od os po re ca, cR tw ta tb τ, xI g ta 49 (zT τ), xI g tb 49 (zI τ), cO od vb n1 n2 nm en]) F w [0, 1, 2, 3] [4, 5, 6, 7, 8, 9, 10, 11, 12, 13, 14, 15, 16, 17, 18, 19, 20, 21, 22, 23, 24] [21, 22, 23, 24, 0, 1, 2, 3, 4, 5, 6, 7, 8, 9, 10, 11, 12, 13, 14, 15, 16, 17, 18, 19, 20] rfl rfl rfl (fun _ => rfl)
        (fun hp => va_runV (As := []) (rest := []) F.1 (kX5_openSet l g x nw sn tk hs tx tr na nb σ H.size ) (cwV 0 hts gL_acts_X5_openSet rfl rfl rfl ⟨rfl, hd_X5_openSet⟩ ⟨Nat.le_of_ble_eq_true rfl, Nat.le_of_ble_eq_true rfl⟩) ⟨hp.1, va_recv F.2.2.2.1.1 w.1 (q0 := 0) (ci := 5) rfl rfl, hp.2⟩ rfl rfl hl.1 rfl (lv_room (Nat.le_of_ble_eq_true rfl)) dL_acts_60 ⟨by show _ ≤ (60 : Nat); omega, by show _ ≤ (360 : Nat); omega⟩)
        (fun r_155 _ H locs h_156 w => ?_)
      subst h_156
      refine lv_lstore (lv' := [(6, .long (zB (zO σ))), (5, .int (bI false)), (4, .int (nI d9)), (3, .int (nI hw9)), (0, .ref x), (1, .int v), (2, .int yv)]) hx hb dL_acts_63 hl (by decide) rfl (fun ls hl => ?_)
      refine lv_aload_n hx hb dL_acts_65 rfl (lv_at hl 4 rfl) ?_
      refine kcalll (wc := [cX x nw sn tk hs tx tr, cR nw na nb σ, xI g na 49 (zT σ), xI g nb 49 (zI σ)]) (wr := [cH hs hq kn, xQ g hq 4 (rq ρ), cR (ρ 0) (α 0) (β 0) (γ 0), xI g (α 0) 49 (zT (γ 0)), xI g (β 0) 49 (zI (γ 0)), cR (ρ 1) (α 1) (β 1) (γ 1), xI g (α 1) 49 (zT (γ 1)), xI g (β 1) 49 (zI (γ 1)), cR (ρ 2) (α 2) (β 2) (γ 2), xI g (α 2) 49 (zT (γ 2)), xI g (β 2) 49 (zI (γ 2)), cR (ρ 3) (α 3) (β 3) (γ 3), xI g (α 3) 49 (zT (γ 3)), xI g (β 3) 49 (zI (γ 3)), cT tx ch L, xC g ch 60 T, cTr tr tw od os po re ca, cR tw ta tb τ, xI g ta 49 (zT τ), xI g tb 49 (zI τ), cO od vb n1 n2 nm en]) (wn := fun (u : Unit) => [cX x nw sn tk hs tx tr, cR nw na nb σ, xI g na 49 (zT σ), xI g nb 49 (zI σ), cH hs hq kn, xQ g hq 4 (rq ρ), cR (ρ 0) (α 0) (β 0) (γ 0), xI g (α 0) 49 (zT (γ 0)), xI g (β 0) 49 (zI (γ 0)), cR (ρ 1) (α 1) (β 1) (γ 1), xI g (α 1) 49 (zT (γ 1)), xI g (β 1) 49 (zI (γ 1)), cR (ρ 2) (α 2) (β 2) (γ 2), xI g (α 2) 49 (zT (γ 2)), xI g (β 2) 49 (zI (γ 2)), cR (ρ 3) (α 3) (β 3) (γ 3), xI g (α 3) 49 (zT (γ 3)), xI g (β 3) 49 (zI (γ 3)), cT tx ch L, xC g ch 60 T, cTr tr tw od os po re ca, cR tw ta tb τ, xI g ta 49 (zT τ), xI g tb 49 (zI τ), cO od vb n1 n2 nm en]) F w [0, 1, 2, 3] [4, 5, 6, 7, 8, 9, 10, 11, 12, 13, 14, 15, 16, 17, 18, 19, 20, 21, 22, 23, 24] [21, 22, 23, 24, 0, 1, 2, 3, 4, 5, 6, 7, 8, 9, 10, 11, 12, 13, 14, 15, 16, 17, 18, 19, 20] rfl rfl rfl (fun _ => rfl)
        (fun hp => va_runS (As := [.ref x]) (rest := []) F.1 (kL_locked l g x nw sn tk hs tx tr na nb σ H.size ) (va_cwS 1 hts gL_acts_L_locked rfl rfl rfl hd_L_locked ⟨Nat.le_of_ble_eq_true rfl, Nat.le_of_ble_eq_true rfl⟩) hp rfl rfl hl.1 rfl (lv_room (Nat.le_of_ble_eq_true rfl)) dL_acts_66 ⟨by show _ ≤ (60 : Nat); omega, by show _ ≤ (360 : Nat); omega⟩)
        (fun r_157 _ H locs h_158 w => ?_)
      subst h_158
      refine lv_lstore (lv' := [(8, .long (zB (zL σ))), (6, .long (zB (zO σ))), (5, .int (bI false)), (4, .int (nI d9)), (3, .int (nI hw9)), (0, .ref x), (1, .int v), (2, .int yv)]) hx hb dL_acts_69 hl (by decide) rfl (fun ls hl => ?_)
      refine lv_aload_n hx hb dL_acts_71 rfl (lv_at hl 5 rfl) ?_
      refine kcalli (wc := [cX x nw sn tk hs tx tr, cR nw na nb σ, xI g na 49 (zT σ), xI g nb 49 (zI σ)]) (wr := [cH hs hq kn, xQ g hq 4 (rq ρ), cR (ρ 0) (α 0) (β 0) (γ 0), xI g (α 0) 49 (zT (γ 0)), xI g (β 0) 49 (zI (γ 0)), cR (ρ 1) (α 1) (β 1) (γ 1), xI g (α 1) 49 (zT (γ 1)), xI g (β 1) 49 (zI (γ 1)), cR (ρ 2) (α 2) (β 2) (γ 2), xI g (α 2) 49 (zT (γ 2)), xI g (β 2) 49 (zI (γ 2)), cR (ρ 3) (α 3) (β 3) (γ 3), xI g (α 3) 49 (zT (γ 3)), xI g (β 3) 49 (zI (γ 3)), cT tx ch L, xC g ch 60 T, cTr tr tw od os po re ca, cR tw ta tb τ, xI g ta 49 (zT τ), xI g tb 49 (zI τ), cO od vb n1 n2 nm en]) (wn := fun (u : Unit) => [cX x nw sn tk hs tx tr, cR nw na nb σ, xI g na 49 (zT σ), xI g nb 49 (zI σ), cH hs hq kn, xQ g hq 4 (rq ρ), cR (ρ 0) (α 0) (β 0) (γ 0), xI g (α 0) 49 (zT (γ 0)), xI g (β 0) 49 (zI (γ 0)), cR (ρ 1) (α 1) (β 1) (γ 1), xI g (α 1) 49 (zT (γ 1)), xI g (β 1) 49 (zI (γ 1)), cR (ρ 2) (α 2) (β 2) (γ 2), xI g (α 2) 49 (zT (γ 2)), xI g (β 2) 49 (zI (γ 2)), cR (ρ 3) (α 3) (β 3) (γ 3), xI g (α 3) 49 (zT (γ 3)), xI g (β 3) 49 (zI (γ 3)), cT tx ch L, xC g ch 60 T, cTr tr tw od os po re ca, cR tw ta tb τ, xI g ta 49 (zT τ), xI g tb 49 (zI τ), cO od vb n1 n2 nm en]) F w [0, 1, 2, 3] [4, 5, 6, 7, 8, 9, 10, 11, 12, 13, 14, 15, 16, 17, 18, 19, 20, 21, 22, 23, 24] [21, 22, 23, 24, 0, 1, 2, 3, 4, 5, 6, 7, 8, 9, 10, 11, 12, 13, 14, 15, 16, 17, 18, 19, 20] rfl rfl rfl (fun _ => rfl)
        (fun hp => va_runV (As := []) (rest := []) F.1 (kX5_turnsInAll l g x nw sn tk hs tx tr na nb σ H.size ) (cwV 0 hts gL_acts_X5_turnsInAll rfl rfl rfl ⟨rfl, hd_X5_turnsInAll⟩ ⟨Nat.le_of_ble_eq_true rfl, Nat.le_of_ble_eq_true rfl⟩) ⟨hp.1, va_recv F.2.2.2.1.1 w.1 (q0 := 0) (ci := 5) rfl rfl, hp.2⟩ rfl rfl hl.1 rfl (lv_room (Nat.le_of_ble_eq_true rfl)) dL_acts_72 ⟨by show _ ≤ (60 : Nat); omega, by show _ ≤ (360 : Nat); omega⟩)
        (fun r_159 _ H locs h_160 w => ?_)
      subst h_160
      refine ktopi (y := tA σ) (rfl) ?_
      refine lv_istore (lv' := [(10, .int (tA σ)), (8, .long (zB (zL σ))), (6, .long (zB (zO σ))), (5, .int (bI false)), (4, .int (nI d9)), (3, .int (nI hw9)), (0, .ref x), (1, .int v), (2, .int yv)]) hx hb dL_acts_75 hl (by decide) rfl (fun ls hl => ?_)
      refine lv_aload_n hx hb dL_acts_77 rfl (lv_at hl 6 rfl) ?_
      refine lv_iconst (v := nI 0) hx hb dL_acts_78 (by decide) ?_
      refine ktopi (y := bI false) (by decide) ?_
      refine kcalli (wc := [cX x nw sn tk hs tx tr, cR nw na nb σ, xI g na 49 (zT σ), xI g nb 49 (zI σ)]) (wr := [cH hs hq kn, xQ g hq 4 (rq ρ), cR (ρ 0) (α 0) (β 0) (γ 0), xI g (α 0) 49 (zT (γ 0)), xI g (β 0) 49 (zI (γ 0)), cR (ρ 1) (α 1) (β 1) (γ 1), xI g (α 1) 49 (zT (γ 1)), xI g (β 1) 49 (zI (γ 1)), cR (ρ 2) (α 2) (β 2) (γ 2), xI g (α 2) 49 (zT (γ 2)), xI g (β 2) 49 (zI (γ 2)), cR (ρ 3) (α 3) (β 3) (γ 3), xI g (α 3) 49 (zT (γ 3)), xI g (β 3) 49 (zI (γ 3)), cT tx ch L, xC g ch 60 T, cTr tr tw od os po re ca, cR tw ta tb τ, xI g ta 49 (zT τ), xI g tb 49 (zI τ), cO od vb n1 n2 nm en]) (wn := fun (u : Unit) => [cX x nw sn tk hs tx tr, cR nw na nb σ, xI g na 49 (zT σ), xI g nb 49 (zI σ), cH hs hq kn, xQ g hq 4 (rq ρ), cR (ρ 0) (α 0) (β 0) (γ 0), xI g (α 0) 49 (zT (γ 0)), xI g (β 0) 49 (zI (γ 0)), cR (ρ 1) (α 1) (β 1) (γ 1), xI g (α 1) 49 (zT (γ 1)), xI g (β 1) 49 (zI (γ 1)), cR (ρ 2) (α 2) (β 2) (γ 2), xI g (α 2) 49 (zT (γ 2)), xI g (β 2) 49 (zI (γ 2)), cR (ρ 3) (α 3) (β 3) (γ 3), xI g (α 3) 49 (zT (γ 3)), xI g (β 3) 49 (zI (γ 3)), cT tx ch L, xC g ch 60 T, cTr tr tw od os po re ca, cR tw ta tb τ, xI g ta 49 (zT τ), xI g tb 49 (zI τ), cO od vb n1 n2 nm en]) F w [0, 1, 2, 3] [4, 5, 6, 7, 8, 9, 10, 11, 12, 13, 14, 15, 16, 17, 18, 19, 20, 21, 22, 23, 24] [21, 22, 23, 24, 0, 1, 2, 3, 4, 5, 6, 7, 8, 9, 10, 11, 12, 13, 14, 15, 16, 17, 18, 19, 20] rfl rfl rfl (fun _ => rfl)
        (fun hp => va_runV (As := [.int (bI false)]) (rest := []) F.1 (kX5_thingsOf_k l g x nw sn tk hs tx tr na nb σ false H.size ) (cwV 1 hts gL_acts_X5_thingsOf rfl rfl rfl ⟨rfl, hd_X5_thingsOf⟩ ⟨Nat.le_of_ble_eq_true rfl, Nat.le_of_ble_eq_true rfl⟩) ⟨hp.1, va_recv F.2.2.2.1.1 w.1 (q0 := 0) (ci := 5) rfl rfl, hp.2⟩ rfl rfl hl.1 rfl (lv_room (Nat.le_of_ble_eq_true rfl)) dL_acts_79 ⟨by show _ ≤ (60 : Nat); omega, by show _ ≤ (360 : Nat); omega⟩)
        (fun r_161 _ H locs h_162 w => ?_)
      subst h_162
      refine lv_istore (lv' := [(11, .int (nI (zcnt (kindP σ false) 48))), (10, .int (tA σ)), (8, .long (zB (zL σ))), (6, .long (zB (zO σ))), (5, .int (bI false)), (4, .int (nI d9)), (3, .int (nI hw9)), (0, .ref x), (1, .int v), (2, .int yv)]) hx hb dL_acts_82 hl (by decide) rfl (fun ls hl => ?_)
      refine lv_aload_n hx hb dL_acts_84 rfl (lv_at hl 7 rfl) ?_
      refine lv_iconst (v := nI 1) hx hb dL_acts_85 (by decide) ?_
      refine ktopi (y := bI true) (by decide) ?_
      refine kcalli (wc := [cX x nw sn tk hs tx tr, cR nw na nb σ, xI g na 49 (zT σ), xI g nb 49 (zI σ)]) (wr := [cH hs hq kn, xQ g hq 4 (rq ρ), cR (ρ 0) (α 0) (β 0) (γ 0), xI g (α 0) 49 (zT (γ 0)), xI g (β 0) 49 (zI (γ 0)), cR (ρ 1) (α 1) (β 1) (γ 1), xI g (α 1) 49 (zT (γ 1)), xI g (β 1) 49 (zI (γ 1)), cR (ρ 2) (α 2) (β 2) (γ 2), xI g (α 2) 49 (zT (γ 2)), xI g (β 2) 49 (zI (γ 2)), cR (ρ 3) (α 3) (β 3) (γ 3), xI g (α 3) 49 (zT (γ 3)), xI g (β 3) 49 (zI (γ 3)), cT tx ch L, xC g ch 60 T, cTr tr tw od os po re ca, cR tw ta tb τ, xI g ta 49 (zT τ), xI g tb 49 (zI τ), cO od vb n1 n2 nm en]) (wn := fun (u : Unit) => [cX x nw sn tk hs tx tr, cR nw na nb σ, xI g na 49 (zT σ), xI g nb 49 (zI σ), cH hs hq kn, xQ g hq 4 (rq ρ), cR (ρ 0) (α 0) (β 0) (γ 0), xI g (α 0) 49 (zT (γ 0)), xI g (β 0) 49 (zI (γ 0)), cR (ρ 1) (α 1) (β 1) (γ 1), xI g (α 1) 49 (zT (γ 1)), xI g (β 1) 49 (zI (γ 1)), cR (ρ 2) (α 2) (β 2) (γ 2), xI g (α 2) 49 (zT (γ 2)), xI g (β 2) 49 (zI (γ 2)), cR (ρ 3) (α 3) (β 3) (γ 3), xI g (α 3) 49 (zT (γ 3)), xI g (β 3) 49 (zI (γ 3)), cT tx ch L, xC g ch 60 T, cTr tr tw od os po re ca, cR tw ta tb τ, xI g ta 49 (zT τ), xI g tb 49 (zI τ), cO od vb n1 n2 nm en]) F w [0, 1, 2, 3] [4, 5, 6, 7, 8, 9, 10, 11, 12, 13, 14, 15, 16, 17, 18, 19, 20, 21, 22, 23, 24] [21, 22, 23, 24, 0, 1, 2, 3, 4, 5, 6, 7, 8, 9, 10, 11, 12, 13, 14, 15, 16, 17, 18, 19, 20] rfl rfl rfl (fun _ => rfl)
        (fun hp => va_runV (As := [.int (bI true)]) (rest := []) F.1 (kX5_thingsOf_k l g x nw sn tk hs tx tr na nb σ true H.size ) (cwV 1 hts gL_acts_X5_thingsOf rfl rfl rfl ⟨rfl, hd_X5_thingsOf⟩ ⟨Nat.le_of_ble_eq_true rfl, Nat.le_of_ble_eq_true rfl⟩) ⟨hp.1, va_recv F.2.2.2.1.1 w.1 (q0 := 0) (ci := 5) rfl rfl, hp.2⟩ rfl rfl hl.1 rfl (lv_room (Nat.le_of_ble_eq_true rfl)) dL_acts_86 ⟨by show _ ≤ (60 : Nat); omega, by show _ ≤ (360 : Nat); omega⟩)
        (fun r_163 _ H locs h_164 w => ?_)
      subst h_164
      refine lv_istore (lv' := [(12, .int (nI (zcnt (kindP σ true) 48))), (11, .int (nI (zcnt (kindP σ false) 48))), (10, .int (tA σ)), (8, .long (zB (zL σ))), (6, .long (zB (zO σ))), (5, .int (bI false)), (4, .int (nI d9)), (3, .int (nI hw9)), (0, .ref x), (1, .int v), (2, .int yv)]) hx hb dL_acts_89 hl (by decide) rfl (fun ls hl => ?_)
      refine lv_iload_n hx hb dL_acts_91 rfl (lv_at hl 7 rfl) ?_
      refine lv_bipush (v := nI 7) hx hb dL_acts_92 (by decide) ?_
      refine lv_icmp_ge (tgt := 217) hx hb dL_acts_94 (by decide) (fun h_165 => ?_) (fun h_165 => ?_)
      · have h_165 : hw9 ≥ 7 := (kc_ge_t (by omega) (by omega)).mp h_165
        refine lv_iload_n hx hb dL_acts_217 rfl (lv_at hl 7 rfl) ?_
        refine lv_bipush (v := nI 11) hx hb dL_acts_218 (by decide) ?_
        refine lv_icmp_ge (tgt := 444) hx hb dL_acts_220 (by decide) (fun h_166 => ?_) (fun h_166 => ?_)
        · have h_166 : hw9 ≥ 11 := (kc_ge_t (by omega) (by omega)).mp h_166
          refine lv_iload_n hx hb dL_acts_444 rfl (lv_at hl 7 rfl) ?_
          refine lv_bipush (v := nI 19) hx hb dL_acts_445 (by decide) ?_
          refine lv_icmp_ge (tgt := 582) hx hb dL_acts_447 (by decide) (fun h_167 => ?_) (fun h_167 => ?_)
          · have h_167 : hw9 ≥ 19 := (kc_ge_t (by omega) (by omega)).mp h_167
            refine lv_iload_n hx hb dL_acts_582 rfl (lv_at hl 7 rfl) ?_
            refine lv_bipush (v := nI 26) hx hb dL_acts_583 (by decide) ?_
            refine lv_icmp_ge (tgt := 741) hx hb dL_acts_585 (by decide) (fun h_168 => ?_) (fun h_168 => ?_)
            · have h_168 : hw9 ≥ 26 := (kc_ge_t (by omega) (by omega)).mp h_168
              refine lv_iconst (v := nI 0) hx hb dL_acts_741 (by decide) ?_
              refine lv_istore (lv' := [(13, .int (nI 0)), (12, .int (nI (zcnt (kindP σ true) 48))), (11, .int (nI (zcnt (kindP σ false) 48))), (10, .int (tA σ)), (8, .long (zB (zL σ))), (6, .long (zB (zO σ))), (5, .int (bI false)), (4, .int (nI d9)), (3, .int (nI hw9)), (0, .ref x), (1, .int v), (2, .int yv)]) hx hb dL_acts_742 hl (by decide) rfl (fun ls hl => ?_)
              have JN_169 : ∀ (d8 : Nat) (hdj : 1 ≤ d8 ∧ d8 ≤ 48) (H : Heap) (locs : List Loc) (ls : Array Slot), kW g A s [cX x nw sn tk hs tx tr, cR nw na nb σ, xI g na 49 (zT σ), xI g nb 49 (zI σ), cH hs hq kn, xQ g hq 4 (rq ρ), cR (ρ 0) (α 0) (β 0) (γ 0), xI g (α 0) 49 (zT (γ 0)), xI g (β 0) 49 (zI (γ 0)), cR (ρ 1) (α 1) (β 1) (γ 1), xI g (α 1) 49 (zT (γ 1)), xI g (β 1) 49 (zI (γ 1)), cR (ρ 2) (α 2) (β 2) (γ 2), xI g (α 2) 49 (zT (γ 2)), xI g (β 2) 49 (zI (γ 2)), cR (ρ 3) (α 3) (β 3) (γ 3), xI g (α 3) 49 (zT (γ 3)), xI g (β 3) 49 (zI (γ 3)), cT tx ch L, xC g ch 60 T, cTr tr tw od os po re ca, cR tw ta tb τ, xI g ta 49 (zT τ), xI g tb 49 (zI τ), cO od vb n1 n2 nm en] H locs → lv_has ls 22 [(4, .int (nI d8)), (12, .int (nI (zcnt (kindP σ true) 48))), (11, .int (nI (zcnt (kindP σ false) 48))), (10, .int (tA σ)), (8, .long (zB (zL σ))), (6, .long (zB (zO σ))), (5, .int (bI false)), (3, .int (nI hw9)), (0, .ref x), (1, .int v), (2, .int yv)] → W p l e rmL_acts s m args below meth c H locs 48 288 Q (F0 m 826 ls []) := by
                intro d8 hdj H locs ls w hl
                refine lv_iload_n hx hb dL_acts_826 rfl (lv_at hl 7 rfl) ?_
                refine lv_bipush (v := nI 31) hx hb dL_acts_827 (by decide) ?_
                refine lv_icmp_ge (tgt := 1048) hx hb dL_acts_829 (by decide) (fun h_170 => ?_) (fun h_170 => ?_)
                · have h_170 : hw9 ≥ 31 := (kc_ge_t (by omega) (by omega)).mp h_170
                  refine lv_iload_n hx hb dL_acts_1048 rfl (lv_at hl 7 rfl) ?_
                  refine lv_bipush (v := nI 34) hx hb dL_acts_1049 (by decide) ?_
                  refine lv_icmp_ge (tgt := 1220) hx hb dL_acts_1051 (by decide) (fun h_171 => ?_) (fun h_171 => ?_)
                  · have h_171 : hw9 ≥ 34 := (kc_ge_t (by omega) (by omega)).mp h_171
                    refine lv_aload_n hx hb dL_acts_1220 rfl (lv_at hl 8 rfl) ?_
                    refine lv_iload_n hx hb dL_acts_1221 rfl (lv_at hl 10 rfl) ?_
                    refine kcalli (wc := [cX x nw sn tk hs tx tr, cR nw na nb σ, xI g na 49 (zT σ), xI g nb 49 (zI σ), cH hs hq kn, xQ g hq 4 (rq ρ), cR (ρ 0) (α 0) (β 0) (γ 0), xI g (α 0) 49 (zT (γ 0)), xI g (β 0) 49 (zI (γ 0)), cR (ρ 1) (α 1) (β 1) (γ 1), xI g (α 1) 49 (zT (γ 1)), xI g (β 1) 49 (zI (γ 1)), cR (ρ 2) (α 2) (β 2) (γ 2), xI g (α 2) 49 (zT (γ 2)), xI g (β 2) 49 (zI (γ 2)), cR (ρ 3) (α 3) (β 3) (γ 3), xI g (α 3) 49 (zT (γ 3)), xI g (β 3) 49 (zI (γ 3)), cT tx ch L, xC g ch 60 T, cTr tr tw od os po re ca, cR tw ta tb τ, xI g ta 49 (zT τ), xI g tb 49 (zI τ), cO od vb n1 n2 nm en]) (wr := []) (wn := fun (u : SA) => [cX x nw sn tk hs tx tr, cR nw na nb u.1, xI g na 49 (zT u.1), xI g nb 49 (zI u.1), cH hs hq u.2.1, xQ g hq 4 (rq u.2.2.1), cR (u.2.2.1 0) (u.2.2.2.1 0) (u.2.2.2.2.1 0) (u.2.2.2.2.2.1 0), xI g (u.2.2.2.1 0) 49 (zT (u.2.2.2.2.2.1 0)), xI g (u.2.2.2.2.1 0) 49 (zI (u.2.2.2.2.2.1 0)), cR (u.2.2.1 1) (u.2.2.2.1 1) (u.2.2.2.2.1 1) (u.2.2.2.2.2.1 1), xI g (u.2.2.2.1 1) 49 (zT (u.2.2.2.2.2.1 1)), xI g (u.2.2.2.2.1 1) 49 (zI (u.2.2.2.2.2.1 1)), cR (u.2.2.1 2) (u.2.2.2.1 2) (u.2.2.2.2.1 2) (u.2.2.2.2.2.1 2), xI g (u.2.2.2.1 2) 49 (zT (u.2.2.2.2.2.1 2)), xI g (u.2.2.2.2.1 2) 49 (zI (u.2.2.2.2.2.1 2)), cR (u.2.2.1 3) (u.2.2.2.1 3) (u.2.2.2.2.1 3) (u.2.2.2.2.2.1 3), xI g (u.2.2.2.1 3) 49 (zT (u.2.2.2.2.2.1 3)), xI g (u.2.2.2.2.1 3) 49 (zI (u.2.2.2.2.2.1 3)), cT tx ch u.2.2.2.2.2.2.1, xC g ch 60 u.2.2.2.2.2.2.2.1, cTr tr tw od u.2.2.2.2.2.2.2.2.1 u.2.2.2.2.2.2.2.2.2.1 u.2.2.2.2.2.2.2.2.2.2.1 u.2.2.2.2.2.2.2.2.2.2.2.1, cR tw ta tb u.2.2.2.2.2.2.2.2.2.2.2.2.1, xI g ta 49 (zT u.2.2.2.2.2.2.2.2.2.2.2.2.1), xI g tb 49 (zI u.2.2.2.2.2.2.2.2.2.2.2.2.1), cO od u.2.2.2.2.2.2.2.2.2.2.2.2.2.1 u.2.2.2.2.2.2.2.2.2.2.2.2.2.2.1 u.2.2.2.2.2.2.2.2.2.2.2.2.2.2.2.1 u.2.2.2.2.2.2.2.2.2.2.2.2.2.2.2.2.1 u.2.2.2.2.2.2.2.2.2.2.2.2.2.2.2.2.2]) F w [0, 1, 2, 3, 4, 5, 6, 7, 8, 9, 10, 11, 12, 13, 14, 15, 16, 17, 18, 19, 20, 21, 22, 23, 24] [] [0, 1, 2, 3, 4, 5, 6, 7, 8, 9, 10, 11, 12, 13, 14, 15, 16, 17, 18, 19, 20, 21, 22, 23, 24] rfl rfl rfl (fun _ => rfl)
                      (fun hp => va_runS (As := [.ref x, .int yv]) (rest := []) F.1 (kL_reads l hnl g x nw sn tk hs tx tr na nb σ hq kn ρ α β γ ch L T tw od os po re ca ta tb τ vb n1 n2 nm en yv H.size hL hkn) (va_cwS 2 hts gL_acts_L_reads rfl rfl rfl hd_L_reads ⟨Nat.le_of_ble_eq_true rfl, Nat.le_of_ble_eq_true rfl⟩) hp rfl rfl hl.1 rfl (lv_room (Nat.le_of_ble_eq_true rfl)) dL_acts_1222 ⟨Nat.le_of_ble_eq_true rfl, Nat.le_of_ble_eq_true rfl⟩)
                      (fun r_172 u H locs h_173 w => ?_)
                    try dsimp only at h_173
                    obtain ⟨u_174, hu9⟩ : ∃ z, z = u := ⟨_, rfl⟩
                    subst hu9
                    have w : kW g A s [cX x nw sn tk hs tx tr, cR nw na nb u_174.1, xI g na 49 (zT u_174.1), xI g nb 49 (zI u_174.1), cH hs hq u_174.2.1, xQ g hq 4 (rq u_174.2.2.1), cR (u_174.2.2.1 0) (u_174.2.2.2.1 0) (u_174.2.2.2.2.1 0) (u_174.2.2.2.2.2.1 0), xI g (u_174.2.2.2.1 0) 49 (zT (u_174.2.2.2.2.2.1 0)), xI g (u_174.2.2.2.2.1 0) 49 (zI (u_174.2.2.2.2.2.1 0)), cR (u_174.2.2.1 1) (u_174.2.2.2.1 1) (u_174.2.2.2.2.1 1) (u_174.2.2.2.2.2.1 1), xI g (u_174.2.2.2.1 1) 49 (zT (u_174.2.2.2.2.2.1 1)), xI g (u_174.2.2.2.2.1 1) 49 (zI (u_174.2.2.2.2.2.1 1)), cR (u_174.2.2.1 2) (u_174.2.2.2.1 2) (u_174.2.2.2.2.1 2) (u_174.2.2.2.2.2.1 2), xI g (u_174.2.2.2.1 2) 49 (zT (u_174.2.2.2.2.2.1 2)), xI g (u_174.2.2.2.2.1 2) 49 (zI (u_174.2.2.2.2.2.1 2)), cR (u_174.2.2.1 3) (u_174.2.2.2.1 3) (u_174.2.2.2.2.1 3) (u_174.2.2.2.2.2.1 3), xI g (u_174.2.2.2.1 3) 49 (zT (u_174.2.2.2.2.2.1 3)), xI g (u_174.2.2.2.2.1 3) 49 (zI (u_174.2.2.2.2.2.1 3)), cT tx ch u_174.2.2.2.2.2.2.1, xC g ch 60 u_174.2.2.2.2.2.2.2.1, cTr tr tw od u_174.2.2.2.2.2.2.2.2.1 u_174.2.2.2.2.2.2.2.2.2.1 u_174.2.2.2.2.2.2.2.2.2.2.1 u_174.2.2.2.2.2.2.2.2.2.2.2.1, cR tw ta tb u_174.2.2.2.2.2.2.2.2.2.2.2.2.1, xI g ta 49 (zT u_174.2.2.2.2.2.2.2.2.2.2.2.2.1), xI g tb 49 (zI u_174.2.2.2.2.2.2.2.2.2.2.2.2.1), cO od u_174.2.2.2.2.2.2.2.2.2.2.2.2.2.1 u_174.2.2.2.2.2.2.2.2.2.2.2.2.2.2.1 u_174.2.2.2.2.2.2.2.2.2.2.2.2.2.2.2.1 u_174.2.2.2.2.2.2.2.2.2.2.2.2.2.2.2.2.1 u_174.2.2.2.2.2.2.2.2.2.2.2.2.2.2.2.2.2] H locs := w
                    obtain ⟨hra, hrb⟩ := h_173
                    subst hra
                    refine W.widen (k := 60) (n := 360) (by omega) (by omega) ?_
                    subst hA
                    subst hQ
                    exact kretz F w (u_174.1, u_174.2.1, u_174.2.2.1, u_174.2.2.2.1, u_174.2.2.2.2.1, u_174.2.2.2.2.2.1, u_174.2.2.2.2.2.2.1, u_174.2.2.2.2.2.2.2.1, u_174.2.2.2.2.2.2.2.2.1, u_174.2.2.2.2.2.2.2.2.2.1, u_174.2.2.2.2.2.2.2.2.2.2.1, u_174.2.2.2.2.2.2.2.2.2.2.2.1, u_174.2.2.2.2.2.2.2.2.2.2.2.2.1, u_174.2.2.2.2.2.2.2.2.2.2.2.2.2.1, u_174.2.2.2.2.2.2.2.2.2.2.2.2.2.2.1, u_174.2.2.2.2.2.2.2.2.2.2.2.2.2.2.2.1, u_174.2.2.2.2.2.2.2.2.2.2.2.2.2.2.2.2.1, u_174.2.2.2.2.2.2.2.2.2.2.2.2.2.2.2.2.2) [0, 1, 2, 3, 4, 5, 6, 7, 8, 9, 10, 11, 12, 13, 14, 15, 16, 17, 18, 19, 20, 21, 22, 23, 24] rfl rfl (⟨rfl, hrb⟩) (kz_n _) (Nat.le_of_ble_eq_true rfl) (Nat.le_of_ble_eq_true rfl) dL_acts_1225
                  · have h_171 : hw9 < 34 := (kc_ge_f (by omega) (by omega)).mp h_171
                    refine lv_iload hx hb dL_acts_1054 (lv_at hl 6 rfl) ?_
                    refine lv_if_eq (tgt := 1064) hx hb dL_acts_1056 (by decide) (fun h_175 => ?_) (fun h_175 => ?_)
                    rotate_left 1
                    · exact absurd rfl h_175
                    refine lv_aload_n hx hb dL_acts_1064 rfl (lv_at hl 8 rfl) ?_
                    refine lv_iload hx hb dL_acts_1065 (lv_at hl 0 rfl) ?_
                    refine kcalli (wc := [cX x nw sn tk hs tx tr, cR nw na nb σ, xI g na 49 (zT σ), xI g nb 49 (zI σ)]) (wr := [cH hs hq kn, xQ g hq 4 (rq ρ), cR (ρ 0) (α 0) (β 0) (γ 0), xI g (α 0) 49 (zT (γ 0)), xI g (β 0) 49 (zI (γ 0)), cR (ρ 1) (α 1) (β 1) (γ 1), xI g (α 1) 49 (zT (γ 1)), xI g (β 1) 49 (zI (γ 1)), cR (ρ 2) (α 2) (β 2) (γ 2), xI g (α 2) 49 (zT (γ 2)), xI g (β 2) 49 (zI (γ 2)), cR (ρ 3) (α 3) (β 3) (γ 3), xI g (α 3) 49 (zT (γ 3)), xI g (β 3) 49 (zI (γ 3)), cT tx ch L, xC g ch 60 T, cTr tr tw od os po re ca, cR tw ta tb τ, xI g ta 49 (zT τ), xI g tb 49 (zI τ), cO od vb n1 n2 nm en]) (wn := fun (u : Unit) => [cX x nw sn tk hs tx tr, cR nw na nb σ, xI g na 49 (zT σ), xI g nb 49 (zI σ), cH hs hq kn, xQ g hq 4 (rq ρ), cR (ρ 0) (α 0) (β 0) (γ 0), xI g (α 0) 49 (zT (γ 0)), xI g (β 0) 49 (zI (γ 0)), cR (ρ 1) (α 1) (β 1) (γ 1), xI g (α 1) 49 (zT (γ 1)), xI g (β 1) 49 (zI (γ 1)), cR (ρ 2) (α 2) (β 2) (γ 2), xI g (α 2) 49 (zT (γ 2)), xI g (β 2) 49 (zI (γ 2)), cR (ρ 3) (α 3) (β 3) (γ 3), xI g (α 3) 49 (zT (γ 3)), xI g (β 3) 49 (zI (γ 3)), cT tx ch L, xC g ch 60 T, cTr tr tw od os po re ca, cR tw ta tb τ, xI g ta 49 (zT τ), xI g tb 49 (zI τ), cO od vb n1 n2 nm en]) F w [0, 1, 2, 3] [4, 5, 6, 7, 8, 9, 10, 11, 12, 13, 14, 15, 16, 17, 18, 19, 20, 21, 22, 23, 24] [21, 22, 23, 24, 0, 1, 2, 3, 4, 5, 6, 7, 8, 9, 10, 11, 12, 13, 14, 15, 16, 17, 18, 19, 20] rfl rfl rfl (fun _ => rfl)
                      (fun hp => vx_runSW (As := [.ref x, .int (nI d8)]) (rest := []) F.1 (kL_thingAt l hnl g x nw sn tk hs tx tr na nb σ d8 H.size hdj) (vx_cwSW 2 hts gL_acts_L_thingAt rfl rfl rfl hd_L_thingAt ⟨Nat.le_of_ble_eq_true rfl, Nat.le_of_ble_eq_true rfl⟩) hp rfl rfl hl.1 rfl (lv_room (Nat.le_of_ble_eq_true rfl)) dL_acts_1067 ⟨Nat.le_of_ble_eq_true rfl, Nat.le_of_ble_eq_true rfl⟩)
                      (fun r_176 _ H locs h_177 w => ?_)
                    subst h_177
                    rcases (show zF σ d8 = false ∨ (zF σ d8 = true ∧ zH σ d8 = false) ∨ (zF σ d8 = true ∧ zH σ d8 = true) from by cases zF σ d8 <;> cases zH σ d8 <;> simp) with h_178 | h_178 | h_178
                    · skip
                      refine ktopi (y := (-104)) (thV_f h_178) ?_
                      refine lv_istore (lv' := [(13, .int (-104)), (4, .int (nI d8)), (12, .int (nI (zcnt (kindP σ true) 48))), (11, .int (nI (zcnt (kindP σ false) 48))), (10, .int (tA σ)), (8, .long (zB (zL σ))), (6, .long (zB (zO σ))), (5, .int (bI false)), (3, .int (nI hw9)), (0, .ref x), (1, .int v), (2, .int yv)]) hx hb dL_acts_1070 hl (by decide) rfl (fun ls hl => ?_)
                      refine lv_iload hx hb dL_acts_1072 (lv_at hl 7 rfl) ?_
                      refine lv_if_ne (tgt := 1097) hx hb dL_acts_1074 (by decide) (fun h_179 => ?_) (fun h_179 => ?_)
                      · exact absurd rfl h_179
                      refine lv_iload hx hb dL_acts_1077 (lv_at hl 0 rfl) ?_
                      refine lv_bipush (v := (-104)) hx hb dL_acts_1079 (by decide) ?_
                      refine lv_icmp_eq (tgt := 1097) hx hb dL_acts_1081 (by decide) (fun h_180 => ?_) (fun h_180 => ?_)
                      rotate_left 1
                      · exact absurd rfl h_180
                      refine lv_iconst (v := nI 0) hx hb dL_acts_1097 (by decide) ?_
                      refine lv_istore (lv' := [(14, .int (nI 0)), (13, .int (-104)), (4, .int (nI d8)), (12, .int (nI (zcnt (kindP σ true) 48))), (11, .int (nI (zcnt (kindP σ false) 48))), (10, .int (tA σ)), (8, .long (zB (zL σ))), (6, .long (zB (zO σ))), (5, .int (bI false)), (3, .int (nI hw9)), (0, .ref x), (1, .int v), (2, .int yv)]) hx hb dL_acts_1098 hl (by decide) rfl (fun ls hl => ?_)
                      refine lv_aload_n hx hb dL_acts_1100 rfl (lv_at hl 10 rfl) ?_
                      refine lv_iload hx hb dL_acts_1101 (lv_at hl 2 rfl) ?_
                      refine kcalli (wc := [cX x nw sn tk hs tx tr, cR nw na nb σ, xI g na 49 (zT σ), xI g nb 49 (zI σ)]) (wr := [cH hs hq kn, xQ g hq 4 (rq ρ), cR (ρ 0) (α 0) (β 0) (γ 0), xI g (α 0) 49 (zT (γ 0)), xI g (β 0) 49 (zI (γ 0)), cR (ρ 1) (α 1) (β 1) (γ 1), xI g (α 1) 49 (zT (γ 1)), xI g (β 1) 49 (zI (γ 1)), cR (ρ 2) (α 2) (β 2) (γ 2), xI g (α 2) 49 (zT (γ 2)), xI g (β 2) 49 (zI (γ 2)), cR (ρ 3) (α 3) (β 3) (γ 3), xI g (α 3) 49 (zT (γ 3)), xI g (β 3) 49 (zI (γ 3)), cT tx ch L, xC g ch 60 T, cTr tr tw od os po re ca, cR tw ta tb τ, xI g ta 49 (zT τ), xI g tb 49 (zI τ), cO od vb n1 n2 nm en]) (wn := fun (u : Unit) => [cX x nw sn tk hs tx tr, cR nw na nb σ, xI g na 49 (zT σ), xI g nb 49 (zI σ), cH hs hq kn, xQ g hq 4 (rq ρ), cR (ρ 0) (α 0) (β 0) (γ 0), xI g (α 0) 49 (zT (γ 0)), xI g (β 0) 49 (zI (γ 0)), cR (ρ 1) (α 1) (β 1) (γ 1), xI g (α 1) 49 (zT (γ 1)), xI g (β 1) 49 (zI (γ 1)), cR (ρ 2) (α 2) (β 2) (γ 2), xI g (α 2) 49 (zT (γ 2)), xI g (β 2) 49 (zI (γ 2)), cR (ρ 3) (α 3) (β 3) (γ 3), xI g (α 3) 49 (zT (γ 3)), xI g (β 3) 49 (zI (γ 3)), cT tx ch L, xC g ch 60 T, cTr tr tw od os po re ca, cR tw ta tb τ, xI g ta 49 (zT τ), xI g tb 49 (zI τ), cO od vb n1 n2 nm en]) F w [0, 1, 2, 3] [4, 5, 6, 7, 8, 9, 10, 11, 12, 13, 14, 15, 16, 17, 18, 19, 20, 21, 22, 23, 24] [21, 22, 23, 24, 0, 1, 2, 3, 4, 5, 6, 7, 8, 9, 10, 11, 12, 13, 14, 15, 16, 17, 18, 19, 20] rfl rfl rfl (fun _ => rfl)
                        (fun hp => vx_runSW (As := [.ref x, .int (nI d8)]) (rest := []) F.1 (kL_takeOut_S l hnl g x nw sn tk hs tx tr na nb σ d8 H.size hdj (Or.inr h_178)) (vx_cwSW 2 hts gL_acts_L_takeOut rfl rfl rfl hd_L_takeOut ⟨Nat.le_of_ble_eq_true rfl, Nat.le_of_ble_eq_true rfl⟩) hp rfl rfl hl.1 rfl (lv_room (Nat.le_of_ble_eq_true rfl)) dL_acts_1103 ⟨Nat.le_of_ble_eq_true rfl, Nat.le_of_ble_eq_true rfl⟩)
                        (fun r_181 _ H locs h_182 w => ?_)
                      subst h_182
                      refine lv_istore (lv' := [(15, .int (-103)), (14, .int (nI 0)), (13, .int (-104)), (4, .int (nI d8)), (12, .int (nI (zcnt (kindP σ true) 48))), (11, .int (nI (zcnt (kindP σ false) 48))), (10, .int (tA σ)), (8, .long (zB (zL σ))), (6, .long (zB (zO σ))), (5, .int (bI false)), (3, .int (nI hw9)), (0, .ref x), (1, .int v), (2, .int yv)]) hx hb dL_acts_1106 hl (by decide) rfl (fun ls hl => ?_)
                      refine lv_iload hx hb dL_acts_1108 (lv_at hl 0 rfl) ?_
                      refine lv_iload hx hb dL_acts_1110 (lv_at hl 9 rfl) ?_
                      refine lv_if_eq (tgt := 1120) hx hb dL_acts_1112 (by decide) (fun h_183 => ?_) (fun h_183 => ?_)
                      rotate_left 1
                      · exact absurd rfl h_183
                      refine lv_iload hx hb dL_acts_1120 (lv_at hl 1 rfl) ?_
                      refine lv_if_eq (tgt := 1130) hx hb dL_acts_1122 (by decide) (fun h_184 => ?_) (fun h_184 => ?_)
                      rotate_left 1
                      · exact absurd rfl h_184
                      refine lv_bipush (v := (-103)) hx hb dL_acts_1130 (by decide) ?_
                      refine lv_icmp_ne (tgt := 1218) hx hb dL_acts_1132 (by decide) (fun h_185 => ?_) (fun h_185 => ?_)
                      · exact absurd rfl h_185
                      refine lv_aload_n hx hb dL_acts_1135 rfl (lv_at hl 11 rfl) ?_
                      refine lv_iconst (v := nI 0) hx hb dL_acts_1136 (by decide) ?_
                      refine ktopi (y := bI false) (by decide) ?_
                      refine kcalli (wc := [cX x nw sn tk hs tx tr, cR nw na nb σ, xI g na 49 (zT σ), xI g nb 49 (zI σ)]) (wr := [cH hs hq kn, xQ g hq 4 (rq ρ), cR (ρ 0) (α 0) (β 0) (γ 0), xI g (α 0) 49 (zT (γ 0)), xI g (β 0) 49 (zI (γ 0)), cR (ρ 1) (α 1) (β 1) (γ 1), xI g (α 1) 49 (zT (γ 1)), xI g (β 1) 49 (zI (γ 1)), cR (ρ 2) (α 2) (β 2) (γ 2), xI g (α 2) 49 (zT (γ 2)), xI g (β 2) 49 (zI (γ 2)), cR (ρ 3) (α 3) (β 3) (γ 3), xI g (α 3) 49 (zT (γ 3)), xI g (β 3) 49 (zI (γ 3)), cT tx ch L, xC g ch 60 T, cTr tr tw od os po re ca, cR tw ta tb τ, xI g ta 49 (zT τ), xI g tb 49 (zI τ), cO od vb n1 n2 nm en]) (wn := fun (u : Unit) => [cX x nw sn tk hs tx tr, cR nw na nb σ, xI g na 49 (zT σ), xI g nb 49 (zI σ), cH hs hq kn, xQ g hq 4 (rq ρ), cR (ρ 0) (α 0) (β 0) (γ 0), xI g (α 0) 49 (zT (γ 0)), xI g (β 0) 49 (zI (γ 0)), cR (ρ 1) (α 1) (β 1) (γ 1), xI g (α 1) 49 (zT (γ 1)), xI g (β 1) 49 (zI (γ 1)), cR (ρ 2) (α 2) (β 2) (γ 2), xI g (α 2) 49 (zT (γ 2)), xI g (β 2) 49 (zI (γ 2)), cR (ρ 3) (α 3) (β 3) (γ 3), xI g (α 3) 49 (zT (γ 3)), xI g (β 3) 49 (zI (γ 3)), cT tx ch L, xC g ch 60 T, cTr tr tw od os po re ca, cR tw ta tb τ, xI g ta 49 (zT τ), xI g tb 49 (zI τ), cO od vb n1 n2 nm en]) F w [0, 1, 2, 3] [4, 5, 6, 7, 8, 9, 10, 11, 12, 13, 14, 15, 16, 17, 18, 19, 20, 21, 22, 23, 24] [21, 22, 23, 24, 0, 1, 2, 3, 4, 5, 6, 7, 8, 9, 10, 11, 12, 13, 14, 15, 16, 17, 18, 19, 20] rfl rfl rfl (fun _ => rfl)
                        (fun hp => va_runV (As := [.int (bI false)]) (rest := []) F.1 (kX5_thingsOf_k l g x nw sn tk hs tx tr na nb σ false H.size ) (cwV 1 hts gL_acts_X5_thingsOf rfl rfl rfl ⟨rfl, hd_X5_thingsOf⟩ ⟨Nat.le_of_ble_eq_true rfl, Nat.le_of_ble_eq_true rfl⟩) ⟨hp.1, va_recv F.2.2.2.1.1 w.1 (q0 := 0) (ci := 5) rfl rfl, hp.2⟩ rfl rfl hl.1 rfl (lv_room (Nat.le_of_ble_eq_true rfl)) dL_acts_1137 ⟨Nat.le_of_ble_eq_true rfl, Nat.le_of_ble_eq_true rfl⟩)
                        (fun r_186 _ H locs h_187 w => ?_)
                      subst h_187
                      refine lv_iload hx hb dL_acts_1140 (lv_at hl 5 rfl) ?_
                      refine lv_iload hx hb dL_acts_1142 (lv_at hl 1 rfl) ?_
                      refine lv_if_eq (tgt := 1156) hx hb dL_acts_1144 (by decide) (fun h_188 => ?_) (fun h_188 => ?_)
                      rotate_left 1
                      · exact absurd rfl h_188
                      refine lv_iconst (v := nI 0) hx hb dL_acts_1156 (by decide) ?_
                      refine lv_isub hx hb dL_acts_1157 ?_
                      refine ktopi (y := nI (zcnt (kindP σ false) 48)) (pk_sub (Nat.zero_le _)) ?_
                      refine lv_icmp_ne (tgt := 1218) hx hb dL_acts_1158 (by decide) (fun h_189 => ?_) (fun h_189 => ?_)
                      · exact absurd rfl h_189
                      refine lv_aload_n hx hb dL_acts_1161 rfl (lv_at hl 11 rfl) ?_
                      refine lv_iconst (v := nI 1) hx hb dL_acts_1162 (by decide) ?_
                      refine ktopi (y := bI true) (by decide) ?_
                      refine kcalli (wc := [cX x nw sn tk hs tx tr, cR nw na nb σ, xI g na 49 (zT σ), xI g nb 49 (zI σ)]) (wr := [cH hs hq kn, xQ g hq 4 (rq ρ), cR (ρ 0) (α 0) (β 0) (γ 0), xI g (α 0) 49 (zT (γ 0)), xI g (β 0) 49 (zI (γ 0)), cR (ρ 1) (α 1) (β 1) (γ 1), xI g (α 1) 49 (zT (γ 1)), xI g (β 1) 49 (zI (γ 1)), cR (ρ 2) (α 2) (β 2) (γ 2), xI g (α 2) 49 (zT (γ 2)), xI g (β 2) 49 (zI (γ 2)), cR (ρ 3) (α 3) (β 3) (γ 3), xI g (α 3) 49 (zT (γ 3)), xI g (β 3) 49 (zI (γ 3)), cT tx ch L, xC g ch 60 T, cTr tr tw od os po re ca, cR tw ta tb τ, xI g ta 49 (zT τ), xI g tb 49 (zI τ), cO od vb n1 n2 nm en]) (wn := fun (u : Unit) => [cX x nw sn tk hs tx tr, cR nw na nb σ, xI g na 49 (zT σ), xI g nb 49 (zI σ), cH hs hq kn, xQ g hq 4 (rq ρ), cR (ρ 0) (α 0) (β 0) (γ 0), xI g (α 0) 49 (zT (γ 0)), xI g (β 0) 49 (zI (γ 0)), cR (ρ 1) (α 1) (β 1) (γ 1), xI g (α 1) 49 (zT (γ 1)), xI g (β 1) 49 (zI (γ 1)), cR (ρ 2) (α 2) (β 2) (γ 2), xI g (α 2) 49 (zT (γ 2)), xI g (β 2) 49 (zI (γ 2)), cR (ρ 3) (α 3) (β 3) (γ 3), xI g (α 3) 49 (zT (γ 3)), xI g (β 3) 49 (zI (γ 3)), cT tx ch L, xC g ch 60 T, cTr tr tw od os po re ca, cR tw ta tb τ, xI g ta 49 (zT τ), xI g tb 49 (zI τ), cO od vb n1 n2 nm en]) F w [0, 1, 2, 3] [4, 5, 6, 7, 8, 9, 10, 11, 12, 13, 14, 15, 16, 17, 18, 19, 20, 21, 22, 23, 24] [21, 22, 23, 24, 0, 1, 2, 3, 4, 5, 6, 7, 8, 9, 10, 11, 12, 13, 14, 15, 16, 17, 18, 19, 20] rfl rfl rfl (fun _ => rfl)
                        (fun hp => va_runV (As := [.int (bI true)]) (rest := []) F.1 (kX5_thingsOf_k l g x nw sn tk hs tx tr na nb σ true H.size ) (cwV 1 hts gL_acts_X5_thingsOf rfl rfl rfl ⟨rfl, hd_X5_thingsOf⟩ ⟨Nat.le_of_ble_eq_true rfl, Nat.le_of_ble_eq_true rfl⟩) ⟨hp.1, va_recv F.2.2.2.1.1 w.1 (q0 := 0) (ci := 5) rfl rfl, hp.2⟩ rfl rfl hl.1 rfl (lv_room (Nat.le_of_ble_eq_true rfl)) dL_acts_1163 ⟨Nat.le_of_ble_eq_true rfl, Nat.le_of_ble_eq_true rfl⟩)
                        (fun r_190 _ H locs h_191 w => ?_)
                      subst h_191
                      refine lv_iload hx hb dL_acts_1166 (lv_at hl 4 rfl) ?_
                      refine lv_iload hx hb dL_acts_1168 (lv_at hl 1 rfl) ?_
                      refine lv_if_eq (tgt := 1183) hx hb dL_acts_1170 (by decide) (fun h_192 => ?_) (fun h_192 => ?_)
                      rotate_left 1
                      · exact absurd rfl h_192
                      refine lv_iconst (v := nI 0) hx hb dL_acts_1183 (by decide) ?_
                      refine lv_isub hx hb dL_acts_1184 ?_
                      refine ktopi (y := nI (zcnt (kindP σ true) 48)) (pk_sub (Nat.zero_le _)) ?_
                      refine lv_icmp_ne (tgt := 1218) hx hb dL_acts_1185 (by decide) (fun h_193 => ?_) (fun h_193 => ?_)
                      · exact absurd rfl h_193
                      refine lv_iload hx hb dL_acts_1188 (lv_at hl 1 rfl) ?_
                      refine lv_if_eq (tgt := 1204) hx hb dL_acts_1190 (by decide) (fun h_194 => ?_) (fun h_194 => ?_)
                      rotate_left 1
                      · exact absurd rfl h_194
                      refine lv_aload_n hx hb dL_acts_1204 rfl (lv_at hl 11 rfl) ?_
                      refine kcalll (wc := [cX x nw sn tk hs tx tr, cR nw na nb σ, xI g na 49 (zT σ), xI g nb 49 (zI σ)]) (wr := [cH hs hq kn, xQ g hq 4 (rq ρ), cR (ρ 0) (α 0) (β 0) (γ 0), xI g (α 0) 49 (zT (γ 0)), xI g (β 0) 49 (zI (γ 0)), cR (ρ 1) (α 1) (β 1) (γ 1), xI g (α 1) 49 (zT (γ 1)), xI g (β 1) 49 (zI (γ 1)), cR (ρ 2) (α 2) (β 2) (γ 2), xI g (α 2) 49 (zT (γ 2)), xI g (β 2) 49 (zI (γ 2)), cR (ρ 3) (α 3) (β 3) (γ 3), xI g (α 3) 49 (zT (γ 3)), xI g (β 3) 49 (zI (γ 3)), cT tx ch L, xC g ch 60 T, cTr tr tw od os po re ca, cR tw ta tb τ, xI g ta 49 (zT τ), xI g tb 49 (zI τ), cO od vb n1 n2 nm en]) (wn := fun (u : Unit) => [cX x nw sn tk hs tx tr, cR nw na nb σ, xI g na 49 (zT σ), xI g nb 49 (zI σ), cH hs hq kn, xQ g hq 4 (rq ρ), cR (ρ 0) (α 0) (β 0) (γ 0), xI g (α 0) 49 (zT (γ 0)), xI g (β 0) 49 (zI (γ 0)), cR (ρ 1) (α 1) (β 1) (γ 1), xI g (α 1) 49 (zT (γ 1)), xI g (β 1) 49 (zI (γ 1)), cR (ρ 2) (α 2) (β 2) (γ 2), xI g (α 2) 49 (zT (γ 2)), xI g (β 2) 49 (zI (γ 2)), cR (ρ 3) (α 3) (β 3) (γ 3), xI g (α 3) 49 (zT (γ 3)), xI g (β 3) 49 (zI (γ 3)), cT tx ch L, xC g ch 60 T, cTr tr tw od os po re ca, cR tw ta tb τ, xI g ta 49 (zT τ), xI g tb 49 (zI τ), cO od vb n1 n2 nm en]) F w [0, 1, 2, 3] [4, 5, 6, 7, 8, 9, 10, 11, 12, 13, 14, 15, 16, 17, 18, 19, 20, 21, 22, 23, 24] [21, 22, 23, 24, 0, 1, 2, 3, 4, 5, 6, 7, 8, 9, 10, 11, 12, 13, 14, 15, 16, 17, 18, 19, 20] rfl rfl rfl (fun _ => rfl)
                        (fun hp => va_runV (As := []) (rest := []) F.1 (kX5_openSet l g x nw sn tk hs tx tr na nb σ H.size ) (cwV 0 hts gL_acts_X5_openSet rfl rfl rfl ⟨rfl, hd_X5_openSet⟩ ⟨Nat.le_of_ble_eq_true rfl, Nat.le_of_ble_eq_true rfl⟩) ⟨hp.1, va_recv F.2.2.2.1.1 w.1 (q0 := 0) (ci := 5) rfl rfl, hp.2⟩ rfl rfl hl.1 rfl (lv_room (Nat.le_of_ble_eq_true rfl)) dL_acts_1205 ⟨Nat.le_of_ble_eq_true rfl, Nat.le_of_ble_eq_true rfl⟩)
                        (fun r_195 _ H locs h_196 w => ?_)
                      subst h_196
                      refine lv_lload hx hb dL_acts_1208 (lv_at hl 8 rfl) ?_
                      refine W.lcmp hx hb dL_acts_1210 ?_
                      refine lv_if_ne (tgt := 1218) hx hb dL_acts_1211 (by decide) (fun h_197 => ?_) (fun h_197 => ?_)
                      · exact absurd (lgc_eq.mpr rfl) h_197
                      refine lv_iconst (v := nI 1) hx hb dL_acts_1214 (by decide) ?_
                      refine lv_goto (tgt := 1219) hx hb dL_acts_1215 (by decide) ?_
                      refine ktopi (y := bI true) (by decide) ?_
                      refine W.widen (k := 60) (n := 360) (by omega) (by omega) ?_
                      subst hA
                      subst hQ
                      exact kretz F w (σ, kn, ρ, α, β, γ, L, T, os, po, re, ca, τ, vb, n1, n2, nm, en) [0, 1, 2, 3, 4, 5, 6, 7, 8, 9, 10, 11, 12, 13, 14, 15, 16, 17, 18, 19, 20, 21, 22, 23, 24] rfl rfl (⟨rfl, actP_0 hL⟩) (kz_n _) (Nat.le_of_ble_eq_true rfl) (Nat.le_of_ble_eq_true rfl) dL_acts_1219
                    · skip
                      have hfl := h_178.1
                      have hhh := h_178.2
                      refine ktopi (y := nI 0) (by rw [thV_t hfl, hhh]; rfl) ?_
                      refine lv_istore (lv' := [(13, .int (nI 0)), (4, .int (nI d8)), (12, .int (nI (zcnt (kindP σ true) 48))), (11, .int (nI (zcnt (kindP σ false) 48))), (10, .int (tA σ)), (8, .long (zB (zL σ))), (6, .long (zB (zO σ))), (5, .int (bI false)), (3, .int (nI hw9)), (0, .ref x), (1, .int v), (2, .int yv)]) hx hb dL_acts_1070 hl (by decide) rfl (fun ls hl => ?_)
                      refine lv_iload hx hb dL_acts_1072 (lv_at hl 7 rfl) ?_
                      refine lv_if_ne (tgt := 1097) hx hb dL_acts_1074 (by decide) (fun h_198 => ?_) (fun h_198 => ?_)
                      · exact absurd rfl h_198
                      refine lv_iload hx hb dL_acts_1077 (lv_at hl 0 rfl) ?_
                      refine lv_bipush (v := (-104)) hx hb dL_acts_1079 (by decide) ?_
                      refine lv_icmp_eq (tgt := 1097) hx hb dL_acts_1081 (by decide) (fun h_199 => ?_) (fun h_199 => ?_)
                      · exact absurd h_199 (by decide)
                      refine lv_aload_n hx hb dL_acts_1084 rfl (lv_at hl 9 rfl) ?_
                      refine lv_iload hx hb dL_acts_1085 (lv_at hl 1 rfl) ?_
                      refine kcalli (wc := [cX x nw sn tk hs tx tr, cR nw na nb σ, xI g na 49 (zT σ), xI g nb 49 (zI σ)]) (wr := [cH hs hq kn, xQ g hq 4 (rq ρ), cR (ρ 0) (α 0) (β 0) (γ 0), xI g (α 0) 49 (zT (γ 0)), xI g (β 0) 49 (zI (γ 0)), cR (ρ 1) (α 1) (β 1) (γ 1), xI g (α 1) 49 (zT (γ 1)), xI g (β 1) 49 (zI (γ 1)), cR (ρ 2) (α 2) (β 2) (γ 2), xI g (α 2) 49 (zT (γ 2)), xI g (β 2) 49 (zI (γ 2)), cR (ρ 3) (α 3) (β 3) (γ 3), xI g (α 3) 49 (zT (γ 3)), xI g (β 3) 49 (zI (γ 3)), cT tx ch L, xC g ch 60 T, cTr tr tw od os po re ca, cR tw ta tb τ, xI g ta 49 (zT τ), xI g tb 49 (zI τ), cO od vb n1 n2 nm en]) (wn := fun (u : Unit) => [cX x nw sn tk hs tx tr, cR nw na nb σ, xI g na 49 (zT σ), xI g nb 49 (zI σ), cH hs hq kn, xQ g hq 4 (rq ρ), cR (ρ 0) (α 0) (β 0) (γ 0), xI g (α 0) 49 (zT (γ 0)), xI g (β 0) 49 (zI (γ 0)), cR (ρ 1) (α 1) (β 1) (γ 1), xI g (α 1) 49 (zT (γ 1)), xI g (β 1) 49 (zI (γ 1)), cR (ρ 2) (α 2) (β 2) (γ 2), xI g (α 2) 49 (zT (γ 2)), xI g (β 2) 49 (zI (γ 2)), cR (ρ 3) (α 3) (β 3) (γ 3), xI g (α 3) 49 (zT (γ 3)), xI g (β 3) 49 (zI (γ 3)), cT tx ch L, xC g ch 60 T, cTr tr tw od os po re ca, cR tw ta tb τ, xI g ta 49 (zT τ), xI g tb 49 (zI τ), cO od vb n1 n2 nm en]) F w [0, 1, 2, 3] [4, 5, 6, 7, 8, 9, 10, 11, 12, 13, 14, 15, 16, 17, 18, 19, 20, 21, 22, 23, 24] [21, 22, 23, 24, 0, 1, 2, 3, 4, 5, 6, 7, 8, 9, 10, 11, 12, 13, 14, 15, 16, 17, 18, 19, 20] rfl rfl rfl (fun _ => rfl)
                        (fun hp => va_runV (As := [.int (nI d8)]) (rest := []) F.1 (kX5_isOpen_k l g x nw sn tk hs tx tr na nb σ d8 H.size hdj) (cwV 1 hts gL_acts_X5_isOpen rfl rfl rfl ⟨rfl, hd_X5_isOpen⟩ ⟨Nat.le_of_ble_eq_true rfl, Nat.le_of_ble_eq_true rfl⟩) ⟨hp.1, va_recv F.2.2.2.1.1 w.1 (q0 := 0) (ci := 5) rfl rfl, hp.2⟩ rfl rfl hl.1 rfl (lv_room (Nat.le_of_ble_eq_true rfl)) dL_acts_1087 ⟨Nat.le_of_ble_eq_true rfl, Nat.le_of_ble_eq_true rfl⟩)
                        (fun r_200 _ H locs h_201 w => ?_)
                      subst h_201
                      refine lv_if_eq (tgt := 1097) hx hb dL_acts_1090 (by decide) (fun h_202 => ?_) (fun h_202 => ?_)
                      · have h_202 : (zO σ d8) = false := bI_z.mp h_202
                        refine lv_iconst (v := nI 0) hx hb dL_acts_1097 (by decide) ?_
                        refine lv_istore (lv' := [(14, .int (nI 0)), (13, .int (nI 0)), (4, .int (nI d8)), (12, .int (nI (zcnt (kindP σ true) 48))), (11, .int (nI (zcnt (kindP σ false) 48))), (10, .int (tA σ)), (8, .long (zB (zL σ))), (6, .long (zB (zO σ))), (5, .int (bI false)), (3, .int (nI hw9)), (0, .ref x), (1, .int v), (2, .int yv)]) hx hb dL_acts_1098 hl (by decide) rfl (fun ls hl => ?_)
                        refine lv_aload_n hx hb dL_acts_1100 rfl (lv_at hl 10 rfl) ?_
                        refine lv_iload hx hb dL_acts_1101 (lv_at hl 2 rfl) ?_
                        refine kcalli (wc := [cX x nw sn tk hs tx tr, cR nw na nb σ, xI g na 49 (zT σ), xI g nb 49 (zI σ)]) (wr := [cH hs hq kn, xQ g hq 4 (rq ρ), cR (ρ 0) (α 0) (β 0) (γ 0), xI g (α 0) 49 (zT (γ 0)), xI g (β 0) 49 (zI (γ 0)), cR (ρ 1) (α 1) (β 1) (γ 1), xI g (α 1) 49 (zT (γ 1)), xI g (β 1) 49 (zI (γ 1)), cR (ρ 2) (α 2) (β 2) (γ 2), xI g (α 2) 49 (zT (γ 2)), xI g (β 2) 49 (zI (γ 2)), cR (ρ 3) (α 3) (β 3) (γ 3), xI g (α 3) 49 (zT (γ 3)), xI g (β 3) 49 (zI (γ 3)), cT tx ch L, xC g ch 60 T, cTr tr tw od os po re ca, cR tw ta tb τ, xI g ta 49 (zT τ), xI g tb 49 (zI τ), cO od vb n1 n2 nm en]) (wn := fun (u : Unit) => [cX x nw sn tk hs tx tr, cR nw na nb σ, xI g na 49 (zT σ), xI g nb 49 (zI σ), cH hs hq kn, xQ g hq 4 (rq ρ), cR (ρ 0) (α 0) (β 0) (γ 0), xI g (α 0) 49 (zT (γ 0)), xI g (β 0) 49 (zI (γ 0)), cR (ρ 1) (α 1) (β 1) (γ 1), xI g (α 1) 49 (zT (γ 1)), xI g (β 1) 49 (zI (γ 1)), cR (ρ 2) (α 2) (β 2) (γ 2), xI g (α 2) 49 (zT (γ 2)), xI g (β 2) 49 (zI (γ 2)), cR (ρ 3) (α 3) (β 3) (γ 3), xI g (α 3) 49 (zT (γ 3)), xI g (β 3) 49 (zI (γ 3)), cT tx ch L, xC g ch 60 T, cTr tr tw od os po re ca, cR tw ta tb τ, xI g ta 49 (zT τ), xI g tb 49 (zI τ), cO od vb n1 n2 nm en]) F w [0, 1, 2, 3] [4, 5, 6, 7, 8, 9, 10, 11, 12, 13, 14, 15, 16, 17, 18, 19, 20, 21, 22, 23, 24] [21, 22, 23, 24, 0, 1, 2, 3, 4, 5, 6, 7, 8, 9, 10, 11, 12, 13, 14, 15, 16, 17, 18, 19, 20] rfl rfl rfl (fun _ => rfl)
                          (fun hp => vx_runSW (As := [.ref x, .int (nI d8)]) (rest := []) F.1 (kL_takeOut_S l hnl g x nw sn tk hs tx tr na nb σ d8 H.size hdj (Or.inl h_202)) (vx_cwSW 2 hts gL_acts_L_takeOut rfl rfl rfl hd_L_takeOut ⟨Nat.le_of_ble_eq_true rfl, Nat.le_of_ble_eq_true rfl⟩) hp rfl rfl hl.1 rfl (lv_room (Nat.le_of_ble_eq_true rfl)) dL_acts_1103 ⟨Nat.le_of_ble_eq_true rfl, Nat.le_of_ble_eq_true rfl⟩)
                          (fun r_203 _ H locs h_204 w => ?_)
                        subst h_204
                        refine lv_istore (lv' := [(15, .int (-103)), (14, .int (nI 0)), (13, .int (nI 0)), (4, .int (nI d8)), (12, .int (nI (zcnt (kindP σ true) 48))), (11, .int (nI (zcnt (kindP σ false) 48))), (10, .int (tA σ)), (8, .long (zB (zL σ))), (6, .long (zB (zO σ))), (5, .int (bI false)), (3, .int (nI hw9)), (0, .ref x), (1, .int v), (2, .int yv)]) hx hb dL_acts_1106 hl (by decide) rfl (fun ls hl => ?_)
                        refine lv_iload hx hb dL_acts_1108 (lv_at hl 0 rfl) ?_
                        refine lv_iload hx hb dL_acts_1110 (lv_at hl 9 rfl) ?_
                        refine lv_if_eq (tgt := 1120) hx hb dL_acts_1112 (by decide) (fun h_205 => ?_) (fun h_205 => ?_)
                        rotate_left 1
                        · exact absurd rfl h_205
                        refine lv_iload hx hb dL_acts_1120 (lv_at hl 1 rfl) ?_
                        refine lv_if_eq (tgt := 1130) hx hb dL_acts_1122 (by decide) (fun h_206 => ?_) (fun h_206 => ?_)
                        rotate_left 1
                        · exact absurd rfl h_206
                        refine lv_bipush (v := (-103)) hx hb dL_acts_1130 (by decide) ?_
                        refine lv_icmp_ne (tgt := 1218) hx hb dL_acts_1132 (by decide) (fun h_207 => ?_) (fun h_207 => ?_)
                        · exact absurd rfl h_207
                        refine lv_aload_n hx hb dL_acts_1135 rfl (lv_at hl 11 rfl) ?_
                        refine lv_iconst (v := nI 0) hx hb dL_acts_1136 (by decide) ?_
                        refine ktopi (y := bI false) (by decide) ?_
                        refine kcalli (wc := [cX x nw sn tk hs tx tr, cR nw na nb σ, xI g na 49 (zT σ), xI g nb 49 (zI σ)]) (wr := [cH hs hq kn, xQ g hq 4 (rq ρ), cR (ρ 0) (α 0) (β 0) (γ 0), xI g (α 0) 49 (zT (γ 0)), xI g (β 0) 49 (zI (γ 0)), cR (ρ 1) (α 1) (β 1) (γ 1), xI g (α 1) 49 (zT (γ 1)), xI g (β 1) 49 (zI (γ 1)), cR (ρ 2) (α 2) (β 2) (γ 2), xI g (α 2) 49 (zT (γ 2)), xI g (β 2) 49 (zI (γ 2)), cR (ρ 3) (α 3) (β 3) (γ 3), xI g (α 3) 49 (zT (γ 3)), xI g (β 3) 49 (zI (γ 3)), cT tx ch L, xC g ch 60 T, cTr tr tw od os po re ca, cR tw ta tb τ, xI g ta 49 (zT τ), xI g tb 49 (zI τ), cO od vb n1 n2 nm en]) (wn := fun (u : Unit) => [cX x nw sn tk hs tx tr, cR nw na nb σ, xI g na 49 (zT σ), xI g nb 49 (zI σ), cH hs hq kn, xQ g hq 4 (rq ρ), cR (ρ 0) (α 0) (β 0) (γ 0), xI g (α 0) 49 (zT (γ 0)), xI g (β 0) 49 (zI (γ 0)), cR (ρ 1) (α 1) (β 1) (γ 1), xI g (α 1) 49 (zT (γ 1)), xI g (β 1) 49 (zI (γ 1)), cR (ρ 2) (α 2) (β 2) (γ 2), xI g (α 2) 49 (zT (γ 2)), xI g (β 2) 49 (zI (γ 2)), cR (ρ 3) (α 3) (β 3) (γ 3), xI g (α 3) 49 (zT (γ 3)), xI g (β 3) 49 (zI (γ 3)), cT tx ch L, xC g ch 60 T, cTr tr tw od os po re ca, cR tw ta tb τ, xI g ta 49 (zT τ), xI g tb 49 (zI τ), cO od vb n1 n2 nm en]) F w [0, 1, 2, 3] [4, 5, 6, 7, 8, 9, 10, 11, 12, 13, 14, 15, 16, 17, 18, 19, 20, 21, 22, 23, 24] [21, 22, 23, 24, 0, 1, 2, 3, 4, 5, 6, 7, 8, 9, 10, 11, 12, 13, 14, 15, 16, 17, 18, 19, 20] rfl rfl rfl (fun _ => rfl)
                          (fun hp => va_runV (As := [.int (bI false)]) (rest := []) F.1 (kX5_thingsOf_k l g x nw sn tk hs tx tr na nb σ false H.size ) (cwV 1 hts gL_acts_X5_thingsOf rfl rfl rfl ⟨rfl, hd_X5_thingsOf⟩ ⟨Nat.le_of_ble_eq_true rfl, Nat.le_of_ble_eq_true rfl⟩) ⟨hp.1, va_recv F.2.2.2.1.1 w.1 (q0 := 0) (ci := 5) rfl rfl, hp.2⟩ rfl rfl hl.1 rfl (lv_room (Nat.le_of_ble_eq_true rfl)) dL_acts_1137 ⟨Nat.le_of_ble_eq_true rfl, Nat.le_of_ble_eq_true rfl⟩)
                          (fun r_208 _ H locs h_209 w => ?_)
                        subst h_209
                        refine lv_iload hx hb dL_acts_1140 (lv_at hl 5 rfl) ?_
                        refine lv_iload hx hb dL_acts_1142 (lv_at hl 1 rfl) ?_
                        refine lv_if_eq (tgt := 1156) hx hb dL_acts_1144 (by decide) (fun h_210 => ?_) (fun h_210 => ?_)
                        rotate_left 1
                        · exact absurd rfl h_210
                        refine lv_iconst (v := nI 0) hx hb dL_acts_1156 (by decide) ?_
                        refine lv_isub hx hb dL_acts_1157 ?_
                        refine ktopi (y := nI (zcnt (kindP σ false) 48)) (pk_sub (Nat.zero_le _)) ?_
                        refine lv_icmp_ne (tgt := 1218) hx hb dL_acts_1158 (by decide) (fun h_211 => ?_) (fun h_211 => ?_)
                        · exact absurd rfl h_211
                        refine lv_aload_n hx hb dL_acts_1161 rfl (lv_at hl 11 rfl) ?_
                        refine lv_iconst (v := nI 1) hx hb dL_acts_1162 (by decide) ?_
                        refine ktopi (y := bI true) (by decide) ?_
                        refine kcalli (wc := [cX x nw sn tk hs tx tr, cR nw na nb σ, xI g na 49 (zT σ), xI g nb 49 (zI σ)]) (wr := [cH hs hq kn, xQ g hq 4 (rq ρ), cR (ρ 0) (α 0) (β 0) (γ 0), xI g (α 0) 49 (zT (γ 0)), xI g (β 0) 49 (zI (γ 0)), cR (ρ 1) (α 1) (β 1) (γ 1), xI g (α 1) 49 (zT (γ 1)), xI g (β 1) 49 (zI (γ 1)), cR (ρ 2) (α 2) (β 2) (γ 2), xI g (α 2) 49 (zT (γ 2)), xI g (β 2) 49 (zI (γ 2)), cR (ρ 3) (α 3) (β 3) (γ 3), xI g (α 3) 49 (zT (γ 3)), xI g (β 3) 49 (zI (γ 3)), cT tx ch L, xC g ch 60 T, cTr tr tw od os po re ca, cR tw ta tb τ, xI g ta 49 (zT τ), xI g tb 49 (zI τ), cO od vb n1 n2 nm en]) (wn := fun (u : Unit) => [cX x nw sn tk hs tx tr, cR nw na nb σ, xI g na 49 (zT σ), xI g nb 49 (zI σ), cH hs hq kn, xQ g hq 4 (rq ρ), cR (ρ 0) (α 0) (β 0) (γ 0), xI g (α 0) 49 (zT (γ 0)), xI g (β 0) 49 (zI (γ 0)), cR (ρ 1) (α 1) (β 1) (γ 1), xI g (α 1) 49 (zT (γ 1)), xI g (β 1) 49 (zI (γ 1)), cR (ρ 2) (α 2) (β 2) (γ 2), xI g (α 2) 49 (zT (γ 2)), xI g (β 2) 49 (zI (γ 2)), cR (ρ 3) (α 3) (β 3) (γ 3), xI g (α 3) 49 (zT (γ 3)), xI g (β 3) 49 (zI (γ 3)), cT tx ch L, xC g ch 60 T, cTr tr tw od os po re ca, cR tw ta tb τ, xI g ta 49 (zT τ), xI g tb 49 (zI τ), cO od vb n1 n2 nm en]) F w [0, 1, 2, 3] [4, 5, 6, 7, 8, 9, 10, 11, 12, 13, 14, 15, 16, 17, 18, 19, 20, 21, 22, 23, 24] [21, 22, 23, 24, 0, 1, 2, 3, 4, 5, 6, 7, 8, 9, 10, 11, 12, 13, 14, 15, 16, 17, 18, 19, 20] rfl rfl rfl (fun _ => rfl)
                          (fun hp => va_runV (As := [.int (bI true)]) (rest := []) F.1 (kX5_thingsOf_k l g x nw sn tk hs tx tr na nb σ true H.size ) (cwV 1 hts gL_acts_X5_thingsOf rfl rfl rfl ⟨rfl, hd_X5_thingsOf⟩ ⟨Nat.le_of_ble_eq_true rfl, Nat.le_of_ble_eq_true rfl⟩) ⟨hp.1, va_recv F.2.2.2.1.1 w.1 (q0 := 0) (ci := 5) rfl rfl, hp.2⟩ rfl rfl hl.1 rfl (lv_room (Nat.le_of_ble_eq_true rfl)) dL_acts_1163 ⟨Nat.le_of_ble_eq_true rfl, Nat.le_of_ble_eq_true rfl⟩)
                          (fun r_212 _ H locs h_213 w => ?_)
                        subst h_213
                        refine lv_iload hx hb dL_acts_1166 (lv_at hl 4 rfl) ?_
                        refine lv_iload hx hb dL_acts_1168 (lv_at hl 1 rfl) ?_
                        refine lv_if_eq (tgt := 1183) hx hb dL_acts_1170 (by decide) (fun h_214 => ?_) (fun h_214 => ?_)
                        rotate_left 1
                        · exact absurd rfl h_214
                        refine lv_iconst (v := nI 0) hx hb dL_acts_1183 (by decide) ?_
                        refine lv_isub hx hb dL_acts_1184 ?_
                        refine ktopi (y := nI (zcnt (kindP σ true) 48)) (pk_sub (Nat.zero_le _)) ?_
                        refine lv_icmp_ne (tgt := 1218) hx hb dL_acts_1185 (by decide) (fun h_215 => ?_) (fun h_215 => ?_)
                        · exact absurd rfl h_215
                        refine lv_iload hx hb dL_acts_1188 (lv_at hl 1 rfl) ?_
                        refine lv_if_eq (tgt := 1204) hx hb dL_acts_1190 (by decide) (fun h_216 => ?_) (fun h_216 => ?_)
                        rotate_left 1
                        · exact absurd rfl h_216
                        refine lv_aload_n hx hb dL_acts_1204 rfl (lv_at hl 11 rfl) ?_
                        refine kcalll (wc := [cX x nw sn tk hs tx tr, cR nw na nb σ, xI g na 49 (zT σ), xI g nb 49 (zI σ)]) (wr := [cH hs hq kn, xQ g hq 4 (rq ρ), cR (ρ 0) (α 0) (β 0) (γ 0), xI g (α 0) 49 (zT (γ 0)), xI g (β 0) 49 (zI (γ 0)), cR (ρ 1) (α 1) (β 1) (γ 1), xI g (α 1) 49 (zT (γ 1)), xI g (β 1) 49 (zI (γ 1)), cR (ρ 2) (α 2) (β 2) (γ 2), xI g (α 2) 49 (zT (γ 2)), xI g (β 2) 49 (zI (γ 2)), cR (ρ 3) (α 3) (β 3) (γ 3), xI g (α 3) 49 (zT (γ 3)), xI g (β 3) 49 (zI (γ 3)), cT tx ch L, xC g ch 60 T, cTr tr tw od os po re ca, cR tw ta tb τ, xI g ta 49 (zT τ), xI g tb 49 (zI τ), cO od vb n1 n2 nm en]) (wn := fun (u : Unit) => [cX x nw sn tk hs tx tr, cR nw na nb σ, xI g na 49 (zT σ), xI g nb 49 (zI σ), cH hs hq kn, xQ g hq 4 (rq ρ), cR (ρ 0) (α 0) (β 0) (γ 0), xI g (α 0) 49 (zT (γ 0)), xI g (β 0) 49 (zI (γ 0)), cR (ρ 1) (α 1) (β 1) (γ 1), xI g (α 1) 49 (zT (γ 1)), xI g (β 1) 49 (zI (γ 1)), cR (ρ 2) (α 2) (β 2) (γ 2), xI g (α 2) 49 (zT (γ 2)), xI g (β 2) 49 (zI (γ 2)), cR (ρ 3) (α 3) (β 3) (γ 3), xI g (α 3) 49 (zT (γ 3)), xI g (β 3) 49 (zI (γ 3)), cT tx ch L, xC g ch 60 T, cTr tr tw od os po re ca, cR tw ta tb τ, xI g ta 49 (zT τ), xI g tb 49 (zI τ), cO od vb n1 n2 nm en]) F w [0, 1, 2, 3] [4, 5, 6, 7, 8, 9, 10, 11, 12, 13, 14, 15, 16, 17, 18, 19, 20, 21, 22, 23, 24] [21, 22, 23, 24, 0, 1, 2, 3, 4, 5, 6, 7, 8, 9, 10, 11, 12, 13, 14, 15, 16, 17, 18, 19, 20] rfl rfl rfl (fun _ => rfl)
                          (fun hp => va_runV (As := []) (rest := []) F.1 (kX5_openSet l g x nw sn tk hs tx tr na nb σ H.size ) (cwV 0 hts gL_acts_X5_openSet rfl rfl rfl ⟨rfl, hd_X5_openSet⟩ ⟨Nat.le_of_ble_eq_true rfl, Nat.le_of_ble_eq_true rfl⟩) ⟨hp.1, va_recv F.2.2.2.1.1 w.1 (q0 := 0) (ci := 5) rfl rfl, hp.2⟩ rfl rfl hl.1 rfl (lv_room (Nat.le_of_ble_eq_true rfl)) dL_acts_1205 ⟨Nat.le_of_ble_eq_true rfl, Nat.le_of_ble_eq_true rfl⟩)
                          (fun r_217 _ H locs h_218 w => ?_)
                        subst h_218
                        refine lv_lload hx hb dL_acts_1208 (lv_at hl 8 rfl) ?_
                        refine W.lcmp hx hb dL_acts_1210 ?_
                        refine lv_if_ne (tgt := 1218) hx hb dL_acts_1211 (by decide) (fun h_219 => ?_) (fun h_219 => ?_)
                        · exact absurd (lgc_eq.mpr rfl) h_219
                        refine lv_iconst (v := nI 1) hx hb dL_acts_1214 (by decide) ?_
                        refine lv_goto (tgt := 1219) hx hb dL_acts_1215 (by decide) ?_
                        refine ktopi (y := bI true) (by decide) ?_
                        refine W.widen (k := 60) (n := 360) (by omega) (by omega) ?_
                        subst hA
                        subst hQ
                        exact kretz F w (σ, kn, ρ, α, β, γ, L, T, os, po, re, ca, τ, vb, n1, n2, nm, en) [0, 1, 2, 3, 4, 5, 6, 7, 8, 9, 10, 11, 12, 13, 14, 15, 16, 17, 18, 19, 20, 21, 22, 23, 24] rfl rfl (⟨rfl, actP_0 hL⟩) (kz_n _) (Nat.le_of_ble_eq_true rfl) (Nat.le_of_ble_eq_true rfl) dL_acts_1219
                      · have h_202 : (zO σ d8) = true := bI_o.mp h_202
                        refine lv_iconst (v := nI 1) hx hb dL_acts_1093 (by decide) ?_
                        refine lv_goto (tgt := 1098) hx hb dL_acts_1094 (by decide) ?_
                        refine lv_istore (lv' := [(14, .int (nI 1)), (13, .int (nI 0)), (4, .int (nI d8)), (12, .int (nI (zcnt (kindP σ true) 48))), (11, .int (nI (zcnt (kindP σ false) 48))), (10, .int (tA σ)), (8, .long (zB (zL σ))), (6, .long (zB (zO σ))), (5, .int (bI false)), (3, .int (nI hw9)), (0, .ref x), (1, .int v), (2, .int yv)]) hx hb dL_acts_1098 hl (by decide) rfl (fun ls hl => ?_)
                        refine lv_aload_n hx hb dL_acts_1100 rfl (lv_at hl 10 rfl) ?_
                        refine lv_iload hx hb dL_acts_1101 (lv_at hl 2 rfl) ?_
                        refine kcalli (wc := [cX x nw sn tk hs tx tr, cR nw na nb σ, xI g na 49 (zT σ), xI g nb 49 (zI σ), cH hs hq kn, xQ g hq 4 (rq ρ), cR (ρ 0) (α 0) (β 0) (γ 0), xI g (α 0) 49 (zT (γ 0)), xI g (β 0) 49 (zI (γ 0)), cR (ρ 1) (α 1) (β 1) (γ 1), xI g (α 1) 49 (zT (γ 1)), xI g (β 1) 49 (zI (γ 1)), cR (ρ 2) (α 2) (β 2) (γ 2), xI g (α 2) 49 (zT (γ 2)), xI g (β 2) 49 (zI (γ 2)), cR (ρ 3) (α 3) (β 3) (γ 3), xI g (α 3) 49 (zT (γ 3)), xI g (β 3) 49 (zI (γ 3))]) (wr := [cT tx ch L, xC g ch 60 T, cTr tr tw od os po re ca, cR tw ta tb τ, xI g ta 49 (zT τ), xI g tb 49 (zI τ), cO od vb n1 n2 nm en]) (wn := fun (u : (Nat → Nat) × (Nat → Nat) × (Nat → Nat)) => [cX x nw sn tk hs tx tr, cR nw na nb (clrS d8 σ), xI g na 49 (zT (clrS d8 σ)), xI g nb 49 (zI (clrS d8 σ)), cH hs hq (pushN kn), xQ g hq 4 (rq u.1), cR (u.1 0) (u.2.1 0) (u.2.2 0) ((pushG γ kn σ) 0), xI g (u.2.1 0) 49 (zT ((pushG γ kn σ) 0)), xI g (u.2.2 0) 49 (zI ((pushG γ kn σ) 0)), cR (u.1 1) (u.2.1 1) (u.2.2 1) ((pushG γ kn σ) 1), xI g (u.2.1 1) 49 (zT ((pushG γ kn σ) 1)), xI g (u.2.2 1) 49 (zI ((pushG γ kn σ) 1)), cR (u.1 2) (u.2.1 2) (u.2.2 2) ((pushG γ kn σ) 2), xI g (u.2.1 2) 49 (zT ((pushG γ kn σ) 2)), xI g (u.2.2 2) 49 (zI ((pushG γ kn σ) 2)), cR (u.1 3) (u.2.1 3) (u.2.2 3) ((pushG γ kn σ) 3), xI g (u.2.1 3) 49 (zT ((pushG γ kn σ) 3)), xI g (u.2.2 3) 49 (zI ((pushG γ kn σ) 3)), cT tx ch L, xC g ch 60 T, cTr tr tw od os po re ca, cR tw ta tb τ, xI g ta 49 (zT τ), xI g tb 49 (zI τ), cO od vb n1 n2 nm en]) F w [0, 1, 2, 3, 4, 5, 6, 7, 8, 9, 10, 11, 12, 13, 14, 15, 16, 17] [18, 19, 20, 21, 22, 23, 24] [7, 8, 9, 10, 11, 12, 13, 14, 15, 16, 17, 18, 19, 20, 21, 22, 23, 24, 0, 1, 2, 3, 4, 5, 6] rfl rfl rfl (fun _ => rfl)
                          (fun hp => vx_runSW (As := [.ref x, .int (nI d8)]) (rest := []) F.1 (kL_takeOut_k l g x nw sn tk hs tx tr na nb σ hq kn ρ α β γ d8 H.size hdj (⟨h_202, hfl⟩) hkn) (vx_cwSW 2 hts gL_acts_L_takeOut rfl rfl rfl hd_L_takeOut ⟨Nat.le_of_ble_eq_true rfl, Nat.le_of_ble_eq_true rfl⟩) hp rfl rfl hl.1 rfl (lv_room (Nat.le_of_ble_eq_true rfl)) dL_acts_1103 ⟨Nat.le_of_ble_eq_true rfl, Nat.le_of_ble_eq_true rfl⟩)
                          (fun r_220 u H locs h_221 w => ?_)
                        try dsimp only at h_221
                        obtain ⟨u_222, hu9⟩ : ∃ z, z = u := ⟨_, rfl⟩
                        subst hu9
                        have w : kW g A s [cX x nw sn tk hs tx tr, cR nw na nb (clrS d8 σ), xI g na 49 (zT (clrS d8 σ)), xI g nb 49 (zI (clrS d8 σ)), cH hs hq (pushN kn), xQ g hq 4 (rq u_222.1), cR (u_222.1 0) (u_222.2.1 0) (u_222.2.2 0) ((pushG γ kn σ) 0), xI g (u_222.2.1 0) 49 (zT ((pushG γ kn σ) 0)), xI g (u_222.2.2 0) 49 (zI ((pushG γ kn σ) 0)), cR (u_222.1 1) (u_222.2.1 1) (u_222.2.2 1) ((pushG γ kn σ) 1), xI g (u_222.2.1 1) 49 (zT ((pushG γ kn σ) 1)), xI g (u_222.2.2 1) 49 (zI ((pushG γ kn σ) 1)), cR (u_222.1 2) (u_222.2.1 2) (u_222.2.2 2) ((pushG γ kn σ) 2), xI g (u_222.2.1 2) 49 (zT ((pushG γ kn σ) 2)), xI g (u_222.2.2 2) 49 (zI ((pushG γ kn σ) 2)), cR (u_222.1 3) (u_222.2.1 3) (u_222.2.2 3) ((pushG γ kn σ) 3), xI g (u_222.2.1 3) 49 (zT ((pushG γ kn σ) 3)), xI g (u_222.2.2 3) 49 (zI ((pushG γ kn σ) 3)), cT tx ch L, xC g ch 60 T, cTr tr tw od os po re ca, cR tw ta tb τ, xI g ta 49 (zT τ), xI g tb 49 (zI τ), cO od vb n1 n2 nm en] H locs := w
                        subst h_221
                        refine ktopi (y := nI 0) (by rw [hhh]; rfl) ?_
                        refine lv_istore (lv' := [(15, .int (nI 0)), (14, .int (nI 1)), (13, .int (nI 0)), (4, .int (nI d8)), (12, .int (nI (zcnt (kindP σ true) 48))), (11, .int (nI (zcnt (kindP σ false) 48))), (10, .int (tA σ)), (8, .long (zB (zL σ))), (6, .long (zB (zO σ))), (5, .int (bI false)), (3, .int (nI hw9)), (0, .ref x), (1, .int v), (2, .int yv)]) hx hb dL_acts_1106 hl (by decide) rfl (fun ls hl => ?_)
                        refine lv_iload hx hb dL_acts_1108 (lv_at hl 0 rfl) ?_
                        refine lv_iload hx hb dL_acts_1110 (lv_at hl 9 rfl) ?_
                        refine lv_if_eq (tgt := 1120) hx hb dL_acts_1112 (by decide) (fun h_223 => ?_) (fun h_223 => ?_)
                        rotate_left 1
                        · exact absurd rfl h_223
                        refine lv_iload hx hb dL_acts_1120 (lv_at hl 1 rfl) ?_
                        refine lv_if_eq (tgt := 1130) hx hb dL_acts_1122 (by decide) (fun h_224 => ?_) (fun h_224 => ?_)
                        · exact absurd h_224 (by decide)
                        refine lv_iload hx hb dL_acts_1125 (lv_at hl 2 rfl) ?_
                        refine lv_goto (tgt := 1132) hx hb dL_acts_1127 (by decide) ?_
                        refine lv_icmp_ne (tgt := 1218) hx hb dL_acts_1132 (by decide) (fun h_225 => ?_) (fun h_225 => ?_)
                        · exact absurd rfl h_225
                        have hkc := kind_clr hdj.1 hdj.2 hfl (kd := false) hhh
                        refine lv_aload_n hx hb dL_acts_1135 rfl (lv_at hl 11 rfl) ?_
                        refine lv_iconst (v := nI 0) hx hb dL_acts_1136 (by decide) ?_
                        refine ktopi (y := bI false) (by decide) ?_
                        refine kcalli (wc := [cX x nw sn tk hs tx tr, cR nw na nb (clrS d8 σ), xI g na 49 (zT (clrS d8 σ)), xI g nb 49 (zI (clrS d8 σ))]) (wr := [cH hs hq (pushN kn), xQ g hq 4 (rq u_222.1), cR (u_222.1 0) (u_222.2.1 0) (u_222.2.2 0) ((pushG γ kn σ) 0), xI g (u_222.2.1 0) 49 (zT ((pushG γ kn σ) 0)), xI g (u_222.2.2 0) 49 (zI ((pushG γ kn σ) 0)), cR (u_222.1 1) (u_222.2.1 1) (u_222.2.2 1) ((pushG γ kn σ) 1), xI g (u_222.2.1 1) 49 (zT ((pushG γ kn σ) 1)), xI g (u_222.2.2 1) 49 (zI ((pushG γ kn σ) 1)), cR (u_222.1 2) (u_222.2.1 2) (u_222.2.2 2) ((pushG γ kn σ) 2), xI g (u_222.2.1 2) 49 (zT ((pushG γ kn σ) 2)), xI g (u_222.2.2 2) 49 (zI ((pushG γ kn σ) 2)), cR (u_222.1 3) (u_222.2.1 3) (u_222.2.2 3) ((pushG γ kn σ) 3), xI g (u_222.2.1 3) 49 (zT ((pushG γ kn σ) 3)), xI g (u_222.2.2 3) 49 (zI ((pushG γ kn σ) 3)), cT tx ch L, xC g ch 60 T, cTr tr tw od os po re ca, cR tw ta tb τ, xI g ta 49 (zT τ), xI g tb 49 (zI τ), cO od vb n1 n2 nm en]) (wn := fun (u : Unit) => [cX x nw sn tk hs tx tr, cR nw na nb (clrS d8 σ), xI g na 49 (zT (clrS d8 σ)), xI g nb 49 (zI (clrS d8 σ)), cH hs hq (pushN kn), xQ g hq 4 (rq u_222.1), cR (u_222.1 0) (u_222.2.1 0) (u_222.2.2 0) ((pushG γ kn σ) 0), xI g (u_222.2.1 0) 49 (zT ((pushG γ kn σ) 0)), xI g (u_222.2.2 0) 49 (zI ((pushG γ kn σ) 0)), cR (u_222.1 1) (u_222.2.1 1) (u_222.2.2 1) ((pushG γ kn σ) 1), xI g (u_222.2.1 1) 49 (zT ((pushG γ kn σ) 1)), xI g (u_222.2.2 1) 49 (zI ((pushG γ kn σ) 1)), cR (u_222.1 2) (u_222.2.1 2) (u_222.2.2 2) ((pushG γ kn σ) 2), xI g (u_222.2.1 2) 49 (zT ((pushG γ kn σ) 2)), xI g (u_222.2.2 2) 49 (zI ((pushG γ kn σ) 2)), cR (u_222.1 3) (u_222.2.1 3) (u_222.2.2 3) ((pushG γ kn σ) 3), xI g (u_222.2.1 3) 49 (zT ((pushG γ kn σ) 3)), xI g (u_222.2.2 3) 49 (zI ((pushG γ kn σ) 3)), cT tx ch L, xC g ch 60 T, cTr tr tw od os po re ca, cR tw ta tb τ, xI g ta 49 (zT τ), xI g tb 49 (zI τ), cO od vb n1 n2 nm en]) F w [0, 1, 2, 3] [4, 5, 6, 7, 8, 9, 10, 11, 12, 13, 14, 15, 16, 17, 18, 19, 20, 21, 22, 23, 24] [21, 22, 23, 24, 0, 1, 2, 3, 4, 5, 6, 7, 8, 9, 10, 11, 12, 13, 14, 15, 16, 17, 18, 19, 20] rfl rfl rfl (fun _ => rfl)
                          (fun hp => va_runV (As := [.int (bI false)]) (rest := []) F.1 (kX5_thingsOf_k l g x nw sn tk hs tx tr na nb (clrS d8 σ) false H.size ) (cwV 1 hts gL_acts_X5_thingsOf rfl rfl rfl ⟨rfl, hd_X5_thingsOf⟩ ⟨Nat.le_of_ble_eq_true rfl, Nat.le_of_ble_eq_true rfl⟩) ⟨hp.1, va_recv F.2.2.2.1.1 w.1 (q0 := 0) (ci := 5) rfl rfl, hp.2⟩ rfl rfl hl.1 rfl (lv_room (Nat.le_of_ble_eq_true rfl)) dL_acts_1137 ⟨Nat.le_of_ble_eq_true rfl, Nat.le_of_ble_eq_true rfl⟩)
                          (fun r_226 _ H locs h_227 w => ?_)
                        subst h_227
                        refine lv_iload hx hb dL_acts_1140 (lv_at hl 5 rfl) ?_
                        refine lv_iload hx hb dL_acts_1142 (lv_at hl 1 rfl) ?_
                        refine lv_if_eq (tgt := 1156) hx hb dL_acts_1144 (by decide) (fun h_228 => ?_) (fun h_228 => ?_)
                        · exact absurd h_228 (by decide)
                        refine lv_iload hx hb dL_acts_1147 (lv_at hl 2 rfl) ?_
                        refine lv_if_ne (tgt := 1156) hx hb dL_acts_1149 (by decide) (fun h_229 => ?_) (fun h_229 => ?_)
                        · exact absurd rfl h_229
                        refine lv_iconst (v := nI 1) hx hb dL_acts_1152 (by decide) ?_
                        refine lv_goto (tgt := 1157) hx hb dL_acts_1153 (by decide) ?_
                        refine lv_isub hx hb dL_acts_1157 ?_
                        refine ktopi (y := nI (zcnt (kindP (clrS d8 σ) false) 48)) (by rw [hkc]; exact pk_sub (a := _ + 1) (b := 1) (by omega)) ?_
                        refine lv_icmp_ne (tgt := 1218) hx hb dL_acts_1158 (by decide) (fun h_230 => ?_) (fun h_230 => ?_)
                        · exact absurd rfl h_230
                        refine lv_aload_n hx hb dL_acts_1161 rfl (lv_at hl 11 rfl) ?_
                        refine lv_iconst (v := nI 1) hx hb dL_acts_1162 (by decide) ?_
                        refine ktopi (y := bI true) (by decide) ?_
                        refine kcalli (wc := [cX x nw sn tk hs tx tr, cR nw na nb (clrS d8 σ), xI g na 49 (zT (clrS d8 σ)), xI g nb 49 (zI (clrS d8 σ))]) (wr := [cH hs hq (pushN kn), xQ g hq 4 (rq u_222.1), cR (u_222.1 0) (u_222.2.1 0) (u_222.2.2 0) ((pushG γ kn σ) 0), xI g (u_222.2.1 0) 49 (zT ((pushG γ kn σ) 0)), xI g (u_222.2.2 0) 49 (zI ((pushG γ kn σ) 0)), cR (u_222.1 1) (u_222.2.1 1) (u_222.2.2 1) ((pushG γ kn σ) 1), xI g (u_222.2.1 1) 49 (zT ((pushG γ kn σ) 1)), xI g (u_222.2.2 1) 49 (zI ((pushG γ kn σ) 1)), cR (u_222.1 2) (u_222.2.1 2) (u_222.2.2 2) ((pushG γ kn σ) 2), xI g (u_222.2.1 2) 49 (zT ((pushG γ kn σ) 2)), xI g (u_222.2.2 2) 49 (zI ((pushG γ kn σ) 2)), cR (u_222.1 3) (u_222.2.1 3) (u_222.2.2 3) ((pushG γ kn σ) 3), xI g (u_222.2.1 3) 49 (zT ((pushG γ kn σ) 3)), xI g (u_222.2.2 3) 49 (zI ((pushG γ kn σ) 3)), cT tx ch L, xC g ch 60 T, cTr tr tw od os po re ca, cR tw ta tb τ, xI g ta 49 (zT τ), xI g tb 49 (zI τ), cO od vb n1 n2 nm en]) (wn := fun (u : Unit) => [cX x nw sn tk hs tx tr, cR nw na nb (clrS d8 σ), xI g na 49 (zT (clrS d8 σ)), xI g nb 49 (zI (clrS d8 σ)), cH hs hq (pushN kn), xQ g hq 4 (rq u_222.1), cR (u_222.1 0) (u_222.2.1 0) (u_222.2.2 0) ((pushG γ kn σ) 0), xI g (u_222.2.1 0) 49 (zT ((pushG γ kn σ) 0)), xI g (u_222.2.2 0) 49 (zI ((pushG γ kn σ) 0)), cR (u_222.1 1) (u_222.2.1 1) (u_222.2.2 1) ((pushG γ kn σ) 1), xI g (u_222.2.1 1) 49 (zT ((pushG γ kn σ) 1)), xI g (u_222.2.2 1) 49 (zI ((pushG γ kn σ) 1)), cR (u_222.1 2) (u_222.2.1 2) (u_222.2.2 2) ((pushG γ kn σ) 2), xI g (u_222.2.1 2) 49 (zT ((pushG γ kn σ) 2)), xI g (u_222.2.2 2) 49 (zI ((pushG γ kn σ) 2)), cR (u_222.1 3) (u_222.2.1 3) (u_222.2.2 3) ((pushG γ kn σ) 3), xI g (u_222.2.1 3) 49 (zT ((pushG γ kn σ) 3)), xI g (u_222.2.2 3) 49 (zI ((pushG γ kn σ) 3)), cT tx ch L, xC g ch 60 T, cTr tr tw od os po re ca, cR tw ta tb τ, xI g ta 49 (zT τ), xI g tb 49 (zI τ), cO od vb n1 n2 nm en]) F w [0, 1, 2, 3] [4, 5, 6, 7, 8, 9, 10, 11, 12, 13, 14, 15, 16, 17, 18, 19, 20, 21, 22, 23, 24] [21, 22, 23, 24, 0, 1, 2, 3, 4, 5, 6, 7, 8, 9, 10, 11, 12, 13, 14, 15, 16, 17, 18, 19, 20] rfl rfl rfl (fun _ => rfl)
                          (fun hp => va_runV (As := [.int (bI true)]) (rest := []) F.1 (kX5_thingsOf_k l g x nw sn tk hs tx tr na nb (clrS d8 σ) true H.size ) (cwV 1 hts gL_acts_X5_thingsOf rfl rfl rfl ⟨rfl, hd_X5_thingsOf⟩ ⟨Nat.le_of_ble_eq_true rfl, Nat.le_of_ble_eq_true rfl⟩) ⟨hp.1, va_recv F.2.2.2.1.1 w.1 (q0 := 0) (ci := 5) rfl rfl, hp.2⟩ rfl rfl hl.1 rfl (lv_room (Nat.le_of_ble_eq_true rfl)) dL_acts_1163 ⟨Nat.le_of_ble_eq_true rfl, Nat.le_of_ble_eq_true rfl⟩)
                          (fun r_231 _ H locs h_232 w => ?_)
                        subst h_232
                        refine lv_iload hx hb dL_acts_1166 (lv_at hl 4 rfl) ?_
                        refine lv_iload hx hb dL_acts_1168 (lv_at hl 1 rfl) ?_
                        refine lv_if_eq (tgt := 1183) hx hb dL_acts_1170 (by decide) (fun h_233 => ?_) (fun h_233 => ?_)
                        · exact absurd h_233 (by decide)
                        refine lv_iload hx hb dL_acts_1173 (lv_at hl 2 rfl) ?_
                        refine lv_iconst (v := nI 1) hx hb dL_acts_1175 (by decide) ?_
                        refine lv_icmp_ne (tgt := 1183) hx hb dL_acts_1176 (by decide) (fun h_234 => ?_) (fun h_234 => ?_)
                        rotate_left 1
                        · exact absurd h_234 (by decide)
                        refine lv_iconst (v := nI 0) hx hb dL_acts_1183 (by decide) ?_
                        refine lv_isub hx hb dL_acts_1184 ?_
                        refine ktopi (y := nI (zcnt (kindP (clrS d8 σ) true) 48)) (by rw [kind_clr2 (kd := true) (by rw [hhh]; decide)]; exact pk_sub (Nat.zero_le _)) ?_
                        refine lv_icmp_ne (tgt := 1218) hx hb dL_acts_1185 (by decide) (fun h_235 => ?_) (fun h_235 => ?_)
                        · exact absurd rfl h_235
                        refine lv_iload hx hb dL_acts_1188 (lv_at hl 1 rfl) ?_
                        refine lv_if_eq (tgt := 1204) hx hb dL_acts_1190 (by decide) (fun h_236 => ?_) (fun h_236 => ?_)
                        · exact absurd h_236 (by decide)
                        refine lv_aload_n hx hb dL_acts_1193 rfl (lv_at hl 11 rfl) ?_
                        refine lv_iload hx hb dL_acts_1194 (lv_at hl 3 rfl) ?_
                        refine kcalli (wc := [cX x nw sn tk hs tx tr, cR nw na nb (clrS d8 σ), xI g na 49 (zT (clrS d8 σ)), xI g nb 49 (zI (clrS d8 σ))]) (wr := [cH hs hq (pushN kn), xQ g hq 4 (rq u_222.1), cR (u_222.1 0) (u_222.2.1 0) (u_222.2.2 0) ((pushG γ kn σ) 0), xI g (u_222.2.1 0) 49 (zT ((pushG γ kn σ) 0)), xI g (u_222.2.2 0) 49 (zI ((pushG γ kn σ) 0)), cR (u_222.1 1) (u_222.2.1 1) (u_222.2.2 1) ((pushG γ kn σ) 1), xI g (u_222.2.1 1) 49 (zT ((pushG γ kn σ) 1)), xI g (u_222.2.2 1) 49 (zI ((pushG γ kn σ) 1)), cR (u_222.1 2) (u_222.2.1 2) (u_222.2.2 2) ((pushG γ kn σ) 2), xI g (u_222.2.1 2) 49 (zT ((pushG γ kn σ) 2)), xI g (u_222.2.2 2) 49 (zI ((pushG γ kn σ) 2)), cR (u_222.1 3) (u_222.2.1 3) (u_222.2.2 3) ((pushG γ kn σ) 3), xI g (u_222.2.1 3) 49 (zT ((pushG γ kn σ) 3)), xI g (u_222.2.2 3) 49 (zI ((pushG γ kn σ) 3)), cT tx ch L, xC g ch 60 T, cTr tr tw od os po re ca, cR tw ta tb τ, xI g ta 49 (zT τ), xI g tb 49 (zI τ), cO od vb n1 n2 nm en]) (wn := fun (u : Unit) => [cX x nw sn tk hs tx tr, cR nw na nb (clrS d8 σ), xI g na 49 (zT (clrS d8 σ)), xI g nb 49 (zI (clrS d8 σ)), cH hs hq (pushN kn), xQ g hq 4 (rq u_222.1), cR (u_222.1 0) (u_222.2.1 0) (u_222.2.2 0) ((pushG γ kn σ) 0), xI g (u_222.2.1 0) 49 (zT ((pushG γ kn σ) 0)), xI g (u_222.2.2 0) 49 (zI ((pushG γ kn σ) 0)), cR (u_222.1 1) (u_222.2.1 1) (u_222.2.2 1) ((pushG γ kn σ) 1), xI g (u_222.2.1 1) 49 (zT ((pushG γ kn σ) 1)), xI g (u_222.2.2 1) 49 (zI ((pushG γ kn σ) 1)), cR (u_222.1 2) (u_222.2.1 2) (u_222.2.2 2) ((pushG γ kn σ) 2), xI g (u_222.2.1 2) 49 (zT ((pushG γ kn σ) 2)), xI g (u_222.2.2 2) 49 (zI ((pushG γ kn σ) 2)), cR (u_222.1 3) (u_222.2.1 3) (u_222.2.2 3) ((pushG γ kn σ) 3), xI g (u_222.2.1 3) 49 (zT ((pushG γ kn σ) 3)), xI g (u_222.2.2 3) 49 (zI ((pushG γ kn σ) 3)), cT tx ch L, xC g ch 60 T, cTr tr tw od os po re ca, cR tw ta tb τ, xI g ta 49 (zT τ), xI g tb 49 (zI τ), cO od vb n1 n2 nm en]) F w [0, 1, 2, 3] [4, 5, 6, 7, 8, 9, 10, 11, 12, 13, 14, 15, 16, 17, 18, 19, 20, 21, 22, 23, 24] [21, 22, 23, 24, 0, 1, 2, 3, 4, 5, 6, 7, 8, 9, 10, 11, 12, 13, 14, 15, 16, 17, 18, 19, 20] rfl rfl rfl (fun _ => rfl)
                          (fun hp => vx_runSW (As := [.ref x, .int (nI d8)]) (rest := []) F.1 (kL_thingAt l hnl g x nw sn tk hs tx tr na nb (clrS d8 σ) d8 H.size hdj) (vx_cwSW 2 hts gL_acts_L_thingAt rfl rfl rfl hd_L_thingAt ⟨Nat.le_of_ble_eq_true rfl, Nat.le_of_ble_eq_true rfl⟩) hp rfl rfl hl.1 rfl (lv_room (Nat.le_of_ble_eq_true rfl)) dL_acts_1196 ⟨Nat.le_of_ble_eq_true rfl, Nat.le_of_ble_eq_true rfl⟩)
                          (fun r_237 _ H locs h_238 w => ?_)
                        subst h_238
                        refine ktopi (y := (-104)) (thV_f bup_s) ?_
                        refine lv_bipush (v := (-104)) hx hb dL_acts_1199 (by decide) ?_
                        refine lv_icmp_ne (tgt := 1218) hx hb dL_acts_1201 (by decide) (fun h_239 => ?_) (fun h_239 => ?_)
                        · exact absurd rfl h_239
                        refine lv_aload_n hx hb dL_acts_1204 rfl (lv_at hl 11 rfl) ?_
                        refine kcalll (wc := [cX x nw sn tk hs tx tr, cR nw na nb (clrS d8 σ), xI g na 49 (zT (clrS d8 σ)), xI g nb 49 (zI (clrS d8 σ))]) (wr := [cH hs hq (pushN kn), xQ g hq 4 (rq u_222.1), cR (u_222.1 0) (u_222.2.1 0) (u_222.2.2 0) ((pushG γ kn σ) 0), xI g (u_222.2.1 0) 49 (zT ((pushG γ kn σ) 0)), xI g (u_222.2.2 0) 49 (zI ((pushG γ kn σ) 0)), cR (u_222.1 1) (u_222.2.1 1) (u_222.2.2 1) ((pushG γ kn σ) 1), xI g (u_222.2.1 1) 49 (zT ((pushG γ kn σ) 1)), xI g (u_222.2.2 1) 49 (zI ((pushG γ kn σ) 1)), cR (u_222.1 2) (u_222.2.1 2) (u_222.2.2 2) ((pushG γ kn σ) 2), xI g (u_222.2.1 2) 49 (zT ((pushG γ kn σ) 2)), xI g (u_222.2.2 2) 49 (zI ((pushG γ kn σ) 2)), cR (u_222.1 3) (u_222.2.1 3) (u_222.2.2 3) ((pushG γ kn σ) 3), xI g (u_222.2.1 3) 49 (zT ((pushG γ kn σ) 3)), xI g (u_222.2.2 3) 49 (zI ((pushG γ kn σ) 3)), cT tx ch L, xC g ch 60 T, cTr tr tw od os po re ca, cR tw ta tb τ, xI g ta 49 (zT τ), xI g tb 49 (zI τ), cO od vb n1 n2 nm en]) (wn := fun (u : Unit) => [cX x nw sn tk hs tx tr, cR nw na nb (clrS d8 σ), xI g na 49 (zT (clrS d8 σ)), xI g nb 49 (zI (clrS d8 σ)), cH hs hq (pushN kn), xQ g hq 4 (rq u_222.1), cR (u_222.1 0) (u_222.2.1 0) (u_222.2.2 0) ((pushG γ kn σ) 0), xI g (u_222.2.1 0) 49 (zT ((pushG γ kn σ) 0)), xI g (u_222.2.2 0) 49 (zI ((pushG γ kn σ) 0)), cR (u_222.1 1) (u_222.2.1 1) (u_222.2.2 1) ((pushG γ kn σ) 1), xI g (u_222.2.1 1) 49 (zT ((pushG γ kn σ) 1)), xI g (u_222.2.2 1) 49 (zI ((pushG γ kn σ) 1)), cR (u_222.1 2) (u_222.2.1 2) (u_222.2.2 2) ((pushG γ kn σ) 2), xI g (u_222.2.1 2) 49 (zT ((pushG γ kn σ) 2)), xI g (u_222.2.2 2) 49 (zI ((pushG γ kn σ) 2)), cR (u_222.1 3) (u_222.2.1 3) (u_222.2.2 3) ((pushG γ kn σ) 3), xI g (u_222.2.1 3) 49 (zT ((pushG γ kn σ) 3)), xI g (u_222.2.2 3) 49 (zI ((pushG γ kn σ) 3)), cT tx ch L, xC g ch 60 T, cTr tr tw od os po re ca, cR tw ta tb τ, xI g ta 49 (zT τ), xI g tb 49 (zI τ), cO od vb n1 n2 nm en]) F w [0, 1, 2, 3] [4, 5, 6, 7, 8, 9, 10, 11, 12, 13, 14, 15, 16, 17, 18, 19, 20, 21, 22, 23, 24] [21, 22, 23, 24, 0, 1, 2, 3, 4, 5, 6, 7, 8, 9, 10, 11, 12, 13, 14, 15, 16, 17, 18, 19, 20] rfl rfl rfl (fun _ => rfl)
                          (fun hp => va_runV (As := []) (rest := []) F.1 (kX5_openSet l g x nw sn tk hs tx tr na nb (clrS d8 σ) H.size ) (cwV 0 hts gL_acts_X5_openSet rfl rfl rfl ⟨rfl, hd_X5_openSet⟩ ⟨Nat.le_of_ble_eq_true rfl, Nat.le_of_ble_eq_true rfl⟩) ⟨hp.1, va_recv F.2.2.2.1.1 w.1 (q0 := 0) (ci := 5) rfl rfl, hp.2⟩ rfl rfl hl.1 rfl (lv_room (Nat.le_of_ble_eq_true rfl)) dL_acts_1205 ⟨Nat.le_of_ble_eq_true rfl, Nat.le_of_ble_eq_true rfl⟩)
                          (fun r_240 _ H locs h_241 w => ?_)
                        subst h_241
                        refine lv_lload hx hb dL_acts_1208 (lv_at hl 8 rfl) ?_
                        refine W.lcmp hx hb dL_acts_1210 ?_
                        refine lv_if_ne (tgt := 1218) hx hb dL_acts_1211 (by decide) (fun h_242 => ?_) (fun h_242 => ?_)
                        · exact absurd (lgc_eq.mpr rfl) h_242
                        refine lv_iconst (v := nI 1) hx hb dL_acts_1214 (by decide) ?_
                        refine lv_goto (tgt := 1219) hx hb dL_acts_1215 (by decide) ?_
                        refine ktopi (y := bI true) (by decide) ?_
                        refine W.widen (k := 60) (n := 360) (by omega) (by omega) ?_
                        subst hA
                        subst hQ
                        exact kretz F w (clrS d8 σ, pushN kn, u_222.1, u_222.2.1, u_222.2.2, pushG γ kn σ, L, T, os, po, re, ca, τ, vb, n1, n2, nm, en) [0, 1, 2, 3, 4, 5, 6, 7, 8, 9, 10, 11, 12, 13, 14, 15, 16, 17, 18, 19, 20, 21, 22, 23, 24] rfl rfl (⟨rfl, actP_1 hL (fun B hB => hB.mono (Nat.le_add_right _ _))⟩) (kz_n _) (Nat.le_of_ble_eq_true rfl) (Nat.le_of_ble_eq_true rfl) dL_acts_1219
                    · skip
                      have hfl := h_178.1
                      have hhh := h_178.2
                      refine ktopi (y := nI 1) (by rw [thV_t hfl, hhh]; rfl) ?_
                      refine lv_istore (lv' := [(13, .int (nI 1)), (4, .int (nI d8)), (12, .int (nI (zcnt (kindP σ true) 48))), (11, .int (nI (zcnt (kindP σ false) 48))), (10, .int (tA σ)), (8, .long (zB (zL σ))), (6, .long (zB (zO σ))), (5, .int (bI false)), (3, .int (nI hw9)), (0, .ref x), (1, .int v), (2, .int yv)]) hx hb dL_acts_1070 hl (by decide) rfl (fun ls hl => ?_)
                      refine lv_iload hx hb dL_acts_1072 (lv_at hl 7 rfl) ?_
                      refine lv_if_ne (tgt := 1097) hx hb dL_acts_1074 (by decide) (fun h_243 => ?_) (fun h_243 => ?_)
                      · exact absurd rfl h_243
                      refine lv_iload hx hb dL_acts_1077 (lv_at hl 0 rfl) ?_
                      refine lv_bipush (v := (-104)) hx hb dL_acts_1079 (by decide) ?_
                      refine lv_icmp_eq (tgt := 1097) hx hb dL_acts_1081 (by decide) (fun h_244 => ?_) (fun h_244 => ?_)
                      · exact absurd h_244 (by decide)
                      refine lv_aload_n hx hb dL_acts_1084 rfl (lv_at hl 9 rfl) ?_
                      refine lv_iload hx hb dL_acts_1085 (lv_at hl 1 rfl) ?_
                      refine kcalli (wc := [cX x nw sn tk hs tx tr, cR nw na nb σ, xI g na 49 (zT σ), xI g nb 49 (zI σ)]) (wr := [cH hs hq kn, xQ g hq 4 (rq ρ), cR (ρ 0) (α 0) (β 0) (γ 0), xI g (α 0) 49 (zT (γ 0)), xI g (β 0) 49 (zI (γ 0)), cR (ρ 1) (α 1) (β 1) (γ 1), xI g (α 1) 49 (zT (γ 1)), xI g (β 1) 49 (zI (γ 1)), cR (ρ 2) (α 2) (β 2) (γ 2), xI g (α 2) 49 (zT (γ 2)), xI g (β 2) 49 (zI (γ 2)), cR (ρ 3) (α 3) (β 3) (γ 3), xI g (α 3) 49 (zT (γ 3)), xI g (β 3) 49 (zI (γ 3)), cT tx ch L, xC g ch 60 T, cTr tr tw od os po re ca, cR tw ta tb τ, xI g ta 49 (zT τ), xI g tb 49 (zI τ), cO od vb n1 n2 nm en]) (wn := fun (u : Unit) => [cX x nw sn tk hs tx tr, cR nw na nb σ, xI g na 49 (zT σ), xI g nb 49 (zI σ), cH hs hq kn, xQ g hq 4 (rq ρ), cR (ρ 0) (α 0) (β 0) (γ 0), xI g (α 0) 49 (zT (γ 0)), xI g (β 0) 49 (zI (γ 0)), cR (ρ 1) (α 1) (β 1) (γ 1), xI g (α 1) 49 (zT (γ 1)), xI g (β 1) 49 (zI (γ 1)), cR (ρ 2) (α 2) (β 2) (γ 2), xI g (α 2) 49 (zT (γ 2)), xI g (β 2) 49 (zI (γ 2)), cR (ρ 3) (α 3) (β 3) (γ 3), xI g (α 3) 49 (zT (γ 3)), xI g (β 3) 49 (zI (γ 3)), cT tx ch L, xC g ch 60 T, cTr tr tw od os po re ca, cR tw ta tb τ, xI g ta 49 (zT τ), xI g tb 49 (zI τ), cO od vb n1 n2 nm en]) F w [0, 1, 2, 3] [4, 5, 6, 7, 8, 9, 10, 11, 12, 13, 14, 15, 16, 17, 18, 19, 20, 21, 22, 23, 24] [21, 22, 23, 24, 0, 1, 2, 3, 4, 5, 6, 7, 8, 9, 10, 11, 12, 13, 14, 15, 16, 17, 18, 19, 20] rfl rfl rfl (fun _ => rfl)
                        (fun hp => va_runV (As := [.int (nI d8)]) (rest := []) F.1 (kX5_isOpen_k l g x nw sn tk hs tx tr na nb σ d8 H.size hdj) (cwV 1 hts gL_acts_X5_isOpen rfl rfl rfl ⟨rfl, hd_X5_isOpen⟩ ⟨Nat.le_of_ble_eq_true rfl, Nat.le_of_ble_eq_true rfl⟩) ⟨hp.1, va_recv F.2.2.2.1.1 w.1 (q0 := 0) (ci := 5) rfl rfl, hp.2⟩ rfl rfl hl.1 rfl (lv_room (Nat.le_of_ble_eq_true rfl)) dL_acts_1087 ⟨Nat.le_of_ble_eq_true rfl, Nat.le_of_ble_eq_true rfl⟩)
                        (fun r_245 _ H locs h_246 w => ?_)
                      subst h_246
                      refine lv_if_eq (tgt := 1097) hx hb dL_acts_1090 (by decide) (fun h_247 => ?_) (fun h_247 => ?_)
                      · have h_247 : (zO σ d8) = false := bI_z.mp h_247
                        refine lv_iconst (v := nI 0) hx hb dL_acts_1097 (by decide) ?_
                        refine lv_istore (lv' := [(14, .int (nI 0)), (13, .int (nI 1)), (4, .int (nI d8)), (12, .int (nI (zcnt (kindP σ true) 48))), (11, .int (nI (zcnt (kindP σ false) 48))), (10, .int (tA σ)), (8, .long (zB (zL σ))), (6, .long (zB (zO σ))), (5, .int (bI false)), (3, .int (nI hw9)), (0, .ref x), (1, .int v), (2, .int yv)]) hx hb dL_acts_1098 hl (by decide) rfl (fun ls hl => ?_)
                        refine lv_aload_n hx hb dL_acts_1100 rfl (lv_at hl 10 rfl) ?_
                        refine lv_iload hx hb dL_acts_1101 (lv_at hl 2 rfl) ?_
                        refine kcalli (wc := [cX x nw sn tk hs tx tr, cR nw na nb σ, xI g na 49 (zT σ), xI g nb 49 (zI σ)]) (wr := [cH hs hq kn, xQ g hq 4 (rq ρ), cR (ρ 0) (α 0) (β 0) (γ 0), xI g (α 0) 49 (zT (γ 0)), xI g (β 0) 49 (zI (γ 0)), cR (ρ 1) (α 1) (β 1) (γ 1), xI g (α 1) 49 (zT (γ 1)), xI g (β 1) 49 (zI (γ 1)), cR (ρ 2) (α 2) (β 2) (γ 2), xI g (α 2) 49 (zT (γ 2)), xI g (β 2) 49 (zI (γ 2)), cR (ρ 3) (α 3) (β 3) (γ 3), xI g (α 3) 49 (zT (γ 3)), xI g (β 3) 49 (zI (γ 3)), cT tx ch L, xC g ch 60 T, cTr tr tw od os po re ca, cR tw ta tb τ, xI g ta 49 (zT τ), xI g tb 49 (zI τ), cO od vb n1 n2 nm en]) (wn := fun (u : Unit) => [cX x nw sn tk hs tx tr, cR nw na nb σ, xI g na 49 (zT σ), xI g nb 49 (zI σ), cH hs hq kn, xQ g hq 4 (rq ρ), cR (ρ 0) (α 0) (β 0) (γ 0), xI g (α 0) 49 (zT (γ 0)), xI g (β 0) 49 (zI (γ 0)), cR (ρ 1) (α 1) (β 1) (γ 1), xI g (α 1) 49 (zT (γ 1)), xI g (β 1) 49 (zI (γ 1)), cR (ρ 2) (α 2) (β 2) (γ 2), xI g (α 2) 49 (zT (γ 2)), xI g (β 2) 49 (zI (γ 2)), cR (ρ 3) (α 3) (β 3) (γ 3), xI g (α 3) 49 (zT (γ 3)), xI g (β 3) 49 (zI (γ 3)), cT tx ch L, xC g ch 60 T, cTr tr tw od os po re ca, cR tw ta tb τ, xI g ta 49 (zT τ), xI g tb 49 (zI τ), cO od vb n1 n2 nm en]) F w [0, 1, 2, 3] [4, 5, 6, 7, 8, 9, 10, 11, 12, 13, 14, 15, 16, 17, 18, 19, 20, 21, 22, 23, 24] [21, 22, 23, 24, 0, 1, 2, 3, 4, 5, 6, 7, 8, 9, 10, 11, 12, 13, 14, 15, 16, 17, 18, 19, 20] rfl rfl rfl (fun _ => rfl)
                          (fun hp => vx_runSW (As := [.ref x, .int (nI d8)]) (rest := []) F.1 (kL_takeOut_S l hnl g x nw sn tk hs tx tr na nb σ d8 H.size hdj (Or.inl h_247)) (vx_cwSW 2 hts gL_acts_L_takeOut rfl rfl rfl hd_L_takeOut ⟨Nat.le_of_ble_eq_true rfl, Nat.le_of_ble_eq_true rfl⟩) hp rfl rfl hl.1 rfl (lv_room (Nat.le_of_ble_eq_true rfl)) dL_acts_1103 ⟨Nat.le_of_ble_eq_true rfl, Nat.le_of_ble_eq_true rfl⟩)
                          (fun r_248 _ H locs h_249 w => ?_)
                        subst h_249
                        refine lv_istore (lv' := [(15, .int (-103)), (14, .int (nI 0)), (13, .int (nI 1)), (4, .int (nI d8)), (12, .int (nI (zcnt (kindP σ true) 48))), (11, .int (nI (zcnt (kindP σ false) 48))), (10, .int (tA σ)), (8, .long (zB (zL σ))), (6, .long (zB (zO σ))), (5, .int (bI false)), (3, .int (nI hw9)), (0, .ref x), (1, .int v), (2, .int yv)]) hx hb dL_acts_1106 hl (by decide) rfl (fun ls hl => ?_)
                        refine lv_iload hx hb dL_acts_1108 (lv_at hl 0 rfl) ?_
                        refine lv_iload hx hb dL_acts_1110 (lv_at hl 9 rfl) ?_
                        refine lv_if_eq (tgt := 1120) hx hb dL_acts_1112 (by decide) (fun h_250 => ?_) (fun h_250 => ?_)
                        rotate_left 1
                        · exact absurd rfl h_250
                        refine lv_iload hx hb dL_acts_1120 (lv_at hl 1 rfl) ?_
                        refine lv_if_eq (tgt := 1130) hx hb dL_acts_1122 (by decide) (fun h_251 => ?_) (fun h_251 => ?_)
                        rotate_left 1
                        · exact absurd rfl h_251
                        refine lv_bipush (v := (-103)) hx hb dL_acts_1130 (by decide) ?_
                        refine lv_icmp_ne (tgt := 1218) hx hb dL_acts_1132 (by decide) (fun h_252 => ?_) (fun h_252 => ?_)
                        · exact absurd rfl h_252
                        refine lv_aload_n hx hb dL_acts_1135 rfl (lv_at hl 11 rfl) ?_
                        refine lv_iconst (v := nI 0) hx hb dL_acts_1136 (by decide) ?_
                        refine ktopi (y := bI false) (by decide) ?_
                        refine kcalli (wc := [cX x nw sn tk hs tx tr, cR nw na nb σ, xI g na 49 (zT σ), xI g nb 49 (zI σ)]) (wr := [cH hs hq kn, xQ g hq 4 (rq ρ), cR (ρ 0) (α 0) (β 0) (γ 0), xI g (α 0) 49 (zT (γ 0)), xI g (β 0) 49 (zI (γ 0)), cR (ρ 1) (α 1) (β 1) (γ 1), xI g (α 1) 49 (zT (γ 1)), xI g (β 1) 49 (zI (γ 1)), cR (ρ 2) (α 2) (β 2) (γ 2), xI g (α 2) 49 (zT (γ 2)), xI g (β 2) 49 (zI (γ 2)), cR (ρ 3) (α 3) (β 3) (γ 3), xI g (α 3) 49 (zT (γ 3)), xI g (β 3) 49 (zI (γ 3)), cT tx ch L, xC g ch 60 T, cTr tr tw od os po re ca, cR tw ta tb τ, xI g ta 49 (zT τ), xI g tb 49 (zI τ), cO od vb n1 n2 nm en]) (wn := fun (u : Unit) => [cX x nw sn tk hs tx tr, cR nw na nb σ, xI g na 49 (zT σ), xI g nb 49 (zI σ), cH hs hq kn, xQ g hq 4 (rq ρ), cR (ρ 0) (α 0) (β 0) (γ 0), xI g (α 0) 49 (zT (γ 0)), xI g (β 0) 49 (zI (γ 0)), cR (ρ 1) (α 1) (β 1) (γ 1), xI g (α 1) 49 (zT (γ 1)), xI g (β 1) 49 (zI (γ 1)), cR (ρ 2) (α 2) (β 2) (γ 2), xI g (α 2) 49 (zT (γ 2)), xI g (β 2) 49 (zI (γ 2)), cR (ρ 3) (α 3) (β 3) (γ 3), xI g (α 3) 49 (zT (γ 3)), xI g (β 3) 49 (zI (γ 3)), cT tx ch L, xC g ch 60 T, cTr tr tw od os po re ca, cR tw ta tb τ, xI g ta 49 (zT τ), xI g tb 49 (zI τ), cO od vb n1 n2 nm en]) F w [0, 1, 2, 3] [4, 5, 6, 7, 8, 9, 10, 11, 12, 13, 14, 15, 16, 17, 18, 19, 20, 21, 22, 23, 24] [21, 22, 23, 24, 0, 1, 2, 3, 4, 5, 6, 7, 8, 9, 10, 11, 12, 13, 14, 15, 16, 17, 18, 19, 20] rfl rfl rfl (fun _ => rfl)
                          (fun hp => va_runV (As := [.int (bI false)]) (rest := []) F.1 (kX5_thingsOf_k l g x nw sn tk hs tx tr na nb σ false H.size ) (cwV 1 hts gL_acts_X5_thingsOf rfl rfl rfl ⟨rfl, hd_X5_thingsOf⟩ ⟨Nat.le_of_ble_eq_true rfl, Nat.le_of_ble_eq_true rfl⟩) ⟨hp.1, va_recv F.2.2.2.1.1 w.1 (q0 := 0) (ci := 5) rfl rfl, hp.2⟩ rfl rfl hl.1 rfl (lv_room (Nat.le_of_ble_eq_true rfl)) dL_acts_1137 ⟨Nat.le_of_ble_eq_true rfl, Nat.le_of_ble_eq_true rfl⟩)
                          (fun r_253 _ H locs h_254 w => ?_)
                        subst h_254
                        refine lv_iload hx hb dL_acts_1140 (lv_at hl 5 rfl) ?_
                        refine lv_iload hx hb dL_acts_1142 (lv_at hl 1 rfl) ?_
                        refine lv_if_eq (tgt := 1156) hx hb dL_acts_1144 (by decide) (fun h_255 => ?_) (fun h_255 => ?_)
                        rotate_left 1
                        · exact absurd rfl h_255
                        refine lv_iconst (v := nI 0) hx hb dL_acts_1156 (by decide) ?_
                        refine lv_isub hx hb dL_acts_1157 ?_
                        refine ktopi (y := nI (zcnt (kindP σ false) 48)) (pk_sub (Nat.zero_le _)) ?_
                        refine lv_icmp_ne (tgt := 1218) hx hb dL_acts_1158 (by decide) (fun h_256 => ?_) (fun h_256 => ?_)
                        · exact absurd rfl h_256
                        refine lv_aload_n hx hb dL_acts_1161 rfl (lv_at hl 11 rfl) ?_
                        refine lv_iconst (v := nI 1) hx hb dL_acts_1162 (by decide) ?_
                        refine ktopi (y := bI true) (by decide) ?_
                        refine kcalli (wc := [cX x nw sn tk hs tx tr, cR nw na nb σ, xI g na 49 (zT σ), xI g nb 49 (zI σ)]) (wr := [cH hs hq kn, xQ g hq 4 (rq ρ), cR (ρ 0) (α 0) (β 0) (γ 0), xI g (α 0) 49 (zT (γ 0)), xI g (β 0) 49 (zI (γ 0)), cR (ρ 1) (α 1) (β 1) (γ 1), xI g (α 1) 49 (zT (γ 1)), xI g (β 1) 49 (zI (γ 1)), cR (ρ 2) (α 2) (β 2) (γ 2), xI g (α 2) 49 (zT (γ 2)), xI g (β 2) 49 (zI (γ 2)), cR (ρ 3) (α 3) (β 3) (γ 3), xI g (α 3) 49 (zT (γ 3)), xI g (β 3) 49 (zI (γ 3)), cT tx ch L, xC g ch 60 T, cTr tr tw od os po re ca, cR tw ta tb τ, xI g ta 49 (zT τ), xI g tb 49 (zI τ), cO od vb n1 n2 nm en]) (wn := fun (u : Unit) => [cX x nw sn tk hs tx tr, cR nw na nb σ, xI g na 49 (zT σ), xI g nb 49 (zI σ), cH hs hq kn, xQ g hq 4 (rq ρ), cR (ρ 0) (α 0) (β 0) (γ 0), xI g (α 0) 49 (zT (γ 0)), xI g (β 0) 49 (zI (γ 0)), cR (ρ 1) (α 1) (β 1) (γ 1), xI g (α 1) 49 (zT (γ 1)), xI g (β 1) 49 (zI (γ 1)), cR (ρ 2) (α 2) (β 2) (γ 2), xI g (α 2) 49 (zT (γ 2)), xI g (β 2) 49 (zI (γ 2)), cR (ρ 3) (α 3) (β 3) (γ 3), xI g (α 3) 49 (zT (γ 3)), xI g (β 3) 49 (zI (γ 3)), cT tx ch L, xC g ch 60 T, cTr tr tw od os po re ca, cR tw ta tb τ, xI g ta 49 (zT τ), xI g tb 49 (zI τ), cO od vb n1 n2 nm en]) F w [0, 1, 2, 3] [4, 5, 6, 7, 8, 9, 10, 11, 12, 13, 14, 15, 16, 17, 18, 19, 20, 21, 22, 23, 24] [21, 22, 23, 24, 0, 1, 2, 3, 4, 5, 6, 7, 8, 9, 10, 11, 12, 13, 14, 15, 16, 17, 18, 19, 20] rfl rfl rfl (fun _ => rfl)
                          (fun hp => va_runV (As := [.int (bI true)]) (rest := []) F.1 (kX5_thingsOf_k l g x nw sn tk hs tx tr na nb σ true H.size ) (cwV 1 hts gL_acts_X5_thingsOf rfl rfl rfl ⟨rfl, hd_X5_thingsOf⟩ ⟨Nat.le_of_ble_eq_true rfl, Nat.le_of_ble_eq_true rfl⟩) ⟨hp.1, va_recv F.2.2.2.1.1 w.1 (q0 := 0) (ci := 5) rfl rfl, hp.2⟩ rfl rfl hl.1 rfl (lv_room (Nat.le_of_ble_eq_true rfl)) dL_acts_1163 ⟨Nat.le_of_ble_eq_true rfl, Nat.le_of_ble_eq_true rfl⟩)
                          (fun r_257 _ H locs h_258 w => ?_)
                        subst h_258
                        refine lv_iload hx hb dL_acts_1166 (lv_at hl 4 rfl) ?_
                        refine lv_iload hx hb dL_acts_1168 (lv_at hl 1 rfl) ?_
                        refine lv_if_eq (tgt := 1183) hx hb dL_acts_1170 (by decide) (fun h_259 => ?_) (fun h_259 => ?_)
                        rotate_left 1
                        · exact absurd rfl h_259
                        refine lv_iconst (v := nI 0) hx hb dL_acts_1183 (by decide) ?_
                        refine lv_isub hx hb dL_acts_1184 ?_
                        refine ktopi (y := nI (zcnt (kindP σ true) 48)) (pk_sub (Nat.zero_le _)) ?_
                        refine lv_icmp_ne (tgt := 1218) hx hb dL_acts_1185 (by decide) (fun h_260 => ?_) (fun h_260 => ?_)
                        · exact absurd rfl h_260
                        refine lv_iload hx hb dL_acts_1188 (lv_at hl 1 rfl) ?_
                        refine lv_if_eq (tgt := 1204) hx hb dL_acts_1190 (by decide) (fun h_261 => ?_) (fun h_261 => ?_)
                        rotate_left 1
                        · exact absurd rfl h_261
                        refine lv_aload_n hx hb dL_acts_1204 rfl (lv_at hl 11 rfl) ?_
                        refine kcalll (wc := [cX x nw sn tk hs tx tr, cR nw na nb σ, xI g na 49 (zT σ), xI g nb 49 (zI σ)]) (wr := [cH hs hq kn, xQ g hq 4 (rq ρ), cR (ρ 0) (α 0) (β 0) (γ 0), xI g (α 0) 49 (zT (γ 0)), xI g (β 0) 49 (zI (γ 0)), cR (ρ 1) (α 1) (β 1) (γ 1), xI g (α 1) 49 (zT (γ 1)), xI g (β 1) 49 (zI (γ 1)), cR (ρ 2) (α 2) (β 2) (γ 2), xI g (α 2) 49 (zT (γ 2)), xI g (β 2) 49 (zI (γ 2)), cR (ρ 3) (α 3) (β 3) (γ 3), xI g (α 3) 49 (zT (γ 3)), xI g (β 3) 49 (zI (γ 3)), cT tx ch L, xC g ch 60 T, cTr tr tw od os po re ca, cR tw ta tb τ, xI g ta 49 (zT τ), xI g tb 49 (zI τ), cO od vb n1 n2 nm en]) (wn := fun (u : Unit) => [cX x nw sn tk hs tx tr, cR nw na nb σ, xI g na 49 (zT σ), xI g nb 49 (zI σ), cH hs hq kn, xQ g hq 4 (rq ρ), cR (ρ 0) (α 0) (β 0) (γ 0), xI g (α 0) 49 (zT (γ 0)), xI g (β 0) 49 (zI (γ 0)), cR (ρ 1) (α 1) (β 1) (γ 1), xI g (α 1) 49 (zT (γ 1)), xI g (β 1) 49 (zI (γ 1)), cR (ρ 2) (α 2) (β 2) (γ 2), xI g (α 2) 49 (zT (γ 2)), xI g (β 2) 49 (zI (γ 2)), cR (ρ 3) (α 3) (β 3) (γ 3), xI g (α 3) 49 (zT (γ 3)), xI g (β 3) 49 (zI (γ 3)), cT tx ch L, xC g ch 60 T, cTr tr tw od os po re ca, cR tw ta tb τ, xI g ta 49 (zT τ), xI g tb 49 (zI τ), cO od vb n1 n2 nm en]) F w [0, 1, 2, 3] [4, 5, 6, 7, 8, 9, 10, 11, 12, 13, 14, 15, 16, 17, 18, 19, 20, 21, 22, 23, 24] [21, 22, 23, 24, 0, 1, 2, 3, 4, 5, 6, 7, 8, 9, 10, 11, 12, 13, 14, 15, 16, 17, 18, 19, 20] rfl rfl rfl (fun _ => rfl)
                          (fun hp => va_runV (As := []) (rest := []) F.1 (kX5_openSet l g x nw sn tk hs tx tr na nb σ H.size ) (cwV 0 hts gL_acts_X5_openSet rfl rfl rfl ⟨rfl, hd_X5_openSet⟩ ⟨Nat.le_of_ble_eq_true rfl, Nat.le_of_ble_eq_true rfl⟩) ⟨hp.1, va_recv F.2.2.2.1.1 w.1 (q0 := 0) (ci := 5) rfl rfl, hp.2⟩ rfl rfl hl.1 rfl (lv_room (Nat.le_of_ble_eq_true rfl)) dL_acts_1205 ⟨Nat.le_of_ble_eq_true rfl, Nat.le_of_ble_eq_true rfl⟩)
                          (fun r_262 _ H locs h_263 w => ?_)
                        subst h_263
                        refine lv_lload hx hb dL_acts_1208 (lv_at hl 8 rfl) ?_
                        refine W.lcmp hx hb dL_acts_1210 ?_
                        refine lv_if_ne (tgt := 1218) hx hb dL_acts_1211 (by decide) (fun h_264 => ?_) (fun h_264 => ?_)
                        · exact absurd (lgc_eq.mpr rfl) h_264
                        refine lv_iconst (v := nI 1) hx hb dL_acts_1214 (by decide) ?_
                        refine lv_goto (tgt := 1219) hx hb dL_acts_1215 (by decide) ?_
                        refine ktopi (y := bI true) (by decide) ?_
                        refine W.widen (k := 60) (n := 360) (by omega) (by omega) ?_
                        subst hA
                        subst hQ
                        exact kretz F w (σ, kn, ρ, α, β, γ, L, T, os, po, re, ca, τ, vb, n1, n2, nm, en) [0, 1, 2, 3, 4, 5, 6, 7, 8, 9, 10, 11, 12, 13, 14, 15, 16, 17, 18, 19, 20, 21, 22, 23, 24] rfl rfl (⟨rfl, actP_0 hL⟩) (kz_n _) (Nat.le_of_ble_eq_true rfl) (Nat.le_of_ble_eq_true rfl) dL_acts_1219
                      · have h_247 : (zO σ d8) = true := bI_o.mp h_247
                        refine lv_iconst (v := nI 1) hx hb dL_acts_1093 (by decide) ?_
                        refine lv_goto (tgt := 1098) hx hb dL_acts_1094 (by decide) ?_
                        refine lv_istore (lv' := [(14, .int (nI 1)), (13, .int (nI 1)), (4, .int (nI d8)), (12, .int (nI (zcnt (kindP σ true) 48))), (11, .int (nI (zcnt (kindP σ false) 48))), (10, .int (tA σ)), (8, .long (zB (zL σ))), (6, .long (zB (zO σ))), (5, .int (bI false)), (3, .int (nI hw9)), (0, .ref x), (1, .int v), (2, .int yv)]) hx hb dL_acts_1098 hl (by decide) rfl (fun ls hl => ?_)
                        refine lv_aload_n hx hb dL_acts_1100 rfl (lv_at hl 10 rfl) ?_
                        refine lv_iload hx hb dL_acts_1101 (lv_at hl 2 rfl) ?_
                        refine kcalli (wc := [cX x nw sn tk hs tx tr, cR nw na nb σ, xI g na 49 (zT σ), xI g nb 49 (zI σ), cH hs hq kn, xQ g hq 4 (rq ρ), cR (ρ 0) (α 0) (β 0) (γ 0), xI g (α 0) 49 (zT (γ 0)), xI g (β 0) 49 (zI (γ 0)), cR (ρ 1) (α 1) (β 1) (γ 1), xI g (α 1) 49 (zT (γ 1)), xI g (β 1) 49 (zI (γ 1)), cR (ρ 2) (α 2) (β 2) (γ 2), xI g (α 2) 49 (zT (γ 2)), xI g (β 2) 49 (zI (γ 2)), cR (ρ 3) (α 3) (β 3) (γ 3), xI g (α 3) 49 (zT (γ 3)), xI g (β 3) 49 (zI (γ 3))]) (wr := [cT tx ch L, xC g ch 60 T, cTr tr tw od os po re ca, cR tw ta tb τ, xI g ta 49 (zT τ), xI g tb 49 (zI τ), cO od vb n1 n2 nm en]) (wn := fun (u : (Nat → Nat) × (Nat → Nat) × (Nat → Nat)) => [cX x nw sn tk hs tx tr, cR nw na nb (clrS d8 σ), xI g na 49 (zT (clrS d8 σ)), xI g nb 49 (zI (clrS d8 σ)), cH hs hq (pushN kn), xQ g hq 4 (rq u.1), cR (u.1 0) (u.2.1 0) (u.2.2 0) ((pushG γ kn σ) 0), xI g (u.2.1 0) 49 (zT ((pushG γ kn σ) 0)), xI g (u.2.2 0) 49 (zI ((pushG γ kn σ) 0)), cR (u.1 1) (u.2.1 1) (u.2.2 1) ((pushG γ kn σ) 1), xI g (u.2.1 1) 49 (zT ((pushG γ kn σ) 1)), xI g (u.2.2 1) 49 (zI ((pushG γ kn σ) 1)), cR (u.1 2) (u.2.1 2) (u.2.2 2) ((pushG γ kn σ) 2), xI g (u.2.1 2) 49 (zT ((pushG γ kn σ) 2)), xI g (u.2.2 2) 49 (zI ((pushG γ kn σ) 2)), cR (u.1 3) (u.2.1 3) (u.2.2 3) ((pushG γ kn σ) 3), xI g (u.2.1 3) 49 (zT ((pushG γ kn σ) 3)), xI g (u.2.2 3) 49 (zI ((pushG γ kn σ) 3)), cT tx ch L, xC g ch 60 T, cTr tr tw od os po re ca, cR tw ta tb τ, xI g ta 49 (zT τ), xI g tb 49 (zI τ), cO od vb n1 n2 nm en]) F w [0, 1, 2, 3, 4, 5, 6, 7, 8, 9, 10, 11, 12, 13, 14, 15, 16, 17] [18, 19, 20, 21, 22, 23, 24] [7, 8, 9, 10, 11, 12, 13, 14, 15, 16, 17, 18, 19, 20, 21, 22, 23, 24, 0, 1, 2, 3, 4, 5, 6] rfl rfl rfl (fun _ => rfl)
                          (fun hp => vx_runSW (As := [.ref x, .int (nI d8)]) (rest := []) F.1 (kL_takeOut_k l g x nw sn tk hs tx tr na nb σ hq kn ρ α β γ d8 H.size hdj (⟨h_247, hfl⟩) hkn) (vx_cwSW 2 hts gL_acts_L_takeOut rfl rfl rfl hd_L_takeOut ⟨Nat.le_of_ble_eq_true rfl, Nat.le_of_ble_eq_true rfl⟩) hp rfl rfl hl.1 rfl (lv_room (Nat.le_of_ble_eq_true rfl)) dL_acts_1103 ⟨Nat.le_of_ble_eq_true rfl, Nat.le_of_ble_eq_true rfl⟩)
                          (fun r_265 u H locs h_266 w => ?_)
                        try dsimp only at h_266
                        obtain ⟨u_267, hu9⟩ : ∃ z, z = u := ⟨_, rfl⟩
                        subst hu9
                        have w : kW g A s [cX x nw sn tk hs tx tr, cR nw na nb (clrS d8 σ), xI g na 49 (zT (clrS d8 σ)), xI g nb 49 (zI (clrS d8 σ)), cH hs hq (pushN kn), xQ g hq 4 (rq u_267.1), cR (u_267.1 0) (u_267.2.1 0) (u_267.2.2 0) ((pushG γ kn σ) 0), xI g (u_267.2.1 0) 49 (zT ((pushG γ kn σ) 0)), xI g (u_267.2.2 0) 49 (zI ((pushG γ kn σ) 0)), cR (u_267.1 1) (u_267.2.1 1) (u_267.2.2 1) ((pushG γ kn σ) 1), xI g (u_267.2.1 1) 49 (zT ((pushG γ kn σ) 1)), xI g (u_267.2.2 1) 49 (zI ((pushG γ kn σ) 1)), cR (u_267.1 2) (u_267.2.1 2) (u_267.2.2 2) ((pushG γ kn σ) 2), xI g (u_267.2.1 2) 49 (zT ((pushG γ kn σ) 2)), xI g (u_267.2.2 2) 49 (zI ((pushG γ kn σ) 2)), cR (u_267.1 3) (u_267.2.1 3) (u_267.2.2 3) ((pushG γ kn σ) 3), xI g (u_267.2.1 3) 49 (zT ((pushG γ kn σ) 3)), xI g (u_267.2.2 3) 49 (zI ((pushG γ kn σ) 3)), cT tx ch L, xC g ch 60 T, cTr tr tw od os po re ca, cR tw ta tb τ, xI g ta 49 (zT τ), xI g tb 49 (zI τ), cO od vb n1 n2 nm en] H locs := w
                        subst h_266
                        refine ktopi (y := nI 1) (by rw [hhh]; rfl) ?_
                        refine lv_istore (lv' := [(15, .int (nI 1)), (14, .int (nI 1)), (13, .int (nI 1)), (4, .int (nI d8)), (12, .int (nI (zcnt (kindP σ true) 48))), (11, .int (nI (zcnt (kindP σ false) 48))), (10, .int (tA σ)), (8, .long (zB (zL σ))), (6, .long (zB (zO σ))), (5, .int (bI false)), (3, .int (nI hw9)), (0, .ref x), (1, .int v), (2, .int yv)]) hx hb dL_acts_1106 hl (by decide) rfl (fun ls hl => ?_)
                        refine lv_iload hx hb dL_acts_1108 (lv_at hl 0 rfl) ?_
                        refine lv_iload hx hb dL_acts_1110 (lv_at hl 9 rfl) ?_
                        refine lv_if_eq (tgt := 1120) hx hb dL_acts_1112 (by decide) (fun h_268 => ?_) (fun h_268 => ?_)
                        rotate_left 1
                        · exact absurd rfl h_268
                        refine lv_iload hx hb dL_acts_1120 (lv_at hl 1 rfl) ?_
                        refine lv_if_eq (tgt := 1130) hx hb dL_acts_1122 (by decide) (fun h_269 => ?_) (fun h_269 => ?_)
                        · exact absurd h_269 (by decide)
                        refine lv_iload hx hb dL_acts_1125 (lv_at hl 2 rfl) ?_
                        refine lv_goto (tgt := 1132) hx hb dL_acts_1127 (by decide) ?_
                        refine lv_icmp_ne (tgt := 1218) hx hb dL_acts_1132 (by decide) (fun h_270 => ?_) (fun h_270 => ?_)
                        · exact absurd rfl h_270
                        refine lv_aload_n hx hb dL_acts_1135 rfl (lv_at hl 11 rfl) ?_
                        refine lv_iconst (v := nI 0) hx hb dL_acts_1136 (by decide) ?_
                        refine ktopi (y := bI false) (by decide) ?_
                        refine kcalli (wc := [cX x nw sn tk hs tx tr, cR nw na nb (clrS d8 σ), xI g na 49 (zT (clrS d8 σ)), xI g nb 49 (zI (clrS d8 σ))]) (wr := [cH hs hq (pushN kn), xQ g hq 4 (rq u_267.1), cR (u_267.1 0) (u_267.2.1 0) (u_267.2.2 0) ((pushG γ kn σ) 0), xI g (u_267.2.1 0) 49 (zT ((pushG γ kn σ) 0)), xI g (u_267.2.2 0) 49 (zI ((pushG γ kn σ) 0)), cR (u_267.1 1) (u_267.2.1 1) (u_267.2.2 1) ((pushG γ kn σ) 1), xI g (u_267.2.1 1) 49 (zT ((pushG γ kn σ) 1)), xI g (u_267.2.2 1) 49 (zI ((pushG γ kn σ) 1)), cR (u_267.1 2) (u_267.2.1 2) (u_267.2.2 2) ((pushG γ kn σ) 2), xI g (u_267.2.1 2) 49 (zT ((pushG γ kn σ) 2)), xI g (u_267.2.2 2) 49 (zI ((pushG γ kn σ) 2)), cR (u_267.1 3) (u_267.2.1 3) (u_267.2.2 3) ((pushG γ kn σ) 3), xI g (u_267.2.1 3) 49 (zT ((pushG γ kn σ) 3)), xI g (u_267.2.2 3) 49 (zI ((pushG γ kn σ) 3)), cT tx ch L, xC g ch 60 T, cTr tr tw od os po re ca, cR tw ta tb τ, xI g ta 49 (zT τ), xI g tb 49 (zI τ), cO od vb n1 n2 nm en]) (wn := fun (u : Unit) => [cX x nw sn tk hs tx tr, cR nw na nb (clrS d8 σ), xI g na 49 (zT (clrS d8 σ)), xI g nb 49 (zI (clrS d8 σ)), cH hs hq (pushN kn), xQ g hq 4 (rq u_267.1), cR (u_267.1 0) (u_267.2.1 0) (u_267.2.2 0) ((pushG γ kn σ) 0), xI g (u_267.2.1 0) 49 (zT ((pushG γ kn σ) 0)), xI g (u_267.2.2 0) 49 (zI ((pushG γ kn σ) 0)), cR (u_267.1 1) (u_267.2.1 1) (u_267.2.2 1) ((pushG γ kn σ) 1), xI g (u_267.2.1 1) 49 (zT ((pushG γ kn σ) 1)), xI g (u_267.2.2 1) 49 (zI ((pushG γ kn σ) 1)), cR (u_267.1 2) (u_267.2.1 2) (u_267.2.2 2) ((pushG γ kn σ) 2), xI g (u_267.2.1 2) 49 (zT ((pushG γ kn σ) 2)), xI g (u_267.2.2 2) 49 (zI ((pushG γ kn σ) 2)), cR (u_267.1 3) (u_267.2.1 3) (u_267.2.2 3) ((pushG γ kn σ) 3), xI g (u_267.2.1 3) 49 (zT ((pushG γ kn σ) 3)), xI g (u_267.2.2 3) 49 (zI ((pushG γ kn σ) 3)), cT tx ch L, xC g ch 60 T, cTr tr tw od os po re ca, cR tw ta tb τ, xI g ta 49 (zT τ), xI g tb 49 (zI τ), cO od vb n1 n2 nm en]) F w [0, 1, 2, 3] [4, 5, 6, 7, 8, 9, 10, 11, 12, 13, 14, 15, 16, 17, 18, 19, 20, 21, 22, 23, 24] [21, 22, 23, 24, 0, 1, 2, 3, 4, 5, 6, 7, 8, 9, 10, 11, 12, 13, 14, 15, 16, 17, 18, 19, 20] rfl rfl rfl (fun _ => rfl)
                          (fun hp => va_runV (As := [.int (bI false)]) (rest := []) F.1 (kX5_thingsOf_k l g x nw sn tk hs tx tr na nb (clrS d8 σ) false H.size ) (cwV 1 hts gL_acts_X5_thingsOf rfl rfl rfl ⟨rfl, hd_X5_thingsOf⟩ ⟨Nat.le_of_ble_eq_true rfl, Nat.le_of_ble_eq_true rfl⟩) ⟨hp.1, va_recv F.2.2.2.1.1 w.1 (q0 := 0) (ci := 5) rfl rfl, hp.2⟩ rfl rfl hl.1 rfl (lv_room (Nat.le_of_ble_eq_true rfl)) dL_acts_1137 ⟨Nat.le_of_ble_eq_true rfl, Nat.le_of_ble_eq_true rfl⟩)
                          (fun r_271 _ H locs h_272 w => ?_)
                        subst h_272
                        refine lv_iload hx hb dL_acts_1140 (lv_at hl 5 rfl) ?_
                        refine lv_iload hx hb dL_acts_1142 (lv_at hl 1 rfl) ?_
                        refine lv_if_eq (tgt := 1156) hx hb dL_acts_1144 (by decide) (fun h_273 => ?_) (fun h_273 => ?_)
                        · exact absurd h_273 (by decide)
                        refine lv_iload hx hb dL_acts_1147 (lv_at hl 2 rfl) ?_
                        refine lv_if_ne (tgt := 1156) hx hb dL_acts_1149 (by decide) (fun h_274 => ?_) (fun h_274 => ?_)
                        rotate_left 1
                        · exact absurd h_274 (by decide)
                        refine lv_iconst (v := nI 0) hx hb dL_acts_1156 (by decide) ?_
                        refine lv_isub hx hb dL_acts_1157 ?_
                        refine ktopi (y := nI (zcnt (kindP (clrS d8 σ) false) 48)) (by rw [kind_clr2 (kd := false) (by rw [hhh]; decide)]; exact pk_sub (Nat.zero_le _)) ?_
                        refine lv_icmp_ne (tgt := 1218) hx hb dL_acts_1158 (by decide) (fun h_275 => ?_) (fun h_275 => ?_)
                        · exact absurd rfl h_275
                        have hkc := kind_clr hdj.1 hdj.2 hfl (kd := true) hhh
                        refine lv_aload_n hx hb dL_acts_1161 rfl (lv_at hl 11 rfl) ?_
                        refine lv_iconst (v := nI 1) hx hb dL_acts_1162 (by decide) ?_
                        refine ktopi (y := bI true) (by decide) ?_
                        refine kcalli (wc := [cX x nw sn tk hs tx tr, cR nw na nb (clrS d8 σ), xI g na 49 (zT (clrS d8 σ)), xI g nb 49 (zI (clrS d8 σ))]) (wr := [cH hs hq (pushN kn), xQ g hq 4 (rq u_267.1), cR (u_267.1 0) (u_267.2.1 0) (u_267.2.2 0) ((pushG γ kn σ) 0), xI g (u_267.2.1 0) 49 (zT ((pushG γ kn σ) 0)), xI g (u_267.2.2 0) 49 (zI ((pushG γ kn σ) 0)), cR (u_267.1 1) (u_267.2.1 1) (u_267.2.2 1) ((pushG γ kn σ) 1), xI g (u_267.2.1 1) 49 (zT ((pushG γ kn σ) 1)), xI g (u_267.2.2 1) 49 (zI ((pushG γ kn σ) 1)), cR (u_267.1 2) (u_267.2.1 2) (u_267.2.2 2) ((pushG γ kn σ) 2), xI g (u_267.2.1 2) 49 (zT ((pushG γ kn σ) 2)), xI g (u_267.2.2 2) 49 (zI ((pushG γ kn σ) 2)), cR (u_267.1 3) (u_267.2.1 3) (u_267.2.2 3) ((pushG γ kn σ) 3), xI g (u_267.2.1 3) 49 (zT ((pushG γ kn σ) 3)), xI g (u_267.2.2 3) 49 (zI ((pushG γ kn σ) 3)), cT tx ch L, xC g ch 60 T, cTr tr tw od os po re ca, cR tw ta tb τ, xI g ta 49 (zT τ), xI g tb 49 (zI τ), cO od vb n1 n2 nm en]) (wn := fun (u : Unit) => [cX x nw sn tk hs tx tr, cR nw na nb (clrS d8 σ), xI g na 49 (zT (clrS d8 σ)), xI g nb 49 (zI (clrS d8 σ)), cH hs hq (pushN kn), xQ g hq 4 (rq u_267.1), cR (u_267.1 0) (u_267.2.1 0) (u_267.2.2 0) ((pushG γ kn σ) 0), xI g (u_267.2.1 0) 49 (zT ((pushG γ kn σ) 0)), xI g (u_267.2.2 0) 49 (zI ((pushG γ kn σ) 0)), cR (u_267.1 1) (u_267.2.1 1) (u_267.2.2 1) ((pushG γ kn σ) 1), xI g (u_267.2.1 1) 49 (zT ((pushG γ kn σ) 1)), xI g (u_267.2.2 1) 49 (zI ((pushG γ kn σ) 1)), cR (u_267.1 2) (u_267.2.1 2) (u_267.2.2 2) ((pushG γ kn σ) 2), xI g (u_267.2.1 2) 49 (zT ((pushG γ kn σ) 2)), xI g (u_267.2.2 2) 49 (zI ((pushG γ kn σ) 2)), cR (u_267.1 3) (u_267.2.1 3) (u_267.2.2 3) ((pushG γ kn σ) 3), xI g (u_267.2.1 3) 49 (zT ((pushG γ kn σ) 3)), xI g (u_267.2.2 3) 49 (zI ((pushG γ kn σ) 3)), cT tx ch L, xC g ch 60 T, cTr tr tw od os po re ca, cR tw ta tb τ, xI g ta 49 (zT τ), xI g tb 49 (zI τ), cO od vb n1 n2 nm en]) F w [0, 1, 2, 3] [4, 5, 6, 7, 8, 9, 10, 11, 12, 13, 14, 15, 16, 17, 18, 19, 20, 21, 22, 23, 24] [21, 22, 23, 24, 0, 1, 2, 3, 4, 5, 6, 7, 8, 9, 10, 11, 12, 13, 14, 15, 16, 17, 18, 19, 20] rfl rfl rfl (fun _ => rfl)
                          (fun hp => va_runV (As := [.int (bI true)]) (rest := []) F.1 (kX5_thingsOf_k l g x nw sn tk hs tx tr na nb (clrS d8 σ) true H.size ) (cwV 1 hts gL_acts_X5_thingsOf rfl rfl rfl ⟨rfl, hd_X5_thingsOf⟩ ⟨Nat.le_of_ble_eq_true rfl, Nat.le_of_ble_eq_true rfl⟩) ⟨hp.1, va_recv F.2.2.2.1.1 w.1 (q0 := 0) (ci := 5) rfl rfl, hp.2⟩ rfl rfl hl.1 rfl (lv_room (Nat.le_of_ble_eq_true rfl)) dL_acts_1163 ⟨Nat.le_of_ble_eq_true rfl, Nat.le_of_ble_eq_true rfl⟩)
                          (fun r_276 _ H locs h_277 w => ?_)
                        subst h_277
                        refine lv_iload hx hb dL_acts_1166 (lv_at hl 4 rfl) ?_
                        refine lv_iload hx hb dL_acts_1168 (lv_at hl 1 rfl) ?_
                        refine lv_if_eq (tgt := 1183) hx hb dL_acts_1170 (by decide) (fun h_278 => ?_) (fun h_278 => ?_)
                        · exact absurd h_278 (by decide)
                        refine lv_iload hx hb dL_acts_1173 (lv_at hl 2 rfl) ?_
                        refine lv_iconst (v := nI 1) hx hb dL_acts_1175 (by decide) ?_
                        refine lv_icmp_ne (tgt := 1183) hx hb dL_acts_1176 (by decide) (fun h_279 => ?_) (fun h_279 => ?_)
                        · exact absurd rfl h_279
                        refine lv_iconst (v := nI 1) hx hb dL_acts_1179 (by decide) ?_
                        refine lv_goto (tgt := 1184) hx hb dL_acts_1180 (by decide) ?_
                        refine lv_isub hx hb dL_acts_1184 ?_
                        refine ktopi (y := nI (zcnt (kindP (clrS d8 σ) true) 48)) (by rw [hkc]; exact pk_sub (a := _ + 1) (b := 1) (by omega)) ?_
                        refine lv_icmp_ne (tgt := 1218) hx hb dL_acts_1185 (by decide) (fun h_280 => ?_) (fun h_280 => ?_)
                        · exact absurd rfl h_280
                        refine lv_iload hx hb dL_acts_1188 (lv_at hl 1 rfl) ?_
                        refine lv_if_eq (tgt := 1204) hx hb dL_acts_1190 (by decide) (fun h_281 => ?_) (fun h_281 => ?_)
                        · exact absurd h_281 (by decide)
                        refine lv_aload_n hx hb dL_acts_1193 rfl (lv_at hl 11 rfl) ?_
                        refine lv_iload hx hb dL_acts_1194 (lv_at hl 3 rfl) ?_
                        refine kcalli (wc := [cX x nw sn tk hs tx tr, cR nw na nb (clrS d8 σ), xI g na 49 (zT (clrS d8 σ)), xI g nb 49 (zI (clrS d8 σ))]) (wr := [cH hs hq (pushN kn), xQ g hq 4 (rq u_267.1), cR (u_267.1 0) (u_267.2.1 0) (u_267.2.2 0) ((pushG γ kn σ) 0), xI g (u_267.2.1 0) 49 (zT ((pushG γ kn σ) 0)), xI g (u_267.2.2 0) 49 (zI ((pushG γ kn σ) 0)), cR (u_267.1 1) (u_267.2.1 1) (u_267.2.2 1) ((pushG γ kn σ) 1), xI g (u_267.2.1 1) 49 (zT ((pushG γ kn σ) 1)), xI g (u_267.2.2 1) 49 (zI ((pushG γ kn σ) 1)), cR (u_267.1 2) (u_267.2.1 2) (u_267.2.2 2) ((pushG γ kn σ) 2), xI g (u_267.2.1 2) 49 (zT ((pushG γ kn σ) 2)), xI g (u_267.2.2 2) 49 (zI ((pushG γ kn σ) 2)), cR (u_267.1 3) (u_267.2.1 3) (u_267.2.2 3) ((pushG γ kn σ) 3), xI g (u_267.2.1 3) 49 (zT ((pushG γ kn σ) 3)), xI g (u_267.2.2 3) 49 (zI ((pushG γ kn σ) 3)), cT tx ch L, xC g ch 60 T, cTr tr tw od os po re ca, cR tw ta tb τ, xI g ta 49 (zT τ), xI g tb 49 (zI τ), cO od vb n1 n2 nm en]) (wn := fun (u : Unit) => [cX x nw sn tk hs tx tr, cR nw na nb (clrS d8 σ), xI g na 49 (zT (clrS d8 σ)), xI g nb 49 (zI (clrS d8 σ)), cH hs hq (pushN kn), xQ g hq 4 (rq u_267.1), cR (u_267.1 0) (u_267.2.1 0) (u_267.2.2 0) ((pushG γ kn σ) 0), xI g (u_267.2.1 0) 49 (zT ((pushG γ kn σ) 0)), xI g (u_267.2.2 0) 49 (zI ((pushG γ kn σ) 0)), cR (u_267.1 1) (u_267.2.1 1) (u_267.2.2 1) ((pushG γ kn σ) 1), xI g (u_267.2.1 1) 49 (zT ((pushG γ kn σ) 1)), xI g (u_267.2.2 1) 49 (zI ((pushG γ kn σ) 1)), cR (u_267.1 2) (u_267.2.1 2) (u_267.2.2 2) ((pushG γ kn σ) 2), xI g (u_267.2.1 2) 49 (zT ((pushG γ kn σ) 2)), xI g (u_267.2.2 2) 49 (zI ((pushG γ kn σ) 2)), cR (u_267.1 3) (u_267.2.1 3) (u_267.2.2 3) ((pushG γ kn σ) 3), xI g (u_267.2.1 3) 49 (zT ((pushG γ kn σ) 3)), xI g (u_267.2.2 3) 49 (zI ((pushG γ kn σ) 3)), cT tx ch L, xC g ch 60 T, cTr tr tw od os po re ca, cR tw ta tb τ, xI g ta 49 (zT τ), xI g tb 49 (zI τ), cO od vb n1 n2 nm en]) F w [0, 1, 2, 3] [4, 5, 6, 7, 8, 9, 10, 11, 12, 13, 14, 15, 16, 17, 18, 19, 20, 21, 22, 23, 24] [21, 22, 23, 24, 0, 1, 2, 3, 4, 5, 6, 7, 8, 9, 10, 11, 12, 13, 14, 15, 16, 17, 18, 19, 20] rfl rfl rfl (fun _ => rfl)
                          (fun hp => vx_runSW (As := [.ref x, .int (nI d8)]) (rest := []) F.1 (kL_thingAt l hnl g x nw sn tk hs tx tr na nb (clrS d8 σ) d8 H.size hdj) (vx_cwSW 2 hts gL_acts_L_thingAt rfl rfl rfl hd_L_thingAt ⟨Nat.le_of_ble_eq_true rfl, Nat.le_of_ble_eq_true rfl⟩) hp rfl rfl hl.1 rfl (lv_room (Nat.le_of_ble_eq_true rfl)) dL_acts_1196 ⟨Nat.le_of_ble_eq_true rfl, Nat.le_of_ble_eq_true rfl⟩)
                          (fun r_282 _ H locs h_283 w => ?_)
                        subst h_283
                        refine ktopi (y := (-104)) (thV_f bup_s) ?_
                        refine lv_bipush (v := (-104)) hx hb dL_acts_1199 (by decide) ?_
                        refine lv_icmp_ne (tgt := 1218) hx hb dL_acts_1201 (by decide) (fun h_284 => ?_) (fun h_284 => ?_)
                        · exact absurd rfl h_284
                        refine lv_aload_n hx hb dL_acts_1204 rfl (lv_at hl 11 rfl) ?_
                        refine kcalll (wc := [cX x nw sn tk hs tx tr, cR nw na nb (clrS d8 σ), xI g na 49 (zT (clrS d8 σ)), xI g nb 49 (zI (clrS d8 σ))]) (wr := [cH hs hq (pushN kn), xQ g hq 4 (rq u_267.1), cR (u_267.1 0) (u_267.2.1 0) (u_267.2.2 0) ((pushG γ kn σ) 0), xI g (u_267.2.1 0) 49 (zT ((pushG γ kn σ) 0)), xI g (u_267.2.2 0) 49 (zI ((pushG γ kn σ) 0)), cR (u_267.1 1) (u_267.2.1 1) (u_267.2.2 1) ((pushG γ kn σ) 1), xI g (u_267.2.1 1) 49 (zT ((pushG γ kn σ) 1)), xI g (u_267.2.2 1) 49 (zI ((pushG γ kn σ) 1)), cR (u_267.1 2) (u_267.2.1 2) (u_267.2.2 2) ((pushG γ kn σ) 2), xI g (u_267.2.1 2) 49 (zT ((pushG γ kn σ) 2)), xI g (u_267.2.2 2) 49 (zI ((pushG γ kn σ) 2)), cR (u_267.1 3) (u_267.2.1 3) (u_267.2.2 3) ((pushG γ kn σ) 3), xI g (u_267.2.1 3) 49 (zT ((pushG γ kn σ) 3)), xI g (u_267.2.2 3) 49 (zI ((pushG γ kn σ) 3)), cT tx ch L, xC g ch 60 T, cTr tr tw od os po re ca, cR tw ta tb τ, xI g ta 49 (zT τ), xI g tb 49 (zI τ), cO od vb n1 n2 nm en]) (wn := fun (u : Unit) => [cX x nw sn tk hs tx tr, cR nw na nb (clrS d8 σ), xI g na 49 (zT (clrS d8 σ)), xI g nb 49 (zI (clrS d8 σ)), cH hs hq (pushN kn), xQ g hq 4 (rq u_267.1), cR (u_267.1 0) (u_267.2.1 0) (u_267.2.2 0) ((pushG γ kn σ) 0), xI g (u_267.2.1 0) 49 (zT ((pushG γ kn σ) 0)), xI g (u_267.2.2 0) 49 (zI ((pushG γ kn σ) 0)), cR (u_267.1 1) (u_267.2.1 1) (u_267.2.2 1) ((pushG γ kn σ) 1), xI g (u_267.2.1 1) 49 (zT ((pushG γ kn σ) 1)), xI g (u_267.2.2 1) 49 (zI ((pushG γ kn σ) 1)), cR (u_267.1 2) (u_267.2.1 2) (u_267.2.2 2) ((pushG γ kn σ) 2), xI g (u_267.2.1 2) 49 (zT ((pushG γ kn σ) 2)), xI g (u_267.2.2 2) 49 (zI ((pushG γ kn σ) 2)), cR (u_267.1 3) (u_267.2.1 3) (u_267.2.2 3) ((pushG γ kn σ) 3), xI g (u_267.2.1 3) 49 (zT ((pushG γ kn σ) 3)), xI g (u_267.2.2 3) 49 (zI ((pushG γ kn σ) 3)), cT tx ch L, xC g ch 60 T, cTr tr tw od os po re ca, cR tw ta tb τ, xI g ta 49 (zT τ), xI g tb 49 (zI τ), cO od vb n1 n2 nm en]) F w [0, 1, 2, 3] [4, 5, 6, 7, 8, 9, 10, 11, 12, 13, 14, 15, 16, 17, 18, 19, 20, 21, 22, 23, 24] [21, 22, 23, 24, 0, 1, 2, 3, 4, 5, 6, 7, 8, 9, 10, 11, 12, 13, 14, 15, 16, 17, 18, 19, 20] rfl rfl rfl (fun _ => rfl)
                          (fun hp => va_runV (As := []) (rest := []) F.1 (kX5_openSet l g x nw sn tk hs tx tr na nb (clrS d8 σ) H.size ) (cwV 0 hts gL_acts_X5_openSet rfl rfl rfl ⟨rfl, hd_X5_openSet⟩ ⟨Nat.le_of_ble_eq_true rfl, Nat.le_of_ble_eq_true rfl⟩) ⟨hp.1, va_recv F.2.2.2.1.1 w.1 (q0 := 0) (ci := 5) rfl rfl, hp.2⟩ rfl rfl hl.1 rfl (lv_room (Nat.le_of_ble_eq_true rfl)) dL_acts_1205 ⟨Nat.le_of_ble_eq_true rfl, Nat.le_of_ble_eq_true rfl⟩)
                          (fun r_285 _ H locs h_286 w => ?_)
                        subst h_286
                        refine lv_lload hx hb dL_acts_1208 (lv_at hl 8 rfl) ?_
                        refine W.lcmp hx hb dL_acts_1210 ?_
                        refine lv_if_ne (tgt := 1218) hx hb dL_acts_1211 (by decide) (fun h_287 => ?_) (fun h_287 => ?_)
                        · exact absurd (lgc_eq.mpr rfl) h_287
                        refine lv_iconst (v := nI 1) hx hb dL_acts_1214 (by decide) ?_
                        refine lv_goto (tgt := 1219) hx hb dL_acts_1215 (by decide) ?_
                        refine ktopi (y := bI true) (by decide) ?_
                        refine W.widen (k := 60) (n := 360) (by omega) (by omega) ?_
                        subst hA
                        subst hQ
                        exact kretz F w (clrS d8 σ, pushN kn, u_267.1, u_267.2.1, u_267.2.2, pushG γ kn σ, L, T, os, po, re, ca, τ, vb, n1, n2, nm, en) [0, 1, 2, 3, 4, 5, 6, 7, 8, 9, 10, 11, 12, 13, 14, 15, 16, 17, 18, 19, 20, 21, 22, 23, 24] rfl rfl (⟨rfl, actP_1 hL (fun B hB => hB.mono (Nat.le_add_right _ _))⟩) (kz_n _) (Nat.le_of_ble_eq_true rfl) (Nat.le_of_ble_eq_true rfl) dL_acts_1219
                · have h_170 : hw9 < 31 := (kc_ge_f (by omega) (by omega)).mp h_170
                  have JN_288 : ∀ (k9 : Nat) (hk9 : k9 ≤ 2) (H : Heap) (locs : List Loc) (ls : Array Slot), kW g A s [cX x nw sn tk hs tx tr, cR nw na nb σ, xI g na 49 (zT σ), xI g nb 49 (zI σ), cH hs hq kn, xQ g hq 4 (rq ρ), cR (ρ 0) (α 0) (β 0) (γ 0), xI g (α 0) 49 (zT (γ 0)), xI g (β 0) 49 (zI (γ 0)), cR (ρ 1) (α 1) (β 1) (γ 1), xI g (α 1) 49 (zT (γ 1)), xI g (β 1) 49 (zI (γ 1)), cR (ρ 2) (α 2) (β 2) (γ 2), xI g (α 2) 49 (zT (γ 2)), xI g (β 2) 49 (zI (γ 2)), cR (ρ 3) (α 3) (β 3) (γ 3), xI g (α 3) 49 (zT (γ 3)), xI g (β 3) 49 (zI (γ 3)), cT tx ch L, xC g ch 60 T, cTr tr tw od os po re ca, cR tw ta tb τ, xI g ta 49 (zT τ), xI g tb 49 (zI τ), cO od vb n1 n2 nm en] H locs → lv_has ls 22 [(4, .int (nI d8)), (12, .int (nI (zcnt (kindP σ true) 48))), (11, .int (nI (zcnt (kindP σ false) 48))), (10, .int (tA σ)), (8, .long (zB (zL σ))), (6, .long (zB (zO σ))), (5, .int (bI false)), (3, .int (nI hw9)), (0, .ref x), (1, .int v), (2, .int yv)] → W p l e rmL_acts s m args below meth c H locs 48 288 Q (F0 m 856 ls [.int (nI k9)]) := by
                    intro k9 hk9 H locs ls w hl
                    refine lv_istore (lv' := [(13, .int (nI k9)), (4, .int (nI d8)), (12, .int (nI (zcnt (kindP σ true) 48))), (11, .int (nI (zcnt (kindP σ false) 48))), (10, .int (tA σ)), (8, .long (zB (zL σ))), (6, .long (zB (zO σ))), (5, .int (bI false)), (3, .int (nI hw9)), (0, .ref x), (1, .int v), (2, .int yv)]) hx hb dL_acts_856 hl (by decide) rfl (fun ls hl => ?_)
                    refine lv_iload hx hb dL_acts_858 (lv_at hl 7 rfl) ?_
                    refine lv_if_ne (tgt := 869) hx hb dL_acts_860 (by decide) (fun h_289 => ?_) (fun h_289 => ?_)
                    · exact absurd rfl h_289
                    refine lv_iload hx hb dL_acts_863 (lv_at hl 0 rfl) ?_
                    refine lv_iconst (v := nI 2) hx hb dL_acts_865 (by decide) ?_
                    refine lv_icmp_ne (tgt := 873) hx hb dL_acts_866 (by decide) (fun h_290 => ?_) (fun h_290 => ?_)
                    · have h_290 : k9 ≠ 2 := (kc_ne_t (by omega) (by omega)).mp h_290
                      refine lv_iconst (v := nI 0) hx hb dL_acts_873 (by decide) ?_
                      refine ktopi (y := bI false) (by decide) ?_
                      refine lv_istore (lv' := [(14, .int (bI false)), (13, .int (nI k9)), (4, .int (nI d8)), (12, .int (nI (zcnt (kindP σ true) 48))), (11, .int (nI (zcnt (kindP σ false) 48))), (10, .int (tA σ)), (8, .long (zB (zL σ))), (6, .long (zB (zO σ))), (5, .int (bI false)), (3, .int (nI hw9)), (0, .ref x), (1, .int v), (2, .int yv)]) hx hb dL_acts_874 hl (by decide) rfl (fun ls hl => ?_)
                      rcases (show k9 = 0 ∨ k9 = 1 from by omega) with h_291 | h_291
                      · skip
                        rw [h_291] at hl
                        refine lv_iload hx hb dL_acts_876 (lv_at hl 0 rfl) ?_
                        refine lv_if_eq (tgt := 885) hx hb dL_acts_878 (by decide) (fun h_292 => ?_) (fun h_292 => ?_)
                        rotate_left 1
                        · exact absurd rfl h_292
                        refine lv_aload_n hx hb dL_acts_885 rfl (lv_at hl 10 rfl) ?_
                        refine lv_iload hx hb dL_acts_886 (lv_at hl 2 rfl) ?_
                        refine lv_iload hx hb dL_acts_888 (lv_at hl 1 rfl) ?_
                        refine ktopi (y := bI false) (by decide) ?_
                        refine kcalli (wc := [cX x nw sn tk hs tx tr, cR nw na nb σ, xI g na 49 (zT σ), xI g nb 49 (zI σ)]) (wr := [cH hs hq kn, xQ g hq 4 (rq ρ), cR (ρ 0) (α 0) (β 0) (γ 0), xI g (α 0) 49 (zT (γ 0)), xI g (β 0) 49 (zI (γ 0)), cR (ρ 1) (α 1) (β 1) (γ 1), xI g (α 1) 49 (zT (γ 1)), xI g (β 1) 49 (zI (γ 1)), cR (ρ 2) (α 2) (β 2) (γ 2), xI g (α 2) 49 (zT (γ 2)), xI g (β 2) 49 (zI (γ 2)), cR (ρ 3) (α 3) (β 3) (γ 3), xI g (α 3) 49 (zT (γ 3)), xI g (β 3) 49 (zI (γ 3)), cT tx ch L, xC g ch 60 T, cTr tr tw od os po re ca, cR tw ta tb τ, xI g ta 49 (zT τ), xI g tb 49 (zI τ), cO od vb n1 n2 nm en]) (wn := fun (u : Unit) => [cX x nw sn tk hs tx tr, cR nw na nb σ, xI g na 49 (zT σ), xI g nb 49 (zI σ), cH hs hq kn, xQ g hq 4 (rq ρ), cR (ρ 0) (α 0) (β 0) (γ 0), xI g (α 0) 49 (zT (γ 0)), xI g (β 0) 49 (zI (γ 0)), cR (ρ 1) (α 1) (β 1) (γ 1), xI g (α 1) 49 (zT (γ 1)), xI g (β 1) 49 (zI (γ 1)), cR (ρ 2) (α 2) (β 2) (γ 2), xI g (α 2) 49 (zT (γ 2)), xI g (β 2) 49 (zI (γ 2)), cR (ρ 3) (α 3) (β 3) (γ 3), xI g (α 3) 49 (zT (γ 3)), xI g (β 3) 49 (zI (γ 3)), cT tx ch L, xC g ch 60 T, cTr tr tw od os po re ca, cR tw ta tb τ, xI g ta 49 (zT τ), xI g tb 49 (zI τ), cO od vb n1 n2 nm en]) F w [0, 1, 2, 3] [4, 5, 6, 7, 8, 9, 10, 11, 12, 13, 14, 15, 16, 17, 18, 19, 20, 21, 22, 23, 24] [21, 22, 23, 24, 0, 1, 2, 3, 4, 5, 6, 7, 8, 9, 10, 11, 12, 13, 14, 15, 16, 17, 18, 19, 20] rfl rfl rfl (fun _ => rfl)
                          (fun hp => va_runV (As := [.int (nI d8), .int (bI false)]) (rest := []) F.1 (kX5_whyNot_k l g x nw sn tk hs tx tr na nb σ d8 false H.size hdj) (cwV 2 hts gL_acts_X5_whyNot rfl rfl rfl ⟨rfl, hd_X5_whyNot⟩ ⟨Nat.le_of_ble_eq_true rfl, Nat.le_of_ble_eq_true rfl⟩) ⟨hp.1, va_recv F.2.2.2.1.1 w.1 (q0 := 0) (ci := 5) rfl rfl, hp.2⟩ rfl rfl hl.1 rfl (lv_room (Nat.le_of_ble_eq_true rfl)) dL_acts_890 ⟨Nat.le_of_ble_eq_true rfl, Nat.le_of_ble_eq_true rfl⟩)
                          (fun r_293 _ H locs h_294 w => ?_)
                        subst h_294
                        refine lv_istore (lv' := [(15, .int (nI (reasZ σ d8 false))), (14, .int (bI false)), (13, .int (nI 0)), (4, .int (nI d8)), (12, .int (nI (zcnt (kindP σ true) 48))), (11, .int (nI (zcnt (kindP σ false) 48))), (10, .int (tA σ)), (8, .long (zB (zL σ))), (6, .long (zB (zO σ))), (5, .int (bI false)), (3, .int (nI hw9)), (0, .ref x), (1, .int v), (2, .int yv)]) hx hb dL_acts_893 hl (by decide) rfl (fun ls hl => ?_)
                        have hr4 := reasZ_le σ d8 false
                        rcases (show reasZ σ d8 false = 0 ∨ reasZ σ d8 false ≠ 0 from Decidable.em _) with h_295 | h_295
                        · skip
                          refine lv_aload_n hx hb dL_acts_895 rfl (lv_at hl 11 rfl) ?_
                          refine lv_iload hx hb dL_acts_896 (lv_at hl 3 rfl) ?_
                          refine lv_iload hx hb dL_acts_898 (lv_at hl 2 rfl) ?_
                          refine ktopi (y := bI false) (by decide) ?_
                          have hfr := reasZ_free h_295
                          refine kcalli (wc := [cX x nw sn tk hs tx tr, cR nw na nb σ, xI g na 49 (zT σ), xI g nb 49 (zI σ), cH hs hq kn, xQ g hq 4 (rq ρ), cR (ρ 0) (α 0) (β 0) (γ 0), xI g (α 0) 49 (zT (γ 0)), xI g (β 0) 49 (zI (γ 0)), cR (ρ 1) (α 1) (β 1) (γ 1), xI g (α 1) 49 (zT (γ 1)), xI g (β 1) 49 (zI (γ 1)), cR (ρ 2) (α 2) (β 2) (γ 2), xI g (α 2) 49 (zT (γ 2)), xI g (β 2) 49 (zI (γ 2)), cR (ρ 3) (α 3) (β 3) (γ 3), xI g (α 3) 49 (zT (γ 3)), xI g (β 3) 49 (zI (γ 3))]) (wr := [cT tx ch L, xC g ch 60 T, cTr tr tw od os po re ca, cR tw ta tb τ, xI g ta 49 (zT τ), xI g tb 49 (zI τ), cO od vb n1 n2 nm en]) (wn := fun (u : (Nat → Nat) × (Nat → Nat) × (Nat → Nat)) => [cX x nw sn tk hs tx tr, cR nw na nb (putS d8 false σ), xI g na 49 (zT (putS d8 false σ)), xI g nb 49 (zI (putS d8 false σ)), cH hs hq (pushN kn), xQ g hq 4 (rq u.1), cR (u.1 0) (u.2.1 0) (u.2.2 0) ((pushG γ kn σ) 0), xI g (u.2.1 0) 49 (zT ((pushG γ kn σ) 0)), xI g (u.2.2 0) 49 (zI ((pushG γ kn σ) 0)), cR (u.1 1) (u.2.1 1) (u.2.2 1) ((pushG γ kn σ) 1), xI g (u.2.1 1) 49 (zT ((pushG γ kn σ) 1)), xI g (u.2.2 1) 49 (zI ((pushG γ kn σ) 1)), cR (u.1 2) (u.2.1 2) (u.2.2 2) ((pushG γ kn σ) 2), xI g (u.2.1 2) 49 (zT ((pushG γ kn σ) 2)), xI g (u.2.2 2) 49 (zI ((pushG γ kn σ) 2)), cR (u.1 3) (u.2.1 3) (u.2.2 3) ((pushG γ kn σ) 3), xI g (u.2.1 3) 49 (zT ((pushG γ kn σ) 3)), xI g (u.2.2 3) 49 (zI ((pushG γ kn σ) 3)), cT tx ch L, xC g ch 60 T, cTr tr tw od os po re ca, cR tw ta tb τ, xI g ta 49 (zT τ), xI g tb 49 (zI τ), cO od vb n1 n2 nm en]) F w [0, 1, 2, 3, 4, 5, 6, 7, 8, 9, 10, 11, 12, 13, 14, 15, 16, 17] [18, 19, 20, 21, 22, 23, 24] [7, 8, 9, 10, 11, 12, 13, 14, 15, 16, 17, 18, 19, 20, 21, 22, 23, 24, 0, 1, 2, 3, 4, 5, 6] rfl rfl rfl (fun _ => rfl)
                            (fun hp => vx_runSW (As := [.ref x, .int (nI d8), .int (bI false)]) (rest := []) F.1 (kL_store_k l g x nw sn tk hs tx tr na nb σ hq kn ρ α β γ d8 false H.size hdj h_295 hkn) (vx_cwSW 3 hts gL_acts_L_store rfl rfl rfl hd_L_store ⟨Nat.le_of_ble_eq_true rfl, Nat.le_of_ble_eq_true rfl⟩) hp rfl rfl hl.1 rfl (lv_room (Nat.le_of_ble_eq_true rfl)) dL_acts_900 ⟨Nat.le_of_ble_eq_true rfl, Nat.le_of_ble_eq_true rfl⟩)
                            (fun r_296 u H locs h_297 w => ?_)
                          try dsimp only at h_297
                          obtain ⟨u_298, hu9⟩ : ∃ z, z = u := ⟨_, rfl⟩
                          subst hu9
                          have w : kW g A s [cX x nw sn tk hs tx tr, cR nw na nb (putS d8 false σ), xI g na 49 (zT (putS d8 false σ)), xI g nb 49 (zI (putS d8 false σ)), cH hs hq (pushN kn), xQ g hq 4 (rq u_298.1), cR (u_298.1 0) (u_298.2.1 0) (u_298.2.2 0) ((pushG γ kn σ) 0), xI g (u_298.2.1 0) 49 (zT ((pushG γ kn σ) 0)), xI g (u_298.2.2 0) 49 (zI ((pushG γ kn σ) 0)), cR (u_298.1 1) (u_298.2.1 1) (u_298.2.2 1) ((pushG γ kn σ) 1), xI g (u_298.2.1 1) 49 (zT ((pushG γ kn σ) 1)), xI g (u_298.2.2 1) 49 (zI ((pushG γ kn σ) 1)), cR (u_298.1 2) (u_298.2.1 2) (u_298.2.2 2) ((pushG γ kn σ) 2), xI g (u_298.2.1 2) 49 (zT ((pushG γ kn σ) 2)), xI g (u_298.2.2 2) 49 (zI ((pushG γ kn σ) 2)), cR (u_298.1 3) (u_298.2.1 3) (u_298.2.2 3) ((pushG γ kn σ) 3), xI g (u_298.2.1 3) 49 (zT ((pushG γ kn σ) 3)), xI g (u_298.2.2 3) 49 (zI ((pushG γ kn σ) 3)), cT tx ch L, xC g ch 60 T, cTr tr tw od os po re ca, cR tw ta tb τ, xI g ta 49 (zT τ), xI g tb 49 (zI τ), cO od vb n1 n2 nm en] H locs := w
                          subst h_297
                          refine ktopi (y := nI (zcnt (kindP σ false) 48 + 1)) (congrArg nI (kind_put hdj.1 hdj.2 hfr)) ?_
                          refine lv_istore (lv' := [(16, .int (nI (zcnt (kindP σ false) 48 + 1))), (15, .int (nI (reasZ σ d8 false))), (14, .int (bI false)), (13, .int (nI 0)), (4, .int (nI d8)), (12, .int (nI (zcnt (kindP σ true) 48))), (11, .int (nI (zcnt (kindP σ false) 48))), (10, .int (tA σ)), (8, .long (zB (zL σ))), (6, .long (zB (zO σ))), (5, .int (bI false)), (3, .int (nI hw9)), (0, .ref x), (1, .int v), (2, .int yv)]) hx hb dL_acts_903 hl (by decide) rfl (fun ls hl => ?_)
                          refine lv_iload hx hb dL_acts_905 (lv_at hl 2 rfl) ?_
                          refine lv_if_ne (tgt := 919) hx hb dL_acts_907 (by decide) (fun h_299 => ?_) (fun h_299 => ?_)
                          · exact absurd rfl h_299
                          refine lv_iload hx hb dL_acts_910 (lv_at hl 1 rfl) ?_
                          refine lv_if_ne (tgt := 919) hx hb dL_acts_912 (by decide) (fun h_300 => ?_) (fun h_300 => ?_)
                          · exact absurd (congrArg nI h_295) h_300
                          refine lv_iconst (v := nI 1) hx hb dL_acts_915 (by decide) ?_
                          refine lv_goto (tgt := 920) hx hb dL_acts_916 (by decide) ?_
                          refine lv_istore (lv' := [(17, .int (nI 1)), (16, .int (nI (zcnt (kindP σ false) 48 + 1))), (15, .int (nI (reasZ σ d8 false))), (14, .int (bI false)), (13, .int (nI 0)), (4, .int (nI d8)), (12, .int (nI (zcnt (kindP σ true) 48))), (11, .int (nI (zcnt (kindP σ false) 48))), (10, .int (tA σ)), (8, .long (zB (zL σ))), (6, .long (zB (zO σ))), (5, .int (bI false)), (3, .int (nI hw9)), (0, .ref x), (1, .int v), (2, .int yv)]) hx hb dL_acts_920 hl (by decide) rfl (fun ls hl => ?_)
                          refine lv_iload hx hb dL_acts_922 (lv_at hl 1 rfl) ?_
                          refine lv_iload hx hb dL_acts_924 (lv_at hl 3 rfl) ?_
                          refine lv_if_eq (tgt := 934) hx hb dL_acts_926 (by decide) (fun h_301 => ?_) (fun h_301 => ?_)
                          rotate_left 1
                          · exact absurd rfl h_301
                          refine lv_iload hx hb dL_acts_934 (lv_at hl 0 rfl) ?_
                          refine lv_if_ne (tgt := 944) hx hb dL_acts_936 (by decide) (fun h_302 => ?_) (fun h_302 => ?_)
                          rotate_left 1
                          · exact absurd h_302 (by decide)
                          refine lv_iload hx hb dL_acts_944 (lv_at hl 4 rfl) ?_
                          refine lv_if_ne (tgt := 956) hx hb dL_acts_946 (by decide) (fun h_303 => ?_) (fun h_303 => ?_)
                          · exact absurd rfl h_303
                          refine lv_iload hx hb dL_acts_949 (lv_at hl 7 rfl) ?_
                          refine lv_iconst (v := nI 1) hx hb dL_acts_951 (by decide) ?_
                          refine lv_iadd hx hb dL_acts_952 ?_
                          refine ktopi (y := nI (zcnt (kindP σ false) 48 + 1)) (nI_add (zcnt (kindP σ false) 48) 1) ?_
                          refine lv_goto (tgt := 960) hx hb dL_acts_953 (by decide) ?_
                          refine lv_icmp_ne (tgt := 1046) hx hb dL_acts_960 (by decide) (fun h_304 => ?_) (fun h_304 => ?_)
                          · exact absurd rfl h_304
                          refine lv_aload_n hx hb dL_acts_963 rfl (lv_at hl 13 rfl) ?_
                          refine lv_iconst (v := nI 0) hx hb dL_acts_964 (by decide) ?_
                          refine ktopi (y := bI false) (by decide) ?_
                          refine kcalli (wc := [cX x nw sn tk hs tx tr, cR nw na nb (putS d8 false σ), xI g na 49 (zT (putS d8 false σ)), xI g nb 49 (zI (putS d8 false σ))]) (wr := [cH hs hq (pushN kn), xQ g hq 4 (rq u_298.1), cR (u_298.1 0) (u_298.2.1 0) (u_298.2.2 0) ((pushG γ kn σ) 0), xI g (u_298.2.1 0) 49 (zT ((pushG γ kn σ) 0)), xI g (u_298.2.2 0) 49 (zI ((pushG γ kn σ) 0)), cR (u_298.1 1) (u_298.2.1 1) (u_298.2.2 1) ((pushG γ kn σ) 1), xI g (u_298.2.1 1) 49 (zT ((pushG γ kn σ) 1)), xI g (u_298.2.2 1) 49 (zI ((pushG γ kn σ) 1)), cR (u_298.1 2) (u_298.2.1 2) (u_298.2.2 2) ((pushG γ kn σ) 2), xI g (u_298.2.1 2) 49 (zT ((pushG γ kn σ) 2)), xI g (u_298.2.2 2) 49 (zI ((pushG γ kn σ) 2)), cR (u_298.1 3) (u_298.2.1 3) (u_298.2.2 3) ((pushG γ kn σ) 3), xI g (u_298.2.1 3) 49 (zT ((pushG γ kn σ) 3)), xI g (u_298.2.2 3) 49 (zI ((pushG γ kn σ) 3)), cT tx ch L, xC g ch 60 T, cTr tr tw od os po re ca, cR tw ta tb τ, xI g ta 49 (zT τ), xI g tb 49 (zI τ), cO od vb n1 n2 nm en]) (wn := fun (u : Unit) => [cX x nw sn tk hs tx tr, cR nw na nb (putS d8 false σ), xI g na 49 (zT (putS d8 false σ)), xI g nb 49 (zI (putS d8 false σ)), cH hs hq (pushN kn), xQ g hq 4 (rq u_298.1), cR (u_298.1 0) (u_298.2.1 0) (u_298.2.2 0) ((pushG γ kn σ) 0), xI g (u_298.2.1 0) 49 (zT ((pushG γ kn σ) 0)), xI g (u_298.2.2 0) 49 (zI ((pushG γ kn σ) 0)), cR (u_298.1 1) (u_298.2.1 1) (u_298.2.2 1) ((pushG γ kn σ) 1), xI g (u_298.2.1 1) 49 (zT ((pushG γ kn σ) 1)), xI g (u_298.2.2 1) 49 (zI ((pushG γ kn σ) 1)), cR (u_298.1 2) (u_298.2.1 2) (u_298.2.2 2) ((pushG γ kn σ) 2), xI g (u_298.2.1 2) 49 (zT ((pushG γ kn σ) 2)), xI g (u_298.2.2 2) 49 (zI ((pushG γ kn σ) 2)), cR (u_298.1 3) (u_298.2.1 3) (u_298.2.2 3) ((pushG γ kn σ) 3), xI g (u_298.2.1 3) 49 (zT ((pushG γ kn σ) 3)), xI g (u_298.2.2 3) 49 (zI ((pushG γ kn σ) 3)), cT tx ch L, xC g ch 60 T, cTr tr tw od os po re ca, cR tw ta tb τ, xI g ta 49 (zT τ), xI g tb 49 (zI τ), cO od vb n1 n2 nm en]) F w [0, 1, 2, 3] [4, 5, 6, 7, 8, 9, 10, 11, 12, 13, 14, 15, 16, 17, 18, 19, 20, 21, 22, 23, 24] [21, 22, 23, 24, 0, 1, 2, 3, 4, 5, 6, 7, 8, 9, 10, 11, 12, 13, 14, 15, 16, 17, 18, 19, 20] rfl rfl rfl (fun _ => rfl)
                            (fun hp => va_runV (As := [.int (bI false)]) (rest := []) F.1 (kX5_thingsOf_k l g x nw sn tk hs tx tr na nb (putS d8 false σ) false H.size ) (cwV 1 hts gL_acts_X5_thingsOf rfl rfl rfl ⟨rfl, hd_X5_thingsOf⟩ ⟨Nat.le_of_ble_eq_true rfl, Nat.le_of_ble_eq_true rfl⟩) ⟨hp.1, va_recv F.2.2.2.1.1 w.1 (q0 := 0) (ci := 5) rfl rfl, hp.2⟩ rfl rfl hl.1 rfl (lv_room (Nat.le_of_ble_eq_true rfl)) dL_acts_965 ⟨Nat.le_of_ble_eq_true rfl, Nat.le_of_ble_eq_true rfl⟩)
                            (fun r_305 _ H locs h_306 w => ?_)
                          subst h_306
                          refine ktopi (y := nI (zcnt (kindP σ false) 48 + 1)) (congrArg nI (kind_put hdj.1 hdj.2 hfr)) ?_
                          refine lv_iload hx hb dL_acts_968 (lv_at hl 7 rfl) ?_
                          refine lv_iload hx hb dL_acts_970 (lv_at hl 0 rfl) ?_
                          refine lv_if_eq (tgt := 984) hx hb dL_acts_972 (by decide) (fun h_307 => ?_) (fun h_307 => ?_)
                          · exact absurd h_307 (by decide)
                          refine lv_iload hx hb dL_acts_975 (lv_at hl 4 rfl) ?_
                          refine lv_if_ne (tgt := 984) hx hb dL_acts_977 (by decide) (fun h_308 => ?_) (fun h_308 => ?_)
                          · exact absurd rfl h_308
                          refine lv_iconst (v := nI 1) hx hb dL_acts_980 (by decide) ?_
                          refine lv_goto (tgt := 985) hx hb dL_acts_981 (by decide) ?_
                          refine lv_iadd hx hb dL_acts_985 ?_
                          refine ktopi (y := nI (zcnt (kindP σ false) 48 + 1)) (nI_add (zcnt (kindP σ false) 48) 1) ?_
                          refine lv_icmp_ne (tgt := 1046) hx hb dL_acts_986 (by decide) (fun h_309 => ?_) (fun h_309 => ?_)
                          · exact absurd rfl h_309
                          refine lv_aload_n hx hb dL_acts_989 rfl (lv_at hl 13 rfl) ?_
                          refine lv_iconst (v := nI 1) hx hb dL_acts_990 (by decide) ?_
                          refine ktopi (y := bI true) (by decide) ?_
                          refine kcalli (wc := [cX x nw sn tk hs tx tr, cR nw na nb (putS d8 false σ), xI g na 49 (zT (putS d8 false σ)), xI g nb 49 (zI (putS d8 false σ))]) (wr := [cH hs hq (pushN kn), xQ g hq 4 (rq u_298.1), cR (u_298.1 0) (u_298.2.1 0) (u_298.2.2 0) ((pushG γ kn σ) 0), xI g (u_298.2.1 0) 49 (zT ((pushG γ kn σ) 0)), xI g (u_298.2.2 0) 49 (zI ((pushG γ kn σ) 0)), cR (u_298.1 1) (u_298.2.1 1) (u_298.2.2 1) ((pushG γ kn σ) 1), xI g (u_298.2.1 1) 49 (zT ((pushG γ kn σ) 1)), xI g (u_298.2.2 1) 49 (zI ((pushG γ kn σ) 1)), cR (u_298.1 2) (u_298.2.1 2) (u_298.2.2 2) ((pushG γ kn σ) 2), xI g (u_298.2.1 2) 49 (zT ((pushG γ kn σ) 2)), xI g (u_298.2.2 2) 49 (zI ((pushG γ kn σ) 2)), cR (u_298.1 3) (u_298.2.1 3) (u_298.2.2 3) ((pushG γ kn σ) 3), xI g (u_298.2.1 3) 49 (zT ((pushG γ kn σ) 3)), xI g (u_298.2.2 3) 49 (zI ((pushG γ kn σ) 3)), cT tx ch L, xC g ch 60 T, cTr tr tw od os po re ca, cR tw ta tb τ, xI g ta 49 (zT τ), xI g tb 49 (zI τ), cO od vb n1 n2 nm en]) (wn := fun (u : Unit) => [cX x nw sn tk hs tx tr, cR nw na nb (putS d8 false σ), xI g na 49 (zT (putS d8 false σ)), xI g nb 49 (zI (putS d8 false σ)), cH hs hq (pushN kn), xQ g hq 4 (rq u_298.1), cR (u_298.1 0) (u_298.2.1 0) (u_298.2.2 0) ((pushG γ kn σ) 0), xI g (u_298.2.1 0) 49 (zT ((pushG γ kn σ) 0)), xI g (u_298.2.2 0) 49 (zI ((pushG γ kn σ) 0)), cR (u_298.1 1) (u_298.2.1 1) (u_298.2.2 1) ((pushG γ kn σ) 1), xI g (u_298.2.1 1) 49 (zT ((pushG γ kn σ) 1)), xI g (u_298.2.2 1) 49 (zI ((pushG γ kn σ) 1)), cR (u_298.1 2) (u_298.2.1 2) (u_298.2.2 2) ((pushG γ kn σ) 2), xI g (u_298.2.1 2) 49 (zT ((pushG γ kn σ) 2)), xI g (u_298.2.2 2) 49 (zI ((pushG γ kn σ) 2)), cR (u_298.1 3) (u_298.2.1 3) (u_298.2.2 3) ((pushG γ kn σ) 3), xI g (u_298.2.1 3) 49 (zT ((pushG γ kn σ) 3)), xI g (u_298.2.2 3) 49 (zI ((pushG γ kn σ) 3)), cT tx ch L, xC g ch 60 T, cTr tr tw od os po re ca, cR tw ta tb τ, xI g ta 49 (zT τ), xI g tb 49 (zI τ), cO od vb n1 n2 nm en]) F w [0, 1, 2, 3] [4, 5, 6, 7, 8, 9, 10, 11, 12, 13, 14, 15, 16, 17, 18, 19, 20, 21, 22, 23, 24] [21, 22, 23, 24, 0, 1, 2, 3, 4, 5, 6, 7, 8, 9, 10, 11, 12, 13, 14, 15, 16, 17, 18, 19, 20] rfl rfl rfl (fun _ => rfl)
                            (fun hp => va_runV (As := [.int (bI true)]) (rest := []) F.1 (kX5_thingsOf_k l g x nw sn tk hs tx tr na nb (putS d8 false σ) true H.size ) (cwV 1 hts gL_acts_X5_thingsOf rfl rfl rfl ⟨rfl, hd_X5_thingsOf⟩ ⟨Nat.le_of_ble_eq_true rfl, Nat.le_of_ble_eq_true rfl⟩) ⟨hp.1, va_recv F.2.2.2.1.1 w.1 (q0 := 0) (ci := 5) rfl rfl, hp.2⟩ rfl rfl hl.1 rfl (lv_room (Nat.le_of_ble_eq_true rfl)) dL_acts_991 ⟨Nat.le_of_ble_eq_true rfl, Nat.le_of_ble_eq_true rfl⟩)
                            (fun r_310 _ H locs h_311 w => ?_)
                          subst h_311
                          refine ktopi (y := nI (zcnt (kindP σ true) 48 + 0)) (congrArg nI (kind_put2 (by decide) hfr)) ?_
                          refine lv_iload hx hb dL_acts_994 (lv_at hl 6 rfl) ?_
                          refine lv_iload hx hb dL_acts_996 (lv_at hl 0 rfl) ?_
                          refine lv_if_eq (tgt := 1011) hx hb dL_acts_998 (by decide) (fun h_312 => ?_) (fun h_312 => ?_)
                          · exact absurd h_312 (by decide)
                          refine lv_iload hx hb dL_acts_1001 (lv_at hl 4 rfl) ?_
                          refine lv_iconst (v := nI 1) hx hb dL_acts_1003 (by decide) ?_
                          refine lv_icmp_ne (tgt := 1011) hx hb dL_acts_1004 (by decide) (fun h_313 => ?_) (fun h_313 => ?_)
                          rotate_left 1
                          · exact absurd h_313 (by decide)
                          refine lv_iconst (v := nI 0) hx hb dL_acts_1011 (by decide) ?_
                          refine lv_iadd hx hb dL_acts_1012 ?_
                          refine ktopi (y := nI (zcnt (kindP σ true) 48 + 0)) (nI_add (zcnt (kindP σ true) 48) 0) ?_
                          refine lv_icmp_ne (tgt := 1046) hx hb dL_acts_1013 (by decide) (fun h_314 => ?_) (fun h_314 => ?_)
                          · exact absurd rfl h_314
                          refine lv_iload hx hb dL_acts_1016 (lv_at hl 0 rfl) ?_
                          refine lv_if_eq (tgt := 1032) hx hb dL_acts_1018 (by decide) (fun h_315 => ?_) (fun h_315 => ?_)
                          · exact absurd h_315 (by decide)
                          refine lv_aload_n hx hb dL_acts_1021 rfl (lv_at hl 13 rfl) ?_
                          refine lv_iload hx hb dL_acts_1022 (lv_at hl 5 rfl) ?_
                          refine kcalli (wc := [cX x nw sn tk hs tx tr, cR nw na nb (putS d8 false σ), xI g na 49 (zT (putS d8 false σ)), xI g nb 49 (zI (putS d8 false σ))]) (wr := [cH hs hq (pushN kn), xQ g hq 4 (rq u_298.1), cR (u_298.1 0) (u_298.2.1 0) (u_298.2.2 0) ((pushG γ kn σ) 0), xI g (u_298.2.1 0) 49 (zT ((pushG γ kn σ) 0)), xI g (u_298.2.2 0) 49 (zI ((pushG γ kn σ) 0)), cR (u_298.1 1) (u_298.2.1 1) (u_298.2.2 1) ((pushG γ kn σ) 1), xI g (u_298.2.1 1) 49 (zT ((pushG γ kn σ) 1)), xI g (u_298.2.2 1) 49 (zI ((pushG γ kn σ) 1)), cR (u_298.1 2) (u_298.2.1 2) (u_298.2.2 2) ((pushG γ kn σ) 2), xI g (u_298.2.1 2) 49 (zT ((pushG γ kn σ) 2)), xI g (u_298.2.2 2) 49 (zI ((pushG γ kn σ) 2)), cR (u_298.1 3) (u_298.2.1 3) (u_298.2.2 3) ((pushG γ kn σ) 3), xI g (u_298.2.1 3) 49 (zT ((pushG γ kn σ) 3)), xI g (u_298.2.2 3) 49 (zI ((pushG γ kn σ) 3)), cT tx ch L, xC g ch 60 T, cTr tr tw od os po re ca, cR tw ta tb τ, xI g ta 49 (zT τ), xI g tb 49 (zI τ), cO od vb n1 n2 nm en]) (wn := fun (u : Unit) => [cX x nw sn tk hs tx tr, cR nw na nb (putS d8 false σ), xI g na 49 (zT (putS d8 false σ)), xI g nb 49 (zI (putS d8 false σ)), cH hs hq (pushN kn), xQ g hq 4 (rq u_298.1), cR (u_298.1 0) (u_298.2.1 0) (u_298.2.2 0) ((pushG γ kn σ) 0), xI g (u_298.2.1 0) 49 (zT ((pushG γ kn σ) 0)), xI g (u_298.2.2 0) 49 (zI ((pushG γ kn σ) 0)), cR (u_298.1 1) (u_298.2.1 1) (u_298.2.2 1) ((pushG γ kn σ) 1), xI g (u_298.2.1 1) 49 (zT ((pushG γ kn σ) 1)), xI g (u_298.2.2 1) 49 (zI ((pushG γ kn σ) 1)), cR (u_298.1 2) (u_298.2.1 2) (u_298.2.2 2) ((pushG γ kn σ) 2), xI g (u_298.2.1 2) 49 (zT ((pushG γ kn σ) 2)), xI g (u_298.2.2 2) 49 (zI ((pushG γ kn σ) 2)), cR (u_298.1 3) (u_298.2.1 3) (u_298.2.2 3) ((pushG γ kn σ) 3), xI g (u_298.2.1 3) 49 (zT ((pushG γ kn σ) 3)), xI g (u_298.2.2 3) 49 (zI ((pushG γ kn σ) 3)), cT tx ch L, xC g ch 60 T, cTr tr tw od os po re ca, cR tw ta tb τ, xI g ta 49 (zT τ), xI g tb 49 (zI τ), cO od vb n1 n2 nm en]) F w [0, 1, 2, 3] [4, 5, 6, 7, 8, 9, 10, 11, 12, 13, 14, 15, 16, 17, 18, 19, 20, 21, 22, 23, 24] [21, 22, 23, 24, 0, 1, 2, 3, 4, 5, 6, 7, 8, 9, 10, 11, 12, 13, 14, 15, 16, 17, 18, 19, 20] rfl rfl rfl (fun _ => rfl)
                            (fun hp => va_runV (As := [.int (nI d8)]) (rest := []) F.1 (kX5_thingAt_k l g x nw sn tk hs tx tr na nb (putS d8 false σ) d8 H.size hdj bup_s) (cwV 1 hts gL_acts_X5_thingAt rfl rfl rfl ⟨rfl, hd_X5_thingAt⟩ ⟨Nat.le_of_ble_eq_true rfl, Nat.le_of_ble_eq_true rfl⟩) ⟨hp.1, va_recv F.2.2.2.1.1 w.1 (q0 := 0) (ci := 5) rfl rfl, hp.2⟩ rfl rfl hl.1 rfl (lv_room (Nat.le_of_ble_eq_true rfl)) dL_acts_1024 ⟨Nat.le_of_ble_eq_true rfl, Nat.le_of_ble_eq_true rfl⟩)
                            (fun r_316 _ H locs h_317 w => ?_)
                          subst h_317
                          refine ktopi (y := nI 0) ((congrArg bI bup_s).trans (by decide)) ?_
                          refine lv_iload hx hb dL_acts_1027 (lv_at hl 4 rfl) ?_
                          refine lv_icmp_ne (tgt := 1046) hx hb dL_acts_1029 (by decide) (fun h_318 => ?_) (fun h_318 => ?_)
                          · exact absurd rfl h_318
                          refine lv_aload_n hx hb dL_acts_1032 rfl (lv_at hl 13 rfl) ?_
                          refine kcalll (wc := [cX x nw sn tk hs tx tr, cR nw na nb (putS d8 false σ), xI g na 49 (zT (putS d8 false σ)), xI g nb 49 (zI (putS d8 false σ))]) (wr := [cH hs hq (pushN kn), xQ g hq 4 (rq u_298.1), cR (u_298.1 0) (u_298.2.1 0) (u_298.2.2 0) ((pushG γ kn σ) 0), xI g (u_298.2.1 0) 49 (zT ((pushG γ kn σ) 0)), xI g (u_298.2.2 0) 49 (zI ((pushG γ kn σ) 0)), cR (u_298.1 1) (u_298.2.1 1) (u_298.2.2 1) ((pushG γ kn σ) 1), xI g (u_298.2.1 1) 49 (zT ((pushG γ kn σ) 1)), xI g (u_298.2.2 1) 49 (zI ((pushG γ kn σ) 1)), cR (u_298.1 2) (u_298.2.1 2) (u_298.2.2 2) ((pushG γ kn σ) 2), xI g (u_298.2.1 2) 49 (zT ((pushG γ kn σ) 2)), xI g (u_298.2.2 2) 49 (zI ((pushG γ kn σ) 2)), cR (u_298.1 3) (u_298.2.1 3) (u_298.2.2 3) ((pushG γ kn σ) 3), xI g (u_298.2.1 3) 49 (zT ((pushG γ kn σ) 3)), xI g (u_298.2.2 3) 49 (zI ((pushG γ kn σ) 3)), cT tx ch L, xC g ch 60 T, cTr tr tw od os po re ca, cR tw ta tb τ, xI g ta 49 (zT τ), xI g tb 49 (zI τ), cO od vb n1 n2 nm en]) (wn := fun (u : Unit) => [cX x nw sn tk hs tx tr, cR nw na nb (putS d8 false σ), xI g na 49 (zT (putS d8 false σ)), xI g nb 49 (zI (putS d8 false σ)), cH hs hq (pushN kn), xQ g hq 4 (rq u_298.1), cR (u_298.1 0) (u_298.2.1 0) (u_298.2.2 0) ((pushG γ kn σ) 0), xI g (u_298.2.1 0) 49 (zT ((pushG γ kn σ) 0)), xI g (u_298.2.2 0) 49 (zI ((pushG γ kn σ) 0)), cR (u_298.1 1) (u_298.2.1 1) (u_298.2.2 1) ((pushG γ kn σ) 1), xI g (u_298.2.1 1) 49 (zT ((pushG γ kn σ) 1)), xI g (u_298.2.2 1) 49 (zI ((pushG γ kn σ) 1)), cR (u_298.1 2) (u_298.2.1 2) (u_298.2.2 2) ((pushG γ kn σ) 2), xI g (u_298.2.1 2) 49 (zT ((pushG γ kn σ) 2)), xI g (u_298.2.2 2) 49 (zI ((pushG γ kn σ) 2)), cR (u_298.1 3) (u_298.2.1 3) (u_298.2.2 3) ((pushG γ kn σ) 3), xI g (u_298.2.1 3) 49 (zT ((pushG γ kn σ) 3)), xI g (u_298.2.2 3) 49 (zI ((pushG γ kn σ) 3)), cT tx ch L, xC g ch 60 T, cTr tr tw od os po re ca, cR tw ta tb τ, xI g ta 49 (zT τ), xI g tb 49 (zI τ), cO od vb n1 n2 nm en]) F w [0, 1, 2, 3] [4, 5, 6, 7, 8, 9, 10, 11, 12, 13, 14, 15, 16, 17, 18, 19, 20, 21, 22, 23, 24] [21, 22, 23, 24, 0, 1, 2, 3, 4, 5, 6, 7, 8, 9, 10, 11, 12, 13, 14, 15, 16, 17, 18, 19, 20] rfl rfl rfl (fun _ => rfl)
                            (fun hp => va_runV (As := []) (rest := []) F.1 (kX5_openSet l g x nw sn tk hs tx tr na nb (putS d8 false σ) H.size ) (cwV 0 hts gL_acts_X5_openSet rfl rfl rfl ⟨rfl, hd_X5_openSet⟩ ⟨Nat.le_of_ble_eq_true rfl, Nat.le_of_ble_eq_true rfl⟩) ⟨hp.1, va_recv F.2.2.2.1.1 w.1 (q0 := 0) (ci := 5) rfl rfl, hp.2⟩ rfl rfl hl.1 rfl (lv_room (Nat.le_of_ble_eq_true rfl)) dL_acts_1033 ⟨Nat.le_of_ble_eq_true rfl, Nat.le_of_ble_eq_true rfl⟩)
                            (fun r_319 _ H locs h_320 w => ?_)
                          subst h_320
                          refine lv_lload hx hb dL_acts_1036 (lv_at hl 10 rfl) ?_
                          refine W.lcmp hx hb dL_acts_1038 ?_
                          refine lv_if_ne (tgt := 1046) hx hb dL_acts_1039 (by decide) (fun h_321 => ?_) (fun h_321 => ?_)
                          · exact absurd (lgc_eq.mpr rfl) h_321
                          refine lv_iconst (v := nI 1) hx hb dL_acts_1042 (by decide) ?_
                          refine lv_goto (tgt := 1047) hx hb dL_acts_1043 (by decide) ?_
                          refine ktopi (y := bI true) (by decide) ?_
                          refine W.widen (k := 60) (n := 360) (by omega) (by omega) ?_
                          subst hA
                          subst hQ
                          exact kretz F w (putS d8 false σ, pushN kn, u_298.1, u_298.2.1, u_298.2.2, pushG γ kn σ, L, T, os, po, re, ca, τ, vb, n1, n2, nm, en) [0, 1, 2, 3, 4, 5, 6, 7, 8, 9, 10, 11, 12, 13, 14, 15, 16, 17, 18, 19, 20, 21, 22, 23, 24] rfl rfl (⟨rfl, actP_1 hL (fun B hB => hB.mono (Nat.le_add_right _ _))⟩) (kz_n _) (Nat.le_of_ble_eq_true rfl) (Nat.le_of_ble_eq_true rfl) dL_acts_1047
                        · skip
                          refine lv_aload_n hx hb dL_acts_895 rfl (lv_at hl 11 rfl) ?_
                          refine lv_iload hx hb dL_acts_896 (lv_at hl 3 rfl) ?_
                          refine lv_iload hx hb dL_acts_898 (lv_at hl 2 rfl) ?_
                          refine ktopi (y := bI false) (by decide) ?_
                          refine kcalli (wc := [cX x nw sn tk hs tx tr, cR nw na nb σ, xI g na 49 (zT σ), xI g nb 49 (zI σ)]) (wr := [cH hs hq kn, xQ g hq 4 (rq ρ), cR (ρ 0) (α 0) (β 0) (γ 0), xI g (α 0) 49 (zT (γ 0)), xI g (β 0) 49 (zI (γ 0)), cR (ρ 1) (α 1) (β 1) (γ 1), xI g (α 1) 49 (zT (γ 1)), xI g (β 1) 49 (zI (γ 1)), cR (ρ 2) (α 2) (β 2) (γ 2), xI g (α 2) 49 (zT (γ 2)), xI g (β 2) 49 (zI (γ 2)), cR (ρ 3) (α 3) (β 3) (γ 3), xI g (α 3) 49 (zT (γ 3)), xI g (β 3) 49 (zI (γ 3)), cT tx ch L, xC g ch 60 T, cTr tr tw od os po re ca, cR tw ta tb τ, xI g ta 49 (zT τ), xI g tb 49 (zI τ), cO od vb n1 n2 nm en]) (wn := fun (u : Unit) => [cX x nw sn tk hs tx tr, cR nw na nb σ, xI g na 49 (zT σ), xI g nb 49 (zI σ), cH hs hq kn, xQ g hq 4 (rq ρ), cR (ρ 0) (α 0) (β 0) (γ 0), xI g (α 0) 49 (zT (γ 0)), xI g (β 0) 49 (zI (γ 0)), cR (ρ 1) (α 1) (β 1) (γ 1), xI g (α 1) 49 (zT (γ 1)), xI g (β 1) 49 (zI (γ 1)), cR (ρ 2) (α 2) (β 2) (γ 2), xI g (α 2) 49 (zT (γ 2)), xI g (β 2) 49 (zI (γ 2)), cR (ρ 3) (α 3) (β 3) (γ 3), xI g (α 3) 49 (zT (γ 3)), xI g (β 3) 49 (zI (γ 3)), cT tx ch L, xC g ch 60 T, cTr tr tw od os po re ca, cR tw ta tb τ, xI g ta 49 (zT τ), xI g tb 49 (zI τ), cO od vb n1 n2 nm en]) F w [0, 1, 2, 3] [4, 5, 6, 7, 8, 9, 10, 11, 12, 13, 14, 15, 16, 17, 18, 19, 20, 21, 22, 23, 24] [21, 22, 23, 24, 0, 1, 2, 3, 4, 5, 6, 7, 8, 9, 10, 11, 12, 13, 14, 15, 16, 17, 18, 19, 20] rfl rfl rfl (fun _ => rfl)
                            (fun hp => vx_runSW (As := [.ref x, .int (nI d8), .int (bI false)]) (rest := []) F.1 (kL_store_S l hnl g x nw sn tk hs tx tr na nb σ d8 false H.size hdj h_295) (vx_cwSW 3 hts gL_acts_L_store rfl rfl rfl hd_L_store ⟨Nat.le_of_ble_eq_true rfl, Nat.le_of_ble_eq_true rfl⟩) hp rfl rfl hl.1 rfl (lv_room (Nat.le_of_ble_eq_true rfl)) dL_acts_900 ⟨Nat.le_of_ble_eq_true rfl, Nat.le_of_ble_eq_true rfl⟩)
                            (fun r_322 _ H locs h_323 w => ?_)
                          subst h_323
                          refine lv_istore (lv' := [(16, .int (-103)), (15, .int (nI (reasZ σ d8 false))), (14, .int (bI false)), (13, .int (nI 0)), (4, .int (nI d8)), (12, .int (nI (zcnt (kindP σ true) 48))), (11, .int (nI (zcnt (kindP σ false) 48))), (10, .int (tA σ)), (8, .long (zB (zL σ))), (6, .long (zB (zO σ))), (5, .int (bI false)), (3, .int (nI hw9)), (0, .ref x), (1, .int v), (2, .int yv)]) hx hb dL_acts_903 hl (by decide) rfl (fun ls hl => ?_)
                          refine lv_iload hx hb dL_acts_905 (lv_at hl 2 rfl) ?_
                          refine lv_if_ne (tgt := 919) hx hb dL_acts_907 (by decide) (fun h_324 => ?_) (fun h_324 => ?_)
                          · exact absurd rfl h_324
                          refine lv_iload hx hb dL_acts_910 (lv_at hl 1 rfl) ?_
                          refine lv_if_ne (tgt := 919) hx hb dL_acts_912 (by decide) (fun h_325 => ?_) (fun h_325 => ?_)
                          rotate_left 1
                          · exact absurd ((kc0_eq_t (by omega)).mp h_325) h_295
                          refine lv_iconst (v := nI 0) hx hb dL_acts_919 (by decide) ?_
                          refine lv_istore (lv' := [(17, .int (nI 0)), (16, .int (-103)), (15, .int (nI (reasZ σ d8 false))), (14, .int (bI false)), (13, .int (nI 0)), (4, .int (nI d8)), (12, .int (nI (zcnt (kindP σ true) 48))), (11, .int (nI (zcnt (kindP σ false) 48))), (10, .int (tA σ)), (8, .long (zB (zL σ))), (6, .long (zB (zO σ))), (5, .int (bI false)), (3, .int (nI hw9)), (0, .ref x), (1, .int v), (2, .int yv)]) hx hb dL_acts_920 hl (by decide) rfl (fun ls hl => ?_)
                          refine lv_iload hx hb dL_acts_922 (lv_at hl 1 rfl) ?_
                          refine lv_iload hx hb dL_acts_924 (lv_at hl 3 rfl) ?_
                          refine lv_if_eq (tgt := 934) hx hb dL_acts_926 (by decide) (fun h_326 => ?_) (fun h_326 => ?_)
                          rotate_left 1
                          · exact absurd rfl h_326
                          refine lv_iload hx hb dL_acts_934 (lv_at hl 0 rfl) ?_
                          refine lv_if_ne (tgt := 944) hx hb dL_acts_936 (by decide) (fun h_327 => ?_) (fun h_327 => ?_)
                          · exact absurd rfl h_327
                          refine lv_bipush (v := (-103)) hx hb dL_acts_939 (by decide) ?_
                          refine lv_goto (tgt := 960) hx hb dL_acts_941 (by decide) ?_
                          refine lv_icmp_ne (tgt := 1046) hx hb dL_acts_960 (by decide) (fun h_328 => ?_) (fun h_328 => ?_)
                          · exact absurd rfl h_328
                          refine lv_aload_n hx hb dL_acts_963 rfl (lv_at hl 13 rfl) ?_
                          refine lv_iconst (v := nI 0) hx hb dL_acts_964 (by decide) ?_
                          refine ktopi (y := bI false) (by decide) ?_
                          refine kcalli (wc := [cX x nw sn tk hs tx tr, cR nw na nb σ, xI g na 49 (zT σ), xI g nb 49 (zI σ)]) (wr := [cH hs hq kn, xQ g hq 4 (rq ρ), cR (ρ 0) (α 0) (β 0) (γ 0), xI g (α 0) 49 (zT (γ 0)), xI g (β 0) 49 (zI (γ 0)), cR (ρ 1) (α 1) (β 1) (γ 1), xI g (α 1) 49 (zT (γ 1)), xI g (β 1) 49 (zI (γ 1)), cR (ρ 2) (α 2) (β 2) (γ 2), xI g (α 2) 49 (zT (γ 2)), xI g (β 2) 49 (zI (γ 2)), cR (ρ 3) (α 3) (β 3) (γ 3), xI g (α 3) 49 (zT (γ 3)), xI g (β 3) 49 (zI (γ 3)), cT tx ch L, xC g ch 60 T, cTr tr tw od os po re ca, cR tw ta tb τ, xI g ta 49 (zT τ), xI g tb 49 (zI τ), cO od vb n1 n2 nm en]) (wn := fun (u : Unit) => [cX x nw sn tk hs tx tr, cR nw na nb σ, xI g na 49 (zT σ), xI g nb 49 (zI σ), cH hs hq kn, xQ g hq 4 (rq ρ), cR (ρ 0) (α 0) (β 0) (γ 0), xI g (α 0) 49 (zT (γ 0)), xI g (β 0) 49 (zI (γ 0)), cR (ρ 1) (α 1) (β 1) (γ 1), xI g (α 1) 49 (zT (γ 1)), xI g (β 1) 49 (zI (γ 1)), cR (ρ 2) (α 2) (β 2) (γ 2), xI g (α 2) 49 (zT (γ 2)), xI g (β 2) 49 (zI (γ 2)), cR (ρ 3) (α 3) (β 3) (γ 3), xI g (α 3) 49 (zT (γ 3)), xI g (β 3) 49 (zI (γ 3)), cT tx ch L, xC g ch 60 T, cTr tr tw od os po re ca, cR tw ta tb τ, xI g ta 49 (zT τ), xI g tb 49 (zI τ), cO od vb n1 n2 nm en]) F w [0, 1, 2, 3] [4, 5, 6, 7, 8, 9, 10, 11, 12, 13, 14, 15, 16, 17, 18, 19, 20, 21, 22, 23, 24] [21, 22, 23, 24, 0, 1, 2, 3, 4, 5, 6, 7, 8, 9, 10, 11, 12, 13, 14, 15, 16, 17, 18, 19, 20] rfl rfl rfl (fun _ => rfl)
                            (fun hp => va_runV (As := [.int (bI false)]) (rest := []) F.1 (kX5_thingsOf_k l g x nw sn tk hs tx tr na nb σ false H.size ) (cwV 1 hts gL_acts_X5_thingsOf rfl rfl rfl ⟨rfl, hd_X5_thingsOf⟩ ⟨Nat.le_of_ble_eq_true rfl, Nat.le_of_ble_eq_true rfl⟩) ⟨hp.1, va_recv F.2.2.2.1.1 w.1 (q0 := 0) (ci := 5) rfl rfl, hp.2⟩ rfl rfl hl.1 rfl (lv_room (Nat.le_of_ble_eq_true rfl)) dL_acts_965 ⟨Nat.le_of_ble_eq_true rfl, Nat.le_of_ble_eq_true rfl⟩)
                            (fun r_329 _ H locs h_330 w => ?_)
                          subst h_330
                          refine lv_iload hx hb dL_acts_968 (lv_at hl 7 rfl) ?_
                          refine lv_iload hx hb dL_acts_970 (lv_at hl 0 rfl) ?_
                          refine lv_if_eq (tgt := 984) hx hb dL_acts_972 (by decide) (fun h_331 => ?_) (fun h_331 => ?_)
                          rotate_left 1
                          · exact absurd rfl h_331
                          refine lv_iconst (v := nI 0) hx hb dL_acts_984 (by decide) ?_
                          refine lv_iadd hx hb dL_acts_985 ?_
                          refine ktopi (y := nI (zcnt (kindP σ false) 48 + 0)) (nI_add (zcnt (kindP σ false) 48) 0) ?_
                          refine ktopi (y := nI (zcnt (kindP σ false) 48)) (rfl) ?_
                          refine lv_icmp_ne (tgt := 1046) hx hb dL_acts_986 (by decide) (fun h_332 => ?_) (fun h_332 => ?_)
                          · exact absurd rfl h_332
                          refine lv_aload_n hx hb dL_acts_989 rfl (lv_at hl 13 rfl) ?_
                          refine lv_iconst (v := nI 1) hx hb dL_acts_990 (by decide) ?_
                          refine ktopi (y := bI true) (by decide) ?_
                          refine kcalli (wc := [cX x nw sn tk hs tx tr, cR nw na nb σ, xI g na 49 (zT σ), xI g nb 49 (zI σ)]) (wr := [cH hs hq kn, xQ g hq 4 (rq ρ), cR (ρ 0) (α 0) (β 0) (γ 0), xI g (α 0) 49 (zT (γ 0)), xI g (β 0) 49 (zI (γ 0)), cR (ρ 1) (α 1) (β 1) (γ 1), xI g (α 1) 49 (zT (γ 1)), xI g (β 1) 49 (zI (γ 1)), cR (ρ 2) (α 2) (β 2) (γ 2), xI g (α 2) 49 (zT (γ 2)), xI g (β 2) 49 (zI (γ 2)), cR (ρ 3) (α 3) (β 3) (γ 3), xI g (α 3) 49 (zT (γ 3)), xI g (β 3) 49 (zI (γ 3)), cT tx ch L, xC g ch 60 T, cTr tr tw od os po re ca, cR tw ta tb τ, xI g ta 49 (zT τ), xI g tb 49 (zI τ), cO od vb n1 n2 nm en]) (wn := fun (u : Unit) => [cX x nw sn tk hs tx tr, cR nw na nb σ, xI g na 49 (zT σ), xI g nb 49 (zI σ), cH hs hq kn, xQ g hq 4 (rq ρ), cR (ρ 0) (α 0) (β 0) (γ 0), xI g (α 0) 49 (zT (γ 0)), xI g (β 0) 49 (zI (γ 0)), cR (ρ 1) (α 1) (β 1) (γ 1), xI g (α 1) 49 (zT (γ 1)), xI g (β 1) 49 (zI (γ 1)), cR (ρ 2) (α 2) (β 2) (γ 2), xI g (α 2) 49 (zT (γ 2)), xI g (β 2) 49 (zI (γ 2)), cR (ρ 3) (α 3) (β 3) (γ 3), xI g (α 3) 49 (zT (γ 3)), xI g (β 3) 49 (zI (γ 3)), cT tx ch L, xC g ch 60 T, cTr tr tw od os po re ca, cR tw ta tb τ, xI g ta 49 (zT τ), xI g tb 49 (zI τ), cO od vb n1 n2 nm en]) F w [0, 1, 2, 3] [4, 5, 6, 7, 8, 9, 10, 11, 12, 13, 14, 15, 16, 17, 18, 19, 20, 21, 22, 23, 24] [21, 22, 23, 24, 0, 1, 2, 3, 4, 5, 6, 7, 8, 9, 10, 11, 12, 13, 14, 15, 16, 17, 18, 19, 20] rfl rfl rfl (fun _ => rfl)
                            (fun hp => va_runV (As := [.int (bI true)]) (rest := []) F.1 (kX5_thingsOf_k l g x nw sn tk hs tx tr na nb σ true H.size ) (cwV 1 hts gL_acts_X5_thingsOf rfl rfl rfl ⟨rfl, hd_X5_thingsOf⟩ ⟨Nat.le_of_ble_eq_true rfl, Nat.le_of_ble_eq_true rfl⟩) ⟨hp.1, va_recv F.2.2.2.1.1 w.1 (q0 := 0) (ci := 5) rfl rfl, hp.2⟩ rfl rfl hl.1 rfl (lv_room (Nat.le_of_ble_eq_true rfl)) dL_acts_991 ⟨Nat.le_of_ble_eq_true rfl, Nat.le_of_ble_eq_true rfl⟩)
                            (fun r_333 _ H locs h_334 w => ?_)
                          subst h_334
                          refine lv_iload hx hb dL_acts_994 (lv_at hl 6 rfl) ?_
                          refine lv_iload hx hb dL_acts_996 (lv_at hl 0 rfl) ?_
                          refine lv_if_eq (tgt := 1011) hx hb dL_acts_998 (by decide) (fun h_335 => ?_) (fun h_335 => ?_)
                          rotate_left 1
                          · exact absurd rfl h_335
                          refine lv_iconst (v := nI 0) hx hb dL_acts_1011 (by decide) ?_
                          refine lv_iadd hx hb dL_acts_1012 ?_
                          refine ktopi (y := nI (zcnt (kindP σ true) 48 + 0)) (nI_add (zcnt (kindP σ true) 48) 0) ?_
                          refine ktopi (y := nI (zcnt (kindP σ true) 48)) (rfl) ?_
                          refine lv_icmp_ne (tgt := 1046) hx hb dL_acts_1013 (by decide) (fun h_336 => ?_) (fun h_336 => ?_)
                          · exact absurd rfl h_336
                          refine lv_iload hx hb dL_acts_1016 (lv_at hl 0 rfl) ?_
                          refine lv_if_eq (tgt := 1032) hx hb dL_acts_1018 (by decide) (fun h_337 => ?_) (fun h_337 => ?_)
                          rotate_left 1
                          · exact absurd rfl h_337
                          refine lv_aload_n hx hb dL_acts_1032 rfl (lv_at hl 13 rfl) ?_
                          refine kcalll (wc := [cX x nw sn tk hs tx tr, cR nw na nb σ, xI g na 49 (zT σ), xI g nb 49 (zI σ)]) (wr := [cH hs hq kn, xQ g hq 4 (rq ρ), cR (ρ 0) (α 0) (β 0) (γ 0), xI g (α 0) 49 (zT (γ 0)), xI g (β 0) 49 (zI (γ 0)), cR (ρ 1) (α 1) (β 1) (γ 1), xI g (α 1) 49 (zT (γ 1)), xI g (β 1) 49 (zI (γ 1)), cR (ρ 2) (α 2) (β 2) (γ 2), xI g (α 2) 49 (zT (γ 2)), xI g (β 2) 49 (zI (γ 2)), cR (ρ 3) (α 3) (β 3) (γ 3), xI g (α 3) 49 (zT (γ 3)), xI g (β 3) 49 (zI (γ 3)), cT tx ch L, xC g ch 60 T, cTr tr tw od os po re ca, cR tw ta tb τ, xI g ta 49 (zT τ), xI g tb 49 (zI τ), cO od vb n1 n2 nm en]) (wn := fun (u : Unit) => [cX x nw sn tk hs tx tr, cR nw na nb σ, xI g na 49 (zT σ), xI g nb 49 (zI σ), cH hs hq kn, xQ g hq 4 (rq ρ), cR (ρ 0) (α 0) (β 0) (γ 0), xI g (α 0) 49 (zT (γ 0)), xI g (β 0) 49 (zI (γ 0)), cR (ρ 1) (α 1) (β 1) (γ 1), xI g (α 1) 49 (zT (γ 1)), xI g (β 1) 49 (zI (γ 1)), cR (ρ 2) (α 2) (β 2) (γ 2), xI g (α 2) 49 (zT (γ 2)), xI g (β 2) 49 (zI (γ 2)), cR (ρ 3) (α 3) (β 3) (γ 3), xI g (α 3) 49 (zT (γ 3)), xI g (β 3) 49 (zI (γ 3)), cT tx ch L, xC g ch 60 T, cTr tr tw od os po re ca, cR tw ta tb τ, xI g ta 49 (zT τ), xI g tb 49 (zI τ), cO od vb n1 n2 nm en]) F w [0, 1, 2, 3] [4, 5, 6, 7, 8, 9, 10, 11, 12, 13, 14, 15, 16, 17, 18, 19, 20, 21, 22, 23, 24] [21, 22, 23, 24, 0, 1, 2, 3, 4, 5, 6, 7, 8, 9, 10, 11, 12, 13, 14, 15, 16, 17, 18, 19, 20] rfl rfl rfl (fun _ => rfl)
                            (fun hp => va_runV (As := []) (rest := []) F.1 (kX5_openSet l g x nw sn tk hs tx tr na nb σ H.size ) (cwV 0 hts gL_acts_X5_openSet rfl rfl rfl ⟨rfl, hd_X5_openSet⟩ ⟨Nat.le_of_ble_eq_true rfl, Nat.le_of_ble_eq_true rfl⟩) ⟨hp.1, va_recv F.2.2.2.1.1 w.1 (q0 := 0) (ci := 5) rfl rfl, hp.2⟩ rfl rfl hl.1 rfl (lv_room (Nat.le_of_ble_eq_true rfl)) dL_acts_1033 ⟨Nat.le_of_ble_eq_true rfl, Nat.le_of_ble_eq_true rfl⟩)
                            (fun r_338 _ H locs h_339 w => ?_)
                          subst h_339
                          refine lv_lload hx hb dL_acts_1036 (lv_at hl 10 rfl) ?_
                          refine W.lcmp hx hb dL_acts_1038 ?_
                          refine lv_if_ne (tgt := 1046) hx hb dL_acts_1039 (by decide) (fun h_340 => ?_) (fun h_340 => ?_)
                          · exact absurd (lgc_eq.mpr rfl) h_340
                          refine lv_iconst (v := nI 1) hx hb dL_acts_1042 (by decide) ?_
                          refine lv_goto (tgt := 1047) hx hb dL_acts_1043 (by decide) ?_
                          refine ktopi (y := bI true) (by decide) ?_
                          refine W.widen (k := 60) (n := 360) (by omega) (by omega) ?_
                          subst hA
                          subst hQ
                          exact kretz F w (σ, kn, ρ, α, β, γ, L, T, os, po, re, ca, τ, vb, n1, n2, nm, en) [0, 1, 2, 3, 4, 5, 6, 7, 8, 9, 10, 11, 12, 13, 14, 15, 16, 17, 18, 19, 20, 21, 22, 23, 24] rfl rfl (⟨rfl, actP_0 hL⟩) (kz_n _) (Nat.le_of_ble_eq_true rfl) (Nat.le_of_ble_eq_true rfl) dL_acts_1047
                      · skip
                        rw [h_291] at hl
                        refine lv_iload hx hb dL_acts_876 (lv_at hl 0 rfl) ?_
                        refine lv_if_eq (tgt := 885) hx hb dL_acts_878 (by decide) (fun h_341 => ?_) (fun h_341 => ?_)
                        rotate_left 1
                        · exact absurd rfl h_341
                        refine lv_aload_n hx hb dL_acts_885 rfl (lv_at hl 10 rfl) ?_
                        refine lv_iload hx hb dL_acts_886 (lv_at hl 2 rfl) ?_
                        refine lv_iload hx hb dL_acts_888 (lv_at hl 1 rfl) ?_
                        refine ktopi (y := bI true) (by decide) ?_
                        refine kcalli (wc := [cX x nw sn tk hs tx tr, cR nw na nb σ, xI g na 49 (zT σ), xI g nb 49 (zI σ)]) (wr := [cH hs hq kn, xQ g hq 4 (rq ρ), cR (ρ 0) (α 0) (β 0) (γ 0), xI g (α 0) 49 (zT (γ 0)), xI g (β 0) 49 (zI (γ 0)), cR (ρ 1) (α 1) (β 1) (γ 1), xI g (α 1) 49 (zT (γ 1)), xI g (β 1) 49 (zI (γ 1)), cR (ρ 2) (α 2) (β 2) (γ 2), xI g (α 2) 49 (zT (γ 2)), xI g (β 2) 49 (zI (γ 2)), cR (ρ 3) (α 3) (β 3) (γ 3), xI g (α 3) 49 (zT (γ 3)), xI g (β 3) 49 (zI (γ 3)), cT tx ch L, xC g ch 60 T, cTr tr tw od os po re ca, cR tw ta tb τ, xI g ta 49 (zT τ), xI g tb 49 (zI τ), cO od vb n1 n2 nm en]) (wn := fun (u : Unit) => [cX x nw sn tk hs tx tr, cR nw na nb σ, xI g na 49 (zT σ), xI g nb 49 (zI σ), cH hs hq kn, xQ g hq 4 (rq ρ), cR (ρ 0) (α 0) (β 0) (γ 0), xI g (α 0) 49 (zT (γ 0)), xI g (β 0) 49 (zI (γ 0)), cR (ρ 1) (α 1) (β 1) (γ 1), xI g (α 1) 49 (zT (γ 1)), xI g (β 1) 49 (zI (γ 1)), cR (ρ 2) (α 2) (β 2) (γ 2), xI g (α 2) 49 (zT (γ 2)), xI g (β 2) 49 (zI (γ 2)), cR (ρ 3) (α 3) (β 3) (γ 3), xI g (α 3) 49 (zT (γ 3)), xI g (β 3) 49 (zI (γ 3)), cT tx ch L, xC g ch 60 T, cTr tr tw od os po re ca, cR tw ta tb τ, xI g ta 49 (zT τ), xI g tb 49 (zI τ), cO od vb n1 n2 nm en]) F w [0, 1, 2, 3] [4, 5, 6, 7, 8, 9, 10, 11, 12, 13, 14, 15, 16, 17, 18, 19, 20, 21, 22, 23, 24] [21, 22, 23, 24, 0, 1, 2, 3, 4, 5, 6, 7, 8, 9, 10, 11, 12, 13, 14, 15, 16, 17, 18, 19, 20] rfl rfl rfl (fun _ => rfl)
                          (fun hp => va_runV (As := [.int (nI d8), .int (bI true)]) (rest := []) F.1 (kX5_whyNot_k l g x nw sn tk hs tx tr na nb σ d8 true H.size hdj) (cwV 2 hts gL_acts_X5_whyNot rfl rfl rfl ⟨rfl, hd_X5_whyNot⟩ ⟨Nat.le_of_ble_eq_true rfl, Nat.le_of_ble_eq_true rfl⟩) ⟨hp.1, va_recv F.2.2.2.1.1 w.1 (q0 := 0) (ci := 5) rfl rfl, hp.2⟩ rfl rfl hl.1 rfl (lv_room (Nat.le_of_ble_eq_true rfl)) dL_acts_890 ⟨Nat.le_of_ble_eq_true rfl, Nat.le_of_ble_eq_true rfl⟩)
                          (fun r_342 _ H locs h_343 w => ?_)
                        subst h_343
                        refine lv_istore (lv' := [(15, .int (nI (reasZ σ d8 true))), (14, .int (bI false)), (13, .int (nI 1)), (4, .int (nI d8)), (12, .int (nI (zcnt (kindP σ true) 48))), (11, .int (nI (zcnt (kindP σ false) 48))), (10, .int (tA σ)), (8, .long (zB (zL σ))), (6, .long (zB (zO σ))), (5, .int (bI false)), (3, .int (nI hw9)), (0, .ref x), (1, .int v), (2, .int yv)]) hx hb dL_acts_893 hl (by decide) rfl (fun ls hl => ?_)
                        have hr4 := reasZ_le σ d8 true
                        rcases (show reasZ σ d8 true = 0 ∨ reasZ σ d8 true ≠ 0 from Decidable.em _) with h_344 | h_344
                        · skip
                          refine lv_aload_n hx hb dL_acts_895 rfl (lv_at hl 11 rfl) ?_
                          refine lv_iload hx hb dL_acts_896 (lv_at hl 3 rfl) ?_
                          refine lv_iload hx hb dL_acts_898 (lv_at hl 2 rfl) ?_
                          refine ktopi (y := bI true) (by decide) ?_
                          have hfr := reasZ_free h_344
                          refine kcalli (wc := [cX x nw sn tk hs tx tr, cR nw na nb σ, xI g na 49 (zT σ), xI g nb 49 (zI σ), cH hs hq kn, xQ g hq 4 (rq ρ), cR (ρ 0) (α 0) (β 0) (γ 0), xI g (α 0) 49 (zT (γ 0)), xI g (β 0) 49 (zI (γ 0)), cR (ρ 1) (α 1) (β 1) (γ 1), xI g (α 1) 49 (zT (γ 1)), xI g (β 1) 49 (zI (γ 1)), cR (ρ 2) (α 2) (β 2) (γ 2), xI g (α 2) 49 (zT (γ 2)), xI g (β 2) 49 (zI (γ 2)), cR (ρ 3) (α 3) (β 3) (γ 3), xI g (α 3) 49 (zT (γ 3)), xI g (β 3) 49 (zI (γ 3))]) (wr := [cT tx ch L, xC g ch 60 T, cTr tr tw od os po re ca, cR tw ta tb τ, xI g ta 49 (zT τ), xI g tb 49 (zI τ), cO od vb n1 n2 nm en]) (wn := fun (u : (Nat → Nat) × (Nat → Nat) × (Nat → Nat)) => [cX x nw sn tk hs tx tr, cR nw na nb (putS d8 true σ), xI g na 49 (zT (putS d8 true σ)), xI g nb 49 (zI (putS d8 true σ)), cH hs hq (pushN kn), xQ g hq 4 (rq u.1), cR (u.1 0) (u.2.1 0) (u.2.2 0) ((pushG γ kn σ) 0), xI g (u.2.1 0) 49 (zT ((pushG γ kn σ) 0)), xI g (u.2.2 0) 49 (zI ((pushG γ kn σ) 0)), cR (u.1 1) (u.2.1 1) (u.2.2 1) ((pushG γ kn σ) 1), xI g (u.2.1 1) 49 (zT ((pushG γ kn σ) 1)), xI g (u.2.2 1) 49 (zI ((pushG γ kn σ) 1)), cR (u.1 2) (u.2.1 2) (u.2.2 2) ((pushG γ kn σ) 2), xI g (u.2.1 2) 49 (zT ((pushG γ kn σ) 2)), xI g (u.2.2 2) 49 (zI ((pushG γ kn σ) 2)), cR (u.1 3) (u.2.1 3) (u.2.2 3) ((pushG γ kn σ) 3), xI g (u.2.1 3) 49 (zT ((pushG γ kn σ) 3)), xI g (u.2.2 3) 49 (zI ((pushG γ kn σ) 3)), cT tx ch L, xC g ch 60 T, cTr tr tw od os po re ca, cR tw ta tb τ, xI g ta 49 (zT τ), xI g tb 49 (zI τ), cO od vb n1 n2 nm en]) F w [0, 1, 2, 3, 4, 5, 6, 7, 8, 9, 10, 11, 12, 13, 14, 15, 16, 17] [18, 19, 20, 21, 22, 23, 24] [7, 8, 9, 10, 11, 12, 13, 14, 15, 16, 17, 18, 19, 20, 21, 22, 23, 24, 0, 1, 2, 3, 4, 5, 6] rfl rfl rfl (fun _ => rfl)
                            (fun hp => vx_runSW (As := [.ref x, .int (nI d8), .int (bI true)]) (rest := []) F.1 (kL_store_k l g x nw sn tk hs tx tr na nb σ hq kn ρ α β γ d8 true H.size hdj h_344 hkn) (vx_cwSW 3 hts gL_acts_L_store rfl rfl rfl hd_L_store ⟨Nat.le_of_ble_eq_true rfl, Nat.le_of_ble_eq_true rfl⟩) hp rfl rfl hl.1 rfl (lv_room (Nat.le_of_ble_eq_true rfl)) dL_acts_900 ⟨Nat.le_of_ble_eq_true rfl, Nat.le_of_ble_eq_true rfl⟩)
                            (fun r_345 u H locs h_346 w => ?_)
                          try dsimp only at h_346
                          obtain ⟨u_347, hu9⟩ : ∃ z, z = u := ⟨_, rfl⟩
                          subst hu9
                          have w : kW g A s [cX x nw sn tk hs tx tr, cR nw na nb (putS d8 true σ), xI g na 49 (zT (putS d8 true σ)), xI g nb 49 (zI (putS d8 true σ)), cH hs hq (pushN kn), xQ g hq 4 (rq u_347.1), cR (u_347.1 0) (u_347.2.1 0) (u_347.2.2 0) ((pushG γ kn σ) 0), xI g (u_347.2.1 0) 49 (zT ((pushG γ kn σ) 0)), xI g (u_347.2.2 0) 49 (zI ((pushG γ kn σ) 0)), cR (u_347.1 1) (u_347.2.1 1) (u_347.2.2 1) ((pushG γ kn σ) 1), xI g (u_347.2.1 1) 49 (zT ((pushG γ kn σ) 1)), xI g (u_347.2.2 1) 49 (zI ((pushG γ kn σ) 1)), cR (u_347.1 2) (u_347.2.1 2) (u_347.2.2 2) ((pushG γ kn σ) 2), xI g (u_347.2.1 2) 49 (zT ((pushG γ kn σ) 2)), xI g (u_347.2.2 2) 49 (zI ((pushG γ kn σ) 2)), cR (u_347.1 3) (u_347.2.1 3) (u_347.2.2 3) ((pushG γ kn σ) 3), xI g (u_347.2.1 3) 49 (zT ((pushG γ kn σ) 3)), xI g (u_347.2.2 3) 49 (zI ((pushG γ kn σ) 3)), cT tx ch L, xC g ch 60 T, cTr tr tw od os po re ca, cR tw ta tb τ, xI g ta 49 (zT τ), xI g tb 49 (zI τ), cO od vb n1 n2 nm en] H locs := w
                          subst h_346
                          refine ktopi (y := nI (zcnt (kindP σ true) 48 + 1)) (congrArg nI (kind_put hdj.1 hdj.2 hfr)) ?_
                          refine lv_istore (lv' := [(16, .int (nI (zcnt (kindP σ true) 48 + 1))), (15, .int (nI (reasZ σ d8 true))), (14, .int (bI false)), (13, .int (nI 1)), (4, .int (nI d8)), (12, .int (nI (zcnt (kindP σ true) 48))), (11, .int (nI (zcnt (kindP σ false) 48))), (10, .int (tA σ)), (8, .long (zB (zL σ))), (6, .long (zB (zO σ))), (5, .int (bI false)), (3, .int (nI hw9)), (0, .ref x), (1, .int v), (2, .int yv)]) hx hb dL_acts_903 hl (by decide) rfl (fun ls hl => ?_)
                          refine lv_iload hx hb dL_acts_905 (lv_at hl 2 rfl) ?_
                          refine lv_if_ne (tgt := 919) hx hb dL_acts_907 (by decide) (fun h_348 => ?_) (fun h_348 => ?_)
                          · exact absurd rfl h_348
                          refine lv_iload hx hb dL_acts_910 (lv_at hl 1 rfl) ?_
                          refine lv_if_ne (tgt := 919) hx hb dL_acts_912 (by decide) (fun h_349 => ?_) (fun h_349 => ?_)
                          · exact absurd (congrArg nI h_344) h_349
                          refine lv_iconst (v := nI 1) hx hb dL_acts_915 (by decide) ?_
                          refine lv_goto (tgt := 920) hx hb dL_acts_916 (by decide) ?_
                          refine lv_istore (lv' := [(17, .int (nI 1)), (16, .int (nI (zcnt (kindP σ true) 48 + 1))), (15, .int (nI (reasZ σ d8 true))), (14, .int (bI false)), (13, .int (nI 1)), (4, .int (nI d8)), (12, .int (nI (zcnt (kindP σ true) 48))), (11, .int (nI (zcnt (kindP σ false) 48))), (10, .int (tA σ)), (8, .long (zB (zL σ))), (6, .long (zB (zO σ))), (5, .int (bI false)), (3, .int (nI hw9)), (0, .ref x), (1, .int v), (2, .int yv)]) hx hb dL_acts_920 hl (by decide) rfl (fun ls hl => ?_)
                          refine lv_iload hx hb dL_acts_922 (lv_at hl 1 rfl) ?_
                          refine lv_iload hx hb dL_acts_924 (lv_at hl 3 rfl) ?_
                          refine lv_if_eq (tgt := 934) hx hb dL_acts_926 (by decide) (fun h_350 => ?_) (fun h_350 => ?_)
                          rotate_left 1
                          · exact absurd rfl h_350
                          refine lv_iload hx hb dL_acts_934 (lv_at hl 0 rfl) ?_
                          refine lv_if_ne (tgt := 944) hx hb dL_acts_936 (by decide) (fun h_351 => ?_) (fun h_351 => ?_)
                          rotate_left 1
                          · exact absurd h_351 (by decide)
                          refine lv_iload hx hb dL_acts_944 (lv_at hl 4 rfl) ?_
                          refine lv_if_ne (tgt := 956) hx hb dL_acts_946 (by decide) (fun h_352 => ?_) (fun h_352 => ?_)
                          rotate_left 1
                          · exact absurd h_352 (by decide)
                          refine lv_iload hx hb dL_acts_956 (lv_at hl 6 rfl) ?_
                          refine lv_iconst (v := nI 1) hx hb dL_acts_958 (by decide) ?_
                          refine lv_iadd hx hb dL_acts_959 ?_
                          refine ktopi (y := nI (zcnt (kindP σ true) 48 + 1)) (nI_add (zcnt (kindP σ true) 48) 1) ?_
                          refine lv_icmp_ne (tgt := 1046) hx hb dL_acts_960 (by decide) (fun h_353 => ?_) (fun h_353 => ?_)
                          · exact absurd rfl h_353
                          refine lv_aload_n hx hb dL_acts_963 rfl (lv_at hl 13 rfl) ?_
                          refine lv_iconst (v := nI 0) hx hb dL_acts_964 (by decide) ?_
                          refine ktopi (y := bI false) (by decide) ?_
                          refine kcalli (wc := [cX x nw sn tk hs tx tr, cR nw na nb (putS d8 true σ), xI g na 49 (zT (putS d8 true σ)), xI g nb 49 (zI (putS d8 true σ))]) (wr := [cH hs hq (pushN kn), xQ g hq 4 (rq u_347.1), cR (u_347.1 0) (u_347.2.1 0) (u_347.2.2 0) ((pushG γ kn σ) 0), xI g (u_347.2.1 0) 49 (zT ((pushG γ kn σ) 0)), xI g (u_347.2.2 0) 49 (zI ((pushG γ kn σ) 0)), cR (u_347.1 1) (u_347.2.1 1) (u_347.2.2 1) ((pushG γ kn σ) 1), xI g (u_347.2.1 1) 49 (zT ((pushG γ kn σ) 1)), xI g (u_347.2.2 1) 49 (zI ((pushG γ kn σ) 1)), cR (u_347.1 2) (u_347.2.1 2) (u_347.2.2 2) ((pushG γ kn σ) 2), xI g (u_347.2.1 2) 49 (zT ((pushG γ kn σ) 2)), xI g (u_347.2.2 2) 49 (zI ((pushG γ kn σ) 2)), cR (u_347.1 3) (u_347.2.1 3) (u_347.2.2 3) ((pushG γ kn σ) 3), xI g (u_347.2.1 3) 49 (zT ((pushG γ kn σ) 3)), xI g (u_347.2.2 3) 49 (zI ((pushG γ kn σ) 3)), cT tx ch L, xC g ch 60 T, cTr tr tw od os po re ca, cR tw ta tb τ, xI g ta 49 (zT τ), xI g tb 49 (zI τ), cO od vb n1 n2 nm en]) (wn := fun (u : Unit) => [cX x nw sn tk hs tx tr, cR nw na nb (putS d8 true σ), xI g na 49 (zT (putS d8 true σ)), xI g nb 49 (zI (putS d8 true σ)), cH hs hq (pushN kn), xQ g hq 4 (rq u_347.1), cR (u_347.1 0) (u_347.2.1 0) (u_347.2.2 0) ((pushG γ kn σ) 0), xI g (u_347.2.1 0) 49 (zT ((pushG γ kn σ) 0)), xI g (u_347.2.2 0) 49 (zI ((pushG γ kn σ) 0)), cR (u_347.1 1) (u_347.2.1 1) (u_347.2.2 1) ((pushG γ kn σ) 1), xI g (u_347.2.1 1) 49 (zT ((pushG γ kn σ) 1)), xI g (u_347.2.2 1) 49 (zI ((pushG γ kn σ) 1)), cR (u_347.1 2) (u_347.2.1 2) (u_347.2.2 2) ((pushG γ kn σ) 2), xI g (u_347.2.1 2) 49 (zT ((pushG γ kn σ) 2)), xI g (u_347.2.2 2) 49 (zI ((pushG γ kn σ) 2)), cR (u_347.1 3) (u_347.2.1 3) (u_347.2.2 3) ((pushG γ kn σ) 3), xI g (u_347.2.1 3) 49 (zT ((pushG γ kn σ) 3)), xI g (u_347.2.2 3) 49 (zI ((pushG γ kn σ) 3)), cT tx ch L, xC g ch 60 T, cTr tr tw od os po re ca, cR tw ta tb τ, xI g ta 49 (zT τ), xI g tb 49 (zI τ), cO od vb n1 n2 nm en]) F w [0, 1, 2, 3] [4, 5, 6, 7, 8, 9, 10, 11, 12, 13, 14, 15, 16, 17, 18, 19, 20, 21, 22, 23, 24] [21, 22, 23, 24, 0, 1, 2, 3, 4, 5, 6, 7, 8, 9, 10, 11, 12, 13, 14, 15, 16, 17, 18, 19, 20] rfl rfl rfl (fun _ => rfl)
                            (fun hp => va_runV (As := [.int (bI false)]) (rest := []) F.1 (kX5_thingsOf_k l g x nw sn tk hs tx tr na nb (putS d8 true σ) false H.size ) (cwV 1 hts gL_acts_X5_thingsOf rfl rfl rfl ⟨rfl, hd_X5_thingsOf⟩ ⟨Nat.le_of_ble_eq_true rfl, Nat.le_of_ble_eq_true rfl⟩) ⟨hp.1, va_recv F.2.2.2.1.1 w.1 (q0 := 0) (ci := 5) rfl rfl, hp.2⟩ rfl rfl hl.1 rfl (lv_room (Nat.le_of_ble_eq_true rfl)) dL_acts_965 ⟨Nat.le_of_ble_eq_true rfl, Nat.le_of_ble_eq_true rfl⟩)
                            (fun r_354 _ H locs h_355 w => ?_)
                          subst h_355
                          refine ktopi (y := nI (zcnt (kindP σ false) 48 + 0)) (congrArg nI (kind_put2 (by decide) hfr)) ?_
                          refine lv_iload hx hb dL_acts_968 (lv_at hl 7 rfl) ?_
                          refine lv_iload hx hb dL_acts_970 (lv_at hl 0 rfl) ?_
                          refine lv_if_eq (tgt := 984) hx hb dL_acts_972 (by decide) (fun h_356 => ?_) (fun h_356 => ?_)
                          · exact absurd h_356 (by decide)
                          refine lv_iload hx hb dL_acts_975 (lv_at hl 4 rfl) ?_
                          refine lv_if_ne (tgt := 984) hx hb dL_acts_977 (by decide) (fun h_357 => ?_) (fun h_357 => ?_)
                          rotate_left 1
                          · exact absurd h_357 (by decide)
                          refine lv_iconst (v := nI 0) hx hb dL_acts_984 (by decide) ?_
                          refine lv_iadd hx hb dL_acts_985 ?_
                          refine ktopi (y := nI (zcnt (kindP σ false) 48 + 0)) (nI_add (zcnt (kindP σ false) 48) 0) ?_
                          refine lv_icmp_ne (tgt := 1046) hx hb dL_acts_986 (by decide) (fun h_358 => ?_) (fun h_358 => ?_)
                          · exact absurd rfl h_358
                          refine lv_aload_n hx hb dL_acts_989 rfl (lv_at hl 13 rfl) ?_
                          refine lv_iconst (v := nI 1) hx hb dL_acts_990 (by decide) ?_
                          refine ktopi (y := bI true) (by decide) ?_
                          refine kcalli (wc := [cX x nw sn tk hs tx tr, cR nw na nb (putS d8 true σ), xI g na 49 (zT (putS d8 true σ)), xI g nb 49 (zI (putS d8 true σ))]) (wr := [cH hs hq (pushN kn), xQ g hq 4 (rq u_347.1), cR (u_347.1 0) (u_347.2.1 0) (u_347.2.2 0) ((pushG γ kn σ) 0), xI g (u_347.2.1 0) 49 (zT ((pushG γ kn σ) 0)), xI g (u_347.2.2 0) 49 (zI ((pushG γ kn σ) 0)), cR (u_347.1 1) (u_347.2.1 1) (u_347.2.2 1) ((pushG γ kn σ) 1), xI g (u_347.2.1 1) 49 (zT ((pushG γ kn σ) 1)), xI g (u_347.2.2 1) 49 (zI ((pushG γ kn σ) 1)), cR (u_347.1 2) (u_347.2.1 2) (u_347.2.2 2) ((pushG γ kn σ) 2), xI g (u_347.2.1 2) 49 (zT ((pushG γ kn σ) 2)), xI g (u_347.2.2 2) 49 (zI ((pushG γ kn σ) 2)), cR (u_347.1 3) (u_347.2.1 3) (u_347.2.2 3) ((pushG γ kn σ) 3), xI g (u_347.2.1 3) 49 (zT ((pushG γ kn σ) 3)), xI g (u_347.2.2 3) 49 (zI ((pushG γ kn σ) 3)), cT tx ch L, xC g ch 60 T, cTr tr tw od os po re ca, cR tw ta tb τ, xI g ta 49 (zT τ), xI g tb 49 (zI τ), cO od vb n1 n2 nm en]) (wn := fun (u : Unit) => [cX x nw sn tk hs tx tr, cR nw na nb (putS d8 true σ), xI g na 49 (zT (putS d8 true σ)), xI g nb 49 (zI (putS d8 true σ)), cH hs hq (pushN kn), xQ g hq 4 (rq u_347.1), cR (u_347.1 0) (u_347.2.1 0) (u_347.2.2 0) ((pushG γ kn σ) 0), xI g (u_347.2.1 0) 49 (zT ((pushG γ kn σ) 0)), xI g (u_347.2.2 0) 49 (zI ((pushG γ kn σ) 0)), cR (u_347.1 1) (u_347.2.1 1) (u_347.2.2 1) ((pushG γ kn σ) 1), xI g (u_347.2.1 1) 49 (zT ((pushG γ kn σ) 1)), xI g (u_347.2.2 1) 49 (zI ((pushG γ kn σ) 1)), cR (u_347.1 2) (u_347.2.1 2) (u_347.2.2 2) ((pushG γ kn σ) 2), xI g (u_347.2.1 2) 49 (zT ((pushG γ kn σ) 2)), xI g (u_347.2.2 2) 49 (zI ((pushG γ kn σ) 2)), cR (u_347.1 3) (u_347.2.1 3) (u_347.2.2 3) ((pushG γ kn σ) 3), xI g (u_347.2.1 3) 49 (zT ((pushG γ kn σ) 3)), xI g (u_347.2.2 3) 49 (zI ((pushG γ kn σ) 3)), cT tx ch L, xC g ch 60 T, cTr tr tw od os po re ca, cR tw ta tb τ, xI g ta 49 (zT τ), xI g tb 49 (zI τ), cO od vb n1 n2 nm en]) F w [0, 1, 2, 3] [4, 5, 6, 7, 8, 9, 10, 11, 12, 13, 14, 15, 16, 17, 18, 19, 20, 21, 22, 23, 24] [21, 22, 23, 24, 0, 1, 2, 3, 4, 5, 6, 7, 8, 9, 10, 11, 12, 13, 14, 15, 16, 17, 18, 19, 20] rfl rfl rfl (fun _ => rfl)
                            (fun hp => va_runV (As := [.int (bI true)]) (rest := []) F.1 (kX5_thingsOf_k l g x nw sn tk hs tx tr na nb (putS d8 true σ) true H.size ) (cwV 1 hts gL_acts_X5_thingsOf rfl rfl rfl ⟨rfl, hd_X5_thingsOf⟩ ⟨Nat.le_of_ble_eq_true rfl, Nat.le_of_ble_eq_true rfl⟩) ⟨hp.1, va_recv F.2.2.2.1.1 w.1 (q0 := 0) (ci := 5) rfl rfl, hp.2⟩ rfl rfl hl.1 rfl (lv_room (Nat.le_of_ble_eq_true rfl)) dL_acts_991 ⟨Nat.le_of_ble_eq_true rfl, Nat.le_of_ble_eq_true rfl⟩)
                            (fun r_359 _ H locs h_360 w => ?_)
                          subst h_360
                          refine ktopi (y := nI (zcnt (kindP σ true) 48 + 1)) (congrArg nI (kind_put hdj.1 hdj.2 hfr)) ?_
                          refine lv_iload hx hb dL_acts_994 (lv_at hl 6 rfl) ?_
                          refine lv_iload hx hb dL_acts_996 (lv_at hl 0 rfl) ?_
                          refine lv_if_eq (tgt := 1011) hx hb dL_acts_998 (by decide) (fun h_361 => ?_) (fun h_361 => ?_)
                          · exact absurd h_361 (by decide)
                          refine lv_iload hx hb dL_acts_1001 (lv_at hl 4 rfl) ?_
                          refine lv_iconst (v := nI 1) hx hb dL_acts_1003 (by decide) ?_
                          refine lv_icmp_ne (tgt := 1011) hx hb dL_acts_1004 (by decide) (fun h_362 => ?_) (fun h_362 => ?_)
                          · exact absurd rfl h_362
                          refine lv_iconst (v := nI 1) hx hb dL_acts_1007 (by decide) ?_
                          refine lv_goto (tgt := 1012) hx hb dL_acts_1008 (by decide) ?_
                          refine lv_iadd hx hb dL_acts_1012 ?_
                          refine ktopi (y := nI (zcnt (kindP σ true) 48 + 1)) (nI_add (zcnt (kindP σ true) 48) 1) ?_
                          refine lv_icmp_ne (tgt := 1046) hx hb dL_acts_1013 (by decide) (fun h_363 => ?_) (fun h_363 => ?_)
                          · exact absurd rfl h_363
                          refine lv_iload hx hb dL_acts_1016 (lv_at hl 0 rfl) ?_
                          refine lv_if_eq (tgt := 1032) hx hb dL_acts_1018 (by decide) (fun h_364 => ?_) (fun h_364 => ?_)
                          · exact absurd h_364 (by decide)
                          refine lv_aload_n hx hb dL_acts_1021 rfl (lv_at hl 13 rfl) ?_
                          refine lv_iload hx hb dL_acts_1022 (lv_at hl 5 rfl) ?_
                          refine kcalli (wc := [cX x nw sn tk hs tx tr, cR nw na nb (putS d8 true σ), xI g na 49 (zT (putS d8 true σ)), xI g nb 49 (zI (putS d8 true σ))]) (wr := [cH hs hq (pushN kn), xQ g hq 4 (rq u_347.1), cR (u_347.1 0) (u_347.2.1 0) (u_347.2.2 0) ((pushG γ kn σ) 0), xI g (u_347.2.1 0) 49 (zT ((pushG γ kn σ) 0)), xI g (u_347.2.2 0) 49 (zI ((pushG γ kn σ) 0)), cR (u_347.1 1) (u_347.2.1 1) (u_347.2.2 1) ((pushG γ kn σ) 1), xI g (u_347.2.1 1) 49 (zT ((pushG γ kn σ) 1)), xI g (u_347.2.2 1) 49 (zI ((pushG γ kn σ) 1)), cR (u_347.1 2) (u_347.2.1 2) (u_347.2.2 2) ((pushG γ kn σ) 2), xI g (u_347.2.1 2) 49 (zT ((pushG γ kn σ) 2)), xI g (u_347.2.2 2) 49 (zI ((pushG γ kn σ) 2)), cR (u_347.1 3) (u_347.2.1 3) (u_347.2.2 3) ((pushG γ kn σ) 3), xI g (u_347.2.1 3) 49 (zT ((pushG γ kn σ) 3)), xI g (u_347.2.2 3) 49 (zI ((pushG γ kn σ) 3)), cT tx ch L, xC g ch 60 T, cTr tr tw od os po re ca, cR tw ta tb τ, xI g ta 49 (zT τ), xI g tb 49 (zI τ), cO od vb n1 n2 nm en]) (wn := fun (u : Unit) => [cX x nw sn tk hs tx tr, cR nw na nb (putS d8 true σ), xI g na 49 (zT (putS d8 true σ)), xI g nb 49 (zI (putS d8 true σ)), cH hs hq (pushN kn), xQ g hq 4 (rq u_347.1), cR (u_347.1 0) (u_347.2.1 0) (u_347.2.2 0) ((pushG γ kn σ) 0), xI g (u_347.2.1 0) 49 (zT ((pushG γ kn σ) 0)), xI g (u_347.2.2 0) 49 (zI ((pushG γ kn σ) 0)), cR (u_347.1 1) (u_347.2.1 1) (u_347.2.2 1) ((pushG γ kn σ) 1), xI g (u_347.2.1 1) 49 (zT ((pushG γ kn σ) 1)), xI g (u_347.2.2 1) 49 (zI ((pushG γ kn σ) 1)), cR (u_347.1 2) (u_347.2.1 2) (u_347.2.2 2) ((pushG γ kn σ) 2), xI g (u_347.2.1 2) 49 (zT ((pushG γ kn σ) 2)), xI g (u_347.2.2 2) 49 (zI ((pushG γ kn σ) 2)), cR (u_347.1 3) (u_347.2.1 3) (u_347.2.2 3) ((pushG γ kn σ) 3), xI g (u_347.2.1 3) 49 (zT ((pushG γ kn σ) 3)), xI g (u_347.2.2 3) 49 (zI ((pushG γ kn σ) 3)), cT tx ch L, xC g ch 60 T, cTr tr tw od os po re ca, cR tw ta tb τ, xI g ta 49 (zT τ), xI g tb 49 (zI τ), cO od vb n1 n2 nm en]) F w [0, 1, 2, 3] [4, 5, 6, 7, 8, 9, 10, 11, 12, 13, 14, 15, 16, 17, 18, 19, 20, 21, 22, 23, 24] [21, 22, 23, 24, 0, 1, 2, 3, 4, 5, 6, 7, 8, 9, 10, 11, 12, 13, 14, 15, 16, 17, 18, 19, 20] rfl rfl rfl (fun _ => rfl)
                            (fun hp => va_runV (As := [.int (nI d8)]) (rest := []) F.1 (kX5_thingAt_k l g x nw sn tk hs tx tr na nb (putS d8 true σ) d8 H.size hdj bup_s) (cwV 1 hts gL_acts_X5_thingAt rfl rfl rfl ⟨rfl, hd_X5_thingAt⟩ ⟨Nat.le_of_ble_eq_true rfl, Nat.le_of_ble_eq_true rfl⟩) ⟨hp.1, va_recv F.2.2.2.1.1 w.1 (q0 := 0) (ci := 5) rfl rfl, hp.2⟩ rfl rfl hl.1 rfl (lv_room (Nat.le_of_ble_eq_true rfl)) dL_acts_1024 ⟨Nat.le_of_ble_eq_true rfl, Nat.le_of_ble_eq_true rfl⟩)
                            (fun r_365 _ H locs h_366 w => ?_)
                          subst h_366
                          refine ktopi (y := nI 1) ((congrArg bI bup_s).trans (by decide)) ?_
                          refine lv_iload hx hb dL_acts_1027 (lv_at hl 4 rfl) ?_
                          refine lv_icmp_ne (tgt := 1046) hx hb dL_acts_1029 (by decide) (fun h_367 => ?_) (fun h_367 => ?_)
                          · exact absurd rfl h_367
                          refine lv_aload_n hx hb dL_acts_1032 rfl (lv_at hl 13 rfl) ?_
                          refine kcalll (wc := [cX x nw sn tk hs tx tr, cR nw na nb (putS d8 true σ), xI g na 49 (zT (putS d8 true σ)), xI g nb 49 (zI (putS d8 true σ))]) (wr := [cH hs hq (pushN kn), xQ g hq 4 (rq u_347.1), cR (u_347.1 0) (u_347.2.1 0) (u_347.2.2 0) ((pushG γ kn σ) 0), xI g (u_347.2.1 0) 49 (zT ((pushG γ kn σ) 0)), xI g (u_347.2.2 0) 49 (zI ((pushG γ kn σ) 0)), cR (u_347.1 1) (u_347.2.1 1) (u_347.2.2 1) ((pushG γ kn σ) 1), xI g (u_347.2.1 1) 49 (zT ((pushG γ kn σ) 1)), xI g (u_347.2.2 1) 49 (zI ((pushG γ kn σ) 1)), cR (u_347.1 2) (u_347.2.1 2) (u_347.2.2 2) ((pushG γ kn σ) 2), xI g (u_347.2.1 2) 49 (zT ((pushG γ kn σ) 2)), xI g (u_347.2.2 2) 49 (zI ((pushG γ kn σ) 2)), cR (u_347.1 3) (u_347.2.1 3) (u_347.2.2 3) ((pushG γ kn σ) 3), xI g (u_347.2.1 3) 49 (zT ((pushG γ kn σ) 3)), xI g (u_347.2.2 3) 49 (zI ((pushG γ kn σ) 3)), cT tx ch L, xC g ch 60 T, cTr tr tw od os po re ca, cR tw ta tb τ, xI g ta 49 (zT τ), xI g tb 49 (zI τ), cO od vb n1 n2 nm en]) (wn := fun (u : Unit) => [cX x nw sn tk hs tx tr, cR nw na nb (putS d8 true σ), xI g na 49 (zT (putS d8 true σ)), xI g nb 49 (zI (putS d8 true σ)), cH hs hq (pushN kn), xQ g hq 4 (rq u_347.1), cR (u_347.1 0) (u_347.2.1 0) (u_347.2.2 0) ((pushG γ kn σ) 0), xI g (u_347.2.1 0) 49 (zT ((pushG γ kn σ) 0)), xI g (u_347.2.2 0) 49 (zI ((pushG γ kn σ) 0)), cR (u_347.1 1) (u_347.2.1 1) (u_347.2.2 1) ((pushG γ kn σ) 1), xI g (u_347.2.1 1) 49 (zT ((pushG γ kn σ) 1)), xI g (u_347.2.2 1) 49 (zI ((pushG γ kn σ) 1)), cR (u_347.1 2) (u_347.2.1 2) (u_347.2.2 2) ((pushG γ kn σ) 2), xI g (u_347.2.1 2) 49 (zT ((pushG γ kn σ) 2)), xI g (u_347.2.2 2) 49 (zI ((pushG γ kn σ) 2)), cR (u_347.1 3) (u_347.2.1 3) (u_347.2.2 3) ((pushG γ kn σ) 3), xI g (u_347.2.1 3) 49 (zT ((pushG γ kn σ) 3)), xI g (u_347.2.2 3) 49 (zI ((pushG γ kn σ) 3)), cT tx ch L, xC g ch 60 T, cTr tr tw od os po re ca, cR tw ta tb τ, xI g ta 49 (zT τ), xI g tb 49 (zI τ), cO od vb n1 n2 nm en]) F w [0, 1, 2, 3] [4, 5, 6, 7, 8, 9, 10, 11, 12, 13, 14, 15, 16, 17, 18, 19, 20, 21, 22, 23, 24] [21, 22, 23, 24, 0, 1, 2, 3, 4, 5, 6, 7, 8, 9, 10, 11, 12, 13, 14, 15, 16, 17, 18, 19, 20] rfl rfl rfl (fun _ => rfl)
                            (fun hp => va_runV (As := []) (rest := []) F.1 (kX5_openSet l g x nw sn tk hs tx tr na nb (putS d8 true σ) H.size ) (cwV 0 hts gL_acts_X5_openSet rfl rfl rfl ⟨rfl, hd_X5_openSet⟩ ⟨Nat.le_of_ble_eq_true rfl, Nat.le_of_ble_eq_true rfl⟩) ⟨hp.1, va_recv F.2.2.2.1.1 w.1 (q0 := 0) (ci := 5) rfl rfl, hp.2⟩ rfl rfl hl.1 rfl (lv_room (Nat.le_of_ble_eq_true rfl)) dL_acts_1033 ⟨Nat.le_of_ble_eq_true rfl, Nat.le_of_ble_eq_true rfl⟩)
                            (fun r_368 _ H locs h_369 w => ?_)
                          subst h_369
                          refine lv_lload hx hb dL_acts_1036 (lv_at hl 10 rfl) ?_
                          refine W.lcmp hx hb dL_acts_1038 ?_
                          refine lv_if_ne (tgt := 1046) hx hb dL_acts_1039 (by decide) (fun h_370 => ?_) (fun h_370 => ?_)
                          · exact absurd (lgc_eq.mpr rfl) h_370
                          refine lv_iconst (v := nI 1) hx hb dL_acts_1042 (by decide) ?_
                          refine lv_goto (tgt := 1047) hx hb dL_acts_1043 (by decide) ?_
                          refine ktopi (y := bI true) (by decide) ?_
                          refine W.widen (k := 60) (n := 360) (by omega) (by omega) ?_
                          subst hA
                          subst hQ
                          exact kretz F w (putS d8 true σ, pushN kn, u_347.1, u_347.2.1, u_347.2.2, pushG γ kn σ, L, T, os, po, re, ca, τ, vb, n1, n2, nm, en) [0, 1, 2, 3, 4, 5, 6, 7, 8, 9, 10, 11, 12, 13, 14, 15, 16, 17, 18, 19, 20, 21, 22, 23, 24] rfl rfl (⟨rfl, actP_1 hL (fun B hB => hB.mono (Nat.le_add_right _ _))⟩) (kz_n _) (Nat.le_of_ble_eq_true rfl) (Nat.le_of_ble_eq_true rfl) dL_acts_1047
                        · skip
                          refine lv_aload_n hx hb dL_acts_895 rfl (lv_at hl 11 rfl) ?_
                          refine lv_iload hx hb dL_acts_896 (lv_at hl 3 rfl) ?_
                          refine lv_iload hx hb dL_acts_898 (lv_at hl 2 rfl) ?_
                          refine ktopi (y := bI true) (by decide) ?_
                          refine kcalli (wc := [cX x nw sn tk hs tx tr, cR nw na nb σ, xI g na 49 (zT σ), xI g nb 49 (zI σ)]) (wr := [cH hs hq kn, xQ g hq 4 (rq ρ), cR (ρ 0) (α 0) (β 0) (γ 0), xI g (α 0) 49 (zT (γ 0)), xI g (β 0) 49 (zI (γ 0)), cR (ρ 1) (α 1) (β 1) (γ 1), xI g (α 1) 49 (zT (γ 1)), xI g (β 1) 49 (zI (γ 1)), cR (ρ 2) (α 2) (β 2) (γ 2), xI g (α 2) 49 (zT (γ 2)), xI g (β 2) 49 (zI (γ 2)), cR (ρ 3) (α 3) (β 3) (γ 3), xI g (α 3) 49 (zT (γ 3)), xI g (β 3) 49 (zI (γ 3)), cT tx ch L, xC g ch 60 T, cTr tr tw od os po re ca, cR tw ta tb τ, xI g ta 49 (zT τ), xI g tb 49 (zI τ), cO od vb n1 n2 nm en]) (wn := fun (u : Unit) => [cX x nw sn tk hs tx tr, cR nw na nb σ, xI g na 49 (zT σ), xI g nb 49 (zI σ), cH hs hq kn, xQ g hq 4 (rq ρ), cR (ρ 0) (α 0) (β 0) (γ 0), xI g (α 0) 49 (zT (γ 0)), xI g (β 0) 49 (zI (γ 0)), cR (ρ 1) (α 1) (β 1) (γ 1), xI g (α 1) 49 (zT (γ 1)), xI g (β 1) 49 (zI (γ 1)), cR (ρ 2) (α 2) (β 2) (γ 2), xI g (α 2) 49 (zT (γ 2)), xI g (β 2) 49 (zI (γ 2)), cR (ρ 3) (α 3) (β 3) (γ 3), xI g (α 3) 49 (zT (γ 3)), xI g (β 3) 49 (zI (γ 3)), cT tx ch L, xC g ch 60 T, cTr tr tw od os po re ca, cR tw ta tb τ, xI g ta 49 (zT τ), xI g tb 49 (zI τ), cO od vb n1 n2 nm en]) F w [0, 1, 2, 3] [4, 5, 6, 7, 8, 9, 10, 11, 12, 13, 14, 15, 16, 17, 18, 19, 20, 21, 22, 23, 24] [21, 22, 23, 24, 0, 1, 2, 3, 4, 5, 6, 7, 8, 9, 10, 11, 12, 13, 14, 15, 16, 17, 18, 19, 20] rfl rfl rfl (fun _ => rfl)
                            (fun hp => vx_runSW (As := [.ref x, .int (nI d8), .int (bI true)]) (rest := []) F.1 (kL_store_S l hnl g x nw sn tk hs tx tr na nb σ d8 true H.size hdj h_344) (vx_cwSW 3 hts gL_acts_L_store rfl rfl rfl hd_L_store ⟨Nat.le_of_ble_eq_true rfl, Nat.le_of_ble_eq_true rfl⟩) hp rfl rfl hl.1 rfl (lv_room (Nat.le_of_ble_eq_true rfl)) dL_acts_900 ⟨Nat.le_of_ble_eq_true rfl, Nat.le_of_ble_eq_true rfl⟩)
                            (fun r_371 _ H locs h_372 w => ?_)
                          subst h_372
                          refine lv_istore (lv' := [(16, .int (-103)), (15, .int (nI (reasZ σ d8 true))), (14, .int (bI false)), (13, .int (nI 1)), (4, .int (nI d8)), (12, .int (nI (zcnt (kindP σ true) 48))), (11, .int (nI (zcnt (kindP σ false) 48))), (10, .int (tA σ)), (8, .long (zB (zL σ))), (6, .long (zB (zO σ))), (5, .int (bI false)), (3, .int (nI hw9)), (0, .ref x), (1, .int v), (2, .int yv)]) hx hb dL_acts_903 hl (by decide) rfl (fun ls hl => ?_)
                          refine lv_iload hx hb dL_acts_905 (lv_at hl 2 rfl) ?_
                          refine lv_if_ne (tgt := 919) hx hb dL_acts_907 (by decide) (fun h_373 => ?_) (fun h_373 => ?_)
                          · exact absurd rfl h_373
                          refine lv_iload hx hb dL_acts_910 (lv_at hl 1 rfl) ?_
                          refine lv_if_ne (tgt := 919) hx hb dL_acts_912 (by decide) (fun h_374 => ?_) (fun h_374 => ?_)
                          rotate_left 1
                          · exact absurd ((kc0_eq_t (by omega)).mp h_374) h_344
                          refine lv_iconst (v := nI 0) hx hb dL_acts_919 (by decide) ?_
                          refine lv_istore (lv' := [(17, .int (nI 0)), (16, .int (-103)), (15, .int (nI (reasZ σ d8 true))), (14, .int (bI false)), (13, .int (nI 1)), (4, .int (nI d8)), (12, .int (nI (zcnt (kindP σ true) 48))), (11, .int (nI (zcnt (kindP σ false) 48))), (10, .int (tA σ)), (8, .long (zB (zL σ))), (6, .long (zB (zO σ))), (5, .int (bI false)), (3, .int (nI hw9)), (0, .ref x), (1, .int v), (2, .int yv)]) hx hb dL_acts_920 hl (by decide) rfl (fun ls hl => ?_)
                          refine lv_iload hx hb dL_acts_922 (lv_at hl 1 rfl) ?_
                          refine lv_iload hx hb dL_acts_924 (lv_at hl 3 rfl) ?_
                          refine lv_if_eq (tgt := 934) hx hb dL_acts_926 (by decide) (fun h_375 => ?_) (fun h_375 => ?_)
                          rotate_left 1
                          · exact absurd rfl h_375
                          refine lv_iload hx hb dL_acts_934 (lv_at hl 0 rfl) ?_
                          refine lv_if_ne (tgt := 944) hx hb dL_acts_936 (by decide) (fun h_376 => ?_) (fun h_376 => ?_)
                          · exact absurd rfl h_376
                          refine lv_bipush (v := (-103)) hx hb dL_acts_939 (by decide) ?_
                          refine lv_goto (tgt := 960) hx hb dL_acts_941 (by decide) ?_
                          refine lv_icmp_ne (tgt := 1046) hx hb dL_acts_960 (by decide) (fun h_377 => ?_) (fun h_377 => ?_)
                          · exact absurd rfl h_377
                          refine lv_aload_n hx hb dL_acts_963 rfl (lv_at hl 13 rfl) ?_
                          refine lv_iconst (v := nI 0) hx hb dL_acts_964 (by decide) ?_
                          refine ktopi (y := bI false) (by decide) ?_
                          refine kcalli (wc := [cX x nw sn tk hs tx tr, cR nw na nb σ, xI g na 49 (zT σ), xI g nb 49 (zI σ)]) (wr := [cH hs hq kn, xQ g hq 4 (rq ρ), cR (ρ 0) (α 0) (β 0) (γ 0), xI g (α 0) 49 (zT (γ 0)), xI g (β 0) 49 (zI (γ 0)), cR (ρ 1) (α 1) (β 1) (γ 1), xI g (α 1) 49 (zT (γ 1)), xI g (β 1) 49 (zI (γ 1)), cR (ρ 2) (α 2) (β 2) (γ 2), xI g (α 2) 49 (zT (γ 2)), xI g (β 2) 49 (zI (γ 2)), cR (ρ 3) (α 3) (β 3) (γ 3), xI g (α 3) 49 (zT (γ 3)), xI g (β 3) 49 (zI (γ 3)), cT tx ch L, xC g ch 60 T, cTr tr tw od os po re ca, cR tw ta tb τ, xI g ta 49 (zT τ), xI g tb 49 (zI τ), cO od vb n1 n2 nm en]) (wn := fun (u : Unit) => [cX x nw sn tk hs tx tr, cR nw na nb σ, xI g na 49 (zT σ), xI g nb 49 (zI σ), cH hs hq kn, xQ g hq 4 (rq ρ), cR (ρ 0) (α 0) (β 0) (γ 0), xI g (α 0) 49 (zT (γ 0)), xI g (β 0) 49 (zI (γ 0)), cR (ρ 1) (α 1) (β 1) (γ 1), xI g (α 1) 49 (zT (γ 1)), xI g (β 1) 49 (zI (γ 1)), cR (ρ 2) (α 2) (β 2) (γ 2), xI g (α 2) 49 (zT (γ 2)), xI g (β 2) 49 (zI (γ 2)), cR (ρ 3) (α 3) (β 3) (γ 3), xI g (α 3) 49 (zT (γ 3)), xI g (β 3) 49 (zI (γ 3)), cT tx ch L, xC g ch 60 T, cTr tr tw od os po re ca, cR tw ta tb τ, xI g ta 49 (zT τ), xI g tb 49 (zI τ), cO od vb n1 n2 nm en]) F w [0, 1, 2, 3] [4, 5, 6, 7, 8, 9, 10, 11, 12, 13, 14, 15, 16, 17, 18, 19, 20, 21, 22, 23, 24] [21, 22, 23, 24, 0, 1, 2, 3, 4, 5, 6, 7, 8, 9, 10, 11, 12, 13, 14, 15, 16, 17, 18, 19, 20] rfl rfl rfl (fun _ => rfl)
                            (fun hp => va_runV (As := [.int (bI false)]) (rest := []) F.1 (kX5_thingsOf_k l g x nw sn tk hs tx tr na nb σ false H.size ) (cwV 1 hts gL_acts_X5_thingsOf rfl rfl rfl ⟨rfl, hd_X5_thingsOf⟩ ⟨Nat.le_of_ble_eq_true rfl, Nat.le_of_ble_eq_true rfl⟩) ⟨hp.1, va_recv F.2.2.2.1.1 w.1 (q0 := 0) (ci := 5) rfl rfl, hp.2⟩ rfl rfl hl.1 rfl (lv_room (Nat.le_of_ble_eq_true rfl)) dL_acts_965 ⟨Nat.le_of_ble_eq_true rfl, Nat.le_of_ble_eq_true rfl⟩)
                            (fun r_378 _ H locs h_379 w => ?_)
                          subst h_379
                          refine lv_iload hx hb dL_acts_968 (lv_at hl 7 rfl) ?_
                          refine lv_iload hx hb dL_acts_970 (lv_at hl 0 rfl) ?_
                          refine lv_if_eq (tgt := 984) hx hb dL_acts_972 (by decide) (fun h_380 => ?_) (fun h_380 => ?_)
                          rotate_left 1
                          · exact absurd rfl h_380
                          refine lv_iconst (v := nI 0) hx hb dL_acts_984 (by decide) ?_
                          refine lv_iadd hx hb dL_acts_985 ?_
                          refine ktopi (y := nI (zcnt (kindP σ false) 48 + 0)) (nI_add (zcnt (kindP σ false) 48) 0) ?_
                          refine ktopi (y := nI (zcnt (kindP σ false) 48)) (rfl) ?_
                          refine lv_icmp_ne (tgt := 1046) hx hb dL_acts_986 (by decide) (fun h_381 => ?_) (fun h_381 => ?_)
                          · exact absurd rfl h_381
                          refine lv_aload_n hx hb dL_acts_989 rfl (lv_at hl 13 rfl) ?_
                          refine lv_iconst (v := nI 1) hx hb dL_acts_990 (by decide) ?_
                          refine ktopi (y := bI true) (by decide) ?_
                          refine kcalli (wc := [cX x nw sn tk hs tx tr, cR nw na nb σ, xI g na 49 (zT σ), xI g nb 49 (zI σ)]) (wr := [cH hs hq kn, xQ g hq 4 (rq ρ), cR (ρ 0) (α 0) (β 0) (γ 0), xI g (α 0) 49 (zT (γ 0)), xI g (β 0) 49 (zI (γ 0)), cR (ρ 1) (α 1) (β 1) (γ 1), xI g (α 1) 49 (zT (γ 1)), xI g (β 1) 49 (zI (γ 1)), cR (ρ 2) (α 2) (β 2) (γ 2), xI g (α 2) 49 (zT (γ 2)), xI g (β 2) 49 (zI (γ 2)), cR (ρ 3) (α 3) (β 3) (γ 3), xI g (α 3) 49 (zT (γ 3)), xI g (β 3) 49 (zI (γ 3)), cT tx ch L, xC g ch 60 T, cTr tr tw od os po re ca, cR tw ta tb τ, xI g ta 49 (zT τ), xI g tb 49 (zI τ), cO od vb n1 n2 nm en]) (wn := fun (u : Unit) => [cX x nw sn tk hs tx tr, cR nw na nb σ, xI g na 49 (zT σ), xI g nb 49 (zI σ), cH hs hq kn, xQ g hq 4 (rq ρ), cR (ρ 0) (α 0) (β 0) (γ 0), xI g (α 0) 49 (zT (γ 0)), xI g (β 0) 49 (zI (γ 0)), cR (ρ 1) (α 1) (β 1) (γ 1), xI g (α 1) 49 (zT (γ 1)), xI g (β 1) 49 (zI (γ 1)), cR (ρ 2) (α 2) (β 2) (γ 2), xI g (α 2) 49 (zT (γ 2)), xI g (β 2) 49 (zI (γ 2)), cR (ρ 3) (α 3) (β 3) (γ 3), xI g (α 3) 49 (zT (γ 3)), xI g (β 3) 49 (zI (γ 3)), cT tx ch L, xC g ch 60 T, cTr tr tw od os po re ca, cR tw ta tb τ, xI g ta 49 (zT τ), xI g tb 49 (zI τ), cO od vb n1 n2 nm en]) F w [0, 1, 2, 3] [4, 5, 6, 7, 8, 9, 10, 11, 12, 13, 14, 15, 16, 17, 18, 19, 20, 21, 22, 23, 24] [21, 22, 23, 24, 0, 1, 2, 3, 4, 5, 6, 7, 8, 9, 10, 11, 12, 13, 14, 15, 16, 17, 18, 19, 20] rfl rfl rfl (fun _ => rfl)
                            (fun hp => va_runV (As := [.int (bI true)]) (rest := []) F.1 (kX5_thingsOf_k l g x nw sn tk hs tx tr na nb σ true H.size ) (cwV 1 hts gL_acts_X5_thingsOf rfl rfl rfl ⟨rfl, hd_X5_thingsOf⟩ ⟨Nat.le_of_ble_eq_true rfl, Nat.le_of_ble_eq_true rfl⟩) ⟨hp.1, va_recv F.2.2.2.1.1 w.1 (q0 := 0) (ci := 5) rfl rfl, hp.2⟩ rfl rfl hl.1 rfl (lv_room (Nat.le_of_ble_eq_true rfl)) dL_acts_991 ⟨Nat.le_of_ble_eq_true rfl, Nat.le_of_ble_eq_true rfl⟩)
                            (fun r_382 _ H locs h_383 w => ?_)
                          subst h_383
                          refine lv_iload hx hb dL_acts_994 (lv_at hl 6 rfl) ?_
                          refine lv_iload hx hb dL_acts_996 (lv_at hl 0 rfl) ?_
                          refine lv_if_eq (tgt := 1011) hx hb dL_acts_998 (by decide) (fun h_384 => ?_) (fun h_384 => ?_)
                          rotate_left 1
                          · exact absurd rfl h_384
                          refine lv_iconst (v := nI 0) hx hb dL_acts_1011 (by decide) ?_
                          refine lv_iadd hx hb dL_acts_1012 ?_
                          refine ktopi (y := nI (zcnt (kindP σ true) 48 + 0)) (nI_add (zcnt (kindP σ true) 48) 0) ?_
                          refine ktopi (y := nI (zcnt (kindP σ true) 48)) (rfl) ?_
                          refine lv_icmp_ne (tgt := 1046) hx hb dL_acts_1013 (by decide) (fun h_385 => ?_) (fun h_385 => ?_)
                          · exact absurd rfl h_385
                          refine lv_iload hx hb dL_acts_1016 (lv_at hl 0 rfl) ?_
                          refine lv_if_eq (tgt := 1032) hx hb dL_acts_1018 (by decide) (fun h_386 => ?_) (fun h_386 => ?_)
                          rotate_left 1
                          · exact absurd rfl h_386
                          refine lv_aload_n hx hb dL_acts_1032 rfl (lv_at hl 13 rfl) ?_
                          refine kcalll (wc := [cX x nw sn tk hs tx tr, cR nw na nb σ, xI g na 49 (zT σ), xI g nb 49 (zI σ)]) (wr := [cH hs hq kn, xQ g hq 4 (rq ρ), cR (ρ 0) (α 0) (β 0) (γ 0), xI g (α 0) 49 (zT (γ 0)), xI g (β 0) 49 (zI (γ 0)), cR (ρ 1) (α 1) (β 1) (γ 1), xI g (α 1) 49 (zT (γ 1)), xI g (β 1) 49 (zI (γ 1)), cR (ρ 2) (α 2) (β 2) (γ 2), xI g (α 2) 49 (zT (γ 2)), xI g (β 2) 49 (zI (γ 2)), cR (ρ 3) (α 3) (β 3) (γ 3), xI g (α 3) 49 (zT (γ 3)), xI g (β 3) 49 (zI (γ 3)), cT tx ch L, xC g ch 60 T, cTr tr tw od os po re ca, cR tw ta tb τ, xI g ta 49 (zT τ), xI g tb 49 (zI τ), cO od vb n1 n2 nm en]) (wn := fun (u : Unit) => [cX x nw sn tk hs tx tr, cR nw na nb σ, xI g na 49 (zT σ), xI g nb 49 (zI σ), cH hs hq kn, xQ g hq 4 (rq ρ), cR (ρ 0) (α 0) (β 0) (γ 0), xI g (α 0) 49 (zT (γ 0)), xI g (β 0) 49 (zI (γ 0)), cR (ρ 1) (α 1) (β 1) (γ 1), xI g (α 1) 49 (zT (γ 1)), xI g (β 1) 49 (zI (γ 1)), cR (ρ 2) (α 2) (β 2) (γ 2), xI g (α 2) 49 (zT (γ 2)), xI g (β 2) 49 (zI (γ 2)), cR (ρ 3) (α 3) (β 3) (γ 3), xI g (α 3) 49 (zT (γ 3)), xI g (β 3) 49 (zI (γ 3)), cT tx ch L, xC g ch 60 T, cTr tr tw od os po re ca, cR tw ta tb τ, xI g ta 49 (zT τ), xI g tb 49 (zI τ), cO od vb n1 n2 nm en]) F w [0, 1, 2, 3] [4, 5, 6, 7, 8, 9, 10, 11, 12, 13, 14, 15, 16, 17, 18, 19, 20, 21, 22, 23, 24] [21, 22, 23, 24, 0, 1, 2, 3, 4, 5, 6, 7, 8, 9, 10, 11, 12, 13, 14, 15, 16, 17, 18, 19, 20] rfl rfl rfl (fun _ => rfl)
                            (fun hp => va_runV (As := []) (rest := []) F.1 (kX5_openSet l g x nw sn tk hs tx tr na nb σ H.size ) (cwV 0 hts gL_acts_X5_openSet rfl rfl rfl ⟨rfl, hd_X5_openSet⟩ ⟨Nat.le_of_ble_eq_true rfl, Nat.le_of_ble_eq_true rfl⟩) ⟨hp.1, va_recv F.2.2.2.1.1 w.1 (q0 := 0) (ci := 5) rfl rfl, hp.2⟩ rfl rfl hl.1 rfl (lv_room (Nat.le_of_ble_eq_true rfl)) dL_acts_1033 ⟨Nat.le_of_ble_eq_true rfl, Nat.le_of_ble_eq_true rfl⟩)
                            (fun r_387 _ H locs h_388 w => ?_)
                          subst h_388
                          refine lv_lload hx hb dL_acts_1036 (lv_at hl 10 rfl) ?_
                          refine W.lcmp hx hb dL_acts_1038 ?_
                          refine lv_if_ne (tgt := 1046) hx hb dL_acts_1039 (by decide) (fun h_389 => ?_) (fun h_389 => ?_)
                          · exact absurd (lgc_eq.mpr rfl) h_389
                          refine lv_iconst (v := nI 1) hx hb dL_acts_1042 (by decide) ?_
                          refine lv_goto (tgt := 1047) hx hb dL_acts_1043 (by decide) ?_
                          refine ktopi (y := bI true) (by decide) ?_
                          refine W.widen (k := 60) (n := 360) (by omega) (by omega) ?_
                          subst hA
                          subst hQ
                          exact kretz F w (σ, kn, ρ, α, β, γ, L, T, os, po, re, ca, τ, vb, n1, n2, nm, en) [0, 1, 2, 3, 4, 5, 6, 7, 8, 9, 10, 11, 12, 13, 14, 15, 16, 17, 18, 19, 20, 21, 22, 23, 24] rfl rfl (⟨rfl, actP_0 hL⟩) (kz_n _) (Nat.le_of_ble_eq_true rfl) (Nat.le_of_ble_eq_true rfl) dL_acts_1047
                    · have h_290 : k9 = 2 := (kc_ne_f (by omega) (by omega)).mp h_290
                      have hbad : ¬ ((1 ≤ d8 ∧ d8 ≤ 48) ∧ k9 ≤ 1) := by omega
                      refine lv_iconst (v := nI 1) hx hb dL_acts_869 (by decide) ?_
                      refine lv_goto (tgt := 874) hx hb dL_acts_870 (by decide) ?_
                      refine ktopi (y := bI true) (by decide) ?_
                      refine lv_istore (lv' := [(14, .int (bI true)), (13, .int (nI k9)), (4, .int (nI d8)), (12, .int (nI (zcnt (kindP σ true) 48))), (11, .int (nI (zcnt (kindP σ false) 48))), (10, .int (tA σ)), (8, .long (zB (zL σ))), (6, .long (zB (zO σ))), (5, .int (bI false)), (3, .int (nI hw9)), (0, .ref x), (1, .int v), (2, .int yv)]) hx hb dL_acts_874 hl (by decide) rfl (fun ls hl => ?_)
                      refine lv_iload hx hb dL_acts_876 (lv_at hl 0 rfl) ?_
                      refine lv_if_eq (tgt := 885) hx hb dL_acts_878 (by decide) (fun h_390 => ?_) (fun h_390 => ?_)
                      · exact absurd h_390 (by decide)
                      refine lv_iconst (v := nI 0) hx hb dL_acts_881 (by decide) ?_
                      refine lv_goto (tgt := 893) hx hb dL_acts_882 (by decide) ?_
                      refine lv_istore (lv' := [(15, .int (nI 0)), (14, .int (bI true)), (13, .int (nI k9)), (4, .int (nI d8)), (12, .int (nI (zcnt (kindP σ true) 48))), (11, .int (nI (zcnt (kindP σ false) 48))), (10, .int (tA σ)), (8, .long (zB (zL σ))), (6, .long (zB (zO σ))), (5, .int (bI false)), (3, .int (nI hw9)), (0, .ref x), (1, .int v), (2, .int yv)]) hx hb dL_acts_893 hl (by decide) rfl (fun ls hl => ?_)
                      refine lv_aload_n hx hb dL_acts_895 rfl (lv_at hl 11 rfl) ?_
                      refine lv_iload hx hb dL_acts_896 (lv_at hl 3 rfl) ?_
                      refine lv_iload hx hb dL_acts_898 (lv_at hl 2 rfl) ?_
                      refine kcalli (wc := [cX x nw sn tk hs tx tr]) (wr := [cR nw na nb σ, xI g na 49 (zT σ), xI g nb 49 (zI σ), cH hs hq kn, xQ g hq 4 (rq ρ), cR (ρ 0) (α 0) (β 0) (γ 0), xI g (α 0) 49 (zT (γ 0)), xI g (β 0) 49 (zI (γ 0)), cR (ρ 1) (α 1) (β 1) (γ 1), xI g (α 1) 49 (zT (γ 1)), xI g (β 1) 49 (zI (γ 1)), cR (ρ 2) (α 2) (β 2) (γ 2), xI g (α 2) 49 (zT (γ 2)), xI g (β 2) 49 (zI (γ 2)), cR (ρ 3) (α 3) (β 3) (γ 3), xI g (α 3) 49 (zT (γ 3)), xI g (β 3) 49 (zI (γ 3)), cT tx ch L, xC g ch 60 T, cTr tr tw od os po re ca, cR tw ta tb τ, xI g ta 49 (zT τ), xI g tb 49 (zI τ), cO od vb n1 n2 nm en]) (wn := fun (u : Unit) => [cX x nw sn tk hs tx tr, cR nw na nb σ, xI g na 49 (zT σ), xI g nb 49 (zI σ), cH hs hq kn, xQ g hq 4 (rq ρ), cR (ρ 0) (α 0) (β 0) (γ 0), xI g (α 0) 49 (zT (γ 0)), xI g (β 0) 49 (zI (γ 0)), cR (ρ 1) (α 1) (β 1) (γ 1), xI g (α 1) 49 (zT (γ 1)), xI g (β 1) 49 (zI (γ 1)), cR (ρ 2) (α 2) (β 2) (γ 2), xI g (α 2) 49 (zT (γ 2)), xI g (β 2) 49 (zI (γ 2)), cR (ρ 3) (α 3) (β 3) (γ 3), xI g (α 3) 49 (zT (γ 3)), xI g (β 3) 49 (zI (γ 3)), cT tx ch L, xC g ch 60 T, cTr tr tw od os po re ca, cR tw ta tb τ, xI g ta 49 (zT τ), xI g tb 49 (zI τ), cO od vb n1 n2 nm en]) F w [0] [1, 2, 3, 4, 5, 6, 7, 8, 9, 10, 11, 12, 13, 14, 15, 16, 17, 18, 19, 20, 21, 22, 23, 24] [24, 0, 1, 2, 3, 4, 5, 6, 7, 8, 9, 10, 11, 12, 13, 14, 15, 16, 17, 18, 19, 20, 21, 22, 23] rfl rfl rfl (fun _ => rfl)
                        (fun hp => vx_runSW (As := [.ref x, .int (nI d8), .int (nI k9)]) (rest := []) F.1 (kL_store_A l hnl g x nw sn tk hs tx tr (nI d8) (nI k9) H.size (off_k (by omega) (by omega) hbad)) (vx_cwSW 3 hts gL_acts_L_store rfl rfl rfl hd_L_store ⟨Nat.le_of_ble_eq_true rfl, Nat.le_of_ble_eq_true rfl⟩) hp rfl rfl hl.1 rfl (lv_room (Nat.le_of_ble_eq_true rfl)) dL_acts_900 ⟨Nat.le_of_ble_eq_true rfl, Nat.le_of_ble_eq_true rfl⟩)
                        (fun r_391 _ H locs h_392 w => ?_)
                      subst h_392
                      refine lv_istore (lv' := [(16, .int (-102)), (15, .int (nI 0)), (14, .int (bI true)), (13, .int (nI k9)), (4, .int (nI d8)), (12, .int (nI (zcnt (kindP σ true) 48))), (11, .int (nI (zcnt (kindP σ false) 48))), (10, .int (tA σ)), (8, .long (zB (zL σ))), (6, .long (zB (zO σ))), (5, .int (bI false)), (3, .int (nI hw9)), (0, .ref x), (1, .int v), (2, .int yv)]) hx hb dL_acts_903 hl (by decide) rfl (fun ls hl => ?_)
                      refine lv_iload hx hb dL_acts_905 (lv_at hl 2 rfl) ?_
                      refine lv_if_ne (tgt := 919) hx hb dL_acts_907 (by decide) (fun h_393 => ?_) (fun h_393 => ?_)
                      rotate_left 1
                      · exact absurd h_393 (by decide)
                      refine lv_iconst (v := nI 0) hx hb dL_acts_919 (by decide) ?_
                      refine lv_istore (lv' := [(17, .int (nI 0)), (16, .int (-102)), (15, .int (nI 0)), (14, .int (bI true)), (13, .int (nI k9)), (4, .int (nI d8)), (12, .int (nI (zcnt (kindP σ true) 48))), (11, .int (nI (zcnt (kindP σ false) 48))), (10, .int (tA σ)), (8, .long (zB (zL σ))), (6, .long (zB (zO σ))), (5, .int (bI false)), (3, .int (nI hw9)), (0, .ref x), (1, .int v), (2, .int yv)]) hx hb dL_acts_920 hl (by decide) rfl (fun ls hl => ?_)
                      refine lv_iload hx hb dL_acts_922 (lv_at hl 1 rfl) ?_
                      refine lv_iload hx hb dL_acts_924 (lv_at hl 3 rfl) ?_
                      refine lv_if_eq (tgt := 934) hx hb dL_acts_926 (by decide) (fun h_394 => ?_) (fun h_394 => ?_)
                      · exact absurd h_394 (by decide)
                      refine lv_bipush (v := (-102)) hx hb dL_acts_929 (by decide) ?_
                      refine lv_goto (tgt := 960) hx hb dL_acts_931 (by decide) ?_
                      refine lv_icmp_ne (tgt := 1046) hx hb dL_acts_960 (by decide) (fun h_395 => ?_) (fun h_395 => ?_)
                      · exact absurd rfl h_395
                      refine lv_aload_n hx hb dL_acts_963 rfl (lv_at hl 13 rfl) ?_
                      refine lv_iconst (v := nI 0) hx hb dL_acts_964 (by decide) ?_
                      refine ktopi (y := bI false) (by decide) ?_
                      refine kcalli (wc := [cX x nw sn tk hs tx tr, cR nw na nb σ, xI g na 49 (zT σ), xI g nb 49 (zI σ)]) (wr := [cH hs hq kn, xQ g hq 4 (rq ρ), cR (ρ 0) (α 0) (β 0) (γ 0), xI g (α 0) 49 (zT (γ 0)), xI g (β 0) 49 (zI (γ 0)), cR (ρ 1) (α 1) (β 1) (γ 1), xI g (α 1) 49 (zT (γ 1)), xI g (β 1) 49 (zI (γ 1)), cR (ρ 2) (α 2) (β 2) (γ 2), xI g (α 2) 49 (zT (γ 2)), xI g (β 2) 49 (zI (γ 2)), cR (ρ 3) (α 3) (β 3) (γ 3), xI g (α 3) 49 (zT (γ 3)), xI g (β 3) 49 (zI (γ 3)), cT tx ch L, xC g ch 60 T, cTr tr tw od os po re ca, cR tw ta tb τ, xI g ta 49 (zT τ), xI g tb 49 (zI τ), cO od vb n1 n2 nm en]) (wn := fun (u : Unit) => [cX x nw sn tk hs tx tr, cR nw na nb σ, xI g na 49 (zT σ), xI g nb 49 (zI σ), cH hs hq kn, xQ g hq 4 (rq ρ), cR (ρ 0) (α 0) (β 0) (γ 0), xI g (α 0) 49 (zT (γ 0)), xI g (β 0) 49 (zI (γ 0)), cR (ρ 1) (α 1) (β 1) (γ 1), xI g (α 1) 49 (zT (γ 1)), xI g (β 1) 49 (zI (γ 1)), cR (ρ 2) (α 2) (β 2) (γ 2), xI g (α 2) 49 (zT (γ 2)), xI g (β 2) 49 (zI (γ 2)), cR (ρ 3) (α 3) (β 3) (γ 3), xI g (α 3) 49 (zT (γ 3)), xI g (β 3) 49 (zI (γ 3)), cT tx ch L, xC g ch 60 T, cTr tr tw od os po re ca, cR tw ta tb τ, xI g ta 49 (zT τ), xI g tb 49 (zI τ), cO od vb n1 n2 nm en]) F w [0, 1, 2, 3] [4, 5, 6, 7, 8, 9, 10, 11, 12, 13, 14, 15, 16, 17, 18, 19, 20, 21, 22, 23, 24] [21, 22, 23, 24, 0, 1, 2, 3, 4, 5, 6, 7, 8, 9, 10, 11, 12, 13, 14, 15, 16, 17, 18, 19, 20] rfl rfl rfl (fun _ => rfl)
                        (fun hp => va_runV (As := [.int (bI false)]) (rest := []) F.1 (kX5_thingsOf_k l g x nw sn tk hs tx tr na nb σ false H.size ) (cwV 1 hts gL_acts_X5_thingsOf rfl rfl rfl ⟨rfl, hd_X5_thingsOf⟩ ⟨Nat.le_of_ble_eq_true rfl, Nat.le_of_ble_eq_true rfl⟩) ⟨hp.1, va_recv F.2.2.2.1.1 w.1 (q0 := 0) (ci := 5) rfl rfl, hp.2⟩ rfl rfl hl.1 rfl (lv_room (Nat.le_of_ble_eq_true rfl)) dL_acts_965 ⟨Nat.le_of_ble_eq_true rfl, Nat.le_of_ble_eq_true rfl⟩)
                        (fun r_396 _ H locs h_397 w => ?_)
                      subst h_397
                      refine lv_iload hx hb dL_acts_968 (lv_at hl 7 rfl) ?_
                      refine lv_iload hx hb dL_acts_970 (lv_at hl 0 rfl) ?_
                      refine lv_if_eq (tgt := 984) hx hb dL_acts_972 (by decide) (fun h_398 => ?_) (fun h_398 => ?_)
                      rotate_left 1
                      · exact absurd rfl h_398
                      refine lv_iconst (v := nI 0) hx hb dL_acts_984 (by decide) ?_
                      refine lv_iadd hx hb dL_acts_985 ?_
                      refine ktopi (y := nI (zcnt (kindP σ false) 48 + 0)) (nI_add (zcnt (kindP σ false) 48) 0) ?_
                      refine ktopi (y := nI (zcnt (kindP σ false) 48)) (rfl) ?_
                      refine lv_icmp_ne (tgt := 1046) hx hb dL_acts_986 (by decide) (fun h_399 => ?_) (fun h_399 => ?_)
                      · exact absurd rfl h_399
                      refine lv_aload_n hx hb dL_acts_989 rfl (lv_at hl 13 rfl) ?_
                      refine lv_iconst (v := nI 1) hx hb dL_acts_990 (by decide) ?_
                      refine ktopi (y := bI true) (by decide) ?_
                      refine kcalli (wc := [cX x nw sn tk hs tx tr, cR nw na nb σ, xI g na 49 (zT σ), xI g nb 49 (zI σ)]) (wr := [cH hs hq kn, xQ g hq 4 (rq ρ), cR (ρ 0) (α 0) (β 0) (γ 0), xI g (α 0) 49 (zT (γ 0)), xI g (β 0) 49 (zI (γ 0)), cR (ρ 1) (α 1) (β 1) (γ 1), xI g (α 1) 49 (zT (γ 1)), xI g (β 1) 49 (zI (γ 1)), cR (ρ 2) (α 2) (β 2) (γ 2), xI g (α 2) 49 (zT (γ 2)), xI g (β 2) 49 (zI (γ 2)), cR (ρ 3) (α 3) (β 3) (γ 3), xI g (α 3) 49 (zT (γ 3)), xI g (β 3) 49 (zI (γ 3)), cT tx ch L, xC g ch 60 T, cTr tr tw od os po re ca, cR tw ta tb τ, xI g ta 49 (zT τ), xI g tb 49 (zI τ), cO od vb n1 n2 nm en]) (wn := fun (u : Unit) => [cX x nw sn tk hs tx tr, cR nw na nb σ, xI g na 49 (zT σ), xI g nb 49 (zI σ), cH hs hq kn, xQ g hq 4 (rq ρ), cR (ρ 0) (α 0) (β 0) (γ 0), xI g (α 0) 49 (zT (γ 0)), xI g (β 0) 49 (zI (γ 0)), cR (ρ 1) (α 1) (β 1) (γ 1), xI g (α 1) 49 (zT (γ 1)), xI g (β 1) 49 (zI (γ 1)), cR (ρ 2) (α 2) (β 2) (γ 2), xI g (α 2) 49 (zT (γ 2)), xI g (β 2) 49 (zI (γ 2)), cR (ρ 3) (α 3) (β 3) (γ 3), xI g (α 3) 49 (zT (γ 3)), xI g (β 3) 49 (zI (γ 3)), cT tx ch L, xC g ch 60 T, cTr tr tw od os po re ca, cR tw ta tb τ, xI g ta 49 (zT τ), xI g tb 49 (zI τ), cO od vb n1 n2 nm en]) F w [0, 1, 2, 3] [4, 5, 6, 7, 8, 9, 10, 11, 12, 13, 14, 15, 16, 17, 18, 19, 20, 21, 22, 23, 24] [21, 22, 23, 24, 0, 1, 2, 3, 4, 5, 6, 7, 8, 9, 10, 11, 12, 13, 14, 15, 16, 17, 18, 19, 20] rfl rfl rfl (fun _ => rfl)
                        (fun hp => va_runV (As := [.int (bI true)]) (rest := []) F.1 (kX5_thingsOf_k l g x nw sn tk hs tx tr na nb σ true H.size ) (cwV 1 hts gL_acts_X5_thingsOf rfl rfl rfl ⟨rfl, hd_X5_thingsOf⟩ ⟨Nat.le_of_ble_eq_true rfl, Nat.le_of_ble_eq_true rfl⟩) ⟨hp.1, va_recv F.2.2.2.1.1 w.1 (q0 := 0) (ci := 5) rfl rfl, hp.2⟩ rfl rfl hl.1 rfl (lv_room (Nat.le_of_ble_eq_true rfl)) dL_acts_991 ⟨Nat.le_of_ble_eq_true rfl, Nat.le_of_ble_eq_true rfl⟩)
                        (fun r_400 _ H locs h_401 w => ?_)
                      subst h_401
                      refine lv_iload hx hb dL_acts_994 (lv_at hl 6 rfl) ?_
                      refine lv_iload hx hb dL_acts_996 (lv_at hl 0 rfl) ?_
                      refine lv_if_eq (tgt := 1011) hx hb dL_acts_998 (by decide) (fun h_402 => ?_) (fun h_402 => ?_)
                      rotate_left 1
                      · exact absurd rfl h_402
                      refine lv_iconst (v := nI 0) hx hb dL_acts_1011 (by decide) ?_
                      refine lv_iadd hx hb dL_acts_1012 ?_
                      refine ktopi (y := nI (zcnt (kindP σ true) 48 + 0)) (nI_add (zcnt (kindP σ true) 48) 0) ?_
                      refine ktopi (y := nI (zcnt (kindP σ true) 48)) (rfl) ?_
                      refine lv_icmp_ne (tgt := 1046) hx hb dL_acts_1013 (by decide) (fun h_403 => ?_) (fun h_403 => ?_)
                      · exact absurd rfl h_403
                      refine lv_iload hx hb dL_acts_1016 (lv_at hl 0 rfl) ?_
                      refine lv_if_eq (tgt := 1032) hx hb dL_acts_1018 (by decide) (fun h_404 => ?_) (fun h_404 => ?_)
                      rotate_left 1
                      · exact absurd rfl h_404
                      refine lv_aload_n hx hb dL_acts_1032 rfl (lv_at hl 13 rfl) ?_
                      refine kcalll (wc := [cX x nw sn tk hs tx tr, cR nw na nb σ, xI g na 49 (zT σ), xI g nb 49 (zI σ)]) (wr := [cH hs hq kn, xQ g hq 4 (rq ρ), cR (ρ 0) (α 0) (β 0) (γ 0), xI g (α 0) 49 (zT (γ 0)), xI g (β 0) 49 (zI (γ 0)), cR (ρ 1) (α 1) (β 1) (γ 1), xI g (α 1) 49 (zT (γ 1)), xI g (β 1) 49 (zI (γ 1)), cR (ρ 2) (α 2) (β 2) (γ 2), xI g (α 2) 49 (zT (γ 2)), xI g (β 2) 49 (zI (γ 2)), cR (ρ 3) (α 3) (β 3) (γ 3), xI g (α 3) 49 (zT (γ 3)), xI g (β 3) 49 (zI (γ 3)), cT tx ch L, xC g ch 60 T, cTr tr tw od os po re ca, cR tw ta tb τ, xI g ta 49 (zT τ), xI g tb 49 (zI τ), cO od vb n1 n2 nm en]) (wn := fun (u : Unit) => [cX x nw sn tk hs tx tr, cR nw na nb σ, xI g na 49 (zT σ), xI g nb 49 (zI σ), cH hs hq kn, xQ g hq 4 (rq ρ), cR (ρ 0) (α 0) (β 0) (γ 0), xI g (α 0) 49 (zT (γ 0)), xI g (β 0) 49 (zI (γ 0)), cR (ρ 1) (α 1) (β 1) (γ 1), xI g (α 1) 49 (zT (γ 1)), xI g (β 1) 49 (zI (γ 1)), cR (ρ 2) (α 2) (β 2) (γ 2), xI g (α 2) 49 (zT (γ 2)), xI g (β 2) 49 (zI (γ 2)), cR (ρ 3) (α 3) (β 3) (γ 3), xI g (α 3) 49 (zT (γ 3)), xI g (β 3) 49 (zI (γ 3)), cT tx ch L, xC g ch 60 T, cTr tr tw od os po re ca, cR tw ta tb τ, xI g ta 49 (zT τ), xI g tb 49 (zI τ), cO od vb n1 n2 nm en]) F w [0, 1, 2, 3] [4, 5, 6, 7, 8, 9, 10, 11, 12, 13, 14, 15, 16, 17, 18, 19, 20, 21, 22, 23, 24] [21, 22, 23, 24, 0, 1, 2, 3, 4, 5, 6, 7, 8, 9, 10, 11, 12, 13, 14, 15, 16, 17, 18, 19, 20] rfl rfl rfl (fun _ => rfl)
                        (fun hp => va_runV (As := []) (rest := []) F.1 (kX5_openSet l g x nw sn tk hs tx tr na nb σ H.size ) (cwV 0 hts gL_acts_X5_openSet rfl rfl rfl ⟨rfl, hd_X5_openSet⟩ ⟨Nat.le_of_ble_eq_true rfl, Nat.le_of_ble_eq_true rfl⟩) ⟨hp.1, va_recv F.2.2.2.1.1 w.1 (q0 := 0) (ci := 5) rfl rfl, hp.2⟩ rfl rfl hl.1 rfl (lv_room (Nat.le_of_ble_eq_true rfl)) dL_acts_1033 ⟨Nat.le_of_ble_eq_true rfl, Nat.le_of_ble_eq_true rfl⟩)
                        (fun r_405 _ H locs h_406 w => ?_)
                      subst h_406
                      refine lv_lload hx hb dL_acts_1036 (lv_at hl 10 rfl) ?_
                      refine W.lcmp hx hb dL_acts_1038 ?_
                      refine lv_if_ne (tgt := 1046) hx hb dL_acts_1039 (by decide) (fun h_407 => ?_) (fun h_407 => ?_)
                      · exact absurd (lgc_eq.mpr rfl) h_407
                      refine lv_iconst (v := nI 1) hx hb dL_acts_1042 (by decide) ?_
                      refine lv_goto (tgt := 1047) hx hb dL_acts_1043 (by decide) ?_
                      refine ktopi (y := bI true) (by decide) ?_
                      refine W.widen (k := 60) (n := 360) (by omega) (by omega) ?_
                      subst hA
                      subst hQ
                      exact kretz F w (σ, kn, ρ, α, β, γ, L, T, os, po, re, ca, τ, vb, n1, n2, nm, en) [0, 1, 2, 3, 4, 5, 6, 7, 8, 9, 10, 11, 12, 13, 14, 15, 16, 17, 18, 19, 20, 21, 22, 23, 24] rfl rfl (⟨rfl, actP_0 hL⟩) (kz_n _) (Nat.le_of_ble_eq_true rfl) (Nat.le_of_ble_eq_true rfl) dL_acts_1047
                  refine lv_iload_n hx hb dL_acts_832 rfl (lv_at hl 10 rfl) ?_
                  refine lv_bipush (v := nI 7) hx hb dL_acts_833 (by decide) ?_
                  refine lv_ishr hx hb dL_acts_835 ?_
                  refine lv_iload_n hx hb dL_acts_836 rfl (lv_at hl 10 rfl) ?_
                  refine lv_bipush (v := nI 12) hx hb dL_acts_837 (by decide) ?_
                  refine lv_ishr hx hb dL_acts_839 ?_
                  refine lv_bipush (v := nI 14) hx hb dL_acts_840 (by decide) ?_
                  have lw_408 := lowN_lt (yv >>> ((nI 12) &&& 31)) (n := 14) (by omega)
                  refine kcalli (wc := []) (wr := [cX x nw sn tk hs tx tr, cR nw na nb σ, xI g na 49 (zT σ), xI g nb 49 (zI σ), cH hs hq kn, xQ g hq 4 (rq ρ), cR (ρ 0) (α 0) (β 0) (γ 0), xI g (α 0) 49 (zT (γ 0)), xI g (β 0) 49 (zI (γ 0)), cR (ρ 1) (α 1) (β 1) (γ 1), xI g (α 1) 49 (zT (γ 1)), xI g (β 1) 49 (zI (γ 1)), cR (ρ 2) (α 2) (β 2) (γ 2), xI g (α 2) 49 (zT (γ 2)), xI g (β 2) 49 (zI (γ 2)), cR (ρ 3) (α 3) (β 3) (γ 3), xI g (α 3) 49 (zT (γ 3)), xI g (β 3) 49 (zI (γ 3)), cT tx ch L, xC g ch 60 T, cTr tr tw od os po re ca, cR tw ta tb τ, xI g ta 49 (zT τ), xI g tb 49 (zI τ), cO od vb n1 n2 nm en]) (wn := fun (u : Unit) => [cX x nw sn tk hs tx tr, cR nw na nb σ, xI g na 49 (zT σ), xI g nb 49 (zI σ), cH hs hq kn, xQ g hq 4 (rq ρ), cR (ρ 0) (α 0) (β 0) (γ 0), xI g (α 0) 49 (zT (γ 0)), xI g (β 0) 49 (zI (γ 0)), cR (ρ 1) (α 1) (β 1) (γ 1), xI g (α 1) 49 (zT (γ 1)), xI g (β 1) 49 (zI (γ 1)), cR (ρ 2) (α 2) (β 2) (γ 2), xI g (α 2) 49 (zT (γ 2)), xI g (β 2) 49 (zI (γ 2)), cR (ρ 3) (α 3) (β 3) (γ 3), xI g (α 3) 49 (zT (γ 3)), xI g (β 3) 49 (zI (γ 3)), cT tx ch L, xC g ch 60 T, cTr tr tw od os po re ca, cR tw ta tb τ, xI g ta 49 (zT τ), xI g tb 49 (zI τ), cO od vb n1 n2 nm en]) F w [] [0, 1, 2, 3, 4, 5, 6, 7, 8, 9, 10, 11, 12, 13, 14, 15, 16, 17, 18, 19, 20, 21, 22, 23, 24] [0, 1, 2, 3, 4, 5, 6, 7, 8, 9, 10, 11, 12, 13, 14, 15, 16, 17, 18, 19, 20, 21, 22, 23, 24] rfl rfl rfl (fun _ => rfl)
                    (fun hp => va_runS (As := [.int (yv >>> ((nI 12) &&& 31)), .int (nI 14)]) (rest := [.int (yv >>> ((nI 7) &&& 31))]) F.1 (kL_low l g (yv >>> ((nI 12) &&& 31)) 14 H.size (by omega)) (va_cwS 2 hts gL_acts_L_low rfl rfl rfl hd_L_low ⟨Nat.le_of_ble_eq_true rfl, Nat.le_of_ble_eq_true rfl⟩) hp rfl rfl hl.1 rfl (lv_room (Nat.le_of_ble_eq_true rfl)) dL_acts_842 ⟨Nat.le_of_ble_eq_true rfl, Nat.le_of_ble_eq_true rfl⟩)
                    (fun r_409 _ H locs h_410 w => ?_)
                  subst h_410
                  refine lv_if_ne (tgt := 852) hx hb dL_acts_845 (by decide) (fun h_411 => ?_) (fun h_411 => ?_)
                  · have h_411 : lowN (yv >>> ((nI 12) &&& 31)) 14 ≠ 0 := (kc0_ne_t (by omega)).mp h_411
                    refine lv_iconst (v := nI 2) hx hb dL_acts_852 (by decide) ?_
                    have lw_412 := lowN_lt (yv >>> ((nI 7) &&& 31)) (n := 2) (by omega)
                    refine kcalli (wc := []) (wr := [cX x nw sn tk hs tx tr, cR nw na nb σ, xI g na 49 (zT σ), xI g nb 49 (zI σ), cH hs hq kn, xQ g hq 4 (rq ρ), cR (ρ 0) (α 0) (β 0) (γ 0), xI g (α 0) 49 (zT (γ 0)), xI g (β 0) 49 (zI (γ 0)), cR (ρ 1) (α 1) (β 1) (γ 1), xI g (α 1) 49 (zT (γ 1)), xI g (β 1) 49 (zI (γ 1)), cR (ρ 2) (α 2) (β 2) (γ 2), xI g (α 2) 49 (zT (γ 2)), xI g (β 2) 49 (zI (γ 2)), cR (ρ 3) (α 3) (β 3) (γ 3), xI g (α 3) 49 (zT (γ 3)), xI g (β 3) 49 (zI (γ 3)), cT tx ch L, xC g ch 60 T, cTr tr tw od os po re ca, cR tw ta tb τ, xI g ta 49 (zT τ), xI g tb 49 (zI τ), cO od vb n1 n2 nm en]) (wn := fun (u : Unit) => [cX x nw sn tk hs tx tr, cR nw na nb σ, xI g na 49 (zT σ), xI g nb 49 (zI σ), cH hs hq kn, xQ g hq 4 (rq ρ), cR (ρ 0) (α 0) (β 0) (γ 0), xI g (α 0) 49 (zT (γ 0)), xI g (β 0) 49 (zI (γ 0)), cR (ρ 1) (α 1) (β 1) (γ 1), xI g (α 1) 49 (zT (γ 1)), xI g (β 1) 49 (zI (γ 1)), cR (ρ 2) (α 2) (β 2) (γ 2), xI g (α 2) 49 (zT (γ 2)), xI g (β 2) 49 (zI (γ 2)), cR (ρ 3) (α 3) (β 3) (γ 3), xI g (α 3) 49 (zT (γ 3)), xI g (β 3) 49 (zI (γ 3)), cT tx ch L, xC g ch 60 T, cTr tr tw od os po re ca, cR tw ta tb τ, xI g ta 49 (zT τ), xI g tb 49 (zI τ), cO od vb n1 n2 nm en]) F w [] [0, 1, 2, 3, 4, 5, 6, 7, 8, 9, 10, 11, 12, 13, 14, 15, 16, 17, 18, 19, 20, 21, 22, 23, 24] [0, 1, 2, 3, 4, 5, 6, 7, 8, 9, 10, 11, 12, 13, 14, 15, 16, 17, 18, 19, 20, 21, 22, 23, 24] rfl rfl rfl (fun _ => rfl)
                      (fun hp => va_runS (As := [.int (yv >>> ((nI 7) &&& 31)), .int (nI 2)]) (rest := []) F.1 (kL_low l g (yv >>> ((nI 7) &&& 31)) 2 H.size (by omega)) (va_cwS 2 hts gL_acts_L_low rfl rfl rfl hd_L_low ⟨Nat.le_of_ble_eq_true rfl, Nat.le_of_ble_eq_true rfl⟩) hp rfl rfl hl.1 rfl (lv_room (Nat.le_of_ble_eq_true rfl)) dL_acts_853 ⟨Nat.le_of_ble_eq_true rfl, Nat.le_of_ble_eq_true rfl⟩)
                      (fun r_413 _ H locs h_414 w => ?_)
                    subst h_414
                    exact JN_288 (lowN (yv >>> ((nI 7) &&& 31)) 2) (by omega) _ _ _ (kW.perm w [0, 1, 2, 3, 4, 5, 6, 7, 8, 9, 10, 11, 12, 13, 14, 15, 16, 17, 18, 19, 20, 21, 22, 23, 24] rfl rfl) (lv_sub hl [0, 1, 2, 3, 4, 5, 6, 7, 8, 9, 10] rfl)
                  · have h_411 : lowN (yv >>> ((nI 12) &&& 31)) 14 = 0 := (kc0_ne_f (by omega)).mp h_411
                    refine lv_iconst (v := nI 3) hx hb dL_acts_848 (by decide) ?_
                    refine lv_goto (tgt := 853) hx hb dL_acts_849 (by decide) ?_
                    have lw_415 := lowN_lt (yv >>> ((nI 7) &&& 31)) (n := 3) (by omega)
                    refine kcalli (wc := []) (wr := [cX x nw sn tk hs tx tr, cR nw na nb σ, xI g na 49 (zT σ), xI g nb 49 (zI σ), cH hs hq kn, xQ g hq 4 (rq ρ), cR (ρ 0) (α 0) (β 0) (γ 0), xI g (α 0) 49 (zT (γ 0)), xI g (β 0) 49 (zI (γ 0)), cR (ρ 1) (α 1) (β 1) (γ 1), xI g (α 1) 49 (zT (γ 1)), xI g (β 1) 49 (zI (γ 1)), cR (ρ 2) (α 2) (β 2) (γ 2), xI g (α 2) 49 (zT (γ 2)), xI g (β 2) 49 (zI (γ 2)), cR (ρ 3) (α 3) (β 3) (γ 3), xI g (α 3) 49 (zT (γ 3)), xI g (β 3) 49 (zI (γ 3)), cT tx ch L, xC g ch 60 T, cTr tr tw od os po re ca, cR tw ta tb τ, xI g ta 49 (zT τ), xI g tb 49 (zI τ), cO od vb n1 n2 nm en]) (wn := fun (u : Unit) => [cX x nw sn tk hs tx tr, cR nw na nb σ, xI g na 49 (zT σ), xI g nb 49 (zI σ), cH hs hq kn, xQ g hq 4 (rq ρ), cR (ρ 0) (α 0) (β 0) (γ 0), xI g (α 0) 49 (zT (γ 0)), xI g (β 0) 49 (zI (γ 0)), cR (ρ 1) (α 1) (β 1) (γ 1), xI g (α 1) 49 (zT (γ 1)), xI g (β 1) 49 (zI (γ 1)), cR (ρ 2) (α 2) (β 2) (γ 2), xI g (α 2) 49 (zT (γ 2)), xI g (β 2) 49 (zI (γ 2)), cR (ρ 3) (α 3) (β 3) (γ 3), xI g (α 3) 49 (zT (γ 3)), xI g (β 3) 49 (zI (γ 3)), cT tx ch L, xC g ch 60 T, cTr tr tw od os po re ca, cR tw ta tb τ, xI g ta 49 (zT τ), xI g tb 49 (zI τ), cO od vb n1 n2 nm en]) F w [] [0, 1, 2, 3, 4, 5, 6, 7, 8, 9, 10, 11, 12, 13, 14, 15, 16, 17, 18, 19, 20, 21, 22, 23, 24] [0, 1, 2, 3, 4, 5, 6, 7, 8, 9, 10, 11, 12, 13, 14, 15, 16, 17, 18, 19, 20, 21, 22, 23, 24] rfl rfl rfl (fun _ => rfl)
                      (fun hp => va_runS (As := [.int (yv >>> ((nI 7) &&& 31)), .int (nI 3)]) (rest := []) F.1 (kL_low l g (yv >>> ((nI 7) &&& 31)) 3 H.size (by omega)) (va_cwS 2 hts gL_acts_L_low rfl rfl rfl hd_L_low ⟨Nat.le_of_ble_eq_true rfl, Nat.le_of_ble_eq_true rfl⟩) hp rfl rfl hl.1 rfl (lv_room (Nat.le_of_ble_eq_true rfl)) dL_acts_853 ⟨Nat.le_of_ble_eq_true rfl, Nat.le_of_ble_eq_true rfl⟩)
                      (fun r_416 _ H locs h_417 w => ?_)
                    subst h_417
                    exact JN_288 (lowN (yv >>> ((nI 7) &&& 31)) 3) (by omega) _ _ _ (kW.perm w [0, 1, 2, 3, 4, 5, 6, 7, 8, 9, 10, 11, 12, 13, 14, 15, 16, 17, 18, 19, 20, 21, 22, 23, 24] rfl rfl) (lv_sub hl [0, 1, 2, 3, 4, 5, 6, 7, 8, 9, 10] rfl)
              have LP_418 : ∀ (fu : Nat) (j : Nat) (e8 : Nat) (k1 : j ≤ 48) (he8 : 1 ≤ e8 ∧ e8 ≤ 48) (H : Heap) (locs : List Loc) (ls : Array Slot), 60 - j < fu → kW g A s [cX x nw sn tk hs tx tr, cR nw na nb σ, xI g na 49 (zT σ), xI g nb 49 (zI σ), cH hs hq kn, xQ g hq 4 (rq ρ), cR (ρ 0) (α 0) (β 0) (γ 0), xI g (α 0) 49 (zT (γ 0)), xI g (β 0) 49 (zI (γ 0)), cR (ρ 1) (α 1) (β 1) (γ 1), xI g (α 1) 49 (zT (γ 1)), xI g (β 1) 49 (zI (γ 1)), cR (ρ 2) (α 2) (β 2) (γ 2), xI g (α 2) 49 (zT (γ 2)), xI g (β 2) 49 (zI (γ 2)), cR (ρ 3) (α 3) (β 3) (γ 3), xI g (α 3) 49 (zT (γ 3)), xI g (β 3) 49 (zI (γ 3)), cT tx ch L, xC g ch 60 T, cTr tr tw od os po re ca, cR tw ta tb τ, xI g ta 49 (zT τ), xI g tb 49 (zI τ), cO od vb n1 n2 nm en] H locs → lv_has ls 22 [(13, .int (nI j)), (4, .int (nI e8)), (12, .int (nI (zcnt (kindP σ true) 48))), (11, .int (nI (zcnt (kindP σ false) 48))), (10, .int (tA σ)), (8, .long (zB (zL σ))), (6, .long (zB (zO σ))), (5, .int (bI false)), (3, .int (nI hw9)), (0, .ref x), (1, .int v), (2, .int yv)] → W p l e rmL_acts s m args below meth c H locs j (6 * j) Q (F0 m 744 ls []) := by
                intro fu
                induction fu with
                | zero => intro j e8 k1 he8 H locs ls hlt; omega
                | succ fu ih_418 =>
                  intro j e8 k1 he8 H locs ls hlt w hl
                  refine lv_iload hx hb dL_acts_744 (lv_at hl 0 rfl) ?_
                  refine lv_bipush (v := nI 48) hx hb dL_acts_746 (by decide) ?_
                  refine lv_icmp_ge (tgt := 826) hx hb dL_acts_748 (by decide) (fun h_419 => ?_) (fun h_419 => ?_)
                  · have h_419 : j ≥ 48 := (kc_ge_t (by omega) (by omega)).mp h_419
                    refine W.widen (k := 48) (n := 288) (by omega) (by omega) ?_
                    exact JN_169 e8 he8 _ _ _ (kW.perm w [0, 1, 2, 3, 4, 5, 6, 7, 8, 9, 10, 11, 12, 13, 14, 15, 16, 17, 18, 19, 20, 21, 22, 23, 24] rfl rfl) (lv_sub hl [1, 2, 3, 4, 5, 6, 7, 8, 9, 10, 11] rfl)
                  · have h_419 : j < 48 := (kc_ge_f (by omega) (by omega)).mp h_419
                    refine lv_iload hx hb dL_acts_751 (lv_at hl 7 rfl) ?_
                    refine lv_if_ne (tgt := 826) hx hb dL_acts_753 (by decide) (fun h_420 => ?_) (fun h_420 => ?_)
                    · exact absurd rfl h_420
                    refine lv_iload_n hx hb dL_acts_756 rfl (lv_at hl 11 rfl) ?_
                    refine lv_iconst (v := nI 5) hx hb dL_acts_757 (by decide) ?_
                    refine lv_ishr hx hb dL_acts_758 ?_
                    refine lv_bipush (v := nI 7) hx hb dL_acts_759 (by decide) ?_
                    have lw_421 := lowN_lt (yv >>> ((nI 5) &&& 31)) (n := 7) (by omega)
                    refine kcalli (wc := []) (wr := [cX x nw sn tk hs tx tr, cR nw na nb σ, xI g na 49 (zT σ), xI g nb 49 (zI σ), cH hs hq kn, xQ g hq 4 (rq ρ), cR (ρ 0) (α 0) (β 0) (γ 0), xI g (α 0) 49 (zT (γ 0)), xI g (β 0) 49 (zI (γ 0)), cR (ρ 1) (α 1) (β 1) (γ 1), xI g (α 1) 49 (zT (γ 1)), xI g (β 1) 49 (zI (γ 1)), cR (ρ 2) (α 2) (β 2) (γ 2), xI g (α 2) 49 (zT (γ 2)), xI g (β 2) 49 (zI (γ 2)), cR (ρ 3) (α 3) (β 3) (γ 3), xI g (α 3) 49 (zT (γ 3)), xI g (β 3) 49 (zI (γ 3)), cT tx ch L, xC g ch 60 T, cTr tr tw od os po re ca, cR tw ta tb τ, xI g ta 49 (zT τ), xI g tb 49 (zI τ), cO od vb n1 n2 nm en]) (wn := fun (u : Unit) => [cX x nw sn tk hs tx tr, cR nw na nb σ, xI g na 49 (zT σ), xI g nb 49 (zI σ), cH hs hq kn, xQ g hq 4 (rq ρ), cR (ρ 0) (α 0) (β 0) (γ 0), xI g (α 0) 49 (zT (γ 0)), xI g (β 0) 49 (zI (γ 0)), cR (ρ 1) (α 1) (β 1) (γ 1), xI g (α 1) 49 (zT (γ 1)), xI g (β 1) 49 (zI (γ 1)), cR (ρ 2) (α 2) (β 2) (γ 2), xI g (α 2) 49 (zT (γ 2)), xI g (β 2) 49 (zI (γ 2)), cR (ρ 3) (α 3) (β 3) (γ 3), xI g (α 3) 49 (zT (γ 3)), xI g (β 3) 49 (zI (γ 3)), cT tx ch L, xC g ch 60 T, cTr tr tw od os po re ca, cR tw ta tb τ, xI g ta 49 (zT τ), xI g tb 49 (zI τ), cO od vb n1 n2 nm en]) F w [] [0, 1, 2, 3, 4, 5, 6, 7, 8, 9, 10, 11, 12, 13, 14, 15, 16, 17, 18, 19, 20, 21, 22, 23, 24] [0, 1, 2, 3, 4, 5, 6, 7, 8, 9, 10, 11, 12, 13, 14, 15, 16, 17, 18, 19, 20, 21, 22, 23, 24] rfl rfl rfl (fun _ => rfl)
                      (fun hp => va_runS (As := [.int (yv >>> ((nI 5) &&& 31)), .int (nI 7)]) (rest := []) F.1 (kL_low l g (yv >>> ((nI 5) &&& 31)) 7 H.size (by omega)) (va_cwS 2 hts gL_acts_L_low rfl rfl rfl hd_L_low ⟨Nat.le_of_ble_eq_true rfl, Nat.le_of_ble_eq_true rfl⟩) hp rfl rfl hl.1 rfl (lv_room (Nat.le_of_ble_eq_true rfl)) dL_acts_761 ⟨by show _ ≤ (60 : Nat); omega, by show _ ≤ (360 : Nat); omega⟩)
                      (fun r_422 _ H locs h_423 w => ?_)
                    subst h_423
                    refine lv_if_le (tgt := 826) hx hb dL_acts_764 (by decide) (fun h_424 => ?_) (fun h_424 => ?_)
                    · have h_424 : lowN (yv >>> ((nI 5) &&& 31)) 7 ≤ 0 := (kc0_le_t (by omega)).mp h_424
                      refine W.widen (k := 48) (n := 288) (by omega) (by omega) ?_
                      exact JN_169 e8 he8 _ _ _ (kW.perm w [0, 1, 2, 3, 4, 5, 6, 7, 8, 9, 10, 11, 12, 13, 14, 15, 16, 17, 18, 19, 20, 21, 22, 23, 24] rfl rfl) (lv_sub hl [1, 2, 3, 4, 5, 6, 7, 8, 9, 10, 11] rfl)
                    · have h_424 : lowN (yv >>> ((nI 5) &&& 31)) 7 > 0 := (kc0_le_f (by omega)).mp h_424
                      have JN_425 : ∀ (n9 : Nat) (hn9 : 1 ≤ n9 ∧ n9 ≤ 48) (H : Heap) (locs : List Loc) (ls : Array Slot), kW g A s [cX x nw sn tk hs tx tr, cR nw na nb σ, xI g na 49 (zT σ), xI g nb 49 (zI σ), cH hs hq kn, xQ g hq 4 (rq ρ), cR (ρ 0) (α 0) (β 0) (γ 0), xI g (α 0) 49 (zT (γ 0)), xI g (β 0) 49 (zI (γ 0)), cR (ρ 1) (α 1) (β 1) (γ 1), xI g (α 1) 49 (zT (γ 1)), xI g (β 1) 49 (zI (γ 1)), cR (ρ 2) (α 2) (β 2) (γ 2), xI g (α 2) 49 (zT (γ 2)), xI g (β 2) 49 (zI (γ 2)), cR (ρ 3) (α 3) (β 3) (γ 3), xI g (α 3) 49 (zT (γ 3)), xI g (β 3) 49 (zI (γ 3)), cT tx ch L, xC g ch 60 T, cTr tr tw od os po re ca, cR tw ta tb τ, xI g ta 49 (zT τ), xI g tb 49 (zI τ), cO od vb n1 n2 nm en] H locs → lv_has ls 22 [(13, .int (nI j)), (4, .int (nI e8)), (12, .int (nI (zcnt (kindP σ true) 48))), (11, .int (nI (zcnt (kindP σ false) 48))), (10, .int (tA σ)), (8, .long (zB (zL σ))), (6, .long (zB (zO σ))), (5, .int (bI false)), (3, .int (nI hw9)), (0, .ref x), (1, .int v), (2, .int yv)] → W p l e rmL_acts s m args below meth c H locs (j + 1) (6 * j + 6) Q (F0 m 818 ls [.int (nI n9)]) := by
                        intro n9 hn9 H locs ls w hl
                        refine lv_istore (lv' := [(4, .int (nI n9)), (13, .int (nI j)), (12, .int (nI (zcnt (kindP σ true) 48))), (11, .int (nI (zcnt (kindP σ false) 48))), (10, .int (tA σ)), (8, .long (zB (zL σ))), (6, .long (zB (zO σ))), (5, .int (bI false)), (3, .int (nI hw9)), (0, .ref x), (1, .int v), (2, .int yv)]) hx hb dL_acts_818 hl (by decide) rfl (fun ls hl => ?_)
                        refine lv_iinc (v := nI (j + 1)) (lv' := [(13, .int (nI (j + 1))), (4, .int (nI n9)), (12, .int (nI (zcnt (kindP σ true) 48))), (11, .int (nI (zcnt (kindP σ false) 48))), (10, .int (tA σ)), (8, .long (zB (zL σ))), (6, .long (zB (zO σ))), (5, .int (bI false)), (3, .int (nI hw9)), (0, .ref x), (1, .int v), (2, .int yv)]) hx hb dL_acts_820 hl (k := 1) rfl (nI_add j 1) (by decide) rfl (fun ls hl => ?_)
                        refine lv_goto (tgt := 744) hx hb dL_acts_823 (by decide) ?_
                        refine W.widen (k := (j + 1)) (n := 6 * (j + 1)) (by omega) (by omega) ?_
                        exact ih_418 (j + 1) n9 (by omega) hn9 _ _ _ (by omega) (kW.perm w [0, 1, 2, 3, 4, 5, 6, 7, 8, 9, 10, 11, 12, 13, 14, 15, 16, 17, 18, 19, 20, 21, 22, 23, 24] rfl rfl) (lv_sub hl [0, 1, 2, 3, 4, 5, 6, 7, 8, 9, 10, 11] rfl)
                      refine lv_aload_n hx hb dL_acts_767 rfl (lv_at hl 9 rfl) ?_
                      refine lv_iload hx hb dL_acts_768 (lv_at hl 1 rfl) ?_
                      refine kcalli (wc := [cX x nw sn tk hs tx tr, cR nw na nb σ, xI g na 49 (zT σ), xI g nb 49 (zI σ)]) (wr := [cH hs hq kn, xQ g hq 4 (rq ρ), cR (ρ 0) (α 0) (β 0) (γ 0), xI g (α 0) 49 (zT (γ 0)), xI g (β 0) 49 (zI (γ 0)), cR (ρ 1) (α 1) (β 1) (γ 1), xI g (α 1) 49 (zT (γ 1)), xI g (β 1) 49 (zI (γ 1)), cR (ρ 2) (α 2) (β 2) (γ 2), xI g (α 2) 49 (zT (γ 2)), xI g (β 2) 49 (zI (γ 2)), cR (ρ 3) (α 3) (β 3) (γ 3), xI g (α 3) 49 (zT (γ 3)), xI g (β 3) 49 (zI (γ 3)), cT tx ch L, xC g ch 60 T, cTr tr tw od os po re ca, cR tw ta tb τ, xI g ta 49 (zT τ), xI g tb 49 (zI τ), cO od vb n1 n2 nm en]) (wn := fun (u : Unit) => [cX x nw sn tk hs tx tr, cR nw na nb σ, xI g na 49 (zT σ), xI g nb 49 (zI σ), cH hs hq kn, xQ g hq 4 (rq ρ), cR (ρ 0) (α 0) (β 0) (γ 0), xI g (α 0) 49 (zT (γ 0)), xI g (β 0) 49 (zI (γ 0)), cR (ρ 1) (α 1) (β 1) (γ 1), xI g (α 1) 49 (zT (γ 1)), xI g (β 1) 49 (zI (γ 1)), cR (ρ 2) (α 2) (β 2) (γ 2), xI g (α 2) 49 (zT (γ 2)), xI g (β 2) 49 (zI (γ 2)), cR (ρ 3) (α 3) (β 3) (γ 3), xI g (α 3) 49 (zT (γ 3)), xI g (β 3) 49 (zI (γ 3)), cT tx ch L, xC g ch 60 T, cTr tr tw od os po re ca, cR tw ta tb τ, xI g ta 49 (zT τ), xI g tb 49 (zI τ), cO od vb n1 n2 nm en]) F w [0, 1, 2, 3] [4, 5, 6, 7, 8, 9, 10, 11, 12, 13, 14, 15, 16, 17, 18, 19, 20, 21, 22, 23, 24] [21, 22, 23, 24, 0, 1, 2, 3, 4, 5, 6, 7, 8, 9, 10, 11, 12, 13, 14, 15, 16, 17, 18, 19, 20] rfl rfl rfl (fun _ => rfl)
                        (fun hp => va_runV (As := [.int (nI e8)]) (rest := []) F.1 (kX5_isOpen_k l g x nw sn tk hs tx tr na nb σ e8 H.size he8) (cwV 1 hts gL_acts_X5_isOpen rfl rfl rfl ⟨rfl, hd_X5_isOpen⟩ ⟨Nat.le_of_ble_eq_true rfl, Nat.le_of_ble_eq_true rfl⟩) ⟨hp.1, va_recv F.2.2.2.1.1 w.1 (q0 := 0) (ci := 5) rfl rfl, hp.2⟩ rfl rfl hl.1 rfl (lv_room (Nat.le_of_ble_eq_true rfl)) dL_acts_770 ⟨by show _ ≤ (60 : Nat); omega, by show _ ≤ (360 : Nat); omega⟩)
                        (fun r_426 _ H locs h_427 w => ?_)
                      subst h_427
                      refine lv_if_eq (tgt := 811) hx hb dL_acts_773 (by decide) (fun h_428 => ?_) (fun h_428 => ?_)
                      · have h_428 : (zO σ e8) = false := bI_z.mp h_428
                        have hmod : e8 % 48 < 48 := Nat.mod_lt _ (by decide)
                        refine lv_iload hx hb dL_acts_811 (lv_at hl 1 rfl) ?_
                        refine lv_bipush (v := nI 48) hx hb dL_acts_813 (by decide) ?_
                        refine lv_irem hx hb dL_acts_815 ((kc0_eq_f (by omega)).mpr (by omega)) ?_
                        refine ktopi (y := nI (e8 % 48)) (pk_rem (a := e8) (d := 48) (by omega) (by omega) (by omega)) ?_
                        refine lv_iconst (v := nI 1) hx hb dL_acts_816 (by decide) ?_
                        refine lv_iadd hx hb dL_acts_817 ?_
                        refine ktopi (y := nI (e8 % 48 + 1)) (nI_add (e8 % 48) 1) ?_
                        refine W.widen (k := j + 1) (n := 6 * j + 6) (by omega) (by omega) ?_
                        exact JN_425 (e8 % 48 + 1) (by omega) _ _ _ (kW.perm w [0, 1, 2, 3, 4, 5, 6, 7, 8, 9, 10, 11, 12, 13, 14, 15, 16, 17, 18, 19, 20, 21, 22, 23, 24] rfl rfl) (lv_sub hl [0, 1, 2, 3, 4, 5, 6, 7, 8, 9, 10, 11] rfl)
                      · have h_428 : (zO σ e8) = true := bI_o.mp h_428
                        refine lv_aload_n hx hb dL_acts_776 rfl (lv_at hl 9 rfl) ?_
                        refine lv_iload hx hb dL_acts_777 (lv_at hl 1 rfl) ?_
                        refine kcalli (wc := [cX x nw sn tk hs tx tr, cR nw na nb σ, xI g na 49 (zT σ), xI g nb 49 (zI σ)]) (wr := [cH hs hq kn, xQ g hq 4 (rq ρ), cR (ρ 0) (α 0) (β 0) (γ 0), xI g (α 0) 49 (zT (γ 0)), xI g (β 0) 49 (zI (γ 0)), cR (ρ 1) (α 1) (β 1) (γ 1), xI g (α 1) 49 (zT (γ 1)), xI g (β 1) 49 (zI (γ 1)), cR (ρ 2) (α 2) (β 2) (γ 2), xI g (α 2) 49 (zT (γ 2)), xI g (β 2) 49 (zI (γ 2)), cR (ρ 3) (α 3) (β 3) (γ 3), xI g (α 3) 49 (zT (γ 3)), xI g (β 3) 49 (zI (γ 3)), cT tx ch L, xC g ch 60 T, cTr tr tw od os po re ca, cR tw ta tb τ, xI g ta 49 (zT τ), xI g tb 49 (zI τ), cO od vb n1 n2 nm en]) (wn := fun (u : Unit) => [cX x nw sn tk hs tx tr, cR nw na nb σ, xI g na 49 (zT σ), xI g nb 49 (zI σ), cH hs hq kn, xQ g hq 4 (rq ρ), cR (ρ 0) (α 0) (β 0) (γ 0), xI g (α 0) 49 (zT (γ 0)), xI g (β 0) 49 (zI (γ 0)), cR (ρ 1) (α 1) (β 1) (γ 1), xI g (α 1) 49 (zT (γ 1)), xI g (β 1) 49 (zI (γ 1)), cR (ρ 2) (α 2) (β 2) (γ 2), xI g (α 2) 49 (zT (γ 2)), xI g (β 2) 49 (zI (γ 2)), cR (ρ 3) (α 3) (β 3) (γ 3), xI g (α 3) 49 (zT (γ 3)), xI g (β 3) 49 (zI (γ 3)), cT tx ch L, xC g ch 60 T, cTr tr tw od os po re ca, cR tw ta tb τ, xI g ta 49 (zT τ), xI g tb 49 (zI τ), cO od vb n1 n2 nm en]) F w [0, 1, 2, 3] [4, 5, 6, 7, 8, 9, 10, 11, 12, 13, 14, 15, 16, 17, 18, 19, 20, 21, 22, 23, 24] [21, 22, 23, 24, 0, 1, 2, 3, 4, 5, 6, 7, 8, 9, 10, 11, 12, 13, 14, 15, 16, 17, 18, 19, 20] rfl rfl rfl (fun _ => rfl)
                          (fun hp => vx_runSW (As := [.ref x, .int (nI e8)]) (rest := []) F.1 (kL_thingAt l hnl g x nw sn tk hs tx tr na nb σ e8 H.size he8) (vx_cwSW 2 hts gL_acts_L_thingAt rfl rfl rfl hd_L_thingAt ⟨Nat.le_of_ble_eq_true rfl, Nat.le_of_ble_eq_true rfl⟩) hp rfl rfl hl.1 rfl (lv_room (Nat.le_of_ble_eq_true rfl)) dL_acts_779 ⟨by show _ ≤ (60 : Nat); omega, by show _ ≤ (360 : Nat); omega⟩)
                          (fun r_429 _ H locs h_430 w => ?_)
                        subst h_430
                        rcases (show zF σ e8 = false ∨ zF σ e8 = true from by cases zF σ e8; exact Or.inl rfl; exact Or.inr rfl) with h_431 | h_431
                        · skip
                          refine ktopi (y := (-104)) (thV_f h_431) ?_
                          refine lv_bipush (v := (-104)) hx hb dL_acts_782 (by decide) ?_
                          refine lv_icmp_ne (tgt := 791) hx hb dL_acts_784 (by decide) (fun h_432 => ?_) (fun h_432 => ?_)
                          · exact absurd rfl h_432
                          refine lv_iconst (v := nI 1) hx hb dL_acts_787 (by decide) ?_
                          refine lv_goto (tgt := 792) hx hb dL_acts_788 (by decide) ?_
                          refine lv_iload_n hx hb dL_acts_792 rfl (lv_at hl 8 rfl) ?_
                          refine lv_bipush (v := nI 31) hx hb dL_acts_793 (by decide) ?_
                          refine lv_icmp_ge (tgt := 802) hx hb dL_acts_795 (by decide) (fun h_433 => ?_) (fun h_433 => ?_)
                          · have h_433 : hw9 ≥ 31 := (kc_ge_t (by omega) (by omega)).mp h_433
                            refine lv_iconst (v := nI 0) hx hb dL_acts_802 (by decide) ?_
                            refine lv_icmp_ne (tgt := 811) hx hb dL_acts_803 (by decide) (fun h_434 => ?_) (fun h_434 => ?_)
                            rotate_left 1
                            · exact absurd h_434 (by decide)
                            have hmod : e8 % 48 < 48 := Nat.mod_lt _ (by decide)
                            refine lv_iload hx hb dL_acts_811 (lv_at hl 1 rfl) ?_
                            refine lv_bipush (v := nI 48) hx hb dL_acts_813 (by decide) ?_
                            refine lv_irem hx hb dL_acts_815 ((kc0_eq_f (by omega)).mpr (by omega)) ?_
                            refine ktopi (y := nI (e8 % 48)) (pk_rem (a := e8) (d := 48) (by omega) (by omega) (by omega)) ?_
                            refine lv_iconst (v := nI 1) hx hb dL_acts_816 (by decide) ?_
                            refine lv_iadd hx hb dL_acts_817 ?_
                            refine ktopi (y := nI (e8 % 48 + 1)) (nI_add (e8 % 48) 1) ?_
                            exact JN_425 (e8 % 48 + 1) (by omega) _ _ _ (kW.perm w [0, 1, 2, 3, 4, 5, 6, 7, 8, 9, 10, 11, 12, 13, 14, 15, 16, 17, 18, 19, 20, 21, 22, 23, 24] rfl rfl) (lv_sub hl [0, 1, 2, 3, 4, 5, 6, 7, 8, 9, 10, 11] rfl)
                          · have h_433 : hw9 < 31 := (kc_ge_f (by omega) (by omega)).mp h_433
                            refine lv_iconst (v := nI 1) hx hb dL_acts_798 (by decide) ?_
                            refine lv_goto (tgt := 803) hx hb dL_acts_799 (by decide) ?_
                            refine lv_icmp_ne (tgt := 811) hx hb dL_acts_803 (by decide) (fun h_435 => ?_) (fun h_435 => ?_)
                            · exact absurd rfl h_435
                            refine lv_iload hx hb dL_acts_806 (lv_at hl 1 rfl) ?_
                            refine lv_goto (tgt := 818) hx hb dL_acts_808 (by decide) ?_
                            exact JN_425 e8 he8 _ _ _ (kW.perm w [0, 1, 2, 3, 4, 5, 6, 7, 8, 9, 10, 11, 12, 13, 14, 15, 16, 17, 18, 19, 20, 21, 22, 23, 24] rfl rfl) (lv_sub hl [0, 1, 2, 3, 4, 5, 6, 7, 8, 9, 10, 11] rfl)
                        · skip
                          refine ktopi (y := bI (zH σ e8)) (thV_t h_431) ?_
                          refine lv_bipush (v := (-104)) hx hb dL_acts_782 (by decide) ?_
                          refine lv_icmp_ne (tgt := 791) hx hb dL_acts_784 (by decide) (fun h_436 => ?_) (fun h_436 => ?_)
                          rotate_left 1
                          · exact absurd h_436 (bI_m104 _)
                          refine lv_iconst (v := nI 0) hx hb dL_acts_791 (by decide) ?_
                          refine lv_iload_n hx hb dL_acts_792 rfl (lv_at hl 8 rfl) ?_
                          refine lv_bipush (v := nI 31) hx hb dL_acts_793 (by decide) ?_
                          refine lv_icmp_ge (tgt := 802) hx hb dL_acts_795 (by decide) (fun h_437 => ?_) (fun h_437 => ?_)
                          · have h_437 : hw9 ≥ 31 := (kc_ge_t (by omega) (by omega)).mp h_437
                            refine lv_iconst (v := nI 0) hx hb dL_acts_802 (by decide) ?_
                            refine lv_icmp_ne (tgt := 811) hx hb dL_acts_803 (by decide) (fun h_438 => ?_) (fun h_438 => ?_)
                            · exact absurd rfl h_438
                            refine lv_iload hx hb dL_acts_806 (lv_at hl 1 rfl) ?_
                            refine lv_goto (tgt := 818) hx hb dL_acts_808 (by decide) ?_
                            exact JN_425 e8 he8 _ _ _ (kW.perm w [0, 1, 2, 3, 4, 5, 6, 7, 8, 9, 10, 11, 12, 13, 14, 15, 16, 17, 18, 19, 20, 21, 22, 23, 24] rfl rfl) (lv_sub hl [0, 1, 2, 3, 4, 5, 6, 7, 8, 9, 10, 11] rfl)
                          · have h_437 : hw9 < 31 := (kc_ge_f (by omega) (by omega)).mp h_437
                            refine lv_iconst (v := nI 1) hx hb dL_acts_798 (by decide) ?_
                            refine lv_goto (tgt := 803) hx hb dL_acts_799 (by decide) ?_
                            refine lv_icmp_ne (tgt := 811) hx hb dL_acts_803 (by decide) (fun h_439 => ?_) (fun h_439 => ?_)
                            rotate_left 1
                            · exact absurd h_439 (by decide)
                            have hmod : e8 % 48 < 48 := Nat.mod_lt _ (by decide)
                            refine lv_iload hx hb dL_acts_811 (lv_at hl 1 rfl) ?_
                            refine lv_bipush (v := nI 48) hx hb dL_acts_813 (by decide) ?_
                            refine lv_irem hx hb dL_acts_815 ((kc0_eq_f (by omega)).mpr (by omega)) ?_
                            refine ktopi (y := nI (e8 % 48)) (pk_rem (a := e8) (d := 48) (by omega) (by omega) (by omega)) ?_
                            refine lv_iconst (v := nI 1) hx hb dL_acts_816 (by decide) ?_
                            refine lv_iadd hx hb dL_acts_817 ?_
                            refine ktopi (y := nI (e8 % 48 + 1)) (nI_add (e8 % 48) 1) ?_
                            exact JN_425 (e8 % 48 + 1) (by omega) _ _ _ (kW.perm w [0, 1, 2, 3, 4, 5, 6, 7, 8, 9, 10, 11, 12, 13, 14, 15, 16, 17, 18, 19, 20, 21, 22, 23, 24] rfl rfl) (lv_sub hl [0, 1, 2, 3, 4, 5, 6, 7, 8, 9, 10, 11] rfl)
              refine W.widen (k := 0) (n := 6 * 0) (by omega) (by omega) ?_
              exact LP_418 _ 0 d9 (by omega) hdi _ _ _ (Nat.lt_succ_self _) (kW.perm w [0, 1, 2, 3, 4, 5, 6, 7, 8, 9, 10, 11, 12, 13, 14, 15, 16, 17, 18, 19, 20, 21, 22, 23, 24] rfl rfl) (lv_sub hl [0, 7, 1, 2, 3, 4, 5, 6, 8, 9, 10, 11] rfl)
            · have h_168 : hw9 < 26 := (kc_ge_f (by omega) (by omega)).mp h_168
              refine lv_iload_n hx hb dL_acts_588 rfl (lv_at hl 7 rfl) ?_
              refine lv_bipush (v := nI 22) hx hb dL_acts_589 (by decide) ?_
              refine lv_icmp_ge (tgt := 598) hx hb dL_acts_591 (by decide) (fun h_440 => ?_) (fun h_440 => ?_)
              · have h_440 : hw9 ≥ 22 := (kc_ge_t (by omega) (by omega)).mp h_440
                refine lv_iconst (v := nI 0) hx hb dL_acts_598 (by decide) ?_
                refine lv_istore (lv' := [(13, .int (nI 0)), (12, .int (nI (zcnt (kindP σ true) 48))), (11, .int (nI (zcnt (kindP σ false) 48))), (10, .int (tA σ)), (8, .long (zB (zL σ))), (6, .long (zB (zO σ))), (5, .int (bI false)), (4, .int (nI d9)), (3, .int (nI hw9)), (0, .ref x), (1, .int v), (2, .int yv)]) hx hb dL_acts_599 hl (by decide) rfl (fun ls hl => ?_)
                refine lv_iload hx hb dL_acts_601 (lv_at hl 6 rfl) ?_
                refine lv_if_ne (tgt := 636) hx hb dL_acts_603 (by decide) (fun h_441 => ?_) (fun h_441 => ?_)
                · exact absurd rfl h_441
                refine lv_iload hx hb dL_acts_606 (lv_at hl 0 rfl) ?_
                refine lv_if_eq (tgt := 623) hx hb dL_acts_608 (by decide) (fun h_442 => ?_) (fun h_442 => ?_)
                rotate_left 1
                · exact absurd rfl h_442
                refine lv_aload_n hx hb dL_acts_623 rfl (lv_at hl 9 rfl) ?_
                refine lv_iload hx hb dL_acts_624 (lv_at hl 7 rfl) ?_
                refine kcalli (wc := [cX x nw sn tk hs tx tr, cR nw na nb σ, xI g na 49 (zT σ), xI g nb 49 (zI σ)]) (wr := [cH hs hq kn, xQ g hq 4 (rq ρ), cR (ρ 0) (α 0) (β 0) (γ 0), xI g (α 0) 49 (zT (γ 0)), xI g (β 0) 49 (zI (γ 0)), cR (ρ 1) (α 1) (β 1) (γ 1), xI g (α 1) 49 (zT (γ 1)), xI g (β 1) 49 (zI (γ 1)), cR (ρ 2) (α 2) (β 2) (γ 2), xI g (α 2) 49 (zT (γ 2)), xI g (β 2) 49 (zI (γ 2)), cR (ρ 3) (α 3) (β 3) (γ 3), xI g (α 3) 49 (zT (γ 3)), xI g (β 3) 49 (zI (γ 3)), cT tx ch L, xC g ch 60 T, cTr tr tw od os po re ca, cR tw ta tb τ, xI g ta 49 (zT τ), xI g tb 49 (zI τ), cO od vb n1 n2 nm en]) (wn := fun (u : Unit) => [cX x nw sn tk hs tx tr, cR nw na nb σ, xI g na 49 (zT σ), xI g nb 49 (zI σ), cH hs hq kn, xQ g hq 4 (rq ρ), cR (ρ 0) (α 0) (β 0) (γ 0), xI g (α 0) 49 (zT (γ 0)), xI g (β 0) 49 (zI (γ 0)), cR (ρ 1) (α 1) (β 1) (γ 1), xI g (α 1) 49 (zT (γ 1)), xI g (β 1) 49 (zI (γ 1)), cR (ρ 2) (α 2) (β 2) (γ 2), xI g (α 2) 49 (zT (γ 2)), xI g (β 2) 49 (zI (γ 2)), cR (ρ 3) (α 3) (β 3) (γ 3), xI g (α 3) 49 (zT (γ 3)), xI g (β 3) 49 (zI (γ 3)), cT tx ch L, xC g ch 60 T, cTr tr tw od os po re ca, cR tw ta tb τ, xI g ta 49 (zT τ), xI g tb 49 (zI τ), cO od vb n1 n2 nm en]) F w [0, 1, 2, 3] [4, 5, 6, 7, 8, 9, 10, 11, 12, 13, 14, 15, 16, 17, 18, 19, 20, 21, 22, 23, 24] [21, 22, 23, 24, 0, 1, 2, 3, 4, 5, 6, 7, 8, 9, 10, 11, 12, 13, 14, 15, 16, 17, 18, 19, 20] rfl rfl rfl (fun _ => rfl)
                  (fun hp => va_runV (As := [.int (nI d9)]) (rest := []) F.1 (kX5_isSkipped_k l g x nw sn tk hs tx tr na nb σ d9 H.size hdi) (cwV 1 hts gL_acts_X5_isSkipped rfl rfl rfl ⟨rfl, hd_X5_isSkipped⟩ ⟨Nat.le_of_ble_eq_true rfl, Nat.le_of_ble_eq_true rfl⟩) ⟨hp.1, va_recv F.2.2.2.1.1 w.1 (q0 := 0) (ci := 5) rfl rfl, hp.2⟩ rfl rfl hl.1 rfl (lv_room (Nat.le_of_ble_eq_true rfl)) dL_acts_626 ⟨by show _ ≤ (60 : Nat); omega, by show _ ≤ (360 : Nat); omega⟩)
                  (fun r_443 _ H locs h_444 w => ?_)
                subst h_444
                refine lv_if_eq (tgt := 636) hx hb dL_acts_629 (by decide) (fun h_445 => ?_) (fun h_445 => ?_)
                · have h_445 : (zS σ d9) = false := bI_z.mp h_445
                  refine lv_iconst (v := nI 0) hx hb dL_acts_636 (by decide) ?_
                  refine lv_istore (lv' := [(14, .int (nI 0)), (13, .int (nI 0)), (12, .int (nI (zcnt (kindP σ true) 48))), (11, .int (nI (zcnt (kindP σ false) 48))), (10, .int (tA σ)), (8, .long (zB (zL σ))), (6, .long (zB (zO σ))), (5, .int (bI false)), (4, .int (nI d9)), (3, .int (nI hw9)), (0, .ref x), (1, .int v), (2, .int yv)]) hx hb dL_acts_637 hl (by decide) rfl (fun ls hl => ?_)
                  refine lv_iload hx hb dL_acts_639 (lv_at hl 1 rfl) ?_
                  refine lv_if_eq (tgt := 653) hx hb dL_acts_641 (by decide) (fun h_446 => ?_) (fun h_446 => ?_)
                  rotate_left 1
                  · exact absurd rfl h_446
                  refine lv_aload_n hx hb dL_acts_653 rfl (lv_at hl 10 rfl) ?_
                  refine lv_iload hx hb dL_acts_654 (lv_at hl 8 rfl) ?_
                  refine kcalli (wc := [cX x nw sn tk hs tx tr, cR nw na nb σ, xI g na 49 (zT σ), xI g nb 49 (zI σ), cH hs hq kn, xQ g hq 4 (rq ρ), cR (ρ 0) (α 0) (β 0) (γ 0), xI g (α 0) 49 (zT (γ 0)), xI g (β 0) 49 (zI (γ 0)), cR (ρ 1) (α 1) (β 1) (γ 1), xI g (α 1) 49 (zT (γ 1)), xI g (β 1) 49 (zI (γ 1)), cR (ρ 2) (α 2) (β 2) (γ 2), xI g (α 2) 49 (zT (γ 2)), xI g (β 2) 49 (zI (γ 2)), cR (ρ 3) (α 3) (β 3) (γ 3), xI g (α 3) 49 (zT (γ 3)), xI g (β 3) 49 (zI (γ 3))]) (wr := [cT tx ch L, xC g ch 60 T, cTr tr tw od os po re ca, cR tw ta tb τ, xI g ta 49 (zT τ), xI g tb 49 (zI τ), cO od vb n1 n2 nm en]) (wn := fun (u : (Nat → Nat) × (Nat → Nat) × (Nat → Nat)) => [cX x nw sn tk hs tx tr, cR nw na nb (skipS d9 σ), xI g na 49 (zT (skipS d9 σ)), xI g nb 49 (zI (skipS d9 σ)), cH hs hq (pushN kn), xQ g hq 4 (rq u.1), cR (u.1 0) (u.2.1 0) (u.2.2 0) ((pushG γ kn σ) 0), xI g (u.2.1 0) 49 (zT ((pushG γ kn σ) 0)), xI g (u.2.2 0) 49 (zI ((pushG γ kn σ) 0)), cR (u.1 1) (u.2.1 1) (u.2.2 1) ((pushG γ kn σ) 1), xI g (u.2.1 1) 49 (zT ((pushG γ kn σ) 1)), xI g (u.2.2 1) 49 (zI ((pushG γ kn σ) 1)), cR (u.1 2) (u.2.1 2) (u.2.2 2) ((pushG γ kn σ) 2), xI g (u.2.1 2) 49 (zT ((pushG γ kn σ) 2)), xI g (u.2.2 2) 49 (zI ((pushG γ kn σ) 2)), cR (u.1 3) (u.2.1 3) (u.2.2 3) ((pushG γ kn σ) 3), xI g (u.2.1 3) 49 (zT ((pushG γ kn σ) 3)), xI g (u.2.2 3) 49 (zI ((pushG γ kn σ) 3)), cT tx ch L, xC g ch 60 T, cTr tr tw od os po re ca, cR tw ta tb τ, xI g ta 49 (zT τ), xI g tb 49 (zI τ), cO od vb n1 n2 nm en]) F w [0, 1, 2, 3, 4, 5, 6, 7, 8, 9, 10, 11, 12, 13, 14, 15, 16, 17] [18, 19, 20, 21, 22, 23, 24] [7, 8, 9, 10, 11, 12, 13, 14, 15, 16, 17, 18, 19, 20, 21, 22, 23, 24, 0, 1, 2, 3, 4, 5, 6] rfl rfl rfl (fun _ => rfl)
                    (fun hp => vx_runSW (As := [.ref x, .int (nI d9)]) (rest := []) F.1 (kL_turnSkip_k l g x nw sn tk hs tx tr na nb σ hq kn ρ α β γ d9 H.size hdi hkn) (vx_cwSW 2 hts gL_acts_L_turnSkip rfl rfl rfl hd_L_turnSkip ⟨Nat.le_of_ble_eq_true rfl, Nat.le_of_ble_eq_true rfl⟩) hp rfl rfl hl.1 rfl (lv_room (Nat.le_of_ble_eq_true rfl)) dL_acts_656 ⟨by show _ ≤ (60 : Nat); omega, by show _ ≤ (360 : Nat); omega⟩)
                    (fun r_447 u H locs h_448 w => ?_)
                  try dsimp only at h_448
                  obtain ⟨u_449, hu9⟩ : ∃ z, z = u := ⟨_, rfl⟩
                  subst hu9
                  have w : kW g A s [cX x nw sn tk hs tx tr, cR nw na nb (skipS d9 σ), xI g na 49 (zT (skipS d9 σ)), xI g nb 49 (zI (skipS d9 σ)), cH hs hq (pushN kn), xQ g hq 4 (rq u_449.1), cR (u_449.1 0) (u_449.2.1 0) (u_449.2.2 0) ((pushG γ kn σ) 0), xI g (u_449.2.1 0) 49 (zT ((pushG γ kn σ) 0)), xI g (u_449.2.2 0) 49 (zI ((pushG γ kn σ) 0)), cR (u_449.1 1) (u_449.2.1 1) (u_449.2.2 1) ((pushG γ kn σ) 1), xI g (u_449.2.1 1) 49 (zT ((pushG γ kn σ) 1)), xI g (u_449.2.2 1) 49 (zI ((pushG γ kn σ) 1)), cR (u_449.1 2) (u_449.2.1 2) (u_449.2.2 2) ((pushG γ kn σ) 2), xI g (u_449.2.1 2) 49 (zT ((pushG γ kn σ) 2)), xI g (u_449.2.2 2) 49 (zI ((pushG γ kn σ) 2)), cR (u_449.1 3) (u_449.2.1 3) (u_449.2.2 3) ((pushG γ kn σ) 3), xI g (u_449.2.1 3) 49 (zT ((pushG γ kn σ) 3)), xI g (u_449.2.2 3) 49 (zI ((pushG γ kn σ) 3)), cT tx ch L, xC g ch 60 T, cTr tr tw od os po re ca, cR tw ta tb τ, xI g ta 49 (zT τ), xI g tb 49 (zI τ), cO od vb n1 n2 nm en] H locs := w
                  subst h_448
                  refine ktopi (y := nI 1) (by rw [zS_skip_at, h_445]; rfl) ?_
                  refine lv_istore (lv' := [(15, .int (nI 1)), (14, .int (nI 0)), (13, .int (nI 0)), (12, .int (nI (zcnt (kindP σ true) 48))), (11, .int (nI (zcnt (kindP σ false) 48))), (10, .int (tA σ)), (8, .long (zB (zL σ))), (6, .long (zB (zO σ))), (5, .int (bI false)), (4, .int (nI d9)), (3, .int (nI hw9)), (0, .ref x), (1, .int v), (2, .int yv)]) hx hb dL_acts_659 hl (by decide) rfl (fun ls hl => ?_)
                  refine lv_iload hx hb dL_acts_661 (lv_at hl 0 rfl) ?_
                  refine lv_iload hx hb dL_acts_663 (lv_at hl 8 rfl) ?_
                  refine lv_if_eq (tgt := 673) hx hb dL_acts_665 (by decide) (fun h_450 => ?_) (fun h_450 => ?_)
                  rotate_left 1
                  · exact absurd rfl h_450
                  refine lv_iload hx hb dL_acts_673 (lv_at hl 1 rfl) ?_
                  refine lv_if_eq (tgt := 682) hx hb dL_acts_675 (by decide) (fun h_451 => ?_) (fun h_451 => ?_)
                  rotate_left 1
                  · exact absurd rfl h_451
                  refine lv_iconst (v := nI 1) hx hb dL_acts_682 (by decide) ?_
                  refine lv_icmp_ne (tgt := 739) hx hb dL_acts_683 (by decide) (fun h_452 => ?_) (fun h_452 => ?_)
                  · exact absurd rfl h_452
                  refine lv_iload hx hb dL_acts_686 (lv_at hl 8 rfl) ?_
                  refine lv_if_ne (tgt := 716) hx hb dL_acts_688 (by decide) (fun h_453 => ?_) (fun h_453 => ?_)
                  · exact absurd rfl h_453
                  refine lv_iload hx hb dL_acts_691 (lv_at hl 2 rfl) ?_
                  refine lv_if_eq (tgt := 705) hx hb dL_acts_693 (by decide) (fun h_454 => ?_) (fun h_454 => ?_)
                  rotate_left 1
                  · exact absurd rfl h_454
                  refine lv_aload_n hx hb dL_acts_705 rfl (lv_at hl 11 rfl) ?_
                  refine lv_iload hx hb dL_acts_706 (lv_at hl 9 rfl) ?_
                  refine kcalli (wc := [cX x nw sn tk hs tx tr, cR nw na nb (skipS d9 σ), xI g na 49 (zT (skipS d9 σ)), xI g nb 49 (zI (skipS d9 σ))]) (wr := [cH hs hq (pushN kn), xQ g hq 4 (rq u_449.1), cR (u_449.1 0) (u_449.2.1 0) (u_449.2.2 0) ((pushG γ kn σ) 0), xI g (u_449.2.1 0) 49 (zT ((pushG γ kn σ) 0)), xI g (u_449.2.2 0) 49 (zI ((pushG γ kn σ) 0)), cR (u_449.1 1) (u_449.2.1 1) (u_449.2.2 1) ((pushG γ kn σ) 1), xI g (u_449.2.1 1) 49 (zT ((pushG γ kn σ) 1)), xI g (u_449.2.2 1) 49 (zI ((pushG γ kn σ) 1)), cR (u_449.1 2) (u_449.2.1 2) (u_449.2.2 2) ((pushG γ kn σ) 2), xI g (u_449.2.1 2) 49 (zT ((pushG γ kn σ) 2)), xI g (u_449.2.2 2) 49 (zI ((pushG γ kn σ) 2)), cR (u_449.1 3) (u_449.2.1 3) (u_449.2.2 3) ((pushG γ kn σ) 3), xI g (u_449.2.1 3) 49 (zT ((pushG γ kn σ) 3)), xI g (u_449.2.2 3) 49 (zI ((pushG γ kn σ) 3)), cT tx ch L, xC g ch 60 T, cTr tr tw od os po re ca, cR tw ta tb τ, xI g ta 49 (zT τ), xI g tb 49 (zI τ), cO od vb n1 n2 nm en]) (wn := fun (u : Unit) => [cX x nw sn tk hs tx tr, cR nw na nb (skipS d9 σ), xI g na 49 (zT (skipS d9 σ)), xI g nb 49 (zI (skipS d9 σ)), cH hs hq (pushN kn), xQ g hq 4 (rq u_449.1), cR (u_449.1 0) (u_449.2.1 0) (u_449.2.2 0) ((pushG γ kn σ) 0), xI g (u_449.2.1 0) 49 (zT ((pushG γ kn σ) 0)), xI g (u_449.2.2 0) 49 (zI ((pushG γ kn σ) 0)), cR (u_449.1 1) (u_449.2.1 1) (u_449.2.2 1) ((pushG γ kn σ) 1), xI g (u_449.2.1 1) 49 (zT ((pushG γ kn σ) 1)), xI g (u_449.2.2 1) 49 (zI ((pushG γ kn σ) 1)), cR (u_449.1 2) (u_449.2.1 2) (u_449.2.2 2) ((pushG γ kn σ) 2), xI g (u_449.2.1 2) 49 (zT ((pushG γ kn σ) 2)), xI g (u_449.2.2 2) 49 (zI ((pushG γ kn σ) 2)), cR (u_449.1 3) (u_449.2.1 3) (u_449.2.2 3) ((pushG γ kn σ) 3), xI g (u_449.2.1 3) 49 (zT ((pushG γ kn σ) 3)), xI g (u_449.2.2 3) 49 (zI ((pushG γ kn σ) 3)), cT tx ch L, xC g ch 60 T, cTr tr tw od os po re ca, cR tw ta tb τ, xI g ta 49 (zT τ), xI g tb 49 (zI τ), cO od vb n1 n2 nm en]) F w [0, 1, 2, 3] [4, 5, 6, 7, 8, 9, 10, 11, 12, 13, 14, 15, 16, 17, 18, 19, 20, 21, 22, 23, 24] [21, 22, 23, 24, 0, 1, 2, 3, 4, 5, 6, 7, 8, 9, 10, 11, 12, 13, 14, 15, 16, 17, 18, 19, 20] rfl rfl rfl (fun _ => rfl)
                    (fun hp => va_runV (As := [.int (nI d9)]) (rest := []) F.1 (kX5_isSkipped_k l g x nw sn tk hs tx tr na nb (skipS d9 σ) d9 H.size hdi) (cwV 1 hts gL_acts_X5_isSkipped rfl rfl rfl ⟨rfl, hd_X5_isSkipped⟩ ⟨Nat.le_of_ble_eq_true rfl, Nat.le_of_ble_eq_true rfl⟩) ⟨hp.1, va_recv F.2.2.2.1.1 w.1 (q0 := 0) (ci := 5) rfl rfl, hp.2⟩ rfl rfl hl.1 rfl (lv_room (Nat.le_of_ble_eq_true rfl)) dL_acts_708 ⟨by show _ ≤ (60 : Nat); omega, by show _ ≤ (360 : Nat); omega⟩)
                    (fun r_455 _ H locs h_456 w => ?_)
                  subst h_456
                  refine ktopi (y := nI 1) (by rw [zS_skip_at, h_445]; rfl) ?_
                  refine lv_iload hx hb dL_acts_711 (lv_at hl 1 rfl) ?_
                  refine lv_icmp_eq (tgt := 739) hx hb dL_acts_713 (by decide) (fun h_457 => ?_) (fun h_457 => ?_)
                  · exact absurd h_457 (by decide)
                  refine lv_aload_n hx hb dL_acts_716 rfl (lv_at hl 11 rfl) ?_
                  refine kcalll (wc := [cX x nw sn tk hs tx tr, cR nw na nb (skipS d9 σ), xI g na 49 (zT (skipS d9 σ)), xI g nb 49 (zI (skipS d9 σ))]) (wr := [cH hs hq (pushN kn), xQ g hq 4 (rq u_449.1), cR (u_449.1 0) (u_449.2.1 0) (u_449.2.2 0) ((pushG γ kn σ) 0), xI g (u_449.2.1 0) 49 (zT ((pushG γ kn σ) 0)), xI g (u_449.2.2 0) 49 (zI ((pushG γ kn σ) 0)), cR (u_449.1 1) (u_449.2.1 1) (u_449.2.2 1) ((pushG γ kn σ) 1), xI g (u_449.2.1 1) 49 (zT ((pushG γ kn σ) 1)), xI g (u_449.2.2 1) 49 (zI ((pushG γ kn σ) 1)), cR (u_449.1 2) (u_449.2.1 2) (u_449.2.2 2) ((pushG γ kn σ) 2), xI g (u_449.2.1 2) 49 (zT ((pushG γ kn σ) 2)), xI g (u_449.2.2 2) 49 (zI ((pushG γ kn σ) 2)), cR (u_449.1 3) (u_449.2.1 3) (u_449.2.2 3) ((pushG γ kn σ) 3), xI g (u_449.2.1 3) 49 (zT ((pushG γ kn σ) 3)), xI g (u_449.2.2 3) 49 (zI ((pushG γ kn σ) 3)), cT tx ch L, xC g ch 60 T, cTr tr tw od os po re ca, cR tw ta tb τ, xI g ta 49 (zT τ), xI g tb 49 (zI τ), cO od vb n1 n2 nm en]) (wn := fun (u : Unit) => [cX x nw sn tk hs tx tr, cR nw na nb (skipS d9 σ), xI g na 49 (zT (skipS d9 σ)), xI g nb 49 (zI (skipS d9 σ)), cH hs hq (pushN kn), xQ g hq 4 (rq u_449.1), cR (u_449.1 0) (u_449.2.1 0) (u_449.2.2 0) ((pushG γ kn σ) 0), xI g (u_449.2.1 0) 49 (zT ((pushG γ kn σ) 0)), xI g (u_449.2.2 0) 49 (zI ((pushG γ kn σ) 0)), cR (u_449.1 1) (u_449.2.1 1) (u_449.2.2 1) ((pushG γ kn σ) 1), xI g (u_449.2.1 1) 49 (zT ((pushG γ kn σ) 1)), xI g (u_449.2.2 1) 49 (zI ((pushG γ kn σ) 1)), cR (u_449.1 2) (u_449.2.1 2) (u_449.2.2 2) ((pushG γ kn σ) 2), xI g (u_449.2.1 2) 49 (zT ((pushG γ kn σ) 2)), xI g (u_449.2.2 2) 49 (zI ((pushG γ kn σ) 2)), cR (u_449.1 3) (u_449.2.1 3) (u_449.2.2 3) ((pushG γ kn σ) 3), xI g (u_449.2.1 3) 49 (zT ((pushG γ kn σ) 3)), xI g (u_449.2.2 3) 49 (zI ((pushG γ kn σ) 3)), cT tx ch L, xC g ch 60 T, cTr tr tw od os po re ca, cR tw ta tb τ, xI g ta 49 (zT τ), xI g tb 49 (zI τ), cO od vb n1 n2 nm en]) F w [0, 1, 2, 3] [4, 5, 6, 7, 8, 9, 10, 11, 12, 13, 14, 15, 16, 17, 18, 19, 20, 21, 22, 23, 24] [21, 22, 23, 24, 0, 1, 2, 3, 4, 5, 6, 7, 8, 9, 10, 11, 12, 13, 14, 15, 16, 17, 18, 19, 20] rfl rfl rfl (fun _ => rfl)
                    (fun hp => va_runV (As := []) (rest := []) F.1 (kX5_openSet l g x nw sn tk hs tx tr na nb (skipS d9 σ) H.size ) (cwV 0 hts gL_acts_X5_openSet rfl rfl rfl ⟨rfl, hd_X5_openSet⟩ ⟨Nat.le_of_ble_eq_true rfl, Nat.le_of_ble_eq_true rfl⟩) ⟨hp.1, va_recv F.2.2.2.1.1 w.1 (q0 := 0) (ci := 5) rfl rfl, hp.2⟩ rfl rfl hl.1 rfl (lv_room (Nat.le_of_ble_eq_true rfl)) dL_acts_717 ⟨by show _ ≤ (60 : Nat); omega, by show _ ≤ (360 : Nat); omega⟩)
                    (fun r_458 _ H locs h_459 w => ?_)
                  subst h_459
                  refine lv_lload hx hb dL_acts_720 (lv_at hl 7 rfl) ?_
                  refine W.lcmp hx hb dL_acts_722 ?_
                  refine lv_if_ne (tgt := 739) hx hb dL_acts_723 (by decide) (fun h_460 => ?_) (fun h_460 => ?_)
                  · exact absurd (lgc_eq.mpr rfl) h_460
                  refine lv_aload_n hx hb dL_acts_726 rfl (lv_at hl 11 rfl) ?_
                  refine kcalli (wc := [cX x nw sn tk hs tx tr, cR nw na nb (skipS d9 σ), xI g na 49 (zT (skipS d9 σ)), xI g nb 49 (zI (skipS d9 σ))]) (wr := [cH hs hq (pushN kn), xQ g hq 4 (rq u_449.1), cR (u_449.1 0) (u_449.2.1 0) (u_449.2.2 0) ((pushG γ kn σ) 0), xI g (u_449.2.1 0) 49 (zT ((pushG γ kn σ) 0)), xI g (u_449.2.2 0) 49 (zI ((pushG γ kn σ) 0)), cR (u_449.1 1) (u_449.2.1 1) (u_449.2.2 1) ((pushG γ kn σ) 1), xI g (u_449.2.1 1) 49 (zT ((pushG γ kn σ) 1)), xI g (u_449.2.2 1) 49 (zI ((pushG γ kn σ) 1)), cR (u_449.1 2) (u_449.2.1 2) (u_449.2.2 2) ((pushG γ kn σ) 2), xI g (u_449.2.1 2) 49 (zT ((pushG γ kn σ) 2)), xI g (u_449.2.2 2) 49 (zI ((pushG γ kn σ) 2)), cR (u_449.1 3) (u_449.2.1 3) (u_449.2.2 3) ((pushG γ kn σ) 3), xI g (u_449.2.1 3) 49 (zT ((pushG γ kn σ) 3)), xI g (u_449.2.2 3) 49 (zI ((pushG γ kn σ) 3)), cT tx ch L, xC g ch 60 T, cTr tr tw od os po re ca, cR tw ta tb τ, xI g ta 49 (zT τ), xI g tb 49 (zI τ), cO od vb n1 n2 nm en]) (wn := fun (u : Unit) => [cX x nw sn tk hs tx tr, cR nw na nb (skipS d9 σ), xI g na 49 (zT (skipS d9 σ)), xI g nb 49 (zI (skipS d9 σ)), cH hs hq (pushN kn), xQ g hq 4 (rq u_449.1), cR (u_449.1 0) (u_449.2.1 0) (u_449.2.2 0) ((pushG γ kn σ) 0), xI g (u_449.2.1 0) 49 (zT ((pushG γ kn σ) 0)), xI g (u_449.2.2 0) 49 (zI ((pushG γ kn σ) 0)), cR (u_449.1 1) (u_449.2.1 1) (u_449.2.2 1) ((pushG γ kn σ) 1), xI g (u_449.2.1 1) 49 (zT ((pushG γ kn σ) 1)), xI g (u_449.2.2 1) 49 (zI ((pushG γ kn σ) 1)), cR (u_449.1 2) (u_449.2.1 2) (u_449.2.2 2) ((pushG γ kn σ) 2), xI g (u_449.2.1 2) 49 (zT ((pushG γ kn σ) 2)), xI g (u_449.2.2 2) 49 (zI ((pushG γ kn σ) 2)), cR (u_449.1 3) (u_449.2.1 3) (u_449.2.2 3) ((pushG γ kn σ) 3), xI g (u_449.2.1 3) 49 (zT ((pushG γ kn σ) 3)), xI g (u_449.2.2 3) 49 (zI ((pushG γ kn σ) 3)), cT tx ch L, xC g ch 60 T, cTr tr tw od os po re ca, cR tw ta tb τ, xI g ta 49 (zT τ), xI g tb 49 (zI τ), cO od vb n1 n2 nm en]) F w [0, 1, 2, 3] [4, 5, 6, 7, 8, 9, 10, 11, 12, 13, 14, 15, 16, 17, 18, 19, 20, 21, 22, 23, 24] [21, 22, 23, 24, 0, 1, 2, 3, 4, 5, 6, 7, 8, 9, 10, 11, 12, 13, 14, 15, 16, 17, 18, 19, 20] rfl rfl rfl (fun _ => rfl)
                    (fun hp => va_runV (As := []) (rest := []) F.1 (kX5_turnsInAll l g x nw sn tk hs tx tr na nb (skipS d9 σ) H.size ) (cwV 0 hts gL_acts_X5_turnsInAll rfl rfl rfl ⟨rfl, hd_X5_turnsInAll⟩ ⟨Nat.le_of_ble_eq_true rfl, Nat.le_of_ble_eq_true rfl⟩) ⟨hp.1, va_recv F.2.2.2.1.1 w.1 (q0 := 0) (ci := 5) rfl rfl, hp.2⟩ rfl rfl hl.1 rfl (lv_room (Nat.le_of_ble_eq_true rfl)) dL_acts_727 ⟨by show _ ≤ (60 : Nat); omega, by show _ ≤ (360 : Nat); omega⟩)
                    (fun r_461 _ H locs h_462 w => ?_)
                  subst h_462
                  refine ktopi (y := tA σ) (tA_same rfl) ?_
                  refine lv_iload hx hb dL_acts_730 (lv_at hl 5 rfl) ?_
                  refine lv_icmp_ne (tgt := 739) hx hb dL_acts_732 (by decide) (fun h_463 => ?_) (fun h_463 => ?_)
                  · exact absurd rfl h_463
                  refine lv_iconst (v := nI 1) hx hb dL_acts_735 (by decide) ?_
                  refine lv_goto (tgt := 740) hx hb dL_acts_736 (by decide) ?_
                  refine ktopi (y := bI true) (by decide) ?_
                  refine W.widen (k := 60) (n := 360) (by omega) (by omega) ?_
                  subst hA
                  subst hQ
                  exact kretz F w (skipS d9 σ, pushN kn, u_449.1, u_449.2.1, u_449.2.2, pushG γ kn σ, L, T, os, po, re, ca, τ, vb, n1, n2, nm, en) [0, 1, 2, 3, 4, 5, 6, 7, 8, 9, 10, 11, 12, 13, 14, 15, 16, 17, 18, 19, 20, 21, 22, 23, 24] rfl rfl (⟨rfl, actP_1 hL (fun B hB => hB.mono (Nat.le_add_right _ _))⟩) (kz_n _) (Nat.le_of_ble_eq_true rfl) (Nat.le_of_ble_eq_true rfl) dL_acts_740
                · have h_445 : (zS σ d9) = true := bI_o.mp h_445
                  refine lv_iconst (v := nI 1) hx hb dL_acts_632 (by decide) ?_
                  refine lv_goto (tgt := 637) hx hb dL_acts_633 (by decide) ?_
                  refine lv_istore (lv' := [(14, .int (nI 1)), (13, .int (nI 0)), (12, .int (nI (zcnt (kindP σ true) 48))), (11, .int (nI (zcnt (kindP σ false) 48))), (10, .int (tA σ)), (8, .long (zB (zL σ))), (6, .long (zB (zO σ))), (5, .int (bI false)), (4, .int (nI d9)), (3, .int (nI hw9)), (0, .ref x), (1, .int v), (2, .int yv)]) hx hb dL_acts_637 hl (by decide) rfl (fun ls hl => ?_)
                  refine lv_iload hx hb dL_acts_639 (lv_at hl 1 rfl) ?_
                  refine lv_if_eq (tgt := 653) hx hb dL_acts_641 (by decide) (fun h_464 => ?_) (fun h_464 => ?_)
                  rotate_left 1
                  · exact absurd rfl h_464
                  refine lv_aload_n hx hb dL_acts_653 rfl (lv_at hl 10 rfl) ?_
                  refine lv_iload hx hb dL_acts_654 (lv_at hl 8 rfl) ?_
                  refine kcalli (wc := [cX x nw sn tk hs tx tr, cR nw na nb σ, xI g na 49 (zT σ), xI g nb 49 (zI σ), cH hs hq kn, xQ g hq 4 (rq ρ), cR (ρ 0) (α 0) (β 0) (γ 0), xI g (α 0) 49 (zT (γ 0)), xI g (β 0) 49 (zI (γ 0)), cR (ρ 1) (α 1) (β 1) (γ 1), xI g (α 1) 49 (zT (γ 1)), xI g (β 1) 49 (zI (γ 1)), cR (ρ 2) (α 2) (β 2) (γ 2), xI g (α 2) 49 (zT (γ 2)), xI g (β 2) 49 (zI (γ 2)), cR (ρ 3) (α 3) (β 3) (γ 3), xI g (α 3) 49 (zT (γ 3)), xI g (β 3) 49 (zI (γ 3))]) (wr := [cT tx ch L, xC g ch 60 T, cTr tr tw od os po re ca, cR tw ta tb τ, xI g ta 49 (zT τ), xI g tb 49 (zI τ), cO od vb n1 n2 nm en]) (wn := fun (u : (Nat → Nat) × (Nat → Nat) × (Nat → Nat)) => [cX x nw sn tk hs tx tr, cR nw na nb (skipS d9 σ), xI g na 49 (zT (skipS d9 σ)), xI g nb 49 (zI (skipS d9 σ)), cH hs hq (pushN kn), xQ g hq 4 (rq u.1), cR (u.1 0) (u.2.1 0) (u.2.2 0) ((pushG γ kn σ) 0), xI g (u.2.1 0) 49 (zT ((pushG γ kn σ) 0)), xI g (u.2.2 0) 49 (zI ((pushG γ kn σ) 0)), cR (u.1 1) (u.2.1 1) (u.2.2 1) ((pushG γ kn σ) 1), xI g (u.2.1 1) 49 (zT ((pushG γ kn σ) 1)), xI g (u.2.2 1) 49 (zI ((pushG γ kn σ) 1)), cR (u.1 2) (u.2.1 2) (u.2.2 2) ((pushG γ kn σ) 2), xI g (u.2.1 2) 49 (zT ((pushG γ kn σ) 2)), xI g (u.2.2 2) 49 (zI ((pushG γ kn σ) 2)), cR (u.1 3) (u.2.1 3) (u.2.2 3) ((pushG γ kn σ) 3), xI g (u.2.1 3) 49 (zT ((pushG γ kn σ) 3)), xI g (u.2.2 3) 49 (zI ((pushG γ kn σ) 3)), cT tx ch L, xC g ch 60 T, cTr tr tw od os po re ca, cR tw ta tb τ, xI g ta 49 (zT τ), xI g tb 49 (zI τ), cO od vb n1 n2 nm en]) F w [0, 1, 2, 3, 4, 5, 6, 7, 8, 9, 10, 11, 12, 13, 14, 15, 16, 17] [18, 19, 20, 21, 22, 23, 24] [7, 8, 9, 10, 11, 12, 13, 14, 15, 16, 17, 18, 19, 20, 21, 22, 23, 24, 0, 1, 2, 3, 4, 5, 6] rfl rfl rfl (fun _ => rfl)
                    (fun hp => vx_runSW (As := [.ref x, .int (nI d9)]) (rest := []) F.1 (kL_turnSkip_k l g x nw sn tk hs tx tr na nb σ hq kn ρ α β γ d9 H.size hdi hkn) (vx_cwSW 2 hts gL_acts_L_turnSkip rfl rfl rfl hd_L_turnSkip ⟨Nat.le_of_ble_eq_true rfl, Nat.le_of_ble_eq_true rfl⟩) hp rfl rfl hl.1 rfl (lv_room (Nat.le_of_ble_eq_true rfl)) dL_acts_656 ⟨by show _ ≤ (60 : Nat); omega, by show _ ≤ (360 : Nat); omega⟩)
                    (fun r_465 u H locs h_466 w => ?_)
                  try dsimp only at h_466
                  obtain ⟨u_467, hu9⟩ : ∃ z, z = u := ⟨_, rfl⟩
                  subst hu9
                  have w : kW g A s [cX x nw sn tk hs tx tr, cR nw na nb (skipS d9 σ), xI g na 49 (zT (skipS d9 σ)), xI g nb 49 (zI (skipS d9 σ)), cH hs hq (pushN kn), xQ g hq 4 (rq u_467.1), cR (u_467.1 0) (u_467.2.1 0) (u_467.2.2 0) ((pushG γ kn σ) 0), xI g (u_467.2.1 0) 49 (zT ((pushG γ kn σ) 0)), xI g (u_467.2.2 0) 49 (zI ((pushG γ kn σ) 0)), cR (u_467.1 1) (u_467.2.1 1) (u_467.2.2 1) ((pushG γ kn σ) 1), xI g (u_467.2.1 1) 49 (zT ((pushG γ kn σ) 1)), xI g (u_467.2.2 1) 49 (zI ((pushG γ kn σ) 1)), cR (u_467.1 2) (u_467.2.1 2) (u_467.2.2 2) ((pushG γ kn σ) 2), xI g (u_467.2.1 2) 49 (zT ((pushG γ kn σ) 2)), xI g (u_467.2.2 2) 49 (zI ((pushG γ kn σ) 2)), cR (u_467.1 3) (u_467.2.1 3) (u_467.2.2 3) ((pushG γ kn σ) 3), xI g (u_467.2.1 3) 49 (zT ((pushG γ kn σ) 3)), xI g (u_467.2.2 3) 49 (zI ((pushG γ kn σ) 3)), cT tx ch L, xC g ch 60 T, cTr tr tw od os po re ca, cR tw ta tb τ, xI g ta 49 (zT τ), xI g tb 49 (zI τ), cO od vb n1 n2 nm en] H locs := w
                  subst h_466
                  refine ktopi (y := nI 0) (by rw [zS_skip_at, h_445]; rfl) ?_
                  refine lv_istore (lv' := [(15, .int (nI 0)), (14, .int (nI 1)), (13, .int (nI 0)), (12, .int (nI (zcnt (kindP σ true) 48))), (11, .int (nI (zcnt (kindP σ false) 48))), (10, .int (tA σ)), (8, .long (zB (zL σ))), (6, .long (zB (zO σ))), (5, .int (bI false)), (4, .int (nI d9)), (3, .int (nI hw9)), (0, .ref x), (1, .int v), (2, .int yv)]) hx hb dL_acts_659 hl (by decide) rfl (fun ls hl => ?_)
                  refine lv_iload hx hb dL_acts_661 (lv_at hl 0 rfl) ?_
                  refine lv_iload hx hb dL_acts_663 (lv_at hl 8 rfl) ?_
                  refine lv_if_eq (tgt := 673) hx hb dL_acts_665 (by decide) (fun h_468 => ?_) (fun h_468 => ?_)
                  rotate_left 1
                  · exact absurd rfl h_468
                  refine lv_iload hx hb dL_acts_673 (lv_at hl 1 rfl) ?_
                  refine lv_if_eq (tgt := 682) hx hb dL_acts_675 (by decide) (fun h_469 => ?_) (fun h_469 => ?_)
                  · exact absurd h_469 (by decide)
                  refine lv_iconst (v := nI 0) hx hb dL_acts_678 (by decide) ?_
                  refine lv_goto (tgt := 683) hx hb dL_acts_679 (by decide) ?_
                  refine lv_icmp_ne (tgt := 739) hx hb dL_acts_683 (by decide) (fun h_470 => ?_) (fun h_470 => ?_)
                  · exact absurd rfl h_470
                  refine lv_iload hx hb dL_acts_686 (lv_at hl 8 rfl) ?_
                  refine lv_if_ne (tgt := 716) hx hb dL_acts_688 (by decide) (fun h_471 => ?_) (fun h_471 => ?_)
                  · exact absurd rfl h_471
                  refine lv_iload hx hb dL_acts_691 (lv_at hl 2 rfl) ?_
                  refine lv_if_eq (tgt := 705) hx hb dL_acts_693 (by decide) (fun h_472 => ?_) (fun h_472 => ?_)
                  rotate_left 1
                  · exact absurd rfl h_472
                  refine lv_aload_n hx hb dL_acts_705 rfl (lv_at hl 11 rfl) ?_
                  refine lv_iload hx hb dL_acts_706 (lv_at hl 9 rfl) ?_
                  refine kcalli (wc := [cX x nw sn tk hs tx tr, cR nw na nb (skipS d9 σ), xI g na 49 (zT (skipS d9 σ)), xI g nb 49 (zI (skipS d9 σ))]) (wr := [cH hs hq (pushN kn), xQ g hq 4 (rq u_467.1), cR (u_467.1 0) (u_467.2.1 0) (u_467.2.2 0) ((pushG γ kn σ) 0), xI g (u_467.2.1 0) 49 (zT ((pushG γ kn σ) 0)), xI g (u_467.2.2 0) 49 (zI ((pushG γ kn σ) 0)), cR (u_467.1 1) (u_467.2.1 1) (u_467.2.2 1) ((pushG γ kn σ) 1), xI g (u_467.2.1 1) 49 (zT ((pushG γ kn σ) 1)), xI g (u_467.2.2 1) 49 (zI ((pushG γ kn σ) 1)), cR (u_467.1 2) (u_467.2.1 2) (u_467.2.2 2) ((pushG γ kn σ) 2), xI g (u_467.2.1 2) 49 (zT ((pushG γ kn σ) 2)), xI g (u_467.2.2 2) 49 (zI ((pushG γ kn σ) 2)), cR (u_467.1 3) (u_467.2.1 3) (u_467.2.2 3) ((pushG γ kn σ) 3), xI g (u_467.2.1 3) 49 (zT ((pushG γ kn σ) 3)), xI g (u_467.2.2 3) 49 (zI ((pushG γ kn σ) 3)), cT tx ch L, xC g ch 60 T, cTr tr tw od os po re ca, cR tw ta tb τ, xI g ta 49 (zT τ), xI g tb 49 (zI τ), cO od vb n1 n2 nm en]) (wn := fun (u : Unit) => [cX x nw sn tk hs tx tr, cR nw na nb (skipS d9 σ), xI g na 49 (zT (skipS d9 σ)), xI g nb 49 (zI (skipS d9 σ)), cH hs hq (pushN kn), xQ g hq 4 (rq u_467.1), cR (u_467.1 0) (u_467.2.1 0) (u_467.2.2 0) ((pushG γ kn σ) 0), xI g (u_467.2.1 0) 49 (zT ((pushG γ kn σ) 0)), xI g (u_467.2.2 0) 49 (zI ((pushG γ kn σ) 0)), cR (u_467.1 1) (u_467.2.1 1) (u_467.2.2 1) ((pushG γ kn σ) 1), xI g (u_467.2.1 1) 49 (zT ((pushG γ kn σ) 1)), xI g (u_467.2.2 1) 49 (zI ((pushG γ kn σ) 1)), cR (u_467.1 2) (u_467.2.1 2) (u_467.2.2 2) ((pushG γ kn σ) 2), xI g (u_467.2.1 2) 49 (zT ((pushG γ kn σ) 2)), xI g (u_467.2.2 2) 49 (zI ((pushG γ kn σ) 2)), cR (u_467.1 3) (u_467.2.1 3) (u_467.2.2 3) ((pushG γ kn σ) 3), xI g (u_467.2.1 3) 49 (zT ((pushG γ kn σ) 3)), xI g (u_467.2.2 3) 49 (zI ((pushG γ kn σ) 3)), cT tx ch L, xC g ch 60 T, cTr tr tw od os po re ca, cR tw ta tb τ, xI g ta 49 (zT τ), xI g tb 49 (zI τ), cO od vb n1 n2 nm en]) F w [0, 1, 2, 3] [4, 5, 6, 7, 8, 9, 10, 11, 12, 13, 14, 15, 16, 17, 18, 19, 20, 21, 22, 23, 24] [21, 22, 23, 24, 0, 1, 2, 3, 4, 5, 6, 7, 8, 9, 10, 11, 12, 13, 14, 15, 16, 17, 18, 19, 20] rfl rfl rfl (fun _ => rfl)
                    (fun hp => va_runV (As := [.int (nI d9)]) (rest := []) F.1 (kX5_isSkipped_k l g x nw sn tk hs tx tr na nb (skipS d9 σ) d9 H.size hdi) (cwV 1 hts gL_acts_X5_isSkipped rfl rfl rfl ⟨rfl, hd_X5_isSkipped⟩ ⟨Nat.le_of_ble_eq_true rfl, Nat.le_of_ble_eq_true rfl⟩) ⟨hp.1, va_recv F.2.2.2.1.1 w.1 (q0 := 0) (ci := 5) rfl rfl, hp.2⟩ rfl rfl hl.1 rfl (lv_room (Nat.le_of_ble_eq_true rfl)) dL_acts_708 ⟨by show _ ≤ (60 : Nat); omega, by show _ ≤ (360 : Nat); omega⟩)
                    (fun r_473 _ H locs h_474 w => ?_)
                  subst h_474
                  refine ktopi (y := nI 0) (by rw [zS_skip_at, h_445]; rfl) ?_
                  refine lv_iload hx hb dL_acts_711 (lv_at hl 1 rfl) ?_
                  refine lv_icmp_eq (tgt := 739) hx hb dL_acts_713 (by decide) (fun h_475 => ?_) (fun h_475 => ?_)
                  · exact absurd h_475 (by decide)
                  refine lv_aload_n hx hb dL_acts_716 rfl (lv_at hl 11 rfl) ?_
                  refine kcalll (wc := [cX x nw sn tk hs tx tr, cR nw na nb (skipS d9 σ), xI g na 49 (zT (skipS d9 σ)), xI g nb 49 (zI (skipS d9 σ))]) (wr := [cH hs hq (pushN kn), xQ g hq 4 (rq u_467.1), cR (u_467.1 0) (u_467.2.1 0) (u_467.2.2 0) ((pushG γ kn σ) 0), xI g (u_467.2.1 0) 49 (zT ((pushG γ kn σ) 0)), xI g (u_467.2.2 0) 49 (zI ((pushG γ kn σ) 0)), cR (u_467.1 1) (u_467.2.1 1) (u_467.2.2 1) ((pushG γ kn σ) 1), xI g (u_467.2.1 1) 49 (zT ((pushG γ kn σ) 1)), xI g (u_467.2.2 1) 49 (zI ((pushG γ kn σ) 1)), cR (u_467.1 2) (u_467.2.1 2) (u_467.2.2 2) ((pushG γ kn σ) 2), xI g (u_467.2.1 2) 49 (zT ((pushG γ kn σ) 2)), xI g (u_467.2.2 2) 49 (zI ((pushG γ kn σ) 2)), cR (u_467.1 3) (u_467.2.1 3) (u_467.2.2 3) ((pushG γ kn σ) 3), xI g (u_467.2.1 3) 49 (zT ((pushG γ kn σ) 3)), xI g (u_467.2.2 3) 49 (zI ((pushG γ kn σ) 3)), cT tx ch L, xC g ch 60 T, cTr tr tw od os po re ca, cR tw ta tb τ, xI g ta 49 (zT τ), xI g tb 49 (zI τ), cO od vb n1 n2 nm en]) (wn := fun (u : Unit) => [cX x nw sn tk hs tx tr, cR nw na nb (skipS d9 σ), xI g na 49 (zT (skipS d9 σ)), xI g nb 49 (zI (skipS d9 σ)), cH hs hq (pushN kn), xQ g hq 4 (rq u_467.1), cR (u_467.1 0) (u_467.2.1 0) (u_467.2.2 0) ((pushG γ kn σ) 0), xI g (u_467.2.1 0) 49 (zT ((pushG γ kn σ) 0)), xI g (u_467.2.2 0) 49 (zI ((pushG γ kn σ) 0)), cR (u_467.1 1) (u_467.2.1 1) (u_467.2.2 1) ((pushG γ kn σ) 1), xI g (u_467.2.1 1) 49 (zT ((pushG γ kn σ) 1)), xI g (u_467.2.2 1) 49 (zI ((pushG γ kn σ) 1)), cR (u_467.1 2) (u_467.2.1 2) (u_467.2.2 2) ((pushG γ kn σ) 2), xI g (u_467.2.1 2) 49 (zT ((pushG γ kn σ) 2)), xI g (u_467.2.2 2) 49 (zI ((pushG γ kn σ) 2)), cR (u_467.1 3) (u_467.2.1 3) (u_467.2.2 3) ((pushG γ kn σ) 3), xI g (u_467.2.1 3) 49 (zT ((pushG γ kn σ) 3)), xI g (u_467.2.2 3) 49 (zI ((pushG γ kn σ) 3)), cT tx ch L, xC g ch 60 T, cTr tr tw od os po re ca, cR tw ta tb τ, xI g ta 49 (zT τ), xI g tb 49 (zI τ), cO od vb n1 n2 nm en]) F w [0, 1, 2, 3] [4, 5, 6, 7, 8, 9, 10, 11, 12, 13, 14, 15, 16, 17, 18, 19, 20, 21, 22, 23, 24] [21, 22, 23, 24, 0, 1, 2, 3, 4, 5, 6, 7, 8, 9, 10, 11, 12, 13, 14, 15, 16, 17, 18, 19, 20] rfl rfl rfl (fun _ => rfl)
                    (fun hp => va_runV (As := []) (rest := []) F.1 (kX5_openSet l g x nw sn tk hs tx tr na nb (skipS d9 σ) H.size ) (cwV 0 hts gL_acts_X5_openSet rfl rfl rfl ⟨rfl, hd_X5_openSet⟩ ⟨Nat.le_of_ble_eq_true rfl, Nat.le_of_ble_eq_true rfl⟩) ⟨hp.1, va_recv F.2.2.2.1.1 w.1 (q0 := 0) (ci := 5) rfl rfl, hp.2⟩ rfl rfl hl.1 rfl (lv_room (Nat.le_of_ble_eq_true rfl)) dL_acts_717 ⟨by show _ ≤ (60 : Nat); omega, by show _ ≤ (360 : Nat); omega⟩)
                    (fun r_476 _ H locs h_477 w => ?_)
                  subst h_477
                  refine lv_lload hx hb dL_acts_720 (lv_at hl 7 rfl) ?_
                  refine W.lcmp hx hb dL_acts_722 ?_
                  refine lv_if_ne (tgt := 739) hx hb dL_acts_723 (by decide) (fun h_478 => ?_) (fun h_478 => ?_)
                  · exact absurd (lgc_eq.mpr rfl) h_478
                  refine lv_aload_n hx hb dL_acts_726 rfl (lv_at hl 11 rfl) ?_
                  refine kcalli (wc := [cX x nw sn tk hs tx tr, cR nw na nb (skipS d9 σ), xI g na 49 (zT (skipS d9 σ)), xI g nb 49 (zI (skipS d9 σ))]) (wr := [cH hs hq (pushN kn), xQ g hq 4 (rq u_467.1), cR (u_467.1 0) (u_467.2.1 0) (u_467.2.2 0) ((pushG γ kn σ) 0), xI g (u_467.2.1 0) 49 (zT ((pushG γ kn σ) 0)), xI g (u_467.2.2 0) 49 (zI ((pushG γ kn σ) 0)), cR (u_467.1 1) (u_467.2.1 1) (u_467.2.2 1) ((pushG γ kn σ) 1), xI g (u_467.2.1 1) 49 (zT ((pushG γ kn σ) 1)), xI g (u_467.2.2 1) 49 (zI ((pushG γ kn σ) 1)), cR (u_467.1 2) (u_467.2.1 2) (u_467.2.2 2) ((pushG γ kn σ) 2), xI g (u_467.2.1 2) 49 (zT ((pushG γ kn σ) 2)), xI g (u_467.2.2 2) 49 (zI ((pushG γ kn σ) 2)), cR (u_467.1 3) (u_467.2.1 3) (u_467.2.2 3) ((pushG γ kn σ) 3), xI g (u_467.2.1 3) 49 (zT ((pushG γ kn σ) 3)), xI g (u_467.2.2 3) 49 (zI ((pushG γ kn σ) 3)), cT tx ch L, xC g ch 60 T, cTr tr tw od os po re ca, cR tw ta tb τ, xI g ta 49 (zT τ), xI g tb 49 (zI τ), cO od vb n1 n2 nm en]) (wn := fun (u : Unit) => [cX x nw sn tk hs tx tr, cR nw na nb (skipS d9 σ), xI g na 49 (zT (skipS d9 σ)), xI g nb 49 (zI (skipS d9 σ)), cH hs hq (pushN kn), xQ g hq 4 (rq u_467.1), cR (u_467.1 0) (u_467.2.1 0) (u_467.2.2 0) ((pushG γ kn σ) 0), xI g (u_467.2.1 0) 49 (zT ((pushG γ kn σ) 0)), xI g (u_467.2.2 0) 49 (zI ((pushG γ kn σ) 0)), cR (u_467.1 1) (u_467.2.1 1) (u_467.2.2 1) ((pushG γ kn σ) 1), xI g (u_467.2.1 1) 49 (zT ((pushG γ kn σ) 1)), xI g (u_467.2.2 1) 49 (zI ((pushG γ kn σ) 1)), cR (u_467.1 2) (u_467.2.1 2) (u_467.2.2 2) ((pushG γ kn σ) 2), xI g (u_467.2.1 2) 49 (zT ((pushG γ kn σ) 2)), xI g (u_467.2.2 2) 49 (zI ((pushG γ kn σ) 2)), cR (u_467.1 3) (u_467.2.1 3) (u_467.2.2 3) ((pushG γ kn σ) 3), xI g (u_467.2.1 3) 49 (zT ((pushG γ kn σ) 3)), xI g (u_467.2.2 3) 49 (zI ((pushG γ kn σ) 3)), cT tx ch L, xC g ch 60 T, cTr tr tw od os po re ca, cR tw ta tb τ, xI g ta 49 (zT τ), xI g tb 49 (zI τ), cO od vb n1 n2 nm en]) F w [0, 1, 2, 3] [4, 5, 6, 7, 8, 9, 10, 11, 12, 13, 14, 15, 16, 17, 18, 19, 20, 21, 22, 23, 24] [21, 22, 23, 24, 0, 1, 2, 3, 4, 5, 6, 7, 8, 9, 10, 11, 12, 13, 14, 15, 16, 17, 18, 19, 20] rfl rfl rfl (fun _ => rfl)
                    (fun hp => va_runV (As := []) (rest := []) F.1 (kX5_turnsInAll l g x nw sn tk hs tx tr na nb (skipS d9 σ) H.size ) (cwV 0 hts gL_acts_X5_turnsInAll rfl rfl rfl ⟨rfl, hd_X5_turnsInAll⟩ ⟨Nat.le_of_ble_eq_true rfl, Nat.le_of_ble_eq_true rfl⟩) ⟨hp.1, va_recv F.2.2.2.1.1 w.1 (q0 := 0) (ci := 5) rfl rfl, hp.2⟩ rfl rfl hl.1 rfl (lv_room (Nat.le_of_ble_eq_true rfl)) dL_acts_727 ⟨by show _ ≤ (60 : Nat); omega, by show _ ≤ (360 : Nat); omega⟩)
                    (fun r_479 _ H locs h_480 w => ?_)
                  subst h_480
                  refine ktopi (y := tA σ) (tA_same rfl) ?_
                  refine lv_iload hx hb dL_acts_730 (lv_at hl 5 rfl) ?_
                  refine lv_icmp_ne (tgt := 739) hx hb dL_acts_732 (by decide) (fun h_481 => ?_) (fun h_481 => ?_)
                  · exact absurd rfl h_481
                  refine lv_iconst (v := nI 1) hx hb dL_acts_735 (by decide) ?_
                  refine lv_goto (tgt := 740) hx hb dL_acts_736 (by decide) ?_
                  refine ktopi (y := bI true) (by decide) ?_
                  refine W.widen (k := 60) (n := 360) (by omega) (by omega) ?_
                  subst hA
                  subst hQ
                  exact kretz F w (skipS d9 σ, pushN kn, u_467.1, u_467.2.1, u_467.2.2, pushG γ kn σ, L, T, os, po, re, ca, τ, vb, n1, n2, nm, en) [0, 1, 2, 3, 4, 5, 6, 7, 8, 9, 10, 11, 12, 13, 14, 15, 16, 17, 18, 19, 20, 21, 22, 23, 24] rfl rfl (⟨rfl, actP_1 hL (fun B hB => hB.mono (Nat.le_add_right _ _))⟩) (kz_n _) (Nat.le_of_ble_eq_true rfl) (Nat.le_of_ble_eq_true rfl) dL_acts_740
              · have h_440 : hw9 < 22 := (kc_ge_f (by omega) (by omega)).mp h_440
                refine lv_iconst (v := nI 1) hx hb dL_acts_594 (by decide) ?_
                refine lv_goto (tgt := 599) hx hb dL_acts_595 (by decide) ?_
                refine lv_istore (lv' := [(13, .int (nI 1)), (12, .int (nI (zcnt (kindP σ true) 48))), (11, .int (nI (zcnt (kindP σ false) 48))), (10, .int (tA σ)), (8, .long (zB (zL σ))), (6, .long (zB (zO σ))), (5, .int (bI false)), (4, .int (nI d9)), (3, .int (nI hw9)), (0, .ref x), (1, .int v), (2, .int yv)]) hx hb dL_acts_599 hl (by decide) rfl (fun ls hl => ?_)
                refine lv_iload hx hb dL_acts_601 (lv_at hl 6 rfl) ?_
                refine lv_if_ne (tgt := 636) hx hb dL_acts_603 (by decide) (fun h_482 => ?_) (fun h_482 => ?_)
                · exact absurd rfl h_482
                refine lv_iload hx hb dL_acts_606 (lv_at hl 0 rfl) ?_
                refine lv_if_eq (tgt := 623) hx hb dL_acts_608 (by decide) (fun h_483 => ?_) (fun h_483 => ?_)
                · exact absurd h_483 (by decide)
                refine lv_aload_n hx hb dL_acts_611 rfl (lv_at hl 9 rfl) ?_
                refine lv_iload hx hb dL_acts_612 (lv_at hl 7 rfl) ?_
                refine kcalli (wc := [cX x nw sn tk hs tx tr, cR nw na nb σ, xI g na 49 (zT σ), xI g nb 49 (zI σ)]) (wr := [cH hs hq kn, xQ g hq 4 (rq ρ), cR (ρ 0) (α 0) (β 0) (γ 0), xI g (α 0) 49 (zT (γ 0)), xI g (β 0) 49 (zI (γ 0)), cR (ρ 1) (α 1) (β 1) (γ 1), xI g (α 1) 49 (zT (γ 1)), xI g (β 1) 49 (zI (γ 1)), cR (ρ 2) (α 2) (β 2) (γ 2), xI g (α 2) 49 (zT (γ 2)), xI g (β 2) 49 (zI (γ 2)), cR (ρ 3) (α 3) (β 3) (γ 3), xI g (α 3) 49 (zT (γ 3)), xI g (β 3) 49 (zI (γ 3)), cT tx ch L, xC g ch 60 T, cTr tr tw od os po re ca, cR tw ta tb τ, xI g ta 49 (zT τ), xI g tb 49 (zI τ), cO od vb n1 n2 nm en]) (wn := fun (u : Unit) => [cX x nw sn tk hs tx tr, cR nw na nb σ, xI g na 49 (zT σ), xI g nb 49 (zI σ), cH hs hq kn, xQ g hq 4 (rq ρ), cR (ρ 0) (α 0) (β 0) (γ 0), xI g (α 0) 49 (zT (γ 0)), xI g (β 0) 49 (zI (γ 0)), cR (ρ 1) (α 1) (β 1) (γ 1), xI g (α 1) 49 (zT (γ 1)), xI g (β 1) 49 (zI (γ 1)), cR (ρ 2) (α 2) (β 2) (γ 2), xI g (α 2) 49 (zT (γ 2)), xI g (β 2) 49 (zI (γ 2)), cR (ρ 3) (α 3) (β 3) (γ 3), xI g (α 3) 49 (zT (γ 3)), xI g (β 3) 49 (zI (γ 3)), cT tx ch L, xC g ch 60 T, cTr tr tw od os po re ca, cR tw ta tb τ, xI g ta 49 (zT τ), xI g tb 49 (zI τ), cO od vb n1 n2 nm en]) F w [0, 1, 2, 3] [4, 5, 6, 7, 8, 9, 10, 11, 12, 13, 14, 15, 16, 17, 18, 19, 20, 21, 22, 23, 24] [21, 22, 23, 24, 0, 1, 2, 3, 4, 5, 6, 7, 8, 9, 10, 11, 12, 13, 14, 15, 16, 17, 18, 19, 20] rfl rfl rfl (fun _ => rfl)
                  (fun hp => va_runV (As := [.int (nI d9)]) (rest := []) F.1 (kX5_isLocked_k l g x nw sn tk hs tx tr na nb σ d9 H.size hdi) (cwV 1 hts gL_acts_X5_isLocked rfl rfl rfl ⟨rfl, hd_X5_isLocked⟩ ⟨Nat.le_of_ble_eq_true rfl, Nat.le_of_ble_eq_true rfl⟩) ⟨hp.1, va_recv F.2.2.2.1.1 w.1 (q0 := 0) (ci := 5) rfl rfl, hp.2⟩ rfl rfl hl.1 rfl (lv_room (Nat.le_of_ble_eq_true rfl)) dL_acts_614 ⟨by show _ ≤ (60 : Nat); omega, by show _ ≤ (360 : Nat); omega⟩)
                  (fun r_484 _ H locs h_485 w => ?_)
                subst h_485
                refine lv_if_eq (tgt := 636) hx hb dL_acts_617 (by decide) (fun h_486 => ?_) (fun h_486 => ?_)
                · have h_486 : (zL σ d9) = false := bI_z.mp h_486
                  refine lv_iconst (v := nI 0) hx hb dL_acts_636 (by decide) ?_
                  refine lv_istore (lv' := [(14, .int (nI 0)), (13, .int (nI 1)), (12, .int (nI (zcnt (kindP σ true) 48))), (11, .int (nI (zcnt (kindP σ false) 48))), (10, .int (tA σ)), (8, .long (zB (zL σ))), (6, .long (zB (zO σ))), (5, .int (bI false)), (4, .int (nI d9)), (3, .int (nI hw9)), (0, .ref x), (1, .int v), (2, .int yv)]) hx hb dL_acts_637 hl (by decide) rfl (fun ls hl => ?_)
                  refine lv_iload hx hb dL_acts_639 (lv_at hl 1 rfl) ?_
                  refine lv_if_eq (tgt := 653) hx hb dL_acts_641 (by decide) (fun h_487 => ?_) (fun h_487 => ?_)
                  · exact absurd h_487 (by decide)
                  refine lv_aload_n hx hb dL_acts_644 rfl (lv_at hl 10 rfl) ?_
                  refine lv_iload hx hb dL_acts_645 (lv_at hl 8 rfl) ?_
                  refine kcalli (wc := [cX x nw sn tk hs tx tr, cR nw na nb σ, xI g na 49 (zT σ), xI g nb 49 (zI σ), cH hs hq kn, xQ g hq 4 (rq ρ), cR (ρ 0) (α 0) (β 0) (γ 0), xI g (α 0) 49 (zT (γ 0)), xI g (β 0) 49 (zI (γ 0)), cR (ρ 1) (α 1) (β 1) (γ 1), xI g (α 1) 49 (zT (γ 1)), xI g (β 1) 49 (zI (γ 1)), cR (ρ 2) (α 2) (β 2) (γ 2), xI g (α 2) 49 (zT (γ 2)), xI g (β 2) 49 (zI (γ 2)), cR (ρ 3) (α 3) (β 3) (γ 3), xI g (α 3) 49 (zT (γ 3)), xI g (β 3) 49 (zI (γ 3))]) (wr := [cT tx ch L, xC g ch 60 T, cTr tr tw od os po re ca, cR tw ta tb τ, xI g ta 49 (zT τ), xI g tb 49 (zI τ), cO od vb n1 n2 nm en]) (wn := fun (u : (Nat → Nat) × (Nat → Nat) × (Nat → Nat)) => [cX x nw sn tk hs tx tr, cR nw na nb (lockS d9 σ), xI g na 49 (zT (lockS d9 σ)), xI g nb 49 (zI (lockS d9 σ)), cH hs hq (pushN kn), xQ g hq 4 (rq u.1), cR (u.1 0) (u.2.1 0) (u.2.2 0) ((pushG γ kn σ) 0), xI g (u.2.1 0) 49 (zT ((pushG γ kn σ) 0)), xI g (u.2.2 0) 49 (zI ((pushG γ kn σ) 0)), cR (u.1 1) (u.2.1 1) (u.2.2 1) ((pushG γ kn σ) 1), xI g (u.2.1 1) 49 (zT ((pushG γ kn σ) 1)), xI g (u.2.2 1) 49 (zI ((pushG γ kn σ) 1)), cR (u.1 2) (u.2.1 2) (u.2.2 2) ((pushG γ kn σ) 2), xI g (u.2.1 2) 49 (zT ((pushG γ kn σ) 2)), xI g (u.2.2 2) 49 (zI ((pushG γ kn σ) 2)), cR (u.1 3) (u.2.1 3) (u.2.2 3) ((pushG γ kn σ) 3), xI g (u.2.1 3) 49 (zT ((pushG γ kn σ) 3)), xI g (u.2.2 3) 49 (zI ((pushG γ kn σ) 3)), cT tx ch L, xC g ch 60 T, cTr tr tw od os po re ca, cR tw ta tb τ, xI g ta 49 (zT τ), xI g tb 49 (zI τ), cO od vb n1 n2 nm en]) F w [0, 1, 2, 3, 4, 5, 6, 7, 8, 9, 10, 11, 12, 13, 14, 15, 16, 17] [18, 19, 20, 21, 22, 23, 24] [7, 8, 9, 10, 11, 12, 13, 14, 15, 16, 17, 18, 19, 20, 21, 22, 23, 24, 0, 1, 2, 3, 4, 5, 6] rfl rfl rfl (fun _ => rfl)
                    (fun hp => vx_runSW (As := [.ref x, .int (nI d9)]) (rest := []) F.1 (kL_turnLock_k l g x nw sn tk hs tx tr na nb σ hq kn ρ α β γ d9 H.size hdi hkn) (vx_cwSW 2 hts gL_acts_L_turnLock rfl rfl rfl hd_L_turnLock ⟨Nat.le_of_ble_eq_true rfl, Nat.le_of_ble_eq_true rfl⟩) hp rfl rfl hl.1 rfl (lv_room (Nat.le_of_ble_eq_true rfl)) dL_acts_647 ⟨by show _ ≤ (60 : Nat); omega, by show _ ≤ (360 : Nat); omega⟩)
                    (fun r_488 u H locs h_489 w => ?_)
                  try dsimp only at h_489
                  obtain ⟨u_490, hu9⟩ : ∃ z, z = u := ⟨_, rfl⟩
                  subst hu9
                  have w : kW g A s [cX x nw sn tk hs tx tr, cR nw na nb (lockS d9 σ), xI g na 49 (zT (lockS d9 σ)), xI g nb 49 (zI (lockS d9 σ)), cH hs hq (pushN kn), xQ g hq 4 (rq u_490.1), cR (u_490.1 0) (u_490.2.1 0) (u_490.2.2 0) ((pushG γ kn σ) 0), xI g (u_490.2.1 0) 49 (zT ((pushG γ kn σ) 0)), xI g (u_490.2.2 0) 49 (zI ((pushG γ kn σ) 0)), cR (u_490.1 1) (u_490.2.1 1) (u_490.2.2 1) ((pushG γ kn σ) 1), xI g (u_490.2.1 1) 49 (zT ((pushG γ kn σ) 1)), xI g (u_490.2.2 1) 49 (zI ((pushG γ kn σ) 1)), cR (u_490.1 2) (u_490.2.1 2) (u_490.2.2 2) ((pushG γ kn σ) 2), xI g (u_490.2.1 2) 49 (zT ((pushG γ kn σ) 2)), xI g (u_490.2.2 2) 49 (zI ((pushG γ kn σ) 2)), cR (u_490.1 3) (u_490.2.1 3) (u_490.2.2 3) ((pushG γ kn σ) 3), xI g (u_490.2.1 3) 49 (zT ((pushG γ kn σ) 3)), xI g (u_490.2.2 3) 49 (zI ((pushG γ kn σ) 3)), cT tx ch L, xC g ch 60 T, cTr tr tw od os po re ca, cR tw ta tb τ, xI g ta 49 (zT τ), xI g tb 49 (zI τ), cO od vb n1 n2 nm en] H locs := w
                  subst h_489
                  refine ktopi (y := nI 1) (by rw [zL_lock_at, h_486]; rfl) ?_
                  refine lv_goto (tgt := 659) hx hb dL_acts_650 (by decide) ?_
                  refine lv_istore (lv' := [(15, .int (nI 1)), (14, .int (nI 0)), (13, .int (nI 1)), (12, .int (nI (zcnt (kindP σ true) 48))), (11, .int (nI (zcnt (kindP σ false) 48))), (10, .int (tA σ)), (8, .long (zB (zL σ))), (6, .long (zB (zO σ))), (5, .int (bI false)), (4, .int (nI d9)), (3, .int (nI hw9)), (0, .ref x), (1, .int v), (2, .int yv)]) hx hb dL_acts_659 hl (by decide) rfl (fun ls hl => ?_)
                  refine lv_iload hx hb dL_acts_661 (lv_at hl 0 rfl) ?_
                  refine lv_iload hx hb dL_acts_663 (lv_at hl 8 rfl) ?_
                  refine lv_if_eq (tgt := 673) hx hb dL_acts_665 (by decide) (fun h_491 => ?_) (fun h_491 => ?_)
                  rotate_left 1
                  · exact absurd rfl h_491
                  refine lv_iload hx hb dL_acts_673 (lv_at hl 1 rfl) ?_
                  refine lv_if_eq (tgt := 682) hx hb dL_acts_675 (by decide) (fun h_492 => ?_) (fun h_492 => ?_)
                  rotate_left 1
                  · exact absurd rfl h_492
                  refine lv_iconst (v := nI 1) hx hb dL_acts_682 (by decide) ?_
                  refine lv_icmp_ne (tgt := 739) hx hb dL_acts_683 (by decide) (fun h_493 => ?_) (fun h_493 => ?_)
                  · exact absurd rfl h_493
                  refine lv_iload hx hb dL_acts_686 (lv_at hl 8 rfl) ?_
                  refine lv_if_ne (tgt := 716) hx hb dL_acts_688 (by decide) (fun h_494 => ?_) (fun h_494 => ?_)
                  · exact absurd rfl h_494
                  refine lv_iload hx hb dL_acts_691 (lv_at hl 2 rfl) ?_
                  refine lv_if_eq (tgt := 705) hx hb dL_acts_693 (by decide) (fun h_495 => ?_) (fun h_495 => ?_)
                  · exact absurd h_495 (by decide)
                  refine lv_aload_n hx hb dL_acts_696 rfl (lv_at hl 11 rfl) ?_
                  refine lv_iload hx hb dL_acts_697 (lv_at hl 9 rfl) ?_
                  refine kcalli (wc := [cX x nw sn tk hs tx tr, cR nw na nb (lockS d9 σ), xI g na 49 (zT (lockS d9 σ)), xI g nb 49 (zI (lockS d9 σ))]) (wr := [cH hs hq (pushN kn), xQ g hq 4 (rq u_490.1), cR (u_490.1 0) (u_490.2.1 0) (u_490.2.2 0) ((pushG γ kn σ) 0), xI g (u_490.2.1 0) 49 (zT ((pushG γ kn σ) 0)), xI g (u_490.2.2 0) 49 (zI ((pushG γ kn σ) 0)), cR (u_490.1 1) (u_490.2.1 1) (u_490.2.2 1) ((pushG γ kn σ) 1), xI g (u_490.2.1 1) 49 (zT ((pushG γ kn σ) 1)), xI g (u_490.2.2 1) 49 (zI ((pushG γ kn σ) 1)), cR (u_490.1 2) (u_490.2.1 2) (u_490.2.2 2) ((pushG γ kn σ) 2), xI g (u_490.2.1 2) 49 (zT ((pushG γ kn σ) 2)), xI g (u_490.2.2 2) 49 (zI ((pushG γ kn σ) 2)), cR (u_490.1 3) (u_490.2.1 3) (u_490.2.2 3) ((pushG γ kn σ) 3), xI g (u_490.2.1 3) 49 (zT ((pushG γ kn σ) 3)), xI g (u_490.2.2 3) 49 (zI ((pushG γ kn σ) 3)), cT tx ch L, xC g ch 60 T, cTr tr tw od os po re ca, cR tw ta tb τ, xI g ta 49 (zT τ), xI g tb 49 (zI τ), cO od vb n1 n2 nm en]) (wn := fun (u : Unit) => [cX x nw sn tk hs tx tr, cR nw na nb (lockS d9 σ), xI g na 49 (zT (lockS d9 σ)), xI g nb 49 (zI (lockS d9 σ)), cH hs hq (pushN kn), xQ g hq 4 (rq u_490.1), cR (u_490.1 0) (u_490.2.1 0) (u_490.2.2 0) ((pushG γ kn σ) 0), xI g (u_490.2.1 0) 49 (zT ((pushG γ kn σ) 0)), xI g (u_490.2.2 0) 49 (zI ((pushG γ kn σ) 0)), cR (u_490.1 1) (u_490.2.1 1) (u_490.2.2 1) ((pushG γ kn σ) 1), xI g (u_490.2.1 1) 49 (zT ((pushG γ kn σ) 1)), xI g (u_490.2.2 1) 49 (zI ((pushG γ kn σ) 1)), cR (u_490.1 2) (u_490.2.1 2) (u_490.2.2 2) ((pushG γ kn σ) 2), xI g (u_490.2.1 2) 49 (zT ((pushG γ kn σ) 2)), xI g (u_490.2.2 2) 49 (zI ((pushG γ kn σ) 2)), cR (u_490.1 3) (u_490.2.1 3) (u_490.2.2 3) ((pushG γ kn σ) 3), xI g (u_490.2.1 3) 49 (zT ((pushG γ kn σ) 3)), xI g (u_490.2.2 3) 49 (zI ((pushG γ kn σ) 3)), cT tx ch L, xC g ch 60 T, cTr tr tw od os po re ca, cR tw ta tb τ, xI g ta 49 (zT τ), xI g tb 49 (zI τ), cO od vb n1 n2 nm en]) F w [0, 1, 2, 3] [4, 5, 6, 7, 8, 9, 10, 11, 12, 13, 14, 15, 16, 17, 18, 19, 20, 21, 22, 23, 24] [21, 22, 23, 24, 0, 1, 2, 3, 4, 5, 6, 7, 8, 9, 10, 11, 12, 13, 14, 15, 16, 17, 18, 19, 20] rfl rfl rfl (fun _ => rfl)
                    (fun hp => va_runV (As := [.int (nI d9)]) (rest := []) F.1 (kX5_isLocked_k l g x nw sn tk hs tx tr na nb (lockS d9 σ) d9 H.size hdi) (cwV 1 hts gL_acts_X5_isLocked rfl rfl rfl ⟨rfl, hd_X5_isLocked⟩ ⟨Nat.le_of_ble_eq_true rfl, Nat.le_of_ble_eq_true rfl⟩) ⟨hp.1, va_recv F.2.2.2.1.1 w.1 (q0 := 0) (ci := 5) rfl rfl, hp.2⟩ rfl rfl hl.1 rfl (lv_room (Nat.le_of_ble_eq_true rfl)) dL_acts_699 ⟨by show _ ≤ (60 : Nat); omega, by show _ ≤ (360 : Nat); omega⟩)
                    (fun r_496 _ H locs h_497 w => ?_)
                  subst h_497
                  refine ktopi (y := nI 1) (by rw [zL_lock_at, h_486]; rfl) ?_
                  refine lv_goto (tgt := 711) hx hb dL_acts_702 (by decide) ?_
                  refine lv_iload hx hb dL_acts_711 (lv_at hl 1 rfl) ?_
                  refine lv_icmp_eq (tgt := 739) hx hb dL_acts_713 (by decide) (fun h_498 => ?_) (fun h_498 => ?_)
                  · exact absurd h_498 (by decide)
                  refine lv_aload_n hx hb dL_acts_716 rfl (lv_at hl 11 rfl) ?_
                  refine kcalll (wc := [cX x nw sn tk hs tx tr, cR nw na nb (lockS d9 σ), xI g na 49 (zT (lockS d9 σ)), xI g nb 49 (zI (lockS d9 σ))]) (wr := [cH hs hq (pushN kn), xQ g hq 4 (rq u_490.1), cR (u_490.1 0) (u_490.2.1 0) (u_490.2.2 0) ((pushG γ kn σ) 0), xI g (u_490.2.1 0) 49 (zT ((pushG γ kn σ) 0)), xI g (u_490.2.2 0) 49 (zI ((pushG γ kn σ) 0)), cR (u_490.1 1) (u_490.2.1 1) (u_490.2.2 1) ((pushG γ kn σ) 1), xI g (u_490.2.1 1) 49 (zT ((pushG γ kn σ) 1)), xI g (u_490.2.2 1) 49 (zI ((pushG γ kn σ) 1)), cR (u_490.1 2) (u_490.2.1 2) (u_490.2.2 2) ((pushG γ kn σ) 2), xI g (u_490.2.1 2) 49 (zT ((pushG γ kn σ) 2)), xI g (u_490.2.2 2) 49 (zI ((pushG γ kn σ) 2)), cR (u_490.1 3) (u_490.2.1 3) (u_490.2.2 3) ((pushG γ kn σ) 3), xI g (u_490.2.1 3) 49 (zT ((pushG γ kn σ) 3)), xI g (u_490.2.2 3) 49 (zI ((pushG γ kn σ) 3)), cT tx ch L, xC g ch 60 T, cTr tr tw od os po re ca, cR tw ta tb τ, xI g ta 49 (zT τ), xI g tb 49 (zI τ), cO od vb n1 n2 nm en]) (wn := fun (u : Unit) => [cX x nw sn tk hs tx tr, cR nw na nb (lockS d9 σ), xI g na 49 (zT (lockS d9 σ)), xI g nb 49 (zI (lockS d9 σ)), cH hs hq (pushN kn), xQ g hq 4 (rq u_490.1), cR (u_490.1 0) (u_490.2.1 0) (u_490.2.2 0) ((pushG γ kn σ) 0), xI g (u_490.2.1 0) 49 (zT ((pushG γ kn σ) 0)), xI g (u_490.2.2 0) 49 (zI ((pushG γ kn σ) 0)), cR (u_490.1 1) (u_490.2.1 1) (u_490.2.2 1) ((pushG γ kn σ) 1), xI g (u_490.2.1 1) 49 (zT ((pushG γ kn σ) 1)), xI g (u_490.2.2 1) 49 (zI ((pushG γ kn σ) 1)), cR (u_490.1 2) (u_490.2.1 2) (u_490.2.2 2) ((pushG γ kn σ) 2), xI g (u_490.2.1 2) 49 (zT ((pushG γ kn σ) 2)), xI g (u_490.2.2 2) 49 (zI ((pushG γ kn σ) 2)), cR (u_490.1 3) (u_490.2.1 3) (u_490.2.2 3) ((pushG γ kn σ) 3), xI g (u_490.2.1 3) 49 (zT ((pushG γ kn σ) 3)), xI g (u_490.2.2 3) 49 (zI ((pushG γ kn σ) 3)), cT tx ch L, xC g ch 60 T, cTr tr tw od os po re ca, cR tw ta tb τ, xI g ta 49 (zT τ), xI g tb 49 (zI τ), cO od vb n1 n2 nm en]) F w [0, 1, 2, 3] [4, 5, 6, 7, 8, 9, 10, 11, 12, 13, 14, 15, 16, 17, 18, 19, 20, 21, 22, 23, 24] [21, 22, 23, 24, 0, 1, 2, 3, 4, 5, 6, 7, 8, 9, 10, 11, 12, 13, 14, 15, 16, 17, 18, 19, 20] rfl rfl rfl (fun _ => rfl)
                    (fun hp => va_runV (As := []) (rest := []) F.1 (kX5_openSet l g x nw sn tk hs tx tr na nb (lockS d9 σ) H.size ) (cwV 0 hts gL_acts_X5_openSet rfl rfl rfl ⟨rfl, hd_X5_openSet⟩ ⟨Nat.le_of_ble_eq_true rfl, Nat.le_of_ble_eq_true rfl⟩) ⟨hp.1, va_recv F.2.2.2.1.1 w.1 (q0 := 0) (ci := 5) rfl rfl, hp.2⟩ rfl rfl hl.1 rfl (lv_room (Nat.le_of_ble_eq_true rfl)) dL_acts_717 ⟨by show _ ≤ (60 : Nat); omega, by show _ ≤ (360 : Nat); omega⟩)
                    (fun r_499 _ H locs h_500 w => ?_)
                  subst h_500
                  refine lv_lload hx hb dL_acts_720 (lv_at hl 7 rfl) ?_
                  refine W.lcmp hx hb dL_acts_722 ?_
                  refine lv_if_ne (tgt := 739) hx hb dL_acts_723 (by decide) (fun h_501 => ?_) (fun h_501 => ?_)
                  · exact absurd (lgc_eq.mpr rfl) h_501
                  refine lv_aload_n hx hb dL_acts_726 rfl (lv_at hl 11 rfl) ?_
                  refine kcalli (wc := [cX x nw sn tk hs tx tr, cR nw na nb (lockS d9 σ), xI g na 49 (zT (lockS d9 σ)), xI g nb 49 (zI (lockS d9 σ))]) (wr := [cH hs hq (pushN kn), xQ g hq 4 (rq u_490.1), cR (u_490.1 0) (u_490.2.1 0) (u_490.2.2 0) ((pushG γ kn σ) 0), xI g (u_490.2.1 0) 49 (zT ((pushG γ kn σ) 0)), xI g (u_490.2.2 0) 49 (zI ((pushG γ kn σ) 0)), cR (u_490.1 1) (u_490.2.1 1) (u_490.2.2 1) ((pushG γ kn σ) 1), xI g (u_490.2.1 1) 49 (zT ((pushG γ kn σ) 1)), xI g (u_490.2.2 1) 49 (zI ((pushG γ kn σ) 1)), cR (u_490.1 2) (u_490.2.1 2) (u_490.2.2 2) ((pushG γ kn σ) 2), xI g (u_490.2.1 2) 49 (zT ((pushG γ kn σ) 2)), xI g (u_490.2.2 2) 49 (zI ((pushG γ kn σ) 2)), cR (u_490.1 3) (u_490.2.1 3) (u_490.2.2 3) ((pushG γ kn σ) 3), xI g (u_490.2.1 3) 49 (zT ((pushG γ kn σ) 3)), xI g (u_490.2.2 3) 49 (zI ((pushG γ kn σ) 3)), cT tx ch L, xC g ch 60 T, cTr tr tw od os po re ca, cR tw ta tb τ, xI g ta 49 (zT τ), xI g tb 49 (zI τ), cO od vb n1 n2 nm en]) (wn := fun (u : Unit) => [cX x nw sn tk hs tx tr, cR nw na nb (lockS d9 σ), xI g na 49 (zT (lockS d9 σ)), xI g nb 49 (zI (lockS d9 σ)), cH hs hq (pushN kn), xQ g hq 4 (rq u_490.1), cR (u_490.1 0) (u_490.2.1 0) (u_490.2.2 0) ((pushG γ kn σ) 0), xI g (u_490.2.1 0) 49 (zT ((pushG γ kn σ) 0)), xI g (u_490.2.2 0) 49 (zI ((pushG γ kn σ) 0)), cR (u_490.1 1) (u_490.2.1 1) (u_490.2.2 1) ((pushG γ kn σ) 1), xI g (u_490.2.1 1) 49 (zT ((pushG γ kn σ) 1)), xI g (u_490.2.2 1) 49 (zI ((pushG γ kn σ) 1)), cR (u_490.1 2) (u_490.2.1 2) (u_490.2.2 2) ((pushG γ kn σ) 2), xI g (u_490.2.1 2) 49 (zT ((pushG γ kn σ) 2)), xI g (u_490.2.2 2) 49 (zI ((pushG γ kn σ) 2)), cR (u_490.1 3) (u_490.2.1 3) (u_490.2.2 3) ((pushG γ kn σ) 3), xI g (u_490.2.1 3) 49 (zT ((pushG γ kn σ) 3)), xI g (u_490.2.2 3) 49 (zI ((pushG γ kn σ) 3)), cT tx ch L, xC g ch 60 T, cTr tr tw od os po re ca, cR tw ta tb τ, xI g ta 49 (zT τ), xI g tb 49 (zI τ), cO od vb n1 n2 nm en]) F w [0, 1, 2, 3] [4, 5, 6, 7, 8, 9, 10, 11, 12, 13, 14, 15, 16, 17, 18, 19, 20, 21, 22, 23, 24] [21, 22, 23, 24, 0, 1, 2, 3, 4, 5, 6, 7, 8, 9, 10, 11, 12, 13, 14, 15, 16, 17, 18, 19, 20] rfl rfl rfl (fun _ => rfl)
                    (fun hp => va_runV (As := []) (rest := []) F.1 (kX5_turnsInAll l g x nw sn tk hs tx tr na nb (lockS d9 σ) H.size ) (cwV 0 hts gL_acts_X5_turnsInAll rfl rfl rfl ⟨rfl, hd_X5_turnsInAll⟩ ⟨Nat.le_of_ble_eq_true rfl, Nat.le_of_ble_eq_true rfl⟩) ⟨hp.1, va_recv F.2.2.2.1.1 w.1 (q0 := 0) (ci := 5) rfl rfl, hp.2⟩ rfl rfl hl.1 rfl (lv_room (Nat.le_of_ble_eq_true rfl)) dL_acts_727 ⟨by show _ ≤ (60 : Nat); omega, by show _ ≤ (360 : Nat); omega⟩)
                    (fun r_502 _ H locs h_503 w => ?_)
                  subst h_503
                  refine ktopi (y := tA σ) (tA_same rfl) ?_
                  refine lv_iload hx hb dL_acts_730 (lv_at hl 5 rfl) ?_
                  refine lv_icmp_ne (tgt := 739) hx hb dL_acts_732 (by decide) (fun h_504 => ?_) (fun h_504 => ?_)
                  · exact absurd rfl h_504
                  refine lv_iconst (v := nI 1) hx hb dL_acts_735 (by decide) ?_
                  refine lv_goto (tgt := 740) hx hb dL_acts_736 (by decide) ?_
                  refine ktopi (y := bI true) (by decide) ?_
                  refine W.widen (k := 60) (n := 360) (by omega) (by omega) ?_
                  subst hA
                  subst hQ
                  exact kretz F w (lockS d9 σ, pushN kn, u_490.1, u_490.2.1, u_490.2.2, pushG γ kn σ, L, T, os, po, re, ca, τ, vb, n1, n2, nm, en) [0, 1, 2, 3, 4, 5, 6, 7, 8, 9, 10, 11, 12, 13, 14, 15, 16, 17, 18, 19, 20, 21, 22, 23, 24] rfl rfl (⟨rfl, actP_1 hL (fun B hB => hB.mono (Nat.le_add_right _ _))⟩) (kz_n _) (Nat.le_of_ble_eq_true rfl) (Nat.le_of_ble_eq_true rfl) dL_acts_740
                · have h_486 : (zL σ d9) = true := bI_o.mp h_486
                  refine lv_goto (tgt := 632) hx hb dL_acts_620 (by decide) ?_
                  refine lv_iconst (v := nI 1) hx hb dL_acts_632 (by decide) ?_
                  refine lv_goto (tgt := 637) hx hb dL_acts_633 (by decide) ?_
                  refine lv_istore (lv' := [(14, .int (nI 1)), (13, .int (nI 1)), (12, .int (nI (zcnt (kindP σ true) 48))), (11, .int (nI (zcnt (kindP σ false) 48))), (10, .int (tA σ)), (8, .long (zB (zL σ))), (6, .long (zB (zO σ))), (5, .int (bI false)), (4, .int (nI d9)), (3, .int (nI hw9)), (0, .ref x), (1, .int v), (2, .int yv)]) hx hb dL_acts_637 hl (by decide) rfl (fun ls hl => ?_)
                  refine lv_iload hx hb dL_acts_639 (lv_at hl 1 rfl) ?_
                  refine lv_if_eq (tgt := 653) hx hb dL_acts_641 (by decide) (fun h_505 => ?_) (fun h_505 => ?_)
                  · exact absurd h_505 (by decide)
                  refine lv_aload_n hx hb dL_acts_644 rfl (lv_at hl 10 rfl) ?_
                  refine lv_iload hx hb dL_acts_645 (lv_at hl 8 rfl) ?_
                  refine kcalli (wc := [cX x nw sn tk hs tx tr, cR nw na nb σ, xI g na 49 (zT σ), xI g nb 49 (zI σ), cH hs hq kn, xQ g hq 4 (rq ρ), cR (ρ 0) (α 0) (β 0) (γ 0), xI g (α 0) 49 (zT (γ 0)), xI g (β 0) 49 (zI (γ 0)), cR (ρ 1) (α 1) (β 1) (γ 1), xI g (α 1) 49 (zT (γ 1)), xI g (β 1) 49 (zI (γ 1)), cR (ρ 2) (α 2) (β 2) (γ 2), xI g (α 2) 49 (zT (γ 2)), xI g (β 2) 49 (zI (γ 2)), cR (ρ 3) (α 3) (β 3) (γ 3), xI g (α 3) 49 (zT (γ 3)), xI g (β 3) 49 (zI (γ 3))]) (wr := [cT tx ch L, xC g ch 60 T, cTr tr tw od os po re ca, cR tw ta tb τ, xI g ta 49 (zT τ), xI g tb 49 (zI τ), cO od vb n1 n2 nm en]) (wn := fun (u : (Nat → Nat) × (Nat → Nat) × (Nat → Nat)) => [cX x nw sn tk hs tx tr, cR nw na nb (lockS d9 σ), xI g na 49 (zT (lockS d9 σ)), xI g nb 49 (zI (lockS d9 σ)), cH hs hq (pushN kn), xQ g hq 4 (rq u.1), cR (u.1 0) (u.2.1 0) (u.2.2 0) ((pushG γ kn σ) 0), xI g (u.2.1 0) 49 (zT ((pushG γ kn σ) 0)), xI g (u.2.2 0) 49 (zI ((pushG γ kn σ) 0)), cR (u.1 1) (u.2.1 1) (u.2.2 1) ((pushG γ kn σ) 1), xI g (u.2.1 1) 49 (zT ((pushG γ kn σ) 1)), xI g (u.2.2 1) 49 (zI ((pushG γ kn σ) 1)), cR (u.1 2) (u.2.1 2) (u.2.2 2) ((pushG γ kn σ) 2), xI g (u.2.1 2) 49 (zT ((pushG γ kn σ) 2)), xI g (u.2.2 2) 49 (zI ((pushG γ kn σ) 2)), cR (u.1 3) (u.2.1 3) (u.2.2 3) ((pushG γ kn σ) 3), xI g (u.2.1 3) 49 (zT ((pushG γ kn σ) 3)), xI g (u.2.2 3) 49 (zI ((pushG γ kn σ) 3)), cT tx ch L, xC g ch 60 T, cTr tr tw od os po re ca, cR tw ta tb τ, xI g ta 49 (zT τ), xI g tb 49 (zI τ), cO od vb n1 n2 nm en]) F w [0, 1, 2, 3, 4, 5, 6, 7, 8, 9, 10, 11, 12, 13, 14, 15, 16, 17] [18, 19, 20, 21, 22, 23, 24] [7, 8, 9, 10, 11, 12, 13, 14, 15, 16, 17, 18, 19, 20, 21, 22, 23, 24, 0, 1, 2, 3, 4, 5, 6] rfl rfl rfl (fun _ => rfl)
                    (fun hp => vx_runSW (As := [.ref x, .int (nI d9)]) (rest := []) F.1 (kL_turnLock_k l g x nw sn tk hs tx tr na nb σ hq kn ρ α β γ d9 H.size hdi hkn) (vx_cwSW 2 hts gL_acts_L_turnLock rfl rfl rfl hd_L_turnLock ⟨Nat.le_of_ble_eq_true rfl, Nat.le_of_ble_eq_true rfl⟩) hp rfl rfl hl.1 rfl (lv_room (Nat.le_of_ble_eq_true rfl)) dL_acts_647 ⟨by show _ ≤ (60 : Nat); omega, by show _ ≤ (360 : Nat); omega⟩)
                    (fun r_506 u H locs h_507 w => ?_)
                  try dsimp only at h_507
                  obtain ⟨u_508, hu9⟩ : ∃ z, z = u := ⟨_, rfl⟩
                  subst hu9
                  have w : kW g A s [cX x nw sn tk hs tx tr, cR nw na nb (lockS d9 σ), xI g na 49 (zT (lockS d9 σ)), xI g nb 49 (zI (lockS d9 σ)), cH hs hq (pushN kn), xQ g hq 4 (rq u_508.1), cR (u_508.1 0) (u_508.2.1 0) (u_508.2.2 0) ((pushG γ kn σ) 0), xI g (u_508.2.1 0) 49 (zT ((pushG γ kn σ) 0)), xI g (u_508.2.2 0) 49 (zI ((pushG γ kn σ) 0)), cR (u_508.1 1) (u_508.2.1 1) (u_508.2.2 1) ((pushG γ kn σ) 1), xI g (u_508.2.1 1) 49 (zT ((pushG γ kn σ) 1)), xI g (u_508.2.2 1) 49 (zI ((pushG γ kn σ) 1)), cR (u_508.1 2) (u_508.2.1 2) (u_508.2.2 2) ((pushG γ kn σ) 2), xI g (u_508.2.1 2) 49 (zT ((pushG γ kn σ) 2)), xI g (u_508.2.2 2) 49 (zI ((pushG γ kn σ) 2)), cR (u_508.1 3) (u_508.2.1 3) (u_508.2.2 3) ((pushG γ kn σ) 3), xI g (u_508.2.1 3) 49 (zT ((pushG γ kn σ) 3)), xI g (u_508.2.2 3) 49 (zI ((pushG γ kn σ) 3)), cT tx ch L, xC g ch 60 T, cTr tr tw od os po re ca, cR tw ta tb τ, xI g ta 49 (zT τ), xI g tb 49 (zI τ), cO od vb n1 n2 nm en] H locs := w
                  subst h_507
                  refine ktopi (y := nI 0) (by rw [zL_lock_at, h_486]; rfl) ?_
                  refine lv_goto (tgt := 659) hx hb dL_acts_650 (by decide) ?_
                  refine lv_istore (lv' := [(15, .int (nI 0)), (14, .int (nI 1)), (13, .int (nI 1)), (12, .int (nI (zcnt (kindP σ true) 48))), (11, .int (nI (zcnt (kindP σ false) 48))), (10, .int (tA σ)), (8, .long (zB (zL σ))), (6, .long (zB (zO σ))), (5, .int (bI false)), (4, .int (nI d9)), (3, .int (nI hw9)), (0, .ref x), (1, .int v), (2, .int yv)]) hx hb dL_acts_659 hl (by decide) rfl (fun ls hl => ?_)
                  refine lv_iload hx hb dL_acts_661 (lv_at hl 0 rfl) ?_
                  refine lv_iload hx hb dL_acts_663 (lv_at hl 8 rfl) ?_
                  refine lv_if_eq (tgt := 673) hx hb dL_acts_665 (by decide) (fun h_509 => ?_) (fun h_509 => ?_)
                  rotate_left 1
                  · exact absurd rfl h_509
                  refine lv_iload hx hb dL_acts_673 (lv_at hl 1 rfl) ?_
                  refine lv_if_eq (tgt := 682) hx hb dL_acts_675 (by decide) (fun h_510 => ?_) (fun h_510 => ?_)
                  · exact absurd h_510 (by decide)
                  refine lv_iconst (v := nI 0) hx hb dL_acts_678 (by decide) ?_
                  refine lv_goto (tgt := 683) hx hb dL_acts_679 (by decide) ?_
                  refine lv_icmp_ne (tgt := 739) hx hb dL_acts_683 (by decide) (fun h_511 => ?_) (fun h_511 => ?_)
                  · exact absurd rfl h_511
                  refine lv_iload hx hb dL_acts_686 (lv_at hl 8 rfl) ?_
                  refine lv_if_ne (tgt := 716) hx hb dL_acts_688 (by decide) (fun h_512 => ?_) (fun h_512 => ?_)
                  · exact absurd rfl h_512
                  refine lv_iload hx hb dL_acts_691 (lv_at hl 2 rfl) ?_
                  refine lv_if_eq (tgt := 705) hx hb dL_acts_693 (by decide) (fun h_513 => ?_) (fun h_513 => ?_)
                  · exact absurd h_513 (by decide)
                  refine lv_aload_n hx hb dL_acts_696 rfl (lv_at hl 11 rfl) ?_
                  refine lv_iload hx hb dL_acts_697 (lv_at hl 9 rfl) ?_
                  refine kcalli (wc := [cX x nw sn tk hs tx tr, cR nw na nb (lockS d9 σ), xI g na 49 (zT (lockS d9 σ)), xI g nb 49 (zI (lockS d9 σ))]) (wr := [cH hs hq (pushN kn), xQ g hq 4 (rq u_508.1), cR (u_508.1 0) (u_508.2.1 0) (u_508.2.2 0) ((pushG γ kn σ) 0), xI g (u_508.2.1 0) 49 (zT ((pushG γ kn σ) 0)), xI g (u_508.2.2 0) 49 (zI ((pushG γ kn σ) 0)), cR (u_508.1 1) (u_508.2.1 1) (u_508.2.2 1) ((pushG γ kn σ) 1), xI g (u_508.2.1 1) 49 (zT ((pushG γ kn σ) 1)), xI g (u_508.2.2 1) 49 (zI ((pushG γ kn σ) 1)), cR (u_508.1 2) (u_508.2.1 2) (u_508.2.2 2) ((pushG γ kn σ) 2), xI g (u_508.2.1 2) 49 (zT ((pushG γ kn σ) 2)), xI g (u_508.2.2 2) 49 (zI ((pushG γ kn σ) 2)), cR (u_508.1 3) (u_508.2.1 3) (u_508.2.2 3) ((pushG γ kn σ) 3), xI g (u_508.2.1 3) 49 (zT ((pushG γ kn σ) 3)), xI g (u_508.2.2 3) 49 (zI ((pushG γ kn σ) 3)), cT tx ch L, xC g ch 60 T, cTr tr tw od os po re ca, cR tw ta tb τ, xI g ta 49 (zT τ), xI g tb 49 (zI τ), cO od vb n1 n2 nm en]) (wn := fun (u : Unit) => [cX x nw sn tk hs tx tr, cR nw na nb (lockS d9 σ), xI g na 49 (zT (lockS d9 σ)), xI g nb 49 (zI (lockS d9 σ)), cH hs hq (pushN kn), xQ g hq 4 (rq u_508.1), cR (u_508.1 0) (u_508.2.1 0) (u_508.2.2 0) ((pushG γ kn σ) 0), xI g (u_508.2.1 0) 49 (zT ((pushG γ kn σ) 0)), xI g (u_508.2.2 0) 49 (zI ((pushG γ kn σ) 0)), cR (u_508.1 1) (u_508.2.1 1) (u_508.2.2 1) ((pushG γ kn σ) 1), xI g (u_508.2.1 1) 49 (zT ((pushG γ kn σ) 1)), xI g (u_508.2.2 1) 49 (zI ((pushG γ kn σ) 1)), cR (u_508.1 2) (u_508.2.1 2) (u_508.2.2 2) ((pushG γ kn σ) 2), xI g (u_508.2.1 2) 49 (zT ((pushG γ kn σ) 2)), xI g (u_508.2.2 2) 49 (zI ((pushG γ kn σ) 2)), cR (u_508.1 3) (u_508.2.1 3) (u_508.2.2 3) ((pushG γ kn σ) 3), xI g (u_508.2.1 3) 49 (zT ((pushG γ kn σ) 3)), xI g (u_508.2.2 3) 49 (zI ((pushG γ kn σ) 3)), cT tx ch L, xC g ch 60 T, cTr tr tw od os po re ca, cR tw ta tb τ, xI g ta 49 (zT τ), xI g tb 49 (zI τ), cO od vb n1 n2 nm en]) F w [0, 1, 2, 3] [4, 5, 6, 7, 8, 9, 10, 11, 12, 13, 14, 15, 16, 17, 18, 19, 20, 21, 22, 23, 24] [21, 22, 23, 24, 0, 1, 2, 3, 4, 5, 6, 7, 8, 9, 10, 11, 12, 13, 14, 15, 16, 17, 18, 19, 20] rfl rfl rfl (fun _ => rfl)
                    (fun hp => va_runV (As := [.int (nI d9)]) (rest := []) F.1 (kX5_isLocked_k l g x nw sn tk hs tx tr na nb (lockS d9 σ) d9 H.size hdi) (cwV 1 hts gL_acts_X5_isLocked rfl rfl rfl ⟨rfl, hd_X5_isLocked⟩ ⟨Nat.le_of_ble_eq_true rfl, Nat.le_of_ble_eq_true rfl⟩) ⟨hp.1, va_recv F.2.2.2.1.1 w.1 (q0 := 0) (ci := 5) rfl rfl, hp.2⟩ rfl rfl hl.1 rfl (lv_room (Nat.le_of_ble_eq_true rfl)) dL_acts_699 ⟨by show _ ≤ (60 : Nat); omega, by show _ ≤ (360 : Nat); omega⟩)
                    (fun r_514 _ H locs h_515 w => ?_)
                  subst h_515
                  refine ktopi (y := nI 0) (by rw [zL_lock_at, h_486]; rfl) ?_
                  refine lv_goto (tgt := 711) hx hb dL_acts_702 (by decide) ?_
                  refine lv_iload hx hb dL_acts_711 (lv_at hl 1 rfl) ?_
                  refine lv_icmp_eq (tgt := 739) hx hb dL_acts_713 (by decide) (fun h_516 => ?_) (fun h_516 => ?_)
                  · exact absurd h_516 (by decide)
                  refine lv_aload_n hx hb dL_acts_716 rfl (lv_at hl 11 rfl) ?_
                  refine kcalll (wc := [cX x nw sn tk hs tx tr, cR nw na nb (lockS d9 σ), xI g na 49 (zT (lockS d9 σ)), xI g nb 49 (zI (lockS d9 σ))]) (wr := [cH hs hq (pushN kn), xQ g hq 4 (rq u_508.1), cR (u_508.1 0) (u_508.2.1 0) (u_508.2.2 0) ((pushG γ kn σ) 0), xI g (u_508.2.1 0) 49 (zT ((pushG γ kn σ) 0)), xI g (u_508.2.2 0) 49 (zI ((pushG γ kn σ) 0)), cR (u_508.1 1) (u_508.2.1 1) (u_508.2.2 1) ((pushG γ kn σ) 1), xI g (u_508.2.1 1) 49 (zT ((pushG γ kn σ) 1)), xI g (u_508.2.2 1) 49 (zI ((pushG γ kn σ) 1)), cR (u_508.1 2) (u_508.2.1 2) (u_508.2.2 2) ((pushG γ kn σ) 2), xI g (u_508.2.1 2) 49 (zT ((pushG γ kn σ) 2)), xI g (u_508.2.2 2) 49 (zI ((pushG γ kn σ) 2)), cR (u_508.1 3) (u_508.2.1 3) (u_508.2.2 3) ((pushG γ kn σ) 3), xI g (u_508.2.1 3) 49 (zT ((pushG γ kn σ) 3)), xI g (u_508.2.2 3) 49 (zI ((pushG γ kn σ) 3)), cT tx ch L, xC g ch 60 T, cTr tr tw od os po re ca, cR tw ta tb τ, xI g ta 49 (zT τ), xI g tb 49 (zI τ), cO od vb n1 n2 nm en]) (wn := fun (u : Unit) => [cX x nw sn tk hs tx tr, cR nw na nb (lockS d9 σ), xI g na 49 (zT (lockS d9 σ)), xI g nb 49 (zI (lockS d9 σ)), cH hs hq (pushN kn), xQ g hq 4 (rq u_508.1), cR (u_508.1 0) (u_508.2.1 0) (u_508.2.2 0) ((pushG γ kn σ) 0), xI g (u_508.2.1 0) 49 (zT ((pushG γ kn σ) 0)), xI g (u_508.2.2 0) 49 (zI ((pushG γ kn σ) 0)), cR (u_508.1 1) (u_508.2.1 1) (u_508.2.2 1) ((pushG γ kn σ) 1), xI g (u_508.2.1 1) 49 (zT ((pushG γ kn σ) 1)), xI g (u_508.2.2 1) 49 (zI ((pushG γ kn σ) 1)), cR (u_508.1 2) (u_508.2.1 2) (u_508.2.2 2) ((pushG γ kn σ) 2), xI g (u_508.2.1 2) 49 (zT ((pushG γ kn σ) 2)), xI g (u_508.2.2 2) 49 (zI ((pushG γ kn σ) 2)), cR (u_508.1 3) (u_508.2.1 3) (u_508.2.2 3) ((pushG γ kn σ) 3), xI g (u_508.2.1 3) 49 (zT ((pushG γ kn σ) 3)), xI g (u_508.2.2 3) 49 (zI ((pushG γ kn σ) 3)), cT tx ch L, xC g ch 60 T, cTr tr tw od os po re ca, cR tw ta tb τ, xI g ta 49 (zT τ), xI g tb 49 (zI τ), cO od vb n1 n2 nm en]) F w [0, 1, 2, 3] [4, 5, 6, 7, 8, 9, 10, 11, 12, 13, 14, 15, 16, 17, 18, 19, 20, 21, 22, 23, 24] [21, 22, 23, 24, 0, 1, 2, 3, 4, 5, 6, 7, 8, 9, 10, 11, 12, 13, 14, 15, 16, 17, 18, 19, 20] rfl rfl rfl (fun _ => rfl)
                    (fun hp => va_runV (As := []) (rest := []) F.1 (kX5_openSet l g x nw sn tk hs tx tr na nb (lockS d9 σ) H.size ) (cwV 0 hts gL_acts_X5_openSet rfl rfl rfl ⟨rfl, hd_X5_openSet⟩ ⟨Nat.le_of_ble_eq_true rfl, Nat.le_of_ble_eq_true rfl⟩) ⟨hp.1, va_recv F.2.2.2.1.1 w.1 (q0 := 0) (ci := 5) rfl rfl, hp.2⟩ rfl rfl hl.1 rfl (lv_room (Nat.le_of_ble_eq_true rfl)) dL_acts_717 ⟨by show _ ≤ (60 : Nat); omega, by show _ ≤ (360 : Nat); omega⟩)
                    (fun r_517 _ H locs h_518 w => ?_)
                  subst h_518
                  refine lv_lload hx hb dL_acts_720 (lv_at hl 7 rfl) ?_
                  refine W.lcmp hx hb dL_acts_722 ?_
                  refine lv_if_ne (tgt := 739) hx hb dL_acts_723 (by decide) (fun h_519 => ?_) (fun h_519 => ?_)
                  · exact absurd (lgc_eq.mpr rfl) h_519
                  refine lv_aload_n hx hb dL_acts_726 rfl (lv_at hl 11 rfl) ?_
                  refine kcalli (wc := [cX x nw sn tk hs tx tr, cR nw na nb (lockS d9 σ), xI g na 49 (zT (lockS d9 σ)), xI g nb 49 (zI (lockS d9 σ))]) (wr := [cH hs hq (pushN kn), xQ g hq 4 (rq u_508.1), cR (u_508.1 0) (u_508.2.1 0) (u_508.2.2 0) ((pushG γ kn σ) 0), xI g (u_508.2.1 0) 49 (zT ((pushG γ kn σ) 0)), xI g (u_508.2.2 0) 49 (zI ((pushG γ kn σ) 0)), cR (u_508.1 1) (u_508.2.1 1) (u_508.2.2 1) ((pushG γ kn σ) 1), xI g (u_508.2.1 1) 49 (zT ((pushG γ kn σ) 1)), xI g (u_508.2.2 1) 49 (zI ((pushG γ kn σ) 1)), cR (u_508.1 2) (u_508.2.1 2) (u_508.2.2 2) ((pushG γ kn σ) 2), xI g (u_508.2.1 2) 49 (zT ((pushG γ kn σ) 2)), xI g (u_508.2.2 2) 49 (zI ((pushG γ kn σ) 2)), cR (u_508.1 3) (u_508.2.1 3) (u_508.2.2 3) ((pushG γ kn σ) 3), xI g (u_508.2.1 3) 49 (zT ((pushG γ kn σ) 3)), xI g (u_508.2.2 3) 49 (zI ((pushG γ kn σ) 3)), cT tx ch L, xC g ch 60 T, cTr tr tw od os po re ca, cR tw ta tb τ, xI g ta 49 (zT τ), xI g tb 49 (zI τ), cO od vb n1 n2 nm en]) (wn := fun (u : Unit) => [cX x nw sn tk hs tx tr, cR nw na nb (lockS d9 σ), xI g na 49 (zT (lockS d9 σ)), xI g nb 49 (zI (lockS d9 σ)), cH hs hq (pushN kn), xQ g hq 4 (rq u_508.1), cR (u_508.1 0) (u_508.2.1 0) (u_508.2.2 0) ((pushG γ kn σ) 0), xI g (u_508.2.1 0) 49 (zT ((pushG γ kn σ) 0)), xI g (u_508.2.2 0) 49 (zI ((pushG γ kn σ) 0)), cR (u_508.1 1) (u_508.2.1 1) (u_508.2.2 1) ((pushG γ kn σ) 1), xI g (u_508.2.1 1) 49 (zT ((pushG γ kn σ) 1)), xI g (u_508.2.2 1) 49 (zI ((pushG γ kn σ) 1)), cR (u_508.1 2) (u_508.2.1 2) (u_508.2.2 2) ((pushG γ kn σ) 2), xI g (u_508.2.1 2) 49 (zT ((pushG γ kn σ) 2)), xI g (u_508.2.2 2) 49 (zI ((pushG γ kn σ) 2)), cR (u_508.1 3) (u_508.2.1 3) (u_508.2.2 3) ((pushG γ kn σ) 3), xI g (u_508.2.1 3) 49 (zT ((pushG γ kn σ) 3)), xI g (u_508.2.2 3) 49 (zI ((pushG γ kn σ) 3)), cT tx ch L, xC g ch 60 T, cTr tr tw od os po re ca, cR tw ta tb τ, xI g ta 49 (zT τ), xI g tb 49 (zI τ), cO od vb n1 n2 nm en]) F w [0, 1, 2, 3] [4, 5, 6, 7, 8, 9, 10, 11, 12, 13, 14, 15, 16, 17, 18, 19, 20, 21, 22, 23, 24] [21, 22, 23, 24, 0, 1, 2, 3, 4, 5, 6, 7, 8, 9, 10, 11, 12, 13, 14, 15, 16, 17, 18, 19, 20] rfl rfl rfl (fun _ => rfl)
                    (fun hp => va_runV (As := []) (rest := []) F.1 (kX5_turnsInAll l g x nw sn tk hs tx tr na nb (lockS d9 σ) H.size ) (cwV 0 hts gL_acts_X5_turnsInAll rfl rfl rfl ⟨rfl, hd_X5_turnsInAll⟩ ⟨Nat.le_of_ble_eq_true rfl, Nat.le_of_ble_eq_true rfl⟩) ⟨hp.1, va_recv F.2.2.2.1.1 w.1 (q0 := 0) (ci := 5) rfl rfl, hp.2⟩ rfl rfl hl.1 rfl (lv_room (Nat.le_of_ble_eq_true rfl)) dL_acts_727 ⟨by show _ ≤ (60 : Nat); omega, by show _ ≤ (360 : Nat); omega⟩)
                    (fun r_520 _ H locs h_521 w => ?_)
                  subst h_521
                  refine ktopi (y := tA σ) (tA_same rfl) ?_
                  refine lv_iload hx hb dL_acts_730 (lv_at hl 5 rfl) ?_
                  refine lv_icmp_ne (tgt := 739) hx hb dL_acts_732 (by decide) (fun h_522 => ?_) (fun h_522 => ?_)
                  · exact absurd rfl h_522
                  refine lv_iconst (v := nI 1) hx hb dL_acts_735 (by decide) ?_
                  refine lv_goto (tgt := 740) hx hb dL_acts_736 (by decide) ?_
                  refine ktopi (y := bI true) (by decide) ?_
                  refine W.widen (k := 60) (n := 360) (by omega) (by omega) ?_
                  subst hA
                  subst hQ
                  exact kretz F w (lockS d9 σ, pushN kn, u_508.1, u_508.2.1, u_508.2.2, pushG γ kn σ, L, T, os, po, re, ca, τ, vb, n1, n2, nm, en) [0, 1, 2, 3, 4, 5, 6, 7, 8, 9, 10, 11, 12, 13, 14, 15, 16, 17, 18, 19, 20, 21, 22, 23, 24] rfl rfl (⟨rfl, actP_1 hL (fun B hB => hB.mono (Nat.le_add_right _ _))⟩) (kz_n _) (Nat.le_of_ble_eq_true rfl) (Nat.le_of_ble_eq_true rfl) dL_acts_740
          · have h_167 : hw9 < 19 := (kc_ge_f (by omega) (by omega)).mp h_167
            refine lv_iload hx hb dL_acts_450 (lv_at hl 5 rfl) ?_
            refine lv_if_ne (tgt := 468) hx hb dL_acts_452 (by decide) (fun h_523 => ?_) (fun h_523 => ?_)
            · exact absurd rfl h_523
            refine lv_aload_n hx hb dL_acts_455 rfl (lv_at hl 8 rfl) ?_
            refine lv_iload hx hb dL_acts_456 (lv_at hl 6 rfl) ?_
            refine kcalli (wc := [cX x nw sn tk hs tx tr, cR nw na nb σ, xI g na 49 (zT σ), xI g nb 49 (zI σ)]) (wr := [cH hs hq kn, xQ g hq 4 (rq ρ), cR (ρ 0) (α 0) (β 0) (γ 0), xI g (α 0) 49 (zT (γ 0)), xI g (β 0) 49 (zI (γ 0)), cR (ρ 1) (α 1) (β 1) (γ 1), xI g (α 1) 49 (zT (γ 1)), xI g (β 1) 49 (zI (γ 1)), cR (ρ 2) (α 2) (β 2) (γ 2), xI g (α 2) 49 (zT (γ 2)), xI g (β 2) 49 (zI (γ 2)), cR (ρ 3) (α 3) (β 3) (γ 3), xI g (α 3) 49 (zT (γ 3)), xI g (β 3) 49 (zI (γ 3)), cT tx ch L, xC g ch 60 T, cTr tr tw od os po re ca, cR tw ta tb τ, xI g ta 49 (zT τ), xI g tb 49 (zI τ), cO od vb n1 n2 nm en]) (wn := fun (u : Unit) => [cX x nw sn tk hs tx tr, cR nw na nb σ, xI g na 49 (zT σ), xI g nb 49 (zI σ), cH hs hq kn, xQ g hq 4 (rq ρ), cR (ρ 0) (α 0) (β 0) (γ 0), xI g (α 0) 49 (zT (γ 0)), xI g (β 0) 49 (zI (γ 0)), cR (ρ 1) (α 1) (β 1) (γ 1), xI g (α 1) 49 (zT (γ 1)), xI g (β 1) 49 (zI (γ 1)), cR (ρ 2) (α 2) (β 2) (γ 2), xI g (α 2) 49 (zT (γ 2)), xI g (β 2) 49 (zI (γ 2)), cR (ρ 3) (α 3) (β 3) (γ 3), xI g (α 3) 49 (zT (γ 3)), xI g (β 3) 49 (zI (γ 3)), cT tx ch L, xC g ch 60 T, cTr tr tw od os po re ca, cR tw ta tb τ, xI g ta 49 (zT τ), xI g tb 49 (zI τ), cO od vb n1 n2 nm en]) F w [0, 1, 2, 3] [4, 5, 6, 7, 8, 9, 10, 11, 12, 13, 14, 15, 16, 17, 18, 19, 20, 21, 22, 23, 24] [21, 22, 23, 24, 0, 1, 2, 3, 4, 5, 6, 7, 8, 9, 10, 11, 12, 13, 14, 15, 16, 17, 18, 19, 20] rfl rfl rfl (fun _ => rfl)
              (fun hp => va_runV (As := [.int (nI d9)]) (rest := []) F.1 (kX5_isOpen_k l g x nw sn tk hs tx tr na nb σ d9 H.size hdi) (cwV 1 hts gL_acts_X5_isOpen rfl rfl rfl ⟨rfl, hd_X5_isOpen⟩ ⟨Nat.le_of_ble_eq_true rfl, Nat.le_of_ble_eq_true rfl⟩) ⟨hp.1, va_recv F.2.2.2.1.1 w.1 (q0 := 0) (ci := 5) rfl rfl, hp.2⟩ rfl rfl hl.1 rfl (lv_room (Nat.le_of_ble_eq_true rfl)) dL_acts_458 ⟨by show _ ≤ (60 : Nat); omega, by show _ ≤ (360 : Nat); omega⟩)
              (fun r_524 _ H locs h_525 w => ?_)
            subst h_525
            refine lv_if_eq (tgt := 468) hx hb dL_acts_461 (by decide) (fun h_526 => ?_) (fun h_526 => ?_)
            · have h_526 : (zO σ d9) = false := bI_z.mp h_526
              refine lv_iconst (v := nI 0) hx hb dL_acts_468 (by decide) ?_
              refine lv_istore (lv' := [(13, .int (nI 0)), (12, .int (nI (zcnt (kindP σ true) 48))), (11, .int (nI (zcnt (kindP σ false) 48))), (10, .int (tA σ)), (8, .long (zB (zL σ))), (6, .long (zB (zO σ))), (5, .int (bI false)), (4, .int (nI d9)), (3, .int (nI hw9)), (0, .ref x), (1, .int v), (2, .int yv)]) hx hb dL_acts_469 hl (by decide) rfl (fun ls hl => ?_)
              refine lv_iload hx hb dL_acts_471 (lv_at hl 6 rfl) ?_
              refine lv_if_ne (tgt := 489) hx hb dL_acts_473 (by decide) (fun h_527 => ?_) (fun h_527 => ?_)
              · exact absurd rfl h_527
              refine lv_aload_n hx hb dL_acts_476 rfl (lv_at hl 9 rfl) ?_
              refine lv_iload hx hb dL_acts_477 (lv_at hl 7 rfl) ?_
              refine kcalli (wc := [cX x nw sn tk hs tx tr, cR nw na nb σ, xI g na 49 (zT σ), xI g nb 49 (zI σ)]) (wr := [cH hs hq kn, xQ g hq 4 (rq ρ), cR (ρ 0) (α 0) (β 0) (γ 0), xI g (α 0) 49 (zT (γ 0)), xI g (β 0) 49 (zI (γ 0)), cR (ρ 1) (α 1) (β 1) (γ 1), xI g (α 1) 49 (zT (γ 1)), xI g (β 1) 49 (zI (γ 1)), cR (ρ 2) (α 2) (β 2) (γ 2), xI g (α 2) 49 (zT (γ 2)), xI g (β 2) 49 (zI (γ 2)), cR (ρ 3) (α 3) (β 3) (γ 3), xI g (α 3) 49 (zT (γ 3)), xI g (β 3) 49 (zI (γ 3)), cT tx ch L, xC g ch 60 T, cTr tr tw od os po re ca, cR tw ta tb τ, xI g ta 49 (zT τ), xI g tb 49 (zI τ), cO od vb n1 n2 nm en]) (wn := fun (u : Unit) => [cX x nw sn tk hs tx tr, cR nw na nb σ, xI g na 49 (zT σ), xI g nb 49 (zI σ), cH hs hq kn, xQ g hq 4 (rq ρ), cR (ρ 0) (α 0) (β 0) (γ 0), xI g (α 0) 49 (zT (γ 0)), xI g (β 0) 49 (zI (γ 0)), cR (ρ 1) (α 1) (β 1) (γ 1), xI g (α 1) 49 (zT (γ 1)), xI g (β 1) 49 (zI (γ 1)), cR (ρ 2) (α 2) (β 2) (γ 2), xI g (α 2) 49 (zT (γ 2)), xI g (β 2) 49 (zI (γ 2)), cR (ρ 3) (α 3) (β 3) (γ 3), xI g (α 3) 49 (zT (γ 3)), xI g (β 3) 49 (zI (γ 3)), cT tx ch L, xC g ch 60 T, cTr tr tw od os po re ca, cR tw ta tb τ, xI g ta 49 (zT τ), xI g tb 49 (zI τ), cO od vb n1 n2 nm en]) F w [0, 1, 2, 3] [4, 5, 6, 7, 8, 9, 10, 11, 12, 13, 14, 15, 16, 17, 18, 19, 20, 21, 22, 23, 24] [21, 22, 23, 24, 0, 1, 2, 3, 4, 5, 6, 7, 8, 9, 10, 11, 12, 13, 14, 15, 16, 17, 18, 19, 20] rfl rfl rfl (fun _ => rfl)
                (fun hp => va_runV (As := [.int (nI d9)]) (rest := []) F.1 (kX5_isLocked_k l g x nw sn tk hs tx tr na nb σ d9 H.size hdi) (cwV 1 hts gL_acts_X5_isLocked rfl rfl rfl ⟨rfl, hd_X5_isLocked⟩ ⟨Nat.le_of_ble_eq_true rfl, Nat.le_of_ble_eq_true rfl⟩) ⟨hp.1, va_recv F.2.2.2.1.1 w.1 (q0 := 0) (ci := 5) rfl rfl, hp.2⟩ rfl rfl hl.1 rfl (lv_room (Nat.le_of_ble_eq_true rfl)) dL_acts_479 ⟨by show _ ≤ (60 : Nat); omega, by show _ ≤ (360 : Nat); omega⟩)
                (fun r_528 _ H locs h_529 w => ?_)
              subst h_529
              refine lv_if_ne (tgt := 489) hx hb dL_acts_482 (by decide) (fun h_530 => ?_) (fun h_530 => ?_)
              · have h_530 : (zL σ d9) = true := bI_o.mp h_530
                refine lv_iconst (v := nI 0) hx hb dL_acts_489 (by decide) ?_
                refine lv_istore (lv' := [(14, .int (nI 0)), (13, .int (nI 0)), (12, .int (nI (zcnt (kindP σ true) 48))), (11, .int (nI (zcnt (kindP σ false) 48))), (10, .int (tA σ)), (8, .long (zB (zL σ))), (6, .long (zB (zO σ))), (5, .int (bI false)), (4, .int (nI d9)), (3, .int (nI hw9)), (0, .ref x), (1, .int v), (2, .int yv)]) hx hb dL_acts_490 hl (by decide) rfl (fun ls hl => ?_)
                refine lv_aload_n hx hb dL_acts_492 rfl (lv_at hl 10 rfl) ?_
                refine lv_iload hx hb dL_acts_493 (lv_at hl 8 rfl) ?_
                refine kcalli (wc := [cX x nw sn tk hs tx tr, cR nw na nb σ, xI g na 49 (zT σ), xI g nb 49 (zI σ)]) (wr := [cH hs hq kn, xQ g hq 4 (rq ρ), cR (ρ 0) (α 0) (β 0) (γ 0), xI g (α 0) 49 (zT (γ 0)), xI g (β 0) 49 (zI (γ 0)), cR (ρ 1) (α 1) (β 1) (γ 1), xI g (α 1) 49 (zT (γ 1)), xI g (β 1) 49 (zI (γ 1)), cR (ρ 2) (α 2) (β 2) (γ 2), xI g (α 2) 49 (zT (γ 2)), xI g (β 2) 49 (zI (γ 2)), cR (ρ 3) (α 3) (β 3) (γ 3), xI g (α 3) 49 (zT (γ 3)), xI g (β 3) 49 (zI (γ 3)), cT tx ch L, xC g ch 60 T, cTr tr tw od os po re ca, cR tw ta tb τ, xI g ta 49 (zT τ), xI g tb 49 (zI τ), cO od vb n1 n2 nm en]) (wn := fun (u : Unit) => [cX x nw sn tk hs tx tr, cR nw na nb σ, xI g na 49 (zT σ), xI g nb 49 (zI σ), cH hs hq kn, xQ g hq 4 (rq ρ), cR (ρ 0) (α 0) (β 0) (γ 0), xI g (α 0) 49 (zT (γ 0)), xI g (β 0) 49 (zI (γ 0)), cR (ρ 1) (α 1) (β 1) (γ 1), xI g (α 1) 49 (zT (γ 1)), xI g (β 1) 49 (zI (γ 1)), cR (ρ 2) (α 2) (β 2) (γ 2), xI g (α 2) 49 (zT (γ 2)), xI g (β 2) 49 (zI (γ 2)), cR (ρ 3) (α 3) (β 3) (γ 3), xI g (α 3) 49 (zT (γ 3)), xI g (β 3) 49 (zI (γ 3)), cT tx ch L, xC g ch 60 T, cTr tr tw od os po re ca, cR tw ta tb τ, xI g ta 49 (zT τ), xI g tb 49 (zI τ), cO od vb n1 n2 nm en]) F w [0, 1, 2, 3] [4, 5, 6, 7, 8, 9, 10, 11, 12, 13, 14, 15, 16, 17, 18, 19, 20, 21, 22, 23, 24] [21, 22, 23, 24, 0, 1, 2, 3, 4, 5, 6, 7, 8, 9, 10, 11, 12, 13, 14, 15, 16, 17, 18, 19, 20] rfl rfl rfl (fun _ => rfl)
                  (fun hp => vx_runSW (As := [.ref x, .int (nI d9)]) (rest := []) F.1 (kL_turnDoor_S l hnl g x nw sn tk hs tx tr na nb σ d9 H.size hdi h_530) (vx_cwSW 2 hts gL_acts_L_turnDoor rfl rfl rfl hd_L_turnDoor ⟨Nat.le_of_ble_eq_true rfl, Nat.le_of_ble_eq_true rfl⟩) hp rfl rfl hl.1 rfl (lv_room (Nat.le_of_ble_eq_true rfl)) dL_acts_495 ⟨by show _ ≤ (60 : Nat); omega, by show _ ≤ (360 : Nat); omega⟩)
                  (fun r_531 _ H locs h_532 w => ?_)
                subst h_532
                refine lv_iload hx hb dL_acts_498 (lv_at hl 7 rfl) ?_
                refine lv_if_eq (tgt := 508) hx hb dL_acts_500 (by decide) (fun h_533 => ?_) (fun h_533 => ?_)
                rotate_left 1
                · exact absurd rfl h_533
                refine lv_iload hx hb dL_acts_508 (lv_at hl 0 rfl) ?_
                refine lv_if_eq (tgt := 526) hx hb dL_acts_510 (by decide) (fun h_534 => ?_) (fun h_534 => ?_)
                rotate_left 1
                · exact absurd rfl h_534
                refine lv_bipush (v := (-103)) hx hb dL_acts_526 (by decide) ?_
                refine lv_icmp_ne (tgt := 580) hx hb dL_acts_528 (by decide) (fun h_535 => ?_) (fun h_535 => ?_)
                · exact absurd rfl h_535
                refine lv_aload_n hx hb dL_acts_531 rfl (lv_at hl 10 rfl) ?_
                refine kcalll (wc := [cX x nw sn tk hs tx tr, cR nw na nb σ, xI g na 49 (zT σ), xI g nb 49 (zI σ)]) (wr := [cH hs hq kn, xQ g hq 4 (rq ρ), cR (ρ 0) (α 0) (β 0) (γ 0), xI g (α 0) 49 (zT (γ 0)), xI g (β 0) 49 (zI (γ 0)), cR (ρ 1) (α 1) (β 1) (γ 1), xI g (α 1) 49 (zT (γ 1)), xI g (β 1) 49 (zI (γ 1)), cR (ρ 2) (α 2) (β 2) (γ 2), xI g (α 2) 49 (zT (γ 2)), xI g (β 2) 49 (zI (γ 2)), cR (ρ 3) (α 3) (β 3) (γ 3), xI g (α 3) 49 (zT (γ 3)), xI g (β 3) 49 (zI (γ 3)), cT tx ch L, xC g ch 60 T, cTr tr tw od os po re ca, cR tw ta tb τ, xI g ta 49 (zT τ), xI g tb 49 (zI τ), cO od vb n1 n2 nm en]) (wn := fun (u : Unit) => [cX x nw sn tk hs tx tr, cR nw na nb σ, xI g na 49 (zT σ), xI g nb 49 (zI σ), cH hs hq kn, xQ g hq 4 (rq ρ), cR (ρ 0) (α 0) (β 0) (γ 0), xI g (α 0) 49 (zT (γ 0)), xI g (β 0) 49 (zI (γ 0)), cR (ρ 1) (α 1) (β 1) (γ 1), xI g (α 1) 49 (zT (γ 1)), xI g (β 1) 49 (zI (γ 1)), cR (ρ 2) (α 2) (β 2) (γ 2), xI g (α 2) 49 (zT (γ 2)), xI g (β 2) 49 (zI (γ 2)), cR (ρ 3) (α 3) (β 3) (γ 3), xI g (α 3) 49 (zT (γ 3)), xI g (β 3) 49 (zI (γ 3)), cT tx ch L, xC g ch 60 T, cTr tr tw od os po re ca, cR tw ta tb τ, xI g ta 49 (zT τ), xI g tb 49 (zI τ), cO od vb n1 n2 nm en]) F w [0, 1, 2, 3] [4, 5, 6, 7, 8, 9, 10, 11, 12, 13, 14, 15, 16, 17, 18, 19, 20, 21, 22, 23, 24] [21, 22, 23, 24, 0, 1, 2, 3, 4, 5, 6, 7, 8, 9, 10, 11, 12, 13, 14, 15, 16, 17, 18, 19, 20] rfl rfl rfl (fun _ => rfl)
                  (fun hp => va_runV (As := []) (rest := []) F.1 (kX5_openSet l g x nw sn tk hs tx tr na nb σ H.size ) (cwV 0 hts gL_acts_X5_openSet rfl rfl rfl ⟨rfl, hd_X5_openSet⟩ ⟨Nat.le_of_ble_eq_true rfl, Nat.le_of_ble_eq_true rfl⟩) ⟨hp.1, va_recv F.2.2.2.1.1 w.1 (q0 := 0) (ci := 5) rfl rfl, hp.2⟩ rfl rfl hl.1 rfl (lv_room (Nat.le_of_ble_eq_true rfl)) dL_acts_532 ⟨by show _ ≤ (60 : Nat); omega, by show _ ≤ (360 : Nat); omega⟩)
                  (fun r_536 _ H locs h_537 w => ?_)
                subst h_537
                refine lv_iload hx hb dL_acts_535 (lv_at hl 0 rfl) ?_
                refine lv_if_eq (tgt := 550) hx hb dL_acts_537 (by decide) (fun h_538 => ?_) (fun h_538 => ?_)
                rotate_left 1
                · exact absurd rfl h_538
                refine lv_lload hx hb dL_acts_550 (lv_at hl 6 rfl) ?_
                refine W.lcmp hx hb dL_acts_552 ?_
                refine lv_if_ne (tgt := 580) hx hb dL_acts_553 (by decide) (fun h_539 => ?_) (fun h_539 => ?_)
                · exact absurd (lgc_eq.mpr rfl) h_539
                refine lv_aload_n hx hb dL_acts_556 rfl (lv_at hl 10 rfl) ?_
                refine kcalli (wc := [cX x nw sn tk hs tx tr, cR nw na nb σ, xI g na 49 (zT σ), xI g nb 49 (zI σ)]) (wr := [cH hs hq kn, xQ g hq 4 (rq ρ), cR (ρ 0) (α 0) (β 0) (γ 0), xI g (α 0) 49 (zT (γ 0)), xI g (β 0) 49 (zI (γ 0)), cR (ρ 1) (α 1) (β 1) (γ 1), xI g (α 1) 49 (zT (γ 1)), xI g (β 1) 49 (zI (γ 1)), cR (ρ 2) (α 2) (β 2) (γ 2), xI g (α 2) 49 (zT (γ 2)), xI g (β 2) 49 (zI (γ 2)), cR (ρ 3) (α 3) (β 3) (γ 3), xI g (α 3) 49 (zT (γ 3)), xI g (β 3) 49 (zI (γ 3)), cT tx ch L, xC g ch 60 T, cTr tr tw od os po re ca, cR tw ta tb τ, xI g ta 49 (zT τ), xI g tb 49 (zI τ), cO od vb n1 n2 nm en]) (wn := fun (u : Unit) => [cX x nw sn tk hs tx tr, cR nw na nb σ, xI g na 49 (zT σ), xI g nb 49 (zI σ), cH hs hq kn, xQ g hq 4 (rq ρ), cR (ρ 0) (α 0) (β 0) (γ 0), xI g (α 0) 49 (zT (γ 0)), xI g (β 0) 49 (zI (γ 0)), cR (ρ 1) (α 1) (β 1) (γ 1), xI g (α 1) 49 (zT (γ 1)), xI g (β 1) 49 (zI (γ 1)), cR (ρ 2) (α 2) (β 2) (γ 2), xI g (α 2) 49 (zT (γ 2)), xI g (β 2) 49 (zI (γ 2)), cR (ρ 3) (α 3) (β 3) (γ 3), xI g (α 3) 49 (zT (γ 3)), xI g (β 3) 49 (zI (γ 3)), cT tx ch L, xC g ch 60 T, cTr tr tw od os po re ca, cR tw ta tb τ, xI g ta 49 (zT τ), xI g tb 49 (zI τ), cO od vb n1 n2 nm en]) F w [0, 1, 2, 3] [4, 5, 6, 7, 8, 9, 10, 11, 12, 13, 14, 15, 16, 17, 18, 19, 20, 21, 22, 23, 24] [21, 22, 23, 24, 0, 1, 2, 3, 4, 5, 6, 7, 8, 9, 10, 11, 12, 13, 14, 15, 16, 17, 18, 19, 20] rfl rfl rfl (fun _ => rfl)
                  (fun hp => va_runV (As := []) (rest := []) F.1 (kX5_turnsInAll l g x nw sn tk hs tx tr na nb σ H.size ) (cwV 0 hts gL_acts_X5_turnsInAll rfl rfl rfl ⟨rfl, hd_X5_turnsInAll⟩ ⟨Nat.le_of_ble_eq_true rfl, Nat.le_of_ble_eq_true rfl⟩) ⟨hp.1, va_recv F.2.2.2.1.1 w.1 (q0 := 0) (ci := 5) rfl rfl, hp.2⟩ rfl rfl hl.1 rfl (lv_room (Nat.le_of_ble_eq_true rfl)) dL_acts_557 ⟨by show _ ≤ (60 : Nat); omega, by show _ ≤ (360 : Nat); omega⟩)
                  (fun r_540 _ H locs h_541 w => ?_)
                subst h_541
                refine ktopi (y := tA σ) (rfl) ?_
                refine lv_iload hx hb dL_acts_560 (lv_at hl 4 rfl) ?_
                refine lv_iload hx hb dL_acts_562 (lv_at hl 0 rfl) ?_
                refine lv_if_eq (tgt := 571) hx hb dL_acts_564 (by decide) (fun h_542 => ?_) (fun h_542 => ?_)
                rotate_left 1
                · exact absurd rfl h_542
                refine lv_iconst (v := nI 0) hx hb dL_acts_571 (by decide) ?_
                refine lv_iadd hx hb dL_acts_572 ?_
                refine ktopi (y := tA σ) (add_n0 _) ?_
                refine lv_icmp_ne (tgt := 580) hx hb dL_acts_573 (by decide) (fun h_543 => ?_) (fun h_543 => ?_)
                · exact absurd rfl h_543
                refine lv_iconst (v := nI 1) hx hb dL_acts_576 (by decide) ?_
                refine lv_goto (tgt := 581) hx hb dL_acts_577 (by decide) ?_
                refine ktopi (y := bI true) (by decide) ?_
                refine W.widen (k := 60) (n := 360) (by omega) (by omega) ?_
                subst hA
                subst hQ
                exact kretz F w (σ, kn, ρ, α, β, γ, L, T, os, po, re, ca, τ, vb, n1, n2, nm, en) [0, 1, 2, 3, 4, 5, 6, 7, 8, 9, 10, 11, 12, 13, 14, 15, 16, 17, 18, 19, 20, 21, 22, 23, 24] rfl rfl (⟨rfl, actP_0 hL⟩) (kz_n _) (Nat.le_of_ble_eq_true rfl) (Nat.le_of_ble_eq_true rfl) dL_acts_581
              · have h_530 : (zL σ d9) = false := bI_z.mp h_530
                refine lv_iconst (v := nI 1) hx hb dL_acts_485 (by decide) ?_
                refine lv_goto (tgt := 490) hx hb dL_acts_486 (by decide) ?_
                refine lv_istore (lv' := [(14, .int (nI 1)), (13, .int (nI 0)), (12, .int (nI (zcnt (kindP σ true) 48))), (11, .int (nI (zcnt (kindP σ false) 48))), (10, .int (tA σ)), (8, .long (zB (zL σ))), (6, .long (zB (zO σ))), (5, .int (bI false)), (4, .int (nI d9)), (3, .int (nI hw9)), (0, .ref x), (1, .int v), (2, .int yv)]) hx hb dL_acts_490 hl (by decide) rfl (fun ls hl => ?_)
                refine lv_aload_n hx hb dL_acts_492 rfl (lv_at hl 10 rfl) ?_
                refine lv_iload hx hb dL_acts_493 (lv_at hl 8 rfl) ?_
                refine kcalli (wc := [cX x nw sn tk hs tx tr, cR nw na nb σ, xI g na 49 (zT σ), xI g nb 49 (zI σ), cH hs hq kn, xQ g hq 4 (rq ρ), cR (ρ 0) (α 0) (β 0) (γ 0), xI g (α 0) 49 (zT (γ 0)), xI g (β 0) 49 (zI (γ 0)), cR (ρ 1) (α 1) (β 1) (γ 1), xI g (α 1) 49 (zT (γ 1)), xI g (β 1) 49 (zI (γ 1)), cR (ρ 2) (α 2) (β 2) (γ 2), xI g (α 2) 49 (zT (γ 2)), xI g (β 2) 49 (zI (γ 2)), cR (ρ 3) (α 3) (β 3) (γ 3), xI g (α 3) 49 (zT (γ 3)), xI g (β 3) 49 (zI (γ 3))]) (wr := [cT tx ch L, xC g ch 60 T, cTr tr tw od os po re ca, cR tw ta tb τ, xI g ta 49 (zT τ), xI g tb 49 (zI τ), cO od vb n1 n2 nm en]) (wn := fun (u : (Nat → Nat) × (Nat → Nat) × (Nat → Nat)) => [cX x nw sn tk hs tx tr, cR nw na nb (turnS d9 σ), xI g na 49 (zT (turnS d9 σ)), xI g nb 49 (zI (turnS d9 σ)), cH hs hq (pushN kn), xQ g hq 4 (rq u.1), cR (u.1 0) (u.2.1 0) (u.2.2 0) ((pushG γ kn σ) 0), xI g (u.2.1 0) 49 (zT ((pushG γ kn σ) 0)), xI g (u.2.2 0) 49 (zI ((pushG γ kn σ) 0)), cR (u.1 1) (u.2.1 1) (u.2.2 1) ((pushG γ kn σ) 1), xI g (u.2.1 1) 49 (zT ((pushG γ kn σ) 1)), xI g (u.2.2 1) 49 (zI ((pushG γ kn σ) 1)), cR (u.1 2) (u.2.1 2) (u.2.2 2) ((pushG γ kn σ) 2), xI g (u.2.1 2) 49 (zT ((pushG γ kn σ) 2)), xI g (u.2.2 2) 49 (zI ((pushG γ kn σ) 2)), cR (u.1 3) (u.2.1 3) (u.2.2 3) ((pushG γ kn σ) 3), xI g (u.2.1 3) 49 (zT ((pushG γ kn σ) 3)), xI g (u.2.2 3) 49 (zI ((pushG γ kn σ) 3)), cT tx ch L, xC g ch 60 T, cTr tr tw od os po re ca, cR tw ta tb τ, xI g ta 49 (zT τ), xI g tb 49 (zI τ), cO od vb n1 n2 nm en]) F w [0, 1, 2, 3, 4, 5, 6, 7, 8, 9, 10, 11, 12, 13, 14, 15, 16, 17] [18, 19, 20, 21, 22, 23, 24] [7, 8, 9, 10, 11, 12, 13, 14, 15, 16, 17, 18, 19, 20, 21, 22, 23, 24, 0, 1, 2, 3, 4, 5, 6] rfl rfl rfl (fun _ => rfl)
                  (fun hp => vx_runSW (As := [.ref x, .int (nI d9)]) (rest := []) F.1 (kL_turnDoor_k l g x nw sn tk hs tx tr na nb σ hq kn ρ α β γ d9 H.size hdi h_530 hkn) (vx_cwSW 2 hts gL_acts_L_turnDoor rfl rfl rfl hd_L_turnDoor ⟨Nat.le_of_ble_eq_true rfl, Nat.le_of_ble_eq_true rfl⟩) hp rfl rfl hl.1 rfl (lv_room (Nat.le_of_ble_eq_true rfl)) dL_acts_495 ⟨by show _ ≤ (60 : Nat); omega, by show _ ≤ (360 : Nat); omega⟩)
                  (fun r_544 u H locs h_545 w => ?_)
                try dsimp only at h_545
                obtain ⟨u_546, hu9⟩ : ∃ z, z = u := ⟨_, rfl⟩
                subst hu9
                have w : kW g A s [cX x nw sn tk hs tx tr, cR nw na nb (turnS d9 σ), xI g na 49 (zT (turnS d9 σ)), xI g nb 49 (zI (turnS d9 σ)), cH hs hq (pushN kn), xQ g hq 4 (rq u_546.1), cR (u_546.1 0) (u_546.2.1 0) (u_546.2.2 0) ((pushG γ kn σ) 0), xI g (u_546.2.1 0) 49 (zT ((pushG γ kn σ) 0)), xI g (u_546.2.2 0) 49 (zI ((pushG γ kn σ) 0)), cR (u_546.1 1) (u_546.2.1 1) (u_546.2.2 1) ((pushG γ kn σ) 1), xI g (u_546.2.1 1) 49 (zT ((pushG γ kn σ) 1)), xI g (u_546.2.2 1) 49 (zI ((pushG γ kn σ) 1)), cR (u_546.1 2) (u_546.2.1 2) (u_546.2.2 2) ((pushG γ kn σ) 2), xI g (u_546.2.1 2) 49 (zT ((pushG γ kn σ) 2)), xI g (u_546.2.2 2) 49 (zI ((pushG γ kn σ) 2)), cR (u_546.1 3) (u_546.2.1 3) (u_546.2.2 3) ((pushG γ kn σ) 3), xI g (u_546.2.1 3) 49 (zT ((pushG γ kn σ) 3)), xI g (u_546.2.2 3) 49 (zI ((pushG γ kn σ) 3)), cT tx ch L, xC g ch 60 T, cTr tr tw od os po re ca, cR tw ta tb τ, xI g ta 49 (zT τ), xI g tb 49 (zI τ), cO od vb n1 n2 nm en] H locs := w
                subst h_545
                refine ktopi (y := nI 1) (by rw [zO_turn_at, h_526]; rfl) ?_
                refine lv_iload hx hb dL_acts_498 (lv_at hl 7 rfl) ?_
                refine lv_if_eq (tgt := 508) hx hb dL_acts_500 (by decide) (fun h_547 => ?_) (fun h_547 => ?_)
                rotate_left 1
                · exact absurd rfl h_547
                refine lv_iload hx hb dL_acts_508 (lv_at hl 0 rfl) ?_
                refine lv_if_eq (tgt := 526) hx hb dL_acts_510 (by decide) (fun h_548 => ?_) (fun h_548 => ?_)
                · exact absurd h_548 (by decide)
                refine lv_iload hx hb dL_acts_513 (lv_at hl 1 rfl) ?_
                refine lv_if_eq (tgt := 522) hx hb dL_acts_515 (by decide) (fun h_549 => ?_) (fun h_549 => ?_)
                rotate_left 1
                · exact absurd rfl h_549
                refine lv_iconst (v := nI 1) hx hb dL_acts_522 (by decide) ?_
                refine lv_goto (tgt := 528) hx hb dL_acts_523 (by decide) ?_
                refine lv_icmp_ne (tgt := 580) hx hb dL_acts_528 (by decide) (fun h_550 => ?_) (fun h_550 => ?_)
                · exact absurd rfl h_550
                refine lv_aload_n hx hb dL_acts_531 rfl (lv_at hl 10 rfl) ?_
                refine kcalll (wc := [cX x nw sn tk hs tx tr, cR nw na nb (turnS d9 σ), xI g na 49 (zT (turnS d9 σ)), xI g nb 49 (zI (turnS d9 σ))]) (wr := [cH hs hq (pushN kn), xQ g hq 4 (rq u_546.1), cR (u_546.1 0) (u_546.2.1 0) (u_546.2.2 0) ((pushG γ kn σ) 0), xI g (u_546.2.1 0) 49 (zT ((pushG γ kn σ) 0)), xI g (u_546.2.2 0) 49 (zI ((pushG γ kn σ) 0)), cR (u_546.1 1) (u_546.2.1 1) (u_546.2.2 1) ((pushG γ kn σ) 1), xI g (u_546.2.1 1) 49 (zT ((pushG γ kn σ) 1)), xI g (u_546.2.2 1) 49 (zI ((pushG γ kn σ) 1)), cR (u_546.1 2) (u_546.2.1 2) (u_546.2.2 2) ((pushG γ kn σ) 2), xI g (u_546.2.1 2) 49 (zT ((pushG γ kn σ) 2)), xI g (u_546.2.2 2) 49 (zI ((pushG γ kn σ) 2)), cR (u_546.1 3) (u_546.2.1 3) (u_546.2.2 3) ((pushG γ kn σ) 3), xI g (u_546.2.1 3) 49 (zT ((pushG γ kn σ) 3)), xI g (u_546.2.2 3) 49 (zI ((pushG γ kn σ) 3)), cT tx ch L, xC g ch 60 T, cTr tr tw od os po re ca, cR tw ta tb τ, xI g ta 49 (zT τ), xI g tb 49 (zI τ), cO od vb n1 n2 nm en]) (wn := fun (u : Unit) => [cX x nw sn tk hs tx tr, cR nw na nb (turnS d9 σ), xI g na 49 (zT (turnS d9 σ)), xI g nb 49 (zI (turnS d9 σ)), cH hs hq (pushN kn), xQ g hq 4 (rq u_546.1), cR (u_546.1 0) (u_546.2.1 0) (u_546.2.2 0) ((pushG γ kn σ) 0), xI g (u_546.2.1 0) 49 (zT ((pushG γ kn σ) 0)), xI g (u_546.2.2 0) 49 (zI ((pushG γ kn σ) 0)), cR (u_546.1 1) (u_546.2.1 1) (u_546.2.2 1) ((pushG γ kn σ) 1), xI g (u_546.2.1 1) 49 (zT ((pushG γ kn σ) 1)), xI g (u_546.2.2 1) 49 (zI ((pushG γ kn σ) 1)), cR (u_546.1 2) (u_546.2.1 2) (u_546.2.2 2) ((pushG γ kn σ) 2), xI g (u_546.2.1 2) 49 (zT ((pushG γ kn σ) 2)), xI g (u_546.2.2 2) 49 (zI ((pushG γ kn σ) 2)), cR (u_546.1 3) (u_546.2.1 3) (u_546.2.2 3) ((pushG γ kn σ) 3), xI g (u_546.2.1 3) 49 (zT ((pushG γ kn σ) 3)), xI g (u_546.2.2 3) 49 (zI ((pushG γ kn σ) 3)), cT tx ch L, xC g ch 60 T, cTr tr tw od os po re ca, cR tw ta tb τ, xI g ta 49 (zT τ), xI g tb 49 (zI τ), cO od vb n1 n2 nm en]) F w [0, 1, 2, 3] [4, 5, 6, 7, 8, 9, 10, 11, 12, 13, 14, 15, 16, 17, 18, 19, 20, 21, 22, 23, 24] [21, 22, 23, 24, 0, 1, 2, 3, 4, 5, 6, 7, 8, 9, 10, 11, 12, 13, 14, 15, 16, 17, 18, 19, 20] rfl rfl rfl (fun _ => rfl)
                  (fun hp => va_runV (As := []) (rest := []) F.1 (kX5_openSet l g x nw sn tk hs tx tr na nb (turnS d9 σ) H.size ) (cwV 0 hts gL_acts_X5_openSet rfl rfl rfl ⟨rfl, hd_X5_openSet⟩ ⟨Nat.le_of_ble_eq_true rfl, Nat.le_of_ble_eq_true rfl⟩) ⟨hp.1, va_recv F.2.2.2.1.1 w.1 (q0 := 0) (ci := 5) rfl rfl, hp.2⟩ rfl rfl hl.1 rfl (lv_room (Nat.le_of_ble_eq_true rfl)) dL_acts_532 ⟨by show _ ≤ (60 : Nat); omega, by show _ ≤ (360 : Nat); omega⟩)
                  (fun r_551 _ H locs h_552 w => ?_)
                subst h_552
                refine lv_iload hx hb dL_acts_535 (lv_at hl 0 rfl) ?_
                refine lv_if_eq (tgt := 550) hx hb dL_acts_537 (by decide) (fun h_553 => ?_) (fun h_553 => ?_)
                · exact absurd h_553 (by decide)
                refine lv_lload hx hb dL_acts_540 (lv_at hl 6 rfl) ?_
                refine lv_lconst (v := 1) hx hb dL_acts_542 (by decide) ?_
                refine lv_iload hx hb dL_acts_543 (lv_at hl 8 rfl) ?_
                refine lv_lshl hx hb dL_acts_545 rfl ?_
                refine ktopl (y := zbit d9) (zm_bit (by omega)) ?_
                refine lv_lxor hx hb dL_acts_546 ?_
                refine ktopl (y := zB (zO (turnS d9 σ))) (zO_turn hdi.1 hdi.2) ?_
                refine lv_goto (tgt := 552) hx hb dL_acts_547 (by decide) ?_
                refine W.lcmp hx hb dL_acts_552 ?_
                refine lv_if_ne (tgt := 580) hx hb dL_acts_553 (by decide) (fun h_554 => ?_) (fun h_554 => ?_)
                · exact absurd (lgc_eq.mpr rfl) h_554
                refine lv_aload_n hx hb dL_acts_556 rfl (lv_at hl 10 rfl) ?_
                refine kcalli (wc := [cX x nw sn tk hs tx tr, cR nw na nb (turnS d9 σ), xI g na 49 (zT (turnS d9 σ)), xI g nb 49 (zI (turnS d9 σ))]) (wr := [cH hs hq (pushN kn), xQ g hq 4 (rq u_546.1), cR (u_546.1 0) (u_546.2.1 0) (u_546.2.2 0) ((pushG γ kn σ) 0), xI g (u_546.2.1 0) 49 (zT ((pushG γ kn σ) 0)), xI g (u_546.2.2 0) 49 (zI ((pushG γ kn σ) 0)), cR (u_546.1 1) (u_546.2.1 1) (u_546.2.2 1) ((pushG γ kn σ) 1), xI g (u_546.2.1 1) 49 (zT ((pushG γ kn σ) 1)), xI g (u_546.2.2 1) 49 (zI ((pushG γ kn σ) 1)), cR (u_546.1 2) (u_546.2.1 2) (u_546.2.2 2) ((pushG γ kn σ) 2), xI g (u_546.2.1 2) 49 (zT ((pushG γ kn σ) 2)), xI g (u_546.2.2 2) 49 (zI ((pushG γ kn σ) 2)), cR (u_546.1 3) (u_546.2.1 3) (u_546.2.2 3) ((pushG γ kn σ) 3), xI g (u_546.2.1 3) 49 (zT ((pushG γ kn σ) 3)), xI g (u_546.2.2 3) 49 (zI ((pushG γ kn σ) 3)), cT tx ch L, xC g ch 60 T, cTr tr tw od os po re ca, cR tw ta tb τ, xI g ta 49 (zT τ), xI g tb 49 (zI τ), cO od vb n1 n2 nm en]) (wn := fun (u : Unit) => [cX x nw sn tk hs tx tr, cR nw na nb (turnS d9 σ), xI g na 49 (zT (turnS d9 σ)), xI g nb 49 (zI (turnS d9 σ)), cH hs hq (pushN kn), xQ g hq 4 (rq u_546.1), cR (u_546.1 0) (u_546.2.1 0) (u_546.2.2 0) ((pushG γ kn σ) 0), xI g (u_546.2.1 0) 49 (zT ((pushG γ kn σ) 0)), xI g (u_546.2.2 0) 49 (zI ((pushG γ kn σ) 0)), cR (u_546.1 1) (u_546.2.1 1) (u_546.2.2 1) ((pushG γ kn σ) 1), xI g (u_546.2.1 1) 49 (zT ((pushG γ kn σ) 1)), xI g (u_546.2.2 1) 49 (zI ((pushG γ kn σ) 1)), cR (u_546.1 2) (u_546.2.1 2) (u_546.2.2 2) ((pushG γ kn σ) 2), xI g (u_546.2.1 2) 49 (zT ((pushG γ kn σ) 2)), xI g (u_546.2.2 2) 49 (zI ((pushG γ kn σ) 2)), cR (u_546.1 3) (u_546.2.1 3) (u_546.2.2 3) ((pushG γ kn σ) 3), xI g (u_546.2.1 3) 49 (zT ((pushG γ kn σ) 3)), xI g (u_546.2.2 3) 49 (zI ((pushG γ kn σ) 3)), cT tx ch L, xC g ch 60 T, cTr tr tw od os po re ca, cR tw ta tb τ, xI g ta 49 (zT τ), xI g tb 49 (zI τ), cO od vb n1 n2 nm en]) F w [0, 1, 2, 3] [4, 5, 6, 7, 8, 9, 10, 11, 12, 13, 14, 15, 16, 17, 18, 19, 20, 21, 22, 23, 24] [21, 22, 23, 24, 0, 1, 2, 3, 4, 5, 6, 7, 8, 9, 10, 11, 12, 13, 14, 15, 16, 17, 18, 19, 20] rfl rfl rfl (fun _ => rfl)
                  (fun hp => va_runV (As := []) (rest := []) F.1 (kX5_turnsInAll l g x nw sn tk hs tx tr na nb (turnS d9 σ) H.size ) (cwV 0 hts gL_acts_X5_turnsInAll rfl rfl rfl ⟨rfl, hd_X5_turnsInAll⟩ ⟨Nat.le_of_ble_eq_true rfl, Nat.le_of_ble_eq_true rfl⟩) ⟨hp.1, va_recv F.2.2.2.1.1 w.1 (q0 := 0) (ci := 5) rfl rfl, hp.2⟩ rfl rfl hl.1 rfl (lv_room (Nat.le_of_ble_eq_true rfl)) dL_acts_557 ⟨by show _ ≤ (60 : Nat); omega, by show _ ≤ (360 : Nat); omega⟩)
                  (fun r_555 _ H locs h_556 w => ?_)
                subst h_556
                refine ktopi (y := tA (turnS d9 σ)) (rfl) ?_
                refine lv_iload hx hb dL_acts_560 (lv_at hl 4 rfl) ?_
                refine lv_iload hx hb dL_acts_562 (lv_at hl 0 rfl) ?_
                refine lv_if_eq (tgt := 571) hx hb dL_acts_564 (by decide) (fun h_557 => ?_) (fun h_557 => ?_)
                · exact absurd h_557 (by decide)
                refine lv_iconst (v := nI 1) hx hb dL_acts_567 (by decide) ?_
                refine lv_goto (tgt := 572) hx hb dL_acts_568 (by decide) ?_
                refine lv_iadd hx hb dL_acts_572 ?_
                refine ktopi (y := tA (turnS d9 σ)) (tA_turn1 hdi.1 hdi.2) ?_
                refine lv_icmp_ne (tgt := 580) hx hb dL_acts_573 (by decide) (fun h_558 => ?_) (fun h_558 => ?_)
                · exact absurd rfl h_558
                refine lv_iconst (v := nI 1) hx hb dL_acts_576 (by decide) ?_
                refine lv_goto (tgt := 581) hx hb dL_acts_577 (by decide) ?_
                refine ktopi (y := bI true) (by decide) ?_
                refine W.widen (k := 60) (n := 360) (by omega) (by omega) ?_
                subst hA
                subst hQ
                exact kretz F w (turnS d9 σ, pushN kn, u_546.1, u_546.2.1, u_546.2.2, pushG γ kn σ, L, T, os, po, re, ca, τ, vb, n1, n2, nm, en) [0, 1, 2, 3, 4, 5, 6, 7, 8, 9, 10, 11, 12, 13, 14, 15, 16, 17, 18, 19, 20, 21, 22, 23, 24] rfl rfl (⟨rfl, actP_1 hL (fun B hB => (gB_turnS hB _).mono (by omega))⟩) (kz_n _) (Nat.le_of_ble_eq_true rfl) (Nat.le_of_ble_eq_true rfl) dL_acts_581
            · have h_526 : (zO σ d9) = true := bI_o.mp h_526
              refine lv_iconst (v := nI 1) hx hb dL_acts_464 (by decide) ?_
              refine lv_goto (tgt := 469) hx hb dL_acts_465 (by decide) ?_
              refine lv_istore (lv' := [(13, .int (nI 1)), (12, .int (nI (zcnt (kindP σ true) 48))), (11, .int (nI (zcnt (kindP σ false) 48))), (10, .int (tA σ)), (8, .long (zB (zL σ))), (6, .long (zB (zO σ))), (5, .int (bI false)), (4, .int (nI d9)), (3, .int (nI hw9)), (0, .ref x), (1, .int v), (2, .int yv)]) hx hb dL_acts_469 hl (by decide) rfl (fun ls hl => ?_)
              refine lv_iload hx hb dL_acts_471 (lv_at hl 6 rfl) ?_
              refine lv_if_ne (tgt := 489) hx hb dL_acts_473 (by decide) (fun h_559 => ?_) (fun h_559 => ?_)
              · exact absurd rfl h_559
              refine lv_aload_n hx hb dL_acts_476 rfl (lv_at hl 9 rfl) ?_
              refine lv_iload hx hb dL_acts_477 (lv_at hl 7 rfl) ?_
              refine kcalli (wc := [cX x nw sn tk hs tx tr, cR nw na nb σ, xI g na 49 (zT σ), xI g nb 49 (zI σ)]) (wr := [cH hs hq kn, xQ g hq 4 (rq ρ), cR (ρ 0) (α 0) (β 0) (γ 0), xI g (α 0) 49 (zT (γ 0)), xI g (β 0) 49 (zI (γ 0)), cR (ρ 1) (α 1) (β 1) (γ 1), xI g (α 1) 49 (zT (γ 1)), xI g (β 1) 49 (zI (γ 1)), cR (ρ 2) (α 2) (β 2) (γ 2), xI g (α 2) 49 (zT (γ 2)), xI g (β 2) 49 (zI (γ 2)), cR (ρ 3) (α 3) (β 3) (γ 3), xI g (α 3) 49 (zT (γ 3)), xI g (β 3) 49 (zI (γ 3)), cT tx ch L, xC g ch 60 T, cTr tr tw od os po re ca, cR tw ta tb τ, xI g ta 49 (zT τ), xI g tb 49 (zI τ), cO od vb n1 n2 nm en]) (wn := fun (u : Unit) => [cX x nw sn tk hs tx tr, cR nw na nb σ, xI g na 49 (zT σ), xI g nb 49 (zI σ), cH hs hq kn, xQ g hq 4 (rq ρ), cR (ρ 0) (α 0) (β 0) (γ 0), xI g (α 0) 49 (zT (γ 0)), xI g (β 0) 49 (zI (γ 0)), cR (ρ 1) (α 1) (β 1) (γ 1), xI g (α 1) 49 (zT (γ 1)), xI g (β 1) 49 (zI (γ 1)), cR (ρ 2) (α 2) (β 2) (γ 2), xI g (α 2) 49 (zT (γ 2)), xI g (β 2) 49 (zI (γ 2)), cR (ρ 3) (α 3) (β 3) (γ 3), xI g (α 3) 49 (zT (γ 3)), xI g (β 3) 49 (zI (γ 3)), cT tx ch L, xC g ch 60 T, cTr tr tw od os po re ca, cR tw ta tb τ, xI g ta 49 (zT τ), xI g tb 49 (zI τ), cO od vb n1 n2 nm en]) F w [0, 1, 2, 3] [4, 5, 6, 7, 8, 9, 10, 11, 12, 13, 14, 15, 16, 17, 18, 19, 20, 21, 22, 23, 24] [21, 22, 23, 24, 0, 1, 2, 3, 4, 5, 6, 7, 8, 9, 10, 11, 12, 13, 14, 15, 16, 17, 18, 19, 20] rfl rfl rfl (fun _ => rfl)
                (fun hp => va_runV (As := [.int (nI d9)]) (rest := []) F.1 (kX5_isLocked_k l g x nw sn tk hs tx tr na nb σ d9 H.size hdi) (cwV 1 hts gL_acts_X5_isLocked rfl rfl rfl ⟨rfl, hd_X5_isLocked⟩ ⟨Nat.le_of_ble_eq_true rfl, Nat.le_of_ble_eq_true rfl⟩) ⟨hp.1, va_recv F.2.2.2.1.1 w.1 (q0 := 0) (ci := 5) rfl rfl, hp.2⟩ rfl rfl hl.1 rfl (lv_room (Nat.le_of_ble_eq_true rfl)) dL_acts_479 ⟨by show _ ≤ (60 : Nat); omega, by show _ ≤ (360 : Nat); omega⟩)
                (fun r_560 _ H locs h_561 w => ?_)
              subst h_561
              refine lv_if_ne (tgt := 489) hx hb dL_acts_482 (by decide) (fun h_562 => ?_) (fun h_562 => ?_)
              · have h_562 : (zL σ d9) = true := bI_o.mp h_562
                refine lv_iconst (v := nI 0) hx hb dL_acts_489 (by decide) ?_
                refine lv_istore (lv' := [(14, .int (nI 0)), (13, .int (nI 1)), (12, .int (nI (zcnt (kindP σ true) 48))), (11, .int (nI (zcnt (kindP σ false) 48))), (10, .int (tA σ)), (8, .long (zB (zL σ))), (6, .long (zB (zO σ))), (5, .int (bI false)), (4, .int (nI d9)), (3, .int (nI hw9)), (0, .ref x), (1, .int v), (2, .int yv)]) hx hb dL_acts_490 hl (by decide) rfl (fun ls hl => ?_)
                refine lv_aload_n hx hb dL_acts_492 rfl (lv_at hl 10 rfl) ?_
                refine lv_iload hx hb dL_acts_493 (lv_at hl 8 rfl) ?_
                refine kcalli (wc := [cX x nw sn tk hs tx tr, cR nw na nb σ, xI g na 49 (zT σ), xI g nb 49 (zI σ)]) (wr := [cH hs hq kn, xQ g hq 4 (rq ρ), cR (ρ 0) (α 0) (β 0) (γ 0), xI g (α 0) 49 (zT (γ 0)), xI g (β 0) 49 (zI (γ 0)), cR (ρ 1) (α 1) (β 1) (γ 1), xI g (α 1) 49 (zT (γ 1)), xI g (β 1) 49 (zI (γ 1)), cR (ρ 2) (α 2) (β 2) (γ 2), xI g (α 2) 49 (zT (γ 2)), xI g (β 2) 49 (zI (γ 2)), cR (ρ 3) (α 3) (β 3) (γ 3), xI g (α 3) 49 (zT (γ 3)), xI g (β 3) 49 (zI (γ 3)), cT tx ch L, xC g ch 60 T, cTr tr tw od os po re ca, cR tw ta tb τ, xI g ta 49 (zT τ), xI g tb 49 (zI τ), cO od vb n1 n2 nm en]) (wn := fun (u : Unit) => [cX x nw sn tk hs tx tr, cR nw na nb σ, xI g na 49 (zT σ), xI g nb 49 (zI σ), cH hs hq kn, xQ g hq 4 (rq ρ), cR (ρ 0) (α 0) (β 0) (γ 0), xI g (α 0) 49 (zT (γ 0)), xI g (β 0) 49 (zI (γ 0)), cR (ρ 1) (α 1) (β 1) (γ 1), xI g (α 1) 49 (zT (γ 1)), xI g (β 1) 49 (zI (γ 1)), cR (ρ 2) (α 2) (β 2) (γ 2), xI g (α 2) 49 (zT (γ 2)), xI g (β 2) 49 (zI (γ 2)), cR (ρ 3) (α 3) (β 3) (γ 3), xI g (α 3) 49 (zT (γ 3)), xI g (β 3) 49 (zI (γ 3)), cT tx ch L, xC g ch 60 T, cTr tr tw od os po re ca, cR tw ta tb τ, xI g ta 49 (zT τ), xI g tb 49 (zI τ), cO od vb n1 n2 nm en]) F w [0, 1, 2, 3] [4, 5, 6, 7, 8, 9, 10, 11, 12, 13, 14, 15, 16, 17, 18, 19, 20, 21, 22, 23, 24] [21, 22, 23, 24, 0, 1, 2, 3, 4, 5, 6, 7, 8, 9, 10, 11, 12, 13, 14, 15, 16, 17, 18, 19, 20] rfl rfl rfl (fun _ => rfl)
                  (fun hp => vx_runSW (As := [.ref x, .int (nI d9)]) (rest := []) F.1 (kL_turnDoor_S l hnl g x nw sn tk hs tx tr na nb σ d9 H.size hdi h_562) (vx_cwSW 2 hts gL_acts_L_turnDoor rfl rfl rfl hd_L_turnDoor ⟨Nat.le_of_ble_eq_true rfl, Nat.le_of_ble_eq_true rfl⟩) hp rfl rfl hl.1 rfl (lv_room (Nat.le_of_ble_eq_true rfl)) dL_acts_495 ⟨by show _ ≤ (60 : Nat); omega, by show _ ≤ (360 : Nat); omega⟩)
                  (fun r_563 _ H locs h_564 w => ?_)
                subst h_564
                refine lv_iload hx hb dL_acts_498 (lv_at hl 7 rfl) ?_
                refine lv_if_eq (tgt := 508) hx hb dL_acts_500 (by decide) (fun h_565 => ?_) (fun h_565 => ?_)
                rotate_left 1
                · exact absurd rfl h_565
                refine lv_iload hx hb dL_acts_508 (lv_at hl 0 rfl) ?_
                refine lv_if_eq (tgt := 526) hx hb dL_acts_510 (by decide) (fun h_566 => ?_) (fun h_566 => ?_)
                rotate_left 1
                · exact absurd rfl h_566
                refine lv_bipush (v := (-103)) hx hb dL_acts_526 (by decide) ?_
                refine lv_icmp_ne (tgt := 580) hx hb dL_acts_528 (by decide) (fun h_567 => ?_) (fun h_567 => ?_)
                · exact absurd rfl h_567
                refine lv_aload_n hx hb dL_acts_531 rfl (lv_at hl 10 rfl) ?_
                refine kcalll (wc := [cX x nw sn tk hs tx tr, cR nw na nb σ, xI g na 49 (zT σ), xI g nb 49 (zI σ)]) (wr := [cH hs hq kn, xQ g hq 4 (rq ρ), cR (ρ 0) (α 0) (β 0) (γ 0), xI g (α 0) 49 (zT (γ 0)), xI g (β 0) 49 (zI (γ 0)), cR (ρ 1) (α 1) (β 1) (γ 1), xI g (α 1) 49 (zT (γ 1)), xI g (β 1) 49 (zI (γ 1)), cR (ρ 2) (α 2) (β 2) (γ 2), xI g (α 2) 49 (zT (γ 2)), xI g (β 2) 49 (zI (γ 2)), cR (ρ 3) (α 3) (β 3) (γ 3), xI g (α 3) 49 (zT (γ 3)), xI g (β 3) 49 (zI (γ 3)), cT tx ch L, xC g ch 60 T, cTr tr tw od os po re ca, cR tw ta tb τ, xI g ta 49 (zT τ), xI g tb 49 (zI τ), cO od vb n1 n2 nm en]) (wn := fun (u : Unit) => [cX x nw sn tk hs tx tr, cR nw na nb σ, xI g na 49 (zT σ), xI g nb 49 (zI σ), cH hs hq kn, xQ g hq 4 (rq ρ), cR (ρ 0) (α 0) (β 0) (γ 0), xI g (α 0) 49 (zT (γ 0)), xI g (β 0) 49 (zI (γ 0)), cR (ρ 1) (α 1) (β 1) (γ 1), xI g (α 1) 49 (zT (γ 1)), xI g (β 1) 49 (zI (γ 1)), cR (ρ 2) (α 2) (β 2) (γ 2), xI g (α 2) 49 (zT (γ 2)), xI g (β 2) 49 (zI (γ 2)), cR (ρ 3) (α 3) (β 3) (γ 3), xI g (α 3) 49 (zT (γ 3)), xI g (β 3) 49 (zI (γ 3)), cT tx ch L, xC g ch 60 T, cTr tr tw od os po re ca, cR tw ta tb τ, xI g ta 49 (zT τ), xI g tb 49 (zI τ), cO od vb n1 n2 nm en]) F w [0, 1, 2, 3] [4, 5, 6, 7, 8, 9, 10, 11, 12, 13, 14, 15, 16, 17, 18, 19, 20, 21, 22, 23, 24] [21, 22, 23, 24, 0, 1, 2, 3, 4, 5, 6, 7, 8, 9, 10, 11, 12, 13, 14, 15, 16, 17, 18, 19, 20] rfl rfl rfl (fun _ => rfl)
                  (fun hp => va_runV (As := []) (rest := []) F.1 (kX5_openSet l g x nw sn tk hs tx tr na nb σ H.size ) (cwV 0 hts gL_acts_X5_openSet rfl rfl rfl ⟨rfl, hd_X5_openSet⟩ ⟨Nat.le_of_ble_eq_true rfl, Nat.le_of_ble_eq_true rfl⟩) ⟨hp.1, va_recv F.2.2.2.1.1 w.1 (q0 := 0) (ci := 5) rfl rfl, hp.2⟩ rfl rfl hl.1 rfl (lv_room (Nat.le_of_ble_eq_true rfl)) dL_acts_532 ⟨by show _ ≤ (60 : Nat); omega, by show _ ≤ (360 : Nat); omega⟩)
                  (fun r_568 _ H locs h_569 w => ?_)
                subst h_569
                refine lv_iload hx hb dL_acts_535 (lv_at hl 0 rfl) ?_
                refine lv_if_eq (tgt := 550) hx hb dL_acts_537 (by decide) (fun h_570 => ?_) (fun h_570 => ?_)
                rotate_left 1
                · exact absurd rfl h_570
                refine lv_lload hx hb dL_acts_550 (lv_at hl 6 rfl) ?_
                refine W.lcmp hx hb dL_acts_552 ?_
                refine lv_if_ne (tgt := 580) hx hb dL_acts_553 (by decide) (fun h_571 => ?_) (fun h_571 => ?_)
                · exact absurd (lgc_eq.mpr rfl) h_571
                refine lv_aload_n hx hb dL_acts_556 rfl (lv_at hl 10 rfl) ?_
                refine kcalli (wc := [cX x nw sn tk hs tx tr, cR nw na nb σ, xI g na 49 (zT σ), xI g nb 49 (zI σ)]) (wr := [cH hs hq kn, xQ g hq 4 (rq ρ), cR (ρ 0) (α 0) (β 0) (γ 0), xI g (α 0) 49 (zT (γ 0)), xI g (β 0) 49 (zI (γ 0)), cR (ρ 1) (α 1) (β 1) (γ 1), xI g (α 1) 49 (zT (γ 1)), xI g (β 1) 49 (zI (γ 1)), cR (ρ 2) (α 2) (β 2) (γ 2), xI g (α 2) 49 (zT (γ 2)), xI g (β 2) 49 (zI (γ 2)), cR (ρ 3) (α 3) (β 3) (γ 3), xI g (α 3) 49 (zT (γ 3)), xI g (β 3) 49 (zI (γ 3)), cT tx ch L, xC g ch 60 T, cTr tr tw od os po re ca, cR tw ta tb τ, xI g ta 49 (zT τ), xI g tb 49 (zI τ), cO od vb n1 n2 nm en]) (wn := fun (u : Unit) => [cX x nw sn tk hs tx tr, cR nw na nb σ, xI g na 49 (zT σ), xI g nb 49 (zI σ), cH hs hq kn, xQ g hq 4 (rq ρ), cR (ρ 0) (α 0) (β 0) (γ 0), xI g (α 0) 49 (zT (γ 0)), xI g (β 0) 49 (zI (γ 0)), cR (ρ 1) (α 1) (β 1) (γ 1), xI g (α 1) 49 (zT (γ 1)), xI g (β 1) 49 (zI (γ 1)), cR (ρ 2) (α 2) (β 2) (γ 2), xI g (α 2) 49 (zT (γ 2)), xI g (β 2) 49 (zI (γ 2)), cR (ρ 3) (α 3) (β 3) (γ 3), xI g (α 3) 49 (zT (γ 3)), xI g (β 3) 49 (zI (γ 3)), cT tx ch L, xC g ch 60 T, cTr tr tw od os po re ca, cR tw ta tb τ, xI g ta 49 (zT τ), xI g tb 49 (zI τ), cO od vb n1 n2 nm en]) F w [0, 1, 2, 3] [4, 5, 6, 7, 8, 9, 10, 11, 12, 13, 14, 15, 16, 17, 18, 19, 20, 21, 22, 23, 24] [21, 22, 23, 24, 0, 1, 2, 3, 4, 5, 6, 7, 8, 9, 10, 11, 12, 13, 14, 15, 16, 17, 18, 19, 20] rfl rfl rfl (fun _ => rfl)
                  (fun hp => va_runV (As := []) (rest := []) F.1 (kX5_turnsInAll l g x nw sn tk hs tx tr na nb σ H.size ) (cwV 0 hts gL_acts_X5_turnsInAll rfl rfl rfl ⟨rfl, hd_X5_turnsInAll⟩ ⟨Nat.le_of_ble_eq_true rfl, Nat.le_of_ble_eq_true rfl⟩) ⟨hp.1, va_recv F.2.2.2.1.1 w.1 (q0 := 0) (ci := 5) rfl rfl, hp.2⟩ rfl rfl hl.1 rfl (lv_room (Nat.le_of_ble_eq_true rfl)) dL_acts_557 ⟨by show _ ≤ (60 : Nat); omega, by show _ ≤ (360 : Nat); omega⟩)
                  (fun r_572 _ H locs h_573 w => ?_)
                subst h_573
                refine ktopi (y := tA σ) (rfl) ?_
                refine lv_iload hx hb dL_acts_560 (lv_at hl 4 rfl) ?_
                refine lv_iload hx hb dL_acts_562 (lv_at hl 0 rfl) ?_
                refine lv_if_eq (tgt := 571) hx hb dL_acts_564 (by decide) (fun h_574 => ?_) (fun h_574 => ?_)
                rotate_left 1
                · exact absurd rfl h_574
                refine lv_iconst (v := nI 0) hx hb dL_acts_571 (by decide) ?_
                refine lv_iadd hx hb dL_acts_572 ?_
                refine ktopi (y := tA σ) (add_n0 _) ?_
                refine lv_icmp_ne (tgt := 580) hx hb dL_acts_573 (by decide) (fun h_575 => ?_) (fun h_575 => ?_)
                · exact absurd rfl h_575
                refine lv_iconst (v := nI 1) hx hb dL_acts_576 (by decide) ?_
                refine lv_goto (tgt := 581) hx hb dL_acts_577 (by decide) ?_
                refine ktopi (y := bI true) (by decide) ?_
                refine W.widen (k := 60) (n := 360) (by omega) (by omega) ?_
                subst hA
                subst hQ
                exact kretz F w (σ, kn, ρ, α, β, γ, L, T, os, po, re, ca, τ, vb, n1, n2, nm, en) [0, 1, 2, 3, 4, 5, 6, 7, 8, 9, 10, 11, 12, 13, 14, 15, 16, 17, 18, 19, 20, 21, 22, 23, 24] rfl rfl (⟨rfl, actP_0 hL⟩) (kz_n _) (Nat.le_of_ble_eq_true rfl) (Nat.le_of_ble_eq_true rfl) dL_acts_581
              · have h_562 : (zL σ d9) = false := bI_z.mp h_562
                refine lv_iconst (v := nI 1) hx hb dL_acts_485 (by decide) ?_
                refine lv_goto (tgt := 490) hx hb dL_acts_486 (by decide) ?_
                refine lv_istore (lv' := [(14, .int (nI 1)), (13, .int (nI 1)), (12, .int (nI (zcnt (kindP σ true) 48))), (11, .int (nI (zcnt (kindP σ false) 48))), (10, .int (tA σ)), (8, .long (zB (zL σ))), (6, .long (zB (zO σ))), (5, .int (bI false)), (4, .int (nI d9)), (3, .int (nI hw9)), (0, .ref x), (1, .int v), (2, .int yv)]) hx hb dL_acts_490 hl (by decide) rfl (fun ls hl => ?_)
                refine lv_aload_n hx hb dL_acts_492 rfl (lv_at hl 10 rfl) ?_
                refine lv_iload hx hb dL_acts_493 (lv_at hl 8 rfl) ?_
                refine kcalli (wc := [cX x nw sn tk hs tx tr, cR nw na nb σ, xI g na 49 (zT σ), xI g nb 49 (zI σ), cH hs hq kn, xQ g hq 4 (rq ρ), cR (ρ 0) (α 0) (β 0) (γ 0), xI g (α 0) 49 (zT (γ 0)), xI g (β 0) 49 (zI (γ 0)), cR (ρ 1) (α 1) (β 1) (γ 1), xI g (α 1) 49 (zT (γ 1)), xI g (β 1) 49 (zI (γ 1)), cR (ρ 2) (α 2) (β 2) (γ 2), xI g (α 2) 49 (zT (γ 2)), xI g (β 2) 49 (zI (γ 2)), cR (ρ 3) (α 3) (β 3) (γ 3), xI g (α 3) 49 (zT (γ 3)), xI g (β 3) 49 (zI (γ 3))]) (wr := [cT tx ch L, xC g ch 60 T, cTr tr tw od os po re ca, cR tw ta tb τ, xI g ta 49 (zT τ), xI g tb 49 (zI τ), cO od vb n1 n2 nm en]) (wn := fun (u : (Nat → Nat) × (Nat → Nat) × (Nat → Nat)) => [cX x nw sn tk hs tx tr, cR nw na nb (turnS d9 σ), xI g na 49 (zT (turnS d9 σ)), xI g nb 49 (zI (turnS d9 σ)), cH hs hq (pushN kn), xQ g hq 4 (rq u.1), cR (u.1 0) (u.2.1 0) (u.2.2 0) ((pushG γ kn σ) 0), xI g (u.2.1 0) 49 (zT ((pushG γ kn σ) 0)), xI g (u.2.2 0) 49 (zI ((pushG γ kn σ) 0)), cR (u.1 1) (u.2.1 1) (u.2.2 1) ((pushG γ kn σ) 1), xI g (u.2.1 1) 49 (zT ((pushG γ kn σ) 1)), xI g (u.2.2 1) 49 (zI ((pushG γ kn σ) 1)), cR (u.1 2) (u.2.1 2) (u.2.2 2) ((pushG γ kn σ) 2), xI g (u.2.1 2) 49 (zT ((pushG γ kn σ) 2)), xI g (u.2.2 2) 49 (zI ((pushG γ kn σ) 2)), cR (u.1 3) (u.2.1 3) (u.2.2 3) ((pushG γ kn σ) 3), xI g (u.2.1 3) 49 (zT ((pushG γ kn σ) 3)), xI g (u.2.2 3) 49 (zI ((pushG γ kn σ) 3)), cT tx ch L, xC g ch 60 T, cTr tr tw od os po re ca, cR tw ta tb τ, xI g ta 49 (zT τ), xI g tb 49 (zI τ), cO od vb n1 n2 nm en]) F w [0, 1, 2, 3, 4, 5, 6, 7, 8, 9, 10, 11, 12, 13, 14, 15, 16, 17] [18, 19, 20, 21, 22, 23, 24] [7, 8, 9, 10, 11, 12, 13, 14, 15, 16, 17, 18, 19, 20, 21, 22, 23, 24, 0, 1, 2, 3, 4, 5, 6] rfl rfl rfl (fun _ => rfl)
                  (fun hp => vx_runSW (As := [.ref x, .int (nI d9)]) (rest := []) F.1 (kL_turnDoor_k l g x nw sn tk hs tx tr na nb σ hq kn ρ α β γ d9 H.size hdi h_562 hkn) (vx_cwSW 2 hts gL_acts_L_turnDoor rfl rfl rfl hd_L_turnDoor ⟨Nat.le_of_ble_eq_true rfl, Nat.le_of_ble_eq_true rfl⟩) hp rfl rfl hl.1 rfl (lv_room (Nat.le_of_ble_eq_true rfl)) dL_acts_495 ⟨by show _ ≤ (60 : Nat); omega, by show _ ≤ (360 : Nat); omega⟩)
                  (fun r_576 u H locs h_577 w => ?_)
                try dsimp only at h_577
                obtain ⟨u_578, hu9⟩ : ∃ z, z = u := ⟨_, rfl⟩
                subst hu9
                have w : kW g A s [cX x nw sn tk hs tx tr, cR nw na nb (turnS d9 σ), xI g na 49 (zT (turnS d9 σ)), xI g nb 49 (zI (turnS d9 σ)), cH hs hq (pushN kn), xQ g hq 4 (rq u_578.1), cR (u_578.1 0) (u_578.2.1 0) (u_578.2.2 0) ((pushG γ kn σ) 0), xI g (u_578.2.1 0) 49 (zT ((pushG γ kn σ) 0)), xI g (u_578.2.2 0) 49 (zI ((pushG γ kn σ) 0)), cR (u_578.1 1) (u_578.2.1 1) (u_578.2.2 1) ((pushG γ kn σ) 1), xI g (u_578.2.1 1) 49 (zT ((pushG γ kn σ) 1)), xI g (u_578.2.2 1) 49 (zI ((pushG γ kn σ) 1)), cR (u_578.1 2) (u_578.2.1 2) (u_578.2.2 2) ((pushG γ kn σ) 2), xI g (u_578.2.1 2) 49 (zT ((pushG γ kn σ) 2)), xI g (u_578.2.2 2) 49 (zI ((pushG γ kn σ) 2)), cR (u_578.1 3) (u_578.2.1 3) (u_578.2.2 3) ((pushG γ kn σ) 3), xI g (u_578.2.1 3) 49 (zT ((pushG γ kn σ) 3)), xI g (u_578.2.2 3) 49 (zI ((pushG γ kn σ) 3)), cT tx ch L, xC g ch 60 T, cTr tr tw od os po re ca, cR tw ta tb τ, xI g ta 49 (zT τ), xI g tb 49 (zI τ), cO od vb n1 n2 nm en] H locs := w
                subst h_577
                refine ktopi (y := nI 0) (by rw [zO_turn_at, h_526]; rfl) ?_
                refine lv_iload hx hb dL_acts_498 (lv_at hl 7 rfl) ?_
                refine lv_if_eq (tgt := 508) hx hb dL_acts_500 (by decide) (fun h_579 => ?_) (fun h_579 => ?_)
                rotate_left 1
                · exact absurd rfl h_579
                refine lv_iload hx hb dL_acts_508 (lv_at hl 0 rfl) ?_
                refine lv_if_eq (tgt := 526) hx hb dL_acts_510 (by decide) (fun h_580 => ?_) (fun h_580 => ?_)
                · exact absurd h_580 (by decide)
                refine lv_iload hx hb dL_acts_513 (lv_at hl 1 rfl) ?_
                refine lv_if_eq (tgt := 522) hx hb dL_acts_515 (by decide) (fun h_581 => ?_) (fun h_581 => ?_)
                · exact absurd h_581 (by decide)
                refine lv_iconst (v := nI 0) hx hb dL_acts_518 (by decide) ?_
                refine lv_goto (tgt := 528) hx hb dL_acts_519 (by decide) ?_
                refine lv_icmp_ne (tgt := 580) hx hb dL_acts_528 (by decide) (fun h_582 => ?_) (fun h_582 => ?_)
                · exact absurd rfl h_582
                refine lv_aload_n hx hb dL_acts_531 rfl (lv_at hl 10 rfl) ?_
                refine kcalll (wc := [cX x nw sn tk hs tx tr, cR nw na nb (turnS d9 σ), xI g na 49 (zT (turnS d9 σ)), xI g nb 49 (zI (turnS d9 σ))]) (wr := [cH hs hq (pushN kn), xQ g hq 4 (rq u_578.1), cR (u_578.1 0) (u_578.2.1 0) (u_578.2.2 0) ((pushG γ kn σ) 0), xI g (u_578.2.1 0) 49 (zT ((pushG γ kn σ) 0)), xI g (u_578.2.2 0) 49 (zI ((pushG γ kn σ) 0)), cR (u_578.1 1) (u_578.2.1 1) (u_578.2.2 1) ((pushG γ kn σ) 1), xI g (u_578.2.1 1) 49 (zT ((pushG γ kn σ) 1)), xI g (u_578.2.2 1) 49 (zI ((pushG γ kn σ) 1)), cR (u_578.1 2) (u_578.2.1 2) (u_578.2.2 2) ((pushG γ kn σ) 2), xI g (u_578.2.1 2) 49 (zT ((pushG γ kn σ) 2)), xI g (u_578.2.2 2) 49 (zI ((pushG γ kn σ) 2)), cR (u_578.1 3) (u_578.2.1 3) (u_578.2.2 3) ((pushG γ kn σ) 3), xI g (u_578.2.1 3) 49 (zT ((pushG γ kn σ) 3)), xI g (u_578.2.2 3) 49 (zI ((pushG γ kn σ) 3)), cT tx ch L, xC g ch 60 T, cTr tr tw od os po re ca, cR tw ta tb τ, xI g ta 49 (zT τ), xI g tb 49 (zI τ), cO od vb n1 n2 nm en]) (wn := fun (u : Unit) => [cX x nw sn tk hs tx tr, cR nw na nb (turnS d9 σ), xI g na 49 (zT (turnS d9 σ)), xI g nb 49 (zI (turnS d9 σ)), cH hs hq (pushN kn), xQ g hq 4 (rq u_578.1), cR (u_578.1 0) (u_578.2.1 0) (u_578.2.2 0) ((pushG γ kn σ) 0), xI g (u_578.2.1 0) 49 (zT ((pushG γ kn σ) 0)), xI g (u_578.2.2 0) 49 (zI ((pushG γ kn σ) 0)), cR (u_578.1 1) (u_578.2.1 1) (u_578.2.2 1) ((pushG γ kn σ) 1), xI g (u_578.2.1 1) 49 (zT ((pushG γ kn σ) 1)), xI g (u_578.2.2 1) 49 (zI ((pushG γ kn σ) 1)), cR (u_578.1 2) (u_578.2.1 2) (u_578.2.2 2) ((pushG γ kn σ) 2), xI g (u_578.2.1 2) 49 (zT ((pushG γ kn σ) 2)), xI g (u_578.2.2 2) 49 (zI ((pushG γ kn σ) 2)), cR (u_578.1 3) (u_578.2.1 3) (u_578.2.2 3) ((pushG γ kn σ) 3), xI g (u_578.2.1 3) 49 (zT ((pushG γ kn σ) 3)), xI g (u_578.2.2 3) 49 (zI ((pushG γ kn σ) 3)), cT tx ch L, xC g ch 60 T, cTr tr tw od os po re ca, cR tw ta tb τ, xI g ta 49 (zT τ), xI g tb 49 (zI τ), cO od vb n1 n2 nm en]) F w [0, 1, 2, 3] [4, 5, 6, 7, 8, 9, 10, 11, 12, 13, 14, 15, 16, 17, 18, 19, 20, 21, 22, 23, 24] [21, 22, 23, 24, 0, 1, 2, 3, 4, 5, 6, 7, 8, 9, 10, 11, 12, 13, 14, 15, 16, 17, 18, 19, 20] rfl rfl rfl (fun _ => rfl)
                  (fun hp => va_runV (As := []) (rest := []) F.1 (kX5_openSet l g x nw sn tk hs tx tr na nb (turnS d9 σ) H.size ) (cwV 0 hts gL_acts_X5_openSet rfl rfl rfl ⟨rfl, hd_X5_openSet⟩ ⟨Nat.le_of_ble_eq_true rfl, Nat.le_of_ble_eq_true rfl⟩) ⟨hp.1, va_recv F.2.2.2.1.1 w.1 (q0 := 0) (ci := 5) rfl rfl, hp.2⟩ rfl rfl hl.1 rfl (lv_room (Nat.le_of_ble_eq_true rfl)) dL_acts_532 ⟨by show _ ≤ (60 : Nat); omega, by show _ ≤ (360 : Nat); omega⟩)
                  (fun r_583 _ H locs h_584 w => ?_)
                subst h_584
                refine lv_iload hx hb dL_acts_535 (lv_at hl 0 rfl) ?_
                refine lv_if_eq (tgt := 550) hx hb dL_acts_537 (by decide) (fun h_585 => ?_) (fun h_585 => ?_)
                · exact absurd h_585 (by decide)
                refine lv_lload hx hb dL_acts_540 (lv_at hl 6 rfl) ?_
                refine lv_lconst (v := 1) hx hb dL_acts_542 (by decide) ?_
                refine lv_iload hx hb dL_acts_543 (lv_at hl 8 rfl) ?_
                refine lv_lshl hx hb dL_acts_545 rfl ?_
                refine ktopl (y := zbit d9) (zm_bit (by omega)) ?_
                refine lv_lxor hx hb dL_acts_546 ?_
                refine ktopl (y := zB (zO (turnS d9 σ))) (zO_turn hdi.1 hdi.2) ?_
                refine lv_goto (tgt := 552) hx hb dL_acts_547 (by decide) ?_
                refine W.lcmp hx hb dL_acts_552 ?_
                refine lv_if_ne (tgt := 580) hx hb dL_acts_553 (by decide) (fun h_586 => ?_) (fun h_586 => ?_)
                · exact absurd (lgc_eq.mpr rfl) h_586
                refine lv_aload_n hx hb dL_acts_556 rfl (lv_at hl 10 rfl) ?_
                refine kcalli (wc := [cX x nw sn tk hs tx tr, cR nw na nb (turnS d9 σ), xI g na 49 (zT (turnS d9 σ)), xI g nb 49 (zI (turnS d9 σ))]) (wr := [cH hs hq (pushN kn), xQ g hq 4 (rq u_578.1), cR (u_578.1 0) (u_578.2.1 0) (u_578.2.2 0) ((pushG γ kn σ) 0), xI g (u_578.2.1 0) 49 (zT ((pushG γ kn σ) 0)), xI g (u_578.2.2 0) 49 (zI ((pushG γ kn σ) 0)), cR (u_578.1 1) (u_578.2.1 1) (u_578.2.2 1) ((pushG γ kn σ) 1), xI g (u_578.2.1 1) 49 (zT ((pushG γ kn σ) 1)), xI g (u_578.2.2 1) 49 (zI ((pushG γ kn σ) 1)), cR (u_578.1 2) (u_578.2.1 2) (u_578.2.2 2) ((pushG γ kn σ) 2), xI g (u_578.2.1 2) 49 (zT ((pushG γ kn σ) 2)), xI g (u_578.2.2 2) 49 (zI ((pushG γ kn σ) 2)), cR (u_578.1 3) (u_578.2.1 3) (u_578.2.2 3) ((pushG γ kn σ) 3), xI g (u_578.2.1 3) 49 (zT ((pushG γ kn σ) 3)), xI g (u_578.2.2 3) 49 (zI ((pushG γ kn σ) 3)), cT tx ch L, xC g ch 60 T, cTr tr tw od os po re ca, cR tw ta tb τ, xI g ta 49 (zT τ), xI g tb 49 (zI τ), cO od vb n1 n2 nm en]) (wn := fun (u : Unit) => [cX x nw sn tk hs tx tr, cR nw na nb (turnS d9 σ), xI g na 49 (zT (turnS d9 σ)), xI g nb 49 (zI (turnS d9 σ)), cH hs hq (pushN kn), xQ g hq 4 (rq u_578.1), cR (u_578.1 0) (u_578.2.1 0) (u_578.2.2 0) ((pushG γ kn σ) 0), xI g (u_578.2.1 0) 49 (zT ((pushG γ kn σ) 0)), xI g (u_578.2.2 0) 49 (zI ((pushG γ kn σ) 0)), cR (u_578.1 1) (u_578.2.1 1) (u_578.2.2 1) ((pushG γ kn σ) 1), xI g (u_578.2.1 1) 49 (zT ((pushG γ kn σ) 1)), xI g (u_578.2.2 1) 49 (zI ((pushG γ kn σ) 1)), cR (u_578.1 2) (u_578.2.1 2) (u_578.2.2 2) ((pushG γ kn σ) 2), xI g (u_578.2.1 2) 49 (zT ((pushG γ kn σ) 2)), xI g (u_578.2.2 2) 49 (zI ((pushG γ kn σ) 2)), cR (u_578.1 3) (u_578.2.1 3) (u_578.2.2 3) ((pushG γ kn σ) 3), xI g (u_578.2.1 3) 49 (zT ((pushG γ kn σ) 3)), xI g (u_578.2.2 3) 49 (zI ((pushG γ kn σ) 3)), cT tx ch L, xC g ch 60 T, cTr tr tw od os po re ca, cR tw ta tb τ, xI g ta 49 (zT τ), xI g tb 49 (zI τ), cO od vb n1 n2 nm en]) F w [0, 1, 2, 3] [4, 5, 6, 7, 8, 9, 10, 11, 12, 13, 14, 15, 16, 17, 18, 19, 20, 21, 22, 23, 24] [21, 22, 23, 24, 0, 1, 2, 3, 4, 5, 6, 7, 8, 9, 10, 11, 12, 13, 14, 15, 16, 17, 18, 19, 20] rfl rfl rfl (fun _ => rfl)
                  (fun hp => va_runV (As := []) (rest := []) F.1 (kX5_turnsInAll l g x nw sn tk hs tx tr na nb (turnS d9 σ) H.size ) (cwV 0 hts gL_acts_X5_turnsInAll rfl rfl rfl ⟨rfl, hd_X5_turnsInAll⟩ ⟨Nat.le_of_ble_eq_true rfl, Nat.le_of_ble_eq_true rfl⟩) ⟨hp.1, va_recv F.2.2.2.1.1 w.1 (q0 := 0) (ci := 5) rfl rfl, hp.2⟩ rfl rfl hl.1 rfl (lv_room (Nat.le_of_ble_eq_true rfl)) dL_acts_557 ⟨by show _ ≤ (60 : Nat); omega, by show _ ≤ (360 : Nat); omega⟩)
                  (fun r_587 _ H locs h_588 w => ?_)
                subst h_588
                refine ktopi (y := tA (turnS d9 σ)) (rfl) ?_
                refine lv_iload hx hb dL_acts_560 (lv_at hl 4 rfl) ?_
                refine lv_iload hx hb dL_acts_562 (lv_at hl 0 rfl) ?_
                refine lv_if_eq (tgt := 571) hx hb dL_acts_564 (by decide) (fun h_589 => ?_) (fun h_589 => ?_)
                · exact absurd h_589 (by decide)
                refine lv_iconst (v := nI 1) hx hb dL_acts_567 (by decide) ?_
                refine lv_goto (tgt := 572) hx hb dL_acts_568 (by decide) ?_
                refine lv_iadd hx hb dL_acts_572 ?_
                refine ktopi (y := tA (turnS d9 σ)) (tA_turn1 hdi.1 hdi.2) ?_
                refine lv_icmp_ne (tgt := 580) hx hb dL_acts_573 (by decide) (fun h_590 => ?_) (fun h_590 => ?_)
                · exact absurd rfl h_590
                refine lv_iconst (v := nI 1) hx hb dL_acts_576 (by decide) ?_
                refine lv_goto (tgt := 581) hx hb dL_acts_577 (by decide) ?_
                refine ktopi (y := bI true) (by decide) ?_
                refine W.widen (k := 60) (n := 360) (by omega) (by omega) ?_
                subst hA
                subst hQ
                exact kretz F w (turnS d9 σ, pushN kn, u_578.1, u_578.2.1, u_578.2.2, pushG γ kn σ, L, T, os, po, re, ca, τ, vb, n1, n2, nm, en) [0, 1, 2, 3, 4, 5, 6, 7, 8, 9, 10, 11, 12, 13, 14, 15, 16, 17, 18, 19, 20, 21, 22, 23, 24] rfl rfl (⟨rfl, actP_1 hL (fun B hB => (gB_turnS hB _).mono (by omega))⟩) (kz_n _) (Nat.le_of_ble_eq_true rfl) (Nat.le_of_ble_eq_true rfl) dL_acts_581
        · have h_166 : hw9 < 11 := (kc_ge_f (by omega) (by omega)).mp h_166
          have JN_591 : ∀ (t9 : Nat) (ht9 : t9 ≤ 97) (H : Heap) (locs : List Loc) (ls : Array Slot), kW g A s [cX x nw sn tk hs tx tr, cR nw na nb σ, xI g na 49 (zT σ), xI g nb 49 (zI σ), cH hs hq kn, xQ g hq 4 (rq ρ), cR (ρ 0) (α 0) (β 0) (γ 0), xI g (α 0) 49 (zT (γ 0)), xI g (β 0) 49 (zI (γ 0)), cR (ρ 1) (α 1) (β 1) (γ 1), xI g (α 1) 49 (zT (γ 1)), xI g (β 1) 49 (zI (γ 1)), cR (ρ 2) (α 2) (β 2) (γ 2), xI g (α 2) 49 (zT (γ 2)), xI g (β 2) 49 (zI (γ 2)), cR (ρ 3) (α 3) (β 3) (γ 3), xI g (α 3) 49 (zT (γ 3)), xI g (β 3) 49 (zI (γ 3)), cT tx ch L, xC g ch 60 T, cTr tr tw od os po re ca, cR tw ta tb τ, xI g ta 49 (zT τ), xI g tb 49 (zI τ), cO od vb n1 n2 nm en] H locs → lv_has ls 22 [(12, .int (nI (zcnt (kindP σ true) 48))), (11, .int (nI (zcnt (kindP σ false) 48))), (10, .int (tA σ)), (8, .long (zB (zL σ))), (6, .long (zB (zO σ))), (5, .int (bI false)), (4, .int (nI d9)), (3, .int (nI hw9)), (0, .ref x), (1, .int v), (2, .int yv)] → W p l e rmL_acts s m args below meth c H locs 0 0 Q (F0 m 270 ls [.int (nI t9)]) := by
            intro t9 ht9 H locs ls w hl
            refine lv_istore (lv' := [(13, .int (nI t9)), (12, .int (nI (zcnt (kindP σ true) 48))), (11, .int (nI (zcnt (kindP σ false) 48))), (10, .int (tA σ)), (8, .long (zB (zL σ))), (6, .long (zB (zO σ))), (5, .int (bI false)), (4, .int (nI d9)), (3, .int (nI hw9)), (0, .ref x), (1, .int v), (2, .int yv)]) hx hb dL_acts_270 hl (by decide) rfl (fun ls hl => ?_)
            have JN_592 : ∀  (hbad : ¬ (1 ≤ d9 ∧ d9 ≤ t9 ∧ t9 ≤ 48)) (H : Heap) (locs : List Loc) (ls : Array Slot), kW g A s [cX x nw sn tk hs tx tr, cR nw na nb σ, xI g na 49 (zT σ), xI g nb 49 (zI σ), cH hs hq kn, xQ g hq 4 (rq ρ), cR (ρ 0) (α 0) (β 0) (γ 0), xI g (α 0) 49 (zT (γ 0)), xI g (β 0) 49 (zI (γ 0)), cR (ρ 1) (α 1) (β 1) (γ 1), xI g (α 1) 49 (zT (γ 1)), xI g (β 1) 49 (zI (γ 1)), cR (ρ 2) (α 2) (β 2) (γ 2), xI g (α 2) 49 (zT (γ 2)), xI g (β 2) 49 (zI (γ 2)), cR (ρ 3) (α 3) (β 3) (γ 3), xI g (α 3) 49 (zT (γ 3)), xI g (β 3) 49 (zI (γ 3)), cT tx ch L, xC g ch 60 T, cTr tr tw od os po re ca, cR tw ta tb τ, xI g ta 49 (zT τ), xI g tb 49 (zI τ), cO od vb n1 n2 nm en] H locs → lv_has ls 22 [(13, .int (nI t9)), (12, .int (nI (zcnt (kindP σ true) 48))), (11, .int (nI (zcnt (kindP σ false) 48))), (10, .int (tA σ)), (8, .long (zB (zL σ))), (6, .long (zB (zO σ))), (5, .int (bI false)), (4, .int (nI d9)), (3, .int (nI hw9)), (0, .ref x), (1, .int v), (2, .int yv)] → W p l e rmL_acts s m args below meth c H locs 0 0 Q (F0 m 296 ls [.int (bI true)]) := by
              intro  hbad H locs ls w hl
              refine lv_istore (lv' := [(14, .int (bI true)), (13, .int (nI t9)), (12, .int (nI (zcnt (kindP σ true) 48))), (11, .int (nI (zcnt (kindP σ false) 48))), (10, .int (tA σ)), (8, .long (zB (zL σ))), (6, .long (zB (zO σ))), (5, .int (bI false)), (4, .int (nI d9)), (3, .int (nI hw9)), (0, .ref x), (1, .int v), (2, .int yv)]) hx hb dL_acts_296 hl (by decide) rfl (fun ls hl => ?_)
              refine lv_lload hx hb dL_acts_298 (lv_at hl 6 rfl) ?_
              refine lv_lstore (lv' := [(15, .long (zB (zO σ))), (14, .int (bI true)), (13, .int (nI t9)), (12, .int (nI (zcnt (kindP σ true) 48))), (11, .int (nI (zcnt (kindP σ false) 48))), (10, .int (tA σ)), (8, .long (zB (zL σ))), (6, .long (zB (zO σ))), (5, .int (bI false)), (4, .int (nI d9)), (3, .int (nI hw9)), (0, .ref x), (1, .int v), (2, .int yv)]) hx hb dL_acts_300 hl (by decide) rfl (fun ls hl => ?_)
              refine lv_iconst (v := nI 0) hx hb dL_acts_302 (by decide) ?_
              refine lv_istore (lv' := [(17, .int (nI 0)), (15, .long (zB (zO σ))), (14, .int (bI true)), (13, .int (nI t9)), (12, .int (nI (zcnt (kindP σ true) 48))), (11, .int (nI (zcnt (kindP σ false) 48))), (10, .int (tA σ)), (8, .long (zB (zL σ))), (6, .long (zB (zO σ))), (5, .int (bI false)), (4, .int (nI d9)), (3, .int (nI hw9)), (0, .ref x), (1, .int v), (2, .int yv)]) hx hb dL_acts_303 hl (by decide) rfl (fun ls hl => ?_)
              refine lv_iconst (v := nI 0) hx hb dL_acts_305 (by decide) ?_
              refine lv_istore (lv' := [(18, .int (nI 0)), (17, .int (nI 0)), (15, .long (zB (zO σ))), (14, .int (bI true)), (13, .int (nI t9)), (12, .int (nI (zcnt (kindP σ true) 48))), (11, .int (nI (zcnt (kindP σ false) 48))), (10, .int (tA σ)), (8, .long (zB (zL σ))), (6, .long (zB (zO σ))), (5, .int (bI false)), (4, .int (nI d9)), (3, .int (nI hw9)), (0, .ref x), (1, .int v), (2, .int yv)]) hx hb dL_acts_306 hl (by decide) rfl (fun ls hl => ?_)
              refine lv_iload hx hb dL_acts_308 (lv_at hl 11 rfl) ?_
              refine lv_istore (lv' := [(19, .int (nI d9)), (18, .int (nI 0)), (17, .int (nI 0)), (15, .long (zB (zO σ))), (14, .int (bI true)), (13, .int (nI t9)), (12, .int (nI (zcnt (kindP σ true) 48))), (11, .int (nI (zcnt (kindP σ false) 48))), (10, .int (tA σ)), (8, .long (zB (zL σ))), (6, .long (zB (zO σ))), (5, .int (bI false)), (4, .int (nI d9)), (3, .int (nI hw9)), (0, .ref x), (1, .int v), (2, .int yv)]) hx hb dL_acts_310 hl (by decide) rfl (fun ls hl => ?_)
              have JN_593 : ∀   (H : Heap) (locs : List Loc) (ls : Array Slot), kW g A s [cX x nw sn tk hs tx tr, cR nw na nb σ, xI g na 49 (zT σ), xI g nb 49 (zI σ), cH hs hq kn, xQ g hq 4 (rq ρ), cR (ρ 0) (α 0) (β 0) (γ 0), xI g (α 0) 49 (zT (γ 0)), xI g (β 0) 49 (zI (γ 0)), cR (ρ 1) (α 1) (β 1) (γ 1), xI g (α 1) 49 (zT (γ 1)), xI g (β 1) 49 (zI (γ 1)), cR (ρ 2) (α 2) (β 2) (γ 2), xI g (α 2) 49 (zT (γ 2)), xI g (β 2) 49 (zI (γ 2)), cR (ρ 3) (α 3) (β 3) (γ 3), xI g (α 3) 49 (zT (γ 3)), xI g (β 3) 49 (zI (γ 3)), cT tx ch L, xC g ch 60 T, cTr tr tw od os po re ca, cR tw ta tb τ, xI g ta 49 (zT τ), xI g tb 49 (zI τ), cO od vb n1 n2 nm en] H locs → lv_has ls 22 [(19, .int (nI d9)), (18, .int (nI 0)), (17, .int (nI 0)), (15, .long (zB (zO σ))), (14, .int (bI true)), (13, .int (nI t9)), (12, .int (nI (zcnt (kindP σ true) 48))), (11, .int (nI (zcnt (kindP σ false) 48))), (10, .int (tA σ)), (8, .long (zB (zL σ))), (6, .long (zB (zO σ))), (5, .int (bI false)), (4, .int (nI d9)), (3, .int (nI hw9)), (0, .ref x), (1, .int v), (2, .int yv)] → W p l e rmL_acts s m args below meth c H locs 0 0 Q (F0 m 393 ls []) := by
                intro   H locs ls w hl
                refine lv_aload_n hx hb dL_acts_393 rfl (lv_at hl 14 rfl) ?_
                refine lv_iload hx hb dL_acts_394 (lv_at hl 12 rfl) ?_
                refine lv_iload hx hb dL_acts_396 (lv_at hl 5 rfl) ?_
                refine kcalli (wc := [cX x nw sn tk hs tx tr]) (wr := [cR nw na nb σ, xI g na 49 (zT σ), xI g nb 49 (zI σ), cH hs hq kn, xQ g hq 4 (rq ρ), cR (ρ 0) (α 0) (β 0) (γ 0), xI g (α 0) 49 (zT (γ 0)), xI g (β 0) 49 (zI (γ 0)), cR (ρ 1) (α 1) (β 1) (γ 1), xI g (α 1) 49 (zT (γ 1)), xI g (β 1) 49 (zI (γ 1)), cR (ρ 2) (α 2) (β 2) (γ 2), xI g (α 2) 49 (zT (γ 2)), xI g (β 2) 49 (zI (γ 2)), cR (ρ 3) (α 3) (β 3) (γ 3), xI g (α 3) 49 (zT (γ 3)), xI g (β 3) 49 (zI (γ 3)), cT tx ch L, xC g ch 60 T, cTr tr tw od os po re ca, cR tw ta tb τ, xI g ta 49 (zT τ), xI g tb 49 (zI τ), cO od vb n1 n2 nm en]) (wn := fun (u : Unit) => [cX x nw sn tk hs tx tr, cR nw na nb σ, xI g na 49 (zT σ), xI g nb 49 (zI σ), cH hs hq kn, xQ g hq 4 (rq ρ), cR (ρ 0) (α 0) (β 0) (γ 0), xI g (α 0) 49 (zT (γ 0)), xI g (β 0) 49 (zI (γ 0)), cR (ρ 1) (α 1) (β 1) (γ 1), xI g (α 1) 49 (zT (γ 1)), xI g (β 1) 49 (zI (γ 1)), cR (ρ 2) (α 2) (β 2) (γ 2), xI g (α 2) 49 (zT (γ 2)), xI g (β 2) 49 (zI (γ 2)), cR (ρ 3) (α 3) (β 3) (γ 3), xI g (α 3) 49 (zT (γ 3)), xI g (β 3) 49 (zI (γ 3)), cT tx ch L, xC g ch 60 T, cTr tr tw od os po re ca, cR tw ta tb τ, xI g ta 49 (zT τ), xI g tb 49 (zI τ), cO od vb n1 n2 nm en]) F w [0] [1, 2, 3, 4, 5, 6, 7, 8, 9, 10, 11, 12, 13, 14, 15, 16, 17, 18, 19, 20, 21, 22, 23, 24] [24, 0, 1, 2, 3, 4, 5, 6, 7, 8, 9, 10, 11, 12, 13, 14, 15, 16, 17, 18, 19, 20, 21, 22, 23] rfl rfl rfl (fun _ => rfl)
                  (fun hp => vx_runSW (As := [.ref x, .int (nI d9), .int (nI t9)]) (rest := []) F.1 (kL_passRow_A l hnl g x nw sn tk hs tx tr (nI d9) (nI t9) H.size (off_r (by omega) (by omega) hbad)) (vx_cwSW 3 hts gL_acts_L_passRow rfl rfl rfl hd_L_passRow ⟨Nat.le_of_ble_eq_true rfl, Nat.le_of_ble_eq_true rfl⟩) hp rfl rfl hl.1 rfl (lv_room (Nat.le_of_ble_eq_true rfl)) dL_acts_398 ⟨by show _ ≤ (60 : Nat); omega, by show _ ≤ (360 : Nat); omega⟩)
                  (fun r_594 _ H locs h_595 w => ?_)
                subst h_595
                refine lv_iload hx hb dL_acts_401 (lv_at hl 4 rfl) ?_
                refine lv_if_eq (tgt := 411) hx hb dL_acts_403 (by decide) (fun h_596 => ?_) (fun h_596 => ?_)
                · exact absurd h_596 (by decide)
                refine lv_bipush (v := (-102)) hx hb dL_acts_406 (by decide) ?_
                refine lv_goto (tgt := 413) hx hb dL_acts_408 (by decide) ?_
                refine lv_icmp_ne (tgt := 442) hx hb dL_acts_413 (by decide) (fun h_597 => ?_) (fun h_597 => ?_)
                · exact absurd rfl h_597
                refine lv_aload_n hx hb dL_acts_416 rfl (lv_at hl 14 rfl) ?_
                refine kcalll (wc := [cX x nw sn tk hs tx tr, cR nw na nb σ, xI g na 49 (zT σ), xI g nb 49 (zI σ)]) (wr := [cH hs hq kn, xQ g hq 4 (rq ρ), cR (ρ 0) (α 0) (β 0) (γ 0), xI g (α 0) 49 (zT (γ 0)), xI g (β 0) 49 (zI (γ 0)), cR (ρ 1) (α 1) (β 1) (γ 1), xI g (α 1) 49 (zT (γ 1)), xI g (β 1) 49 (zI (γ 1)), cR (ρ 2) (α 2) (β 2) (γ 2), xI g (α 2) 49 (zT (γ 2)), xI g (β 2) 49 (zI (γ 2)), cR (ρ 3) (α 3) (β 3) (γ 3), xI g (α 3) 49 (zT (γ 3)), xI g (β 3) 49 (zI (γ 3)), cT tx ch L, xC g ch 60 T, cTr tr tw od os po re ca, cR tw ta tb τ, xI g ta 49 (zT τ), xI g tb 49 (zI τ), cO od vb n1 n2 nm en]) (wn := fun (u : Unit) => [cX x nw sn tk hs tx tr, cR nw na nb σ, xI g na 49 (zT σ), xI g nb 49 (zI σ), cH hs hq kn, xQ g hq 4 (rq ρ), cR (ρ 0) (α 0) (β 0) (γ 0), xI g (α 0) 49 (zT (γ 0)), xI g (β 0) 49 (zI (γ 0)), cR (ρ 1) (α 1) (β 1) (γ 1), xI g (α 1) 49 (zT (γ 1)), xI g (β 1) 49 (zI (γ 1)), cR (ρ 2) (α 2) (β 2) (γ 2), xI g (α 2) 49 (zT (γ 2)), xI g (β 2) 49 (zI (γ 2)), cR (ρ 3) (α 3) (β 3) (γ 3), xI g (α 3) 49 (zT (γ 3)), xI g (β 3) 49 (zI (γ 3)), cT tx ch L, xC g ch 60 T, cTr tr tw od os po re ca, cR tw ta tb τ, xI g ta 49 (zT τ), xI g tb 49 (zI τ), cO od vb n1 n2 nm en]) F w [0, 1, 2, 3] [4, 5, 6, 7, 8, 9, 10, 11, 12, 13, 14, 15, 16, 17, 18, 19, 20, 21, 22, 23, 24] [21, 22, 23, 24, 0, 1, 2, 3, 4, 5, 6, 7, 8, 9, 10, 11, 12, 13, 14, 15, 16, 17, 18, 19, 20] rfl rfl rfl (fun _ => rfl)
                  (fun hp => va_runV (As := []) (rest := []) F.1 (kX5_openSet l g x nw sn tk hs tx tr na nb σ H.size ) (cwV 0 hts gL_acts_X5_openSet rfl rfl rfl ⟨rfl, hd_X5_openSet⟩ ⟨Nat.le_of_ble_eq_true rfl, Nat.le_of_ble_eq_true rfl⟩) ⟨hp.1, va_recv F.2.2.2.1.1 w.1 (q0 := 0) (ci := 5) rfl rfl, hp.2⟩ rfl rfl hl.1 rfl (lv_room (Nat.le_of_ble_eq_true rfl)) dL_acts_417 ⟨by show _ ≤ (60 : Nat); omega, by show _ ≤ (360 : Nat); omega⟩)
                  (fun r_598 _ H locs h_599 w => ?_)
                subst h_599
                refine lv_lload hx hb dL_acts_420 (lv_at hl 3 rfl) ?_
                refine W.lcmp hx hb dL_acts_422 ?_
                refine lv_if_ne (tgt := 442) hx hb dL_acts_423 (by decide) (fun h_600 => ?_) (fun h_600 => ?_)
                · exact absurd (lgc_eq.mpr rfl) h_600
                refine lv_aload_n hx hb dL_acts_426 rfl (lv_at hl 14 rfl) ?_
                refine kcalli (wc := [cX x nw sn tk hs tx tr, cR nw na nb σ, xI g na 49 (zT σ), xI g nb 49 (zI σ)]) (wr := [cH hs hq kn, xQ g hq 4 (rq ρ), cR (ρ 0) (α 0) (β 0) (γ 0), xI g (α 0) 49 (zT (γ 0)), xI g (β 0) 49 (zI (γ 0)), cR (ρ 1) (α 1) (β 1) (γ 1), xI g (α 1) 49 (zT (γ 1)), xI g (β 1) 49 (zI (γ 1)), cR (ρ 2) (α 2) (β 2) (γ 2), xI g (α 2) 49 (zT (γ 2)), xI g (β 2) 49 (zI (γ 2)), cR (ρ 3) (α 3) (β 3) (γ 3), xI g (α 3) 49 (zT (γ 3)), xI g (β 3) 49 (zI (γ 3)), cT tx ch L, xC g ch 60 T, cTr tr tw od os po re ca, cR tw ta tb τ, xI g ta 49 (zT τ), xI g tb 49 (zI τ), cO od vb n1 n2 nm en]) (wn := fun (u : Unit) => [cX x nw sn tk hs tx tr, cR nw na nb σ, xI g na 49 (zT σ), xI g nb 49 (zI σ), cH hs hq kn, xQ g hq 4 (rq ρ), cR (ρ 0) (α 0) (β 0) (γ 0), xI g (α 0) 49 (zT (γ 0)), xI g (β 0) 49 (zI (γ 0)), cR (ρ 1) (α 1) (β 1) (γ 1), xI g (α 1) 49 (zT (γ 1)), xI g (β 1) 49 (zI (γ 1)), cR (ρ 2) (α 2) (β 2) (γ 2), xI g (α 2) 49 (zT (γ 2)), xI g (β 2) 49 (zI (γ 2)), cR (ρ 3) (α 3) (β 3) (γ 3), xI g (α 3) 49 (zT (γ 3)), xI g (β 3) 49 (zI (γ 3)), cT tx ch L, xC g ch 60 T, cTr tr tw od os po re ca, cR tw ta tb τ, xI g ta 49 (zT τ), xI g tb 49 (zI τ), cO od vb n1 n2 nm en]) F w [0, 1, 2, 3] [4, 5, 6, 7, 8, 9, 10, 11, 12, 13, 14, 15, 16, 17, 18, 19, 20, 21, 22, 23, 24] [21, 22, 23, 24, 0, 1, 2, 3, 4, 5, 6, 7, 8, 9, 10, 11, 12, 13, 14, 15, 16, 17, 18, 19, 20] rfl rfl rfl (fun _ => rfl)
                  (fun hp => va_runV (As := []) (rest := []) F.1 (kX5_turnsInAll l g x nw sn tk hs tx tr na nb σ H.size ) (cwV 0 hts gL_acts_X5_turnsInAll rfl rfl rfl ⟨rfl, hd_X5_turnsInAll⟩ ⟨Nat.le_of_ble_eq_true rfl, Nat.le_of_ble_eq_true rfl⟩) ⟨hp.1, va_recv F.2.2.2.1.1 w.1 (q0 := 0) (ci := 5) rfl rfl, hp.2⟩ rfl rfl hl.1 rfl (lv_room (Nat.le_of_ble_eq_true rfl)) dL_acts_427 ⟨by show _ ≤ (60 : Nat); omega, by show _ ≤ (360 : Nat); omega⟩)
                  (fun r_601 _ H locs h_602 w => ?_)
                subst h_602
                refine ktopi (y := tA σ) (rfl) ?_
                refine lv_iload hx hb dL_acts_430 (lv_at hl 8 rfl) ?_
                refine lv_iload hx hb dL_acts_432 (lv_at hl 1 rfl) ?_
                refine lv_iadd hx hb dL_acts_434 ?_
                refine ktopi (y := tA σ) (add_n0 _) ?_
                refine lv_icmp_ne (tgt := 442) hx hb dL_acts_435 (by decide) (fun h_603 => ?_) (fun h_603 => ?_)
                · exact absurd rfl h_603
                refine lv_iconst (v := nI 1) hx hb dL_acts_438 (by decide) ?_
                refine lv_goto (tgt := 443) hx hb dL_acts_439 (by decide) ?_
                refine ktopi (y := bI true) (by decide) ?_
                refine W.widen (k := 60) (n := 360) (by omega) (by omega) ?_
                subst hA
                subst hQ
                exact kretz F w (σ, kn, ρ, α, β, γ, L, T, os, po, re, ca, τ, vb, n1, n2, nm, en) [0, 1, 2, 3, 4, 5, 6, 7, 8, 9, 10, 11, 12, 13, 14, 15, 16, 17, 18, 19, 20, 21, 22, 23, 24] rfl rfl (⟨rfl, actP_0 hL⟩) (kz_n _) (Nat.le_of_ble_eq_true rfl) (Nat.le_of_ble_eq_true rfl) dL_acts_443
              refine lv_iload hx hb dL_acts_312 (lv_at hl 0 rfl) ?_
              refine lv_iload hx hb dL_acts_314 (lv_at hl 5 rfl) ?_
              refine lv_icmp_gt (tgt := 393) hx hb dL_acts_316 (by decide) (fun h_604 => ?_) (fun h_604 => ?_)
              · have h_604 : d9 > t9 := (kc_gt_t (by omega) (by omega)).mp h_604
                exact JN_593   _ _ _ (kW.perm w [0, 1, 2, 3, 4, 5, 6, 7, 8, 9, 10, 11, 12, 13, 14, 15, 16, 17, 18, 19, 20, 21, 22, 23, 24] rfl rfl) (lv_sub hl [0, 1, 2, 3, 4, 5, 6, 7, 8, 9, 10, 11, 12, 13, 14, 15, 16] rfl)
              · have h_604 : d9 ≤ t9 := (kc_gt_f (by omega) (by omega)).mp h_604
                refine lv_iload hx hb dL_acts_319 (lv_at hl 4 rfl) ?_
                refine lv_if_ne (tgt := 393) hx hb dL_acts_321 (by decide) (fun h_605 => ?_) (fun h_605 => ?_)
                rotate_left 1
                · exact absurd h_605 (by decide)
                exact JN_593   _ _ _ (kW.perm w [0, 1, 2, 3, 4, 5, 6, 7, 8, 9, 10, 11, 12, 13, 14, 15, 16, 17, 18, 19, 20, 21, 22, 23, 24] rfl rfl) (lv_sub hl [0, 1, 2, 3, 4, 5, 6, 7, 8, 9, 10, 11, 12, 13, 14, 15, 16] rfl)
            refine lv_iload hx hb dL_acts_272 (lv_at hl 6 rfl) ?_
            refine lv_if_ne (tgt := 291) hx hb dL_acts_274 (by decide) (fun h_606 => ?_) (fun h_606 => ?_)
            · exact absurd rfl h_606
            refine lv_iload hx hb dL_acts_277 (lv_at hl 0 rfl) ?_
            refine lv_iload hx hb dL_acts_279 (lv_at hl 7 rfl) ?_
            refine lv_icmp_lt (tgt := 291) hx hb dL_acts_281 (by decide) (fun h_607 => ?_) (fun h_607 => ?_)
            · have h_607 : t9 < d9 := (kc_lt_t (by omega) (by omega)).mp h_607
              refine lv_iconst (v := nI 1) hx hb dL_acts_291 (by decide) ?_
              refine lv_goto (tgt := 296) hx hb dL_acts_292 (by decide) ?_
              refine ktopi (y := bI true) (by decide) ?_
              exact JN_592  (by omega) _ _ _ (kW.perm w [0, 1, 2, 3, 4, 5, 6, 7, 8, 9, 10, 11, 12, 13, 14, 15, 16, 17, 18, 19, 20, 21, 22, 23, 24] rfl rfl) (lv_sub hl [0, 1, 2, 3, 4, 5, 6, 7, 8, 9, 10, 11] rfl)
            · have h_607 : t9 ≥ d9 := (kc_lt_f (by omega) (by omega)).mp h_607
              refine lv_iload hx hb dL_acts_284 (lv_at hl 0 rfl) ?_
              refine lv_bipush (v := nI 48) hx hb dL_acts_286 (by decide) ?_
              refine lv_icmp_le (tgt := 295) hx hb dL_acts_288 (by decide) (fun h_608 => ?_) (fun h_608 => ?_)
              · have h_608 : t9 ≤ 48 := (kc_le_t (by omega) (by omega)).mp h_608
                have hgd : 1 ≤ d9 ∧ d9 ≤ t9 ∧ t9 ≤ 48 := by omega
                refine lv_iconst (v := nI 0) hx hb dL_acts_295 (by decide) ?_
                refine ktopi (y := bI false) (by decide) ?_
                refine lv_istore (lv' := [(14, .int (bI false)), (13, .int (nI t9)), (12, .int (nI (zcnt (kindP σ true) 48))), (11, .int (nI (zcnt (kindP σ false) 48))), (10, .int (tA σ)), (8, .long (zB (zL σ))), (6, .long (zB (zO σ))), (5, .int (bI false)), (4, .int (nI d9)), (3, .int (nI hw9)), (0, .ref x), (1, .int v), (2, .int yv)]) hx hb dL_acts_296 hl (by decide) rfl (fun ls hl => ?_)
                refine lv_lload hx hb dL_acts_298 (lv_at hl 6 rfl) ?_
                refine ktopl (y := zB (zO (rowN d9 0 σ))) (rfl) ?_
                refine lv_lstore (lv' := [(15, .long (zB (zO (rowN d9 0 σ)))), (14, .int (bI false)), (13, .int (nI t9)), (12, .int (nI (zcnt (kindP σ true) 48))), (11, .int (nI (zcnt (kindP σ false) 48))), (10, .int (tA σ)), (8, .long (zB (zL σ))), (6, .long (zB (zO σ))), (5, .int (bI false)), (4, .int (nI d9)), (3, .int (nI hw9)), (0, .ref x), (1, .int v), (2, .int yv)]) hx hb dL_acts_300 hl (by decide) rfl (fun ls hl => ?_)
                refine lv_iconst (v := nI 0) hx hb dL_acts_302 (by decide) ?_
                refine ktopi (y := nI (rowC d9 0 σ)) (rfl) ?_
                refine lv_istore (lv' := [(17, .int (nI (rowC d9 0 σ))), (15, .long (zB (zO (rowN d9 0 σ)))), (14, .int (bI false)), (13, .int (nI t9)), (12, .int (nI (zcnt (kindP σ true) 48))), (11, .int (nI (zcnt (kindP σ false) 48))), (10, .int (tA σ)), (8, .long (zB (zL σ))), (6, .long (zB (zO σ))), (5, .int (bI false)), (4, .int (nI d9)), (3, .int (nI hw9)), (0, .ref x), (1, .int v), (2, .int yv)]) hx hb dL_acts_303 hl (by decide) rfl (fun ls hl => ?_)
                refine lv_iconst (v := nI 0) hx hb dL_acts_305 (by decide) ?_
                refine ktopi (y := rowM σ d9 0) (rfl) ?_
                refine lv_istore (lv' := [(18, .int (rowM σ d9 0)), (17, .int (nI (rowC d9 0 σ))), (15, .long (zB (zO (rowN d9 0 σ)))), (14, .int (bI false)), (13, .int (nI t9)), (12, .int (nI (zcnt (kindP σ true) 48))), (11, .int (nI (zcnt (kindP σ false) 48))), (10, .int (tA σ)), (8, .long (zB (zL σ))), (6, .long (zB (zO σ))), (5, .int (bI false)), (4, .int (nI d9)), (3, .int (nI hw9)), (0, .ref x), (1, .int v), (2, .int yv)]) hx hb dL_acts_306 hl (by decide) rfl (fun ls hl => ?_)
                refine lv_iload hx hb dL_acts_308 (lv_at hl 11 rfl) ?_
                refine ktopi (y := nI (d9 + 0)) (rfl) ?_
                refine lv_istore (lv' := [(19, .int (nI (d9 + 0))), (18, .int (rowM σ d9 0)), (17, .int (nI (rowC d9 0 σ))), (15, .long (zB (zO (rowN d9 0 σ)))), (14, .int (bI false)), (13, .int (nI t9)), (12, .int (nI (zcnt (kindP σ true) 48))), (11, .int (nI (zcnt (kindP σ false) 48))), (10, .int (tA σ)), (8, .long (zB (zL σ))), (6, .long (zB (zO σ))), (5, .int (bI false)), (4, .int (nI d9)), (3, .int (nI hw9)), (0, .ref x), (1, .int v), (2, .int yv)]) hx hb dL_acts_310 hl (by decide) rfl (fun ls hl => ?_)
                have LP_609 : ∀ (fu : Nat) (j : Nat) (k1 : j ≤ t9 + 1 - d9) (H : Heap) (locs : List Loc) (ls : Array Slot), 200 - j < fu → kW g A s [cX x nw sn tk hs tx tr, cR nw na nb σ, xI g na 49 (zT σ), xI g nb 49 (zI σ), cH hs hq kn, xQ g hq 4 (rq ρ), cR (ρ 0) (α 0) (β 0) (γ 0), xI g (α 0) 49 (zT (γ 0)), xI g (β 0) 49 (zI (γ 0)), cR (ρ 1) (α 1) (β 1) (γ 1), xI g (α 1) 49 (zT (γ 1)), xI g (β 1) 49 (zI (γ 1)), cR (ρ 2) (α 2) (β 2) (γ 2), xI g (α 2) 49 (zT (γ 2)), xI g (β 2) 49 (zI (γ 2)), cR (ρ 3) (α 3) (β 3) (γ 3), xI g (α 3) 49 (zT (γ 3)), xI g (β 3) 49 (zI (γ 3)), cT tx ch L, xC g ch 60 T, cTr tr tw od os po re ca, cR tw ta tb τ, xI g ta 49 (zT τ), xI g tb 49 (zI τ), cO od vb n1 n2 nm en] H locs → lv_has ls 22 [(19, .int (nI (d9 + j))), (18, .int (rowM σ d9 j)), (17, .int (nI (rowC d9 j σ))), (15, .long (zB (zO (rowN d9 j σ)))), (14, .int (bI false)), (13, .int (nI t9)), (12, .int (nI (zcnt (kindP σ true) 48))), (11, .int (nI (zcnt (kindP σ false) 48))), (10, .int (tA σ)), (8, .long (zB (zL σ))), (6, .long (zB (zO σ))), (5, .int (bI false)), (4, .int (nI d9)), (3, .int (nI hw9)), (0, .ref x), (1, .int v), (2, .int yv)] → W p l e rmL_acts s m args below meth c H locs 0 0 Q (F0 m 312 ls []) := by
                  intro fu
                  induction fu with
                  | zero => intro j k1 H locs ls hlt; omega
                  | succ fu ih_609 =>
                    intro j k1 H locs ls hlt w hl
                    have hrc := rowC_le d9 σ j
                    refine lv_iload hx hb dL_acts_312 (lv_at hl 0 rfl) ?_
                    refine lv_iload hx hb dL_acts_314 (lv_at hl 5 rfl) ?_
                    refine lv_icmp_gt (tgt := 393) hx hb dL_acts_316 (by decide) (fun h_610 => ?_) (fun h_610 => ?_)
                    · have h_610 : d9 + j > t9 := (kc_gt_t (by omega) (by omega)).mp h_610
                      have e_611 : j = t9 + 1 - d9 := by omega
                      subst e_611
                      refine lv_aload_n hx hb dL_acts_393 rfl (lv_at hl 14 rfl) ?_
                      refine lv_iload hx hb dL_acts_394 (lv_at hl 12 rfl) ?_
                      refine lv_iload hx hb dL_acts_396 (lv_at hl 5 rfl) ?_
                      refine kcalli (wc := [cX x nw sn tk hs tx tr, cR nw na nb σ, xI g na 49 (zT σ), xI g nb 49 (zI σ), cH hs hq kn, xQ g hq 4 (rq ρ), cR (ρ 0) (α 0) (β 0) (γ 0), xI g (α 0) 49 (zT (γ 0)), xI g (β 0) 49 (zI (γ 0)), cR (ρ 1) (α 1) (β 1) (γ 1), xI g (α 1) 49 (zT (γ 1)), xI g (β 1) 49 (zI (γ 1)), cR (ρ 2) (α 2) (β 2) (γ 2), xI g (α 2) 49 (zT (γ 2)), xI g (β 2) 49 (zI (γ 2)), cR (ρ 3) (α 3) (β 3) (γ 3), xI g (α 3) 49 (zT (γ 3)), xI g (β 3) 49 (zI (γ 3))]) (wr := [cT tx ch L, xC g ch 60 T, cTr tr tw od os po re ca, cR tw ta tb τ, xI g ta 49 (zT τ), xI g tb 49 (zI τ), cO od vb n1 n2 nm en]) (wn := fun (u : (Nat → Nat) × (Nat → Nat) × (Nat → Nat)) => [cX x nw sn tk hs tx tr, cR nw na nb (rowN d9 (t9 + 1 - d9) σ), xI g na 49 (zT (rowN d9 (t9 + 1 - d9) σ)), xI g nb 49 (zI (rowN d9 (t9 + 1 - d9) σ)), cH hs hq (pushN kn), xQ g hq 4 (rq u.1), cR (u.1 0) (u.2.1 0) (u.2.2 0) ((pushG γ kn σ) 0), xI g (u.2.1 0) 49 (zT ((pushG γ kn σ) 0)), xI g (u.2.2 0) 49 (zI ((pushG γ kn σ) 0)), cR (u.1 1) (u.2.1 1) (u.2.2 1) ((pushG γ kn σ) 1), xI g (u.2.1 1) 49 (zT ((pushG γ kn σ) 1)), xI g (u.2.2 1) 49 (zI ((pushG γ kn σ) 1)), cR (u.1 2) (u.2.1 2) (u.2.2 2) ((pushG γ kn σ) 2), xI g (u.2.1 2) 49 (zT ((pushG γ kn σ) 2)), xI g (u.2.2 2) 49 (zI ((pushG γ kn σ) 2)), cR (u.1 3) (u.2.1 3) (u.2.2 3) ((pushG γ kn σ) 3), xI g (u.2.1 3) 49 (zT ((pushG γ kn σ) 3)), xI g (u.2.2 3) 49 (zI ((pushG γ kn σ) 3)), cT tx ch L, xC g ch 60 T, cTr tr tw od os po re ca, cR tw ta tb τ, xI g ta 49 (zT τ), xI g tb 49 (zI τ), cO od vb n1 n2 nm en]) F w [0, 1, 2, 3, 4, 5, 6, 7, 8, 9, 10, 11, 12, 13, 14, 15, 16, 17] [18, 19, 20, 21, 22, 23, 24] [7, 8, 9, 10, 11, 12, 13, 14, 15, 16, 17, 18, 19, 20, 21, 22, 23, 24, 0, 1, 2, 3, 4, 5, 6] rfl rfl rfl (fun _ => rfl)
                        (fun hp => vx_runSW (As := [.ref x, .int (nI d9), .int (nI t9)]) (rest := []) F.1 (kL_passRow_k l g x nw sn tk hs tx tr na nb σ hq kn ρ α β γ d9 t9 H.size hgd hkn) (vx_cwSW 3 hts gL_acts_L_passRow rfl rfl rfl hd_L_passRow ⟨Nat.le_of_ble_eq_true rfl, Nat.le_of_ble_eq_true rfl⟩) hp rfl rfl hl.1 rfl (lv_room (Nat.le_of_ble_eq_true rfl)) dL_acts_398 ⟨by show _ ≤ (60 : Nat); omega, by show _ ≤ (360 : Nat); omega⟩)
                        (fun r_612 u H locs h_613 w => ?_)
                      try dsimp only at h_613
                      obtain ⟨u_614, hu9⟩ : ∃ z, z = u := ⟨_, rfl⟩
                      subst hu9
                      have w : kW g A s [cX x nw sn tk hs tx tr, cR nw na nb (rowN d9 (t9 + 1 - d9) σ), xI g na 49 (zT (rowN d9 (t9 + 1 - d9) σ)), xI g nb 49 (zI (rowN d9 (t9 + 1 - d9) σ)), cH hs hq (pushN kn), xQ g hq 4 (rq u_614.1), cR (u_614.1 0) (u_614.2.1 0) (u_614.2.2 0) ((pushG γ kn σ) 0), xI g (u_614.2.1 0) 49 (zT ((pushG γ kn σ) 0)), xI g (u_614.2.2 0) 49 (zI ((pushG γ kn σ) 0)), cR (u_614.1 1) (u_614.2.1 1) (u_614.2.2 1) ((pushG γ kn σ) 1), xI g (u_614.2.1 1) 49 (zT ((pushG γ kn σ) 1)), xI g (u_614.2.2 1) 49 (zI ((pushG γ kn σ) 1)), cR (u_614.1 2) (u_614.2.1 2) (u_614.2.2 2) ((pushG γ kn σ) 2), xI g (u_614.2.1 2) 49 (zT ((pushG γ kn σ) 2)), xI g (u_614.2.2 2) 49 (zI ((pushG γ kn σ) 2)), cR (u_614.1 3) (u_614.2.1 3) (u_614.2.2 3) ((pushG γ kn σ) 3), xI g (u_614.2.1 3) 49 (zT ((pushG γ kn σ) 3)), xI g (u_614.2.2 3) 49 (zI ((pushG γ kn σ) 3)), cT tx ch L, xC g ch 60 T, cTr tr tw od os po re ca, cR tw ta tb τ, xI g ta 49 (zT τ), xI g tb 49 (zI τ), cO od vb n1 n2 nm en] H locs := w
                      subst h_613
                      refine lv_iload hx hb dL_acts_401 (lv_at hl 4 rfl) ?_
                      refine lv_if_eq (tgt := 411) hx hb dL_acts_403 (by decide) (fun h_615 => ?_) (fun h_615 => ?_)
                      rotate_left 1
                      · exact absurd rfl h_615
                      refine lv_iload hx hb dL_acts_411 (lv_at hl 2 rfl) ?_
                      refine lv_icmp_ne (tgt := 442) hx hb dL_acts_413 (by decide) (fun h_616 => ?_) (fun h_616 => ?_)
                      · exact absurd rfl h_616
                      refine lv_aload_n hx hb dL_acts_416 rfl (lv_at hl 14 rfl) ?_
                      refine kcalll (wc := [cX x nw sn tk hs tx tr, cR nw na nb (rowN d9 (t9 + 1 - d9) σ), xI g na 49 (zT (rowN d9 (t9 + 1 - d9) σ)), xI g nb 49 (zI (rowN d9 (t9 + 1 - d9) σ))]) (wr := [cH hs hq (pushN kn), xQ g hq 4 (rq u_614.1), cR (u_614.1 0) (u_614.2.1 0) (u_614.2.2 0) ((pushG γ kn σ) 0), xI g (u_614.2.1 0) 49 (zT ((pushG γ kn σ) 0)), xI g (u_614.2.2 0) 49 (zI ((pushG γ kn σ) 0)), cR (u_614.1 1) (u_614.2.1 1) (u_614.2.2 1) ((pushG γ kn σ) 1), xI g (u_614.2.1 1) 49 (zT ((pushG γ kn σ) 1)), xI g (u_614.2.2 1) 49 (zI ((pushG γ kn σ) 1)), cR (u_614.1 2) (u_614.2.1 2) (u_614.2.2 2) ((pushG γ kn σ) 2), xI g (u_614.2.1 2) 49 (zT ((pushG γ kn σ) 2)), xI g (u_614.2.2 2) 49 (zI ((pushG γ kn σ) 2)), cR (u_614.1 3) (u_614.2.1 3) (u_614.2.2 3) ((pushG γ kn σ) 3), xI g (u_614.2.1 3) 49 (zT ((pushG γ kn σ) 3)), xI g (u_614.2.2 3) 49 (zI ((pushG γ kn σ) 3)), cT tx ch L, xC g ch 60 T, cTr tr tw od os po re ca, cR tw ta tb τ, xI g ta 49 (zT τ), xI g tb 49 (zI τ), cO od vb n1 n2 nm en]) (wn := fun (u : Unit) => [cX x nw sn tk hs tx tr, cR nw na nb (rowN d9 (t9 + 1 - d9) σ), xI g na 49 (zT (rowN d9 (t9 + 1 - d9) σ)), xI g nb 49 (zI (rowN d9 (t9 + 1 - d9) σ)), cH hs hq (pushN kn), xQ g hq 4 (rq u_614.1), cR (u_614.1 0) (u_614.2.1 0) (u_614.2.2 0) ((pushG γ kn σ) 0), xI g (u_614.2.1 0) 49 (zT ((pushG γ kn σ) 0)), xI g (u_614.2.2 0) 49 (zI ((pushG γ kn σ) 0)), cR (u_614.1 1) (u_614.2.1 1) (u_614.2.2 1) ((pushG γ kn σ) 1), xI g (u_614.2.1 1) 49 (zT ((pushG γ kn σ) 1)), xI g (u_614.2.2 1) 49 (zI ((pushG γ kn σ) 1)), cR (u_614.1 2) (u_614.2.1 2) (u_614.2.2 2) ((pushG γ kn σ) 2), xI g (u_614.2.1 2) 49 (zT ((pushG γ kn σ) 2)), xI g (u_614.2.2 2) 49 (zI ((pushG γ kn σ) 2)), cR (u_614.1 3) (u_614.2.1 3) (u_614.2.2 3) ((pushG γ kn σ) 3), xI g (u_614.2.1 3) 49 (zT ((pushG γ kn σ) 3)), xI g (u_614.2.2 3) 49 (zI ((pushG γ kn σ) 3)), cT tx ch L, xC g ch 60 T, cTr tr tw od os po re ca, cR tw ta tb τ, xI g ta 49 (zT τ), xI g tb 49 (zI τ), cO od vb n1 n2 nm en]) F w [0, 1, 2, 3] [4, 5, 6, 7, 8, 9, 10, 11, 12, 13, 14, 15, 16, 17, 18, 19, 20, 21, 22, 23, 24] [21, 22, 23, 24, 0, 1, 2, 3, 4, 5, 6, 7, 8, 9, 10, 11, 12, 13, 14, 15, 16, 17, 18, 19, 20] rfl rfl rfl (fun _ => rfl)
                        (fun hp => va_runV (As := []) (rest := []) F.1 (kX5_openSet l g x nw sn tk hs tx tr na nb (rowN d9 (t9 + 1 - d9) σ) H.size ) (cwV 0 hts gL_acts_X5_openSet rfl rfl rfl ⟨rfl, hd_X5_openSet⟩ ⟨Nat.le_of_ble_eq_true rfl, Nat.le_of_ble_eq_true rfl⟩) ⟨hp.1, va_recv F.2.2.2.1.1 w.1 (q0 := 0) (ci := 5) rfl rfl, hp.2⟩ rfl rfl hl.1 rfl (lv_room (Nat.le_of_ble_eq_true rfl)) dL_acts_417 ⟨by show _ ≤ (60 : Nat); omega, by show _ ≤ (360 : Nat); omega⟩)
                        (fun r_617 _ H locs h_618 w => ?_)
                      subst h_618
                      refine lv_lload hx hb dL_acts_420 (lv_at hl 3 rfl) ?_
                      refine W.lcmp hx hb dL_acts_422 ?_
                      refine lv_if_ne (tgt := 442) hx hb dL_acts_423 (by decide) (fun h_619 => ?_) (fun h_619 => ?_)
                      · exact absurd (lgc_eq.mpr rfl) h_619
                      refine lv_aload_n hx hb dL_acts_426 rfl (lv_at hl 14 rfl) ?_
                      refine kcalli (wc := [cX x nw sn tk hs tx tr, cR nw na nb (rowN d9 (t9 + 1 - d9) σ), xI g na 49 (zT (rowN d9 (t9 + 1 - d9) σ)), xI g nb 49 (zI (rowN d9 (t9 + 1 - d9) σ))]) (wr := [cH hs hq (pushN kn), xQ g hq 4 (rq u_614.1), cR (u_614.1 0) (u_614.2.1 0) (u_614.2.2 0) ((pushG γ kn σ) 0), xI g (u_614.2.1 0) 49 (zT ((pushG γ kn σ) 0)), xI g (u_614.2.2 0) 49 (zI ((pushG γ kn σ) 0)), cR (u_614.1 1) (u_614.2.1 1) (u_614.2.2 1) ((pushG γ kn σ) 1), xI g (u_614.2.1 1) 49 (zT ((pushG γ kn σ) 1)), xI g (u_614.2.2 1) 49 (zI ((pushG γ kn σ) 1)), cR (u_614.1 2) (u_614.2.1 2) (u_614.2.2 2) ((pushG γ kn σ) 2), xI g (u_614.2.1 2) 49 (zT ((pushG γ kn σ) 2)), xI g (u_614.2.2 2) 49 (zI ((pushG γ kn σ) 2)), cR (u_614.1 3) (u_614.2.1 3) (u_614.2.2 3) ((pushG γ kn σ) 3), xI g (u_614.2.1 3) 49 (zT ((pushG γ kn σ) 3)), xI g (u_614.2.2 3) 49 (zI ((pushG γ kn σ) 3)), cT tx ch L, xC g ch 60 T, cTr tr tw od os po re ca, cR tw ta tb τ, xI g ta 49 (zT τ), xI g tb 49 (zI τ), cO od vb n1 n2 nm en]) (wn := fun (u : Unit) => [cX x nw sn tk hs tx tr, cR nw na nb (rowN d9 (t9 + 1 - d9) σ), xI g na 49 (zT (rowN d9 (t9 + 1 - d9) σ)), xI g nb 49 (zI (rowN d9 (t9 + 1 - d9) σ)), cH hs hq (pushN kn), xQ g hq 4 (rq u_614.1), cR (u_614.1 0) (u_614.2.1 0) (u_614.2.2 0) ((pushG γ kn σ) 0), xI g (u_614.2.1 0) 49 (zT ((pushG γ kn σ) 0)), xI g (u_614.2.2 0) 49 (zI ((pushG γ kn σ) 0)), cR (u_614.1 1) (u_614.2.1 1) (u_614.2.2 1) ((pushG γ kn σ) 1), xI g (u_614.2.1 1) 49 (zT ((pushG γ kn σ) 1)), xI g (u_614.2.2 1) 49 (zI ((pushG γ kn σ) 1)), cR (u_614.1 2) (u_614.2.1 2) (u_614.2.2 2) ((pushG γ kn σ) 2), xI g (u_614.2.1 2) 49 (zT ((pushG γ kn σ) 2)), xI g (u_614.2.2 2) 49 (zI ((pushG γ kn σ) 2)), cR (u_614.1 3) (u_614.2.1 3) (u_614.2.2 3) ((pushG γ kn σ) 3), xI g (u_614.2.1 3) 49 (zT ((pushG γ kn σ) 3)), xI g (u_614.2.2 3) 49 (zI ((pushG γ kn σ) 3)), cT tx ch L, xC g ch 60 T, cTr tr tw od os po re ca, cR tw ta tb τ, xI g ta 49 (zT τ), xI g tb 49 (zI τ), cO od vb n1 n2 nm en]) F w [0, 1, 2, 3] [4, 5, 6, 7, 8, 9, 10, 11, 12, 13, 14, 15, 16, 17, 18, 19, 20, 21, 22, 23, 24] [21, 22, 23, 24, 0, 1, 2, 3, 4, 5, 6, 7, 8, 9, 10, 11, 12, 13, 14, 15, 16, 17, 18, 19, 20] rfl rfl rfl (fun _ => rfl)
                        (fun hp => va_runV (As := []) (rest := []) F.1 (kX5_turnsInAll l g x nw sn tk hs tx tr na nb (rowN d9 (t9 + 1 - d9) σ) H.size ) (cwV 0 hts gL_acts_X5_turnsInAll rfl rfl rfl ⟨rfl, hd_X5_turnsInAll⟩ ⟨Nat.le_of_ble_eq_true rfl, Nat.le_of_ble_eq_true rfl⟩) ⟨hp.1, va_recv F.2.2.2.1.1 w.1 (q0 := 0) (ci := 5) rfl rfl, hp.2⟩ rfl rfl hl.1 rfl (lv_room (Nat.le_of_ble_eq_true rfl)) dL_acts_427 ⟨by show _ ≤ (60 : Nat); omega, by show _ ≤ (360 : Nat); omega⟩)
                        (fun r_620 _ H locs h_621 w => ?_)
                      subst h_621
                      refine ktopi (y := tA (rowN d9 (t9 + 1 - d9) σ)) (rfl) ?_
                      refine lv_iload hx hb dL_acts_430 (lv_at hl 8 rfl) ?_
                      refine lv_iload hx hb dL_acts_432 (lv_at hl 1 rfl) ?_
                      refine lv_iadd hx hb dL_acts_434 ?_
                      refine ktopi (y := tA (rowN d9 (t9 + 1 - d9) σ)) ((tA_row (by omega) _ (by omega)).symm) ?_
                      refine lv_icmp_ne (tgt := 442) hx hb dL_acts_435 (by decide) (fun h_622 => ?_) (fun h_622 => ?_)
                      · exact absurd rfl h_622
                      refine lv_iconst (v := nI 1) hx hb dL_acts_438 (by decide) ?_
                      refine lv_goto (tgt := 443) hx hb dL_acts_439 (by decide) ?_
                      refine ktopi (y := bI true) (by decide) ?_
                      refine W.widen (k := 60) (n := 360) (by omega) (by omega) ?_
                      subst hA
                      subst hQ
                      exact kretz F w (rowN d9 (t9 + 1 - d9) σ, pushN kn, u_614.1, u_614.2.1, u_614.2.2, pushG γ kn σ, L, T, os, po, re, ca, τ, vb, n1, n2, nm, en) [0, 1, 2, 3, 4, 5, 6, 7, 8, 9, 10, 11, 12, 13, 14, 15, 16, 17, 18, 19, 20, 21, 22, 23, 24] rfl rfl (⟨rfl, actP_1 hL (fun B hB => (gB_row48 hB _ (by omega)).mono (by omega))⟩) (kz_n _) (Nat.le_of_ble_eq_true rfl) (Nat.le_of_ble_eq_true rfl) dL_acts_443
                    · have h_610 : d9 + j ≤ t9 := (kc_gt_f (by omega) (by omega)).mp h_610
                      refine lv_iload hx hb dL_acts_319 (lv_at hl 4 rfl) ?_
                      refine lv_if_ne (tgt := 393) hx hb dL_acts_321 (by decide) (fun h_623 => ?_) (fun h_623 => ?_)
                      · exact absurd rfl h_623
                      refine lv_aload_n hx hb dL_acts_324 rfl (lv_at hl 14 rfl) ?_
                      refine lv_iload hx hb dL_acts_325 (lv_at hl 0 rfl) ?_
                      refine kcalli (wc := [cX x nw sn tk hs tx tr, cR nw na nb σ, xI g na 49 (zT σ), xI g nb 49 (zI σ)]) (wr := [cH hs hq kn, xQ g hq 4 (rq ρ), cR (ρ 0) (α 0) (β 0) (γ 0), xI g (α 0) 49 (zT (γ 0)), xI g (β 0) 49 (zI (γ 0)), cR (ρ 1) (α 1) (β 1) (γ 1), xI g (α 1) 49 (zT (γ 1)), xI g (β 1) 49 (zI (γ 1)), cR (ρ 2) (α 2) (β 2) (γ 2), xI g (α 2) 49 (zT (γ 2)), xI g (β 2) 49 (zI (γ 2)), cR (ρ 3) (α 3) (β 3) (γ 3), xI g (α 3) 49 (zT (γ 3)), xI g (β 3) 49 (zI (γ 3)), cT tx ch L, xC g ch 60 T, cTr tr tw od os po re ca, cR tw ta tb τ, xI g ta 49 (zT τ), xI g tb 49 (zI τ), cO od vb n1 n2 nm en]) (wn := fun (u : Unit) => [cX x nw sn tk hs tx tr, cR nw na nb σ, xI g na 49 (zT σ), xI g nb 49 (zI σ), cH hs hq kn, xQ g hq 4 (rq ρ), cR (ρ 0) (α 0) (β 0) (γ 0), xI g (α 0) 49 (zT (γ 0)), xI g (β 0) 49 (zI (γ 0)), cR (ρ 1) (α 1) (β 1) (γ 1), xI g (α 1) 49 (zT (γ 1)), xI g (β 1) 49 (zI (γ 1)), cR (ρ 2) (α 2) (β 2) (γ 2), xI g (α 2) 49 (zT (γ 2)), xI g (β 2) 49 (zI (γ 2)), cR (ρ 3) (α 3) (β 3) (γ 3), xI g (α 3) 49 (zT (γ 3)), xI g (β 3) 49 (zI (γ 3)), cT tx ch L, xC g ch 60 T, cTr tr tw od os po re ca, cR tw ta tb τ, xI g ta 49 (zT τ), xI g tb 49 (zI τ), cO od vb n1 n2 nm en]) F w [0, 1, 2, 3] [4, 5, 6, 7, 8, 9, 10, 11, 12, 13, 14, 15, 16, 17, 18, 19, 20, 21, 22, 23, 24] [21, 22, 23, 24, 0, 1, 2, 3, 4, 5, 6, 7, 8, 9, 10, 11, 12, 13, 14, 15, 16, 17, 18, 19, 20] rfl rfl rfl (fun _ => rfl)
                        (fun hp => va_runV (As := [.int (nI (d9 + j))]) (rest := []) F.1 (kX5_isSkipped_k l g x nw sn tk hs tx tr na nb σ (d9 + j) H.size (⟨by omega, by omega⟩)) (cwV 1 hts gL_acts_X5_isSkipped rfl rfl rfl ⟨rfl, hd_X5_isSkipped⟩ ⟨Nat.le_of_ble_eq_true rfl, Nat.le_of_ble_eq_true rfl⟩) ⟨hp.1, va_recv F.2.2.2.1.1 w.1 (q0 := 0) (ci := 5) rfl rfl, hp.2⟩ rfl rfl hl.1 rfl (lv_room (Nat.le_of_ble_eq_true rfl)) dL_acts_327 ⟨by show _ ≤ (60 : Nat); omega, by show _ ≤ (360 : Nat); omega⟩)
                        (fun r_624 _ H locs h_625 w => ?_)
                      subst h_625
                      refine lv_if_eq (tgt := 337) hx hb dL_acts_330 (by decide) (fun h_626 => ?_) (fun h_626 => ?_)
                      · have h_626 : (zS σ (d9 + j)) = false := bI_z.mp h_626
                        refine lv_iload hx hb dL_acts_337 (lv_at hl 0 rfl) ?_
                        refine kcalll (wc := []) (wr := [cX x nw sn tk hs tx tr, cR nw na nb σ, xI g na 49 (zT σ), xI g nb 49 (zI σ), cH hs hq kn, xQ g hq 4 (rq ρ), cR (ρ 0) (α 0) (β 0) (γ 0), xI g (α 0) 49 (zT (γ 0)), xI g (β 0) 49 (zI (γ 0)), cR (ρ 1) (α 1) (β 1) (γ 1), xI g (α 1) 49 (zT (γ 1)), xI g (β 1) 49 (zI (γ 1)), cR (ρ 2) (α 2) (β 2) (γ 2), xI g (α 2) 49 (zT (γ 2)), xI g (β 2) 49 (zI (γ 2)), cR (ρ 3) (α 3) (β 3) (γ 3), xI g (α 3) 49 (zT (γ 3)), xI g (β 3) 49 (zI (γ 3)), cT tx ch L, xC g ch 60 T, cTr tr tw od os po re ca, cR tw ta tb τ, xI g ta 49 (zT τ), xI g tb 49 (zI τ), cO od vb n1 n2 nm en]) (wn := fun (u : Unit) => [cX x nw sn tk hs tx tr, cR nw na nb σ, xI g na 49 (zT σ), xI g nb 49 (zI σ), cH hs hq kn, xQ g hq 4 (rq ρ), cR (ρ 0) (α 0) (β 0) (γ 0), xI g (α 0) 49 (zT (γ 0)), xI g (β 0) 49 (zI (γ 0)), cR (ρ 1) (α 1) (β 1) (γ 1), xI g (α 1) 49 (zT (γ 1)), xI g (β 1) 49 (zI (γ 1)), cR (ρ 2) (α 2) (β 2) (γ 2), xI g (α 2) 49 (zT (γ 2)), xI g (β 2) 49 (zI (γ 2)), cR (ρ 3) (α 3) (β 3) (γ 3), xI g (α 3) 49 (zT (γ 3)), xI g (β 3) 49 (zI (γ 3)), cT tx ch L, xC g ch 60 T, cTr tr tw od os po re ca, cR tw ta tb τ, xI g ta 49 (zT τ), xI g tb 49 (zI τ), cO od vb n1 n2 nm en]) F w [] [0, 1, 2, 3, 4, 5, 6, 7, 8, 9, 10, 11, 12, 13, 14, 15, 16, 17, 18, 19, 20, 21, 22, 23, 24] [0, 1, 2, 3, 4, 5, 6, 7, 8, 9, 10, 11, 12, 13, 14, 15, 16, 17, 18, 19, 20, 21, 22, 23, 24] rfl rfl rfl (fun _ => rfl)
                          (fun hp => va_runS (As := [.int (nI (d9 + j))]) (rest := []) F.1 (kL_turned l g (d9 + j) H.size (⟨by omega, by omega⟩)) (va_cwS 1 hts gL_acts_L_turned rfl rfl rfl hd_L_turned ⟨Nat.le_of_ble_eq_true rfl, Nat.le_of_ble_eq_true rfl⟩) hp rfl rfl hl.1 rfl (lv_room (Nat.le_of_ble_eq_true rfl)) dL_acts_339 ⟨by show _ ≤ (60 : Nat); omega, by show _ ≤ (360 : Nat); omega⟩)
                          (fun r_627 _ H locs h_628 w => ?_)
                        subst h_628
                        refine lv_lload hx hb dL_acts_342 (lv_at hl 9 rfl) ?_
                        refine lv_ldc2 (v := (-1)) hx hb F.1.2.2.2.1 (hts (.constantLong RL 175 (-1)) (by decide +kernel)) dL_acts_344 ?_
                        refine lv_lxor hx hb dL_acts_347 ?_
                        refine lv_land hx hb dL_acts_348 ?_
                        refine ktopl (y := zB (turnP σ (d9 + j))) (turnP_b) ?_
                        refine lv_lstore (lv' := [(20, .long (zB (turnP σ (d9 + j)))), (19, .int (nI (d9 + j))), (18, .int (rowM σ d9 j)), (17, .int (nI (rowC d9 j σ))), (15, .long (zB (zO (rowN d9 j σ)))), (14, .int (bI false)), (13, .int (nI t9)), (12, .int (nI (zcnt (kindP σ true) 48))), (11, .int (nI (zcnt (kindP σ false) 48))), (10, .int (tA σ)), (8, .long (zB (zL σ))), (6, .long (zB (zO σ))), (5, .int (bI false)), (4, .int (nI d9)), (3, .int (nI hw9)), (0, .ref x), (1, .int v), (2, .int yv)]) hx hb dL_acts_349 hl (by decide) rfl (fun ls hl => ?_)
                        refine lv_lload hx hb dL_acts_351 (lv_at hl 4 rfl) ?_
                        refine lv_lload hx hb dL_acts_353 (lv_at hl 0 rfl) ?_
                        refine lv_lxor hx hb dL_acts_355 ?_
                        refine ktopl (y := zB (zO (rowN d9 (j + 1) σ))) (row_step (by omega) h_626) ?_
                        refine lv_lstore (lv' := [(15, .long (zB (zO (rowN d9 (j + 1) σ)))), (20, .long (zB (turnP σ (d9 + j)))), (19, .int (nI (d9 + j))), (18, .int (rowM σ d9 j)), (17, .int (nI (rowC d9 j σ))), (14, .int (bI false)), (13, .int (nI t9)), (12, .int (nI (zcnt (kindP σ true) 48))), (11, .int (nI (zcnt (kindP σ false) 48))), (10, .int (tA σ)), (8, .long (zB (zL σ))), (6, .long (zB (zO σ))), (5, .int (bI false)), (4, .int (nI d9)), (3, .int (nI hw9)), (0, .ref x), (1, .int v), (2, .int yv)]) hx hb dL_acts_356 hl (by decide) rfl (fun ls hl => ?_)
                        refine lv_iload hx hb dL_acts_358 (lv_at hl 3 rfl) ?_
                        refine lv_lload hx hb dL_acts_360 (lv_at hl 1 rfl) ?_
                        refine kcalli (wc := []) (wr := [cX x nw sn tk hs tx tr, cR nw na nb σ, xI g na 49 (zT σ), xI g nb 49 (zI σ), cH hs hq kn, xQ g hq 4 (rq ρ), cR (ρ 0) (α 0) (β 0) (γ 0), xI g (α 0) 49 (zT (γ 0)), xI g (β 0) 49 (zI (γ 0)), cR (ρ 1) (α 1) (β 1) (γ 1), xI g (α 1) 49 (zT (γ 1)), xI g (β 1) 49 (zI (γ 1)), cR (ρ 2) (α 2) (β 2) (γ 2), xI g (α 2) 49 (zT (γ 2)), xI g (β 2) 49 (zI (γ 2)), cR (ρ 3) (α 3) (β 3) (γ 3), xI g (α 3) 49 (zT (γ 3)), xI g (β 3) 49 (zI (γ 3)), cT tx ch L, xC g ch 60 T, cTr tr tw od os po re ca, cR tw ta tb τ, xI g ta 49 (zT τ), xI g tb 49 (zI τ), cO od vb n1 n2 nm en]) (wn := fun (u : Unit) => [cX x nw sn tk hs tx tr, cR nw na nb σ, xI g na 49 (zT σ), xI g nb 49 (zI σ), cH hs hq kn, xQ g hq 4 (rq ρ), cR (ρ 0) (α 0) (β 0) (γ 0), xI g (α 0) 49 (zT (γ 0)), xI g (β 0) 49 (zI (γ 0)), cR (ρ 1) (α 1) (β 1) (γ 1), xI g (α 1) 49 (zT (γ 1)), xI g (β 1) 49 (zI (γ 1)), cR (ρ 2) (α 2) (β 2) (γ 2), xI g (α 2) 49 (zT (γ 2)), xI g (β 2) 49 (zI (γ 2)), cR (ρ 3) (α 3) (β 3) (γ 3), xI g (α 3) 49 (zT (γ 3)), xI g (β 3) 49 (zI (γ 3)), cT tx ch L, xC g ch 60 T, cTr tr tw od os po re ca, cR tw ta tb τ, xI g ta 49 (zT τ), xI g tb 49 (zI τ), cO od vb n1 n2 nm en]) F w [] [0, 1, 2, 3, 4, 5, 6, 7, 8, 9, 10, 11, 12, 13, 14, 15, 16, 17, 18, 19, 20, 21, 22, 23, 24] [0, 1, 2, 3, 4, 5, 6, 7, 8, 9, 10, 11, 12, 13, 14, 15, 16, 17, 18, 19, 20, 21, 22, 23, 24] rfl rfl rfl (fun _ => rfl)
                          (fun hp => va_runS (As := [.long (zB (turnP σ (d9 + j)))]) (rest := [.int (rowM σ d9 j)]) F.1 (kL_ones l g (turnP σ (d9 + j)) H.size ) (va_cwS 1 hts gL_acts_L_ones rfl rfl rfl hd_L_ones ⟨Nat.le_of_ble_eq_true rfl, Nat.le_of_ble_eq_true rfl⟩) hp rfl rfl hl.1 rfl (lv_room (Nat.le_of_ble_eq_true rfl)) dL_acts_362 ⟨by show _ ≤ (60 : Nat); omega, by show _ ≤ (360 : Nat); omega⟩)
                          (fun r_629 _ H locs h_630 w => ?_)
                        subst h_630
                        refine lv_iadd hx hb dL_acts_365 ?_
                        refine ktopi (y := rowM σ d9 (j + 1)) (rowM_n h_626) ?_
                        refine lv_istore (lv' := [(18, .int (rowM σ d9 (j + 1))), (15, .long (zB (zO (rowN d9 (j + 1) σ)))), (20, .long (zB (turnP σ (d9 + j)))), (19, .int (nI (d9 + j))), (17, .int (nI (rowC d9 j σ))), (14, .int (bI false)), (13, .int (nI t9)), (12, .int (nI (zcnt (kindP σ true) 48))), (11, .int (nI (zcnt (kindP σ false) 48))), (10, .int (tA σ)), (8, .long (zB (zL σ))), (6, .long (zB (zO σ))), (5, .int (bI false)), (4, .int (nI d9)), (3, .int (nI hw9)), (0, .ref x), (1, .int v), (2, .int yv)]) hx hb dL_acts_366 hl (by decide) rfl (fun ls hl => ?_)
                        refine lv_iload hx hb dL_acts_368 (lv_at hl 4 rfl) ?_
                        refine lv_aload_n hx hb dL_acts_370 rfl (lv_at hl 15 rfl) ?_
                        refine lv_iload hx hb dL_acts_371 (lv_at hl 3 rfl) ?_
                        refine kcalli (wc := [cX x nw sn tk hs tx tr, cR nw na nb σ, xI g na 49 (zT σ), xI g nb 49 (zI σ)]) (wr := [cH hs hq kn, xQ g hq 4 (rq ρ), cR (ρ 0) (α 0) (β 0) (γ 0), xI g (α 0) 49 (zT (γ 0)), xI g (β 0) 49 (zI (γ 0)), cR (ρ 1) (α 1) (β 1) (γ 1), xI g (α 1) 49 (zT (γ 1)), xI g (β 1) 49 (zI (γ 1)), cR (ρ 2) (α 2) (β 2) (γ 2), xI g (α 2) 49 (zT (γ 2)), xI g (β 2) 49 (zI (γ 2)), cR (ρ 3) (α 3) (β 3) (γ 3), xI g (α 3) 49 (zT (γ 3)), xI g (β 3) 49 (zI (γ 3)), cT tx ch L, xC g ch 60 T, cTr tr tw od os po re ca, cR tw ta tb τ, xI g ta 49 (zT τ), xI g tb 49 (zI τ), cO od vb n1 n2 nm en]) (wn := fun (u : Unit) => [cX x nw sn tk hs tx tr, cR nw na nb σ, xI g na 49 (zT σ), xI g nb 49 (zI σ), cH hs hq kn, xQ g hq 4 (rq ρ), cR (ρ 0) (α 0) (β 0) (γ 0), xI g (α 0) 49 (zT (γ 0)), xI g (β 0) 49 (zI (γ 0)), cR (ρ 1) (α 1) (β 1) (γ 1), xI g (α 1) 49 (zT (γ 1)), xI g (β 1) 49 (zI (γ 1)), cR (ρ 2) (α 2) (β 2) (γ 2), xI g (α 2) 49 (zT (γ 2)), xI g (β 2) 49 (zI (γ 2)), cR (ρ 3) (α 3) (β 3) (γ 3), xI g (α 3) 49 (zT (γ 3)), xI g (β 3) 49 (zI (γ 3)), cT tx ch L, xC g ch 60 T, cTr tr tw od os po re ca, cR tw ta tb τ, xI g ta 49 (zT τ), xI g tb 49 (zI τ), cO od vb n1 n2 nm en]) F w [0, 1, 2, 3] [4, 5, 6, 7, 8, 9, 10, 11, 12, 13, 14, 15, 16, 17, 18, 19, 20, 21, 22, 23, 24] [21, 22, 23, 24, 0, 1, 2, 3, 4, 5, 6, 7, 8, 9, 10, 11, 12, 13, 14, 15, 16, 17, 18, 19, 20] rfl rfl rfl (fun _ => rfl)
                          (fun hp => va_runV (As := [.int (nI (d9 + j))]) (rest := [.int (nI (rowC d9 j σ))]) F.1 (kX5_isSkipped_k l g x nw sn tk hs tx tr na nb σ (d9 + j) H.size (⟨by omega, by omega⟩)) (cwV 1 hts gL_acts_X5_isSkipped rfl rfl rfl ⟨rfl, hd_X5_isSkipped⟩ ⟨Nat.le_of_ble_eq_true rfl, Nat.le_of_ble_eq_true rfl⟩) ⟨hp.1, va_recv F.2.2.2.1.1 w.1 (q0 := 0) (ci := 5) rfl rfl, hp.2⟩ rfl rfl hl.1 rfl (lv_room (Nat.le_of_ble_eq_true rfl)) dL_acts_373 ⟨by show _ ≤ (60 : Nat); omega, by show _ ≤ (360 : Nat); omega⟩)
                          (fun r_631 _ H locs h_632 w => ?_)
                        subst h_632
                        refine ktopi (y := bI false) (by rw [h_626]) ?_
                        refine lv_if_eq (tgt := 383) hx hb dL_acts_376 (by decide) (fun h_633 => ?_) (fun h_633 => ?_)
                        rotate_left 1
                        · exact absurd rfl h_633
                        refine lv_iconst (v := nI 1) hx hb dL_acts_383 (by decide) ?_
                        refine lv_iadd hx hb dL_acts_384 ?_
                        refine ktopi (y := nI (rowC d9 j σ + 1)) (nI_add (rowC d9 j σ) 1) ?_
                        refine ktopi (y := nI (rowC d9 (j + 1) σ)) (rowC_nn h_626) ?_
                        refine lv_istore (lv' := [(17, .int (nI (rowC d9 (j + 1) σ))), (18, .int (rowM σ d9 (j + 1))), (15, .long (zB (zO (rowN d9 (j + 1) σ)))), (20, .long (zB (turnP σ (d9 + j)))), (19, .int (nI (d9 + j))), (14, .int (bI false)), (13, .int (nI t9)), (12, .int (nI (zcnt (kindP σ true) 48))), (11, .int (nI (zcnt (kindP σ false) 48))), (10, .int (tA σ)), (8, .long (zB (zL σ))), (6, .long (zB (zO σ))), (5, .int (bI false)), (4, .int (nI d9)), (3, .int (nI hw9)), (0, .ref x), (1, .int v), (2, .int yv)]) hx hb dL_acts_385 hl (by decide) rfl (fun ls hl => ?_)
                        refine lv_iinc (v := nI (d9 + j + 1)) (lv' := [(19, .int (nI (d9 + j + 1))), (17, .int (nI (rowC d9 (j + 1) σ))), (18, .int (rowM σ d9 (j + 1))), (15, .long (zB (zO (rowN d9 (j + 1) σ)))), (20, .long (zB (turnP σ (d9 + j)))), (14, .int (bI false)), (13, .int (nI t9)), (12, .int (nI (zcnt (kindP σ true) 48))), (11, .int (nI (zcnt (kindP σ false) 48))), (10, .int (tA σ)), (8, .long (zB (zL σ))), (6, .long (zB (zO σ))), (5, .int (bI false)), (4, .int (nI d9)), (3, .int (nI hw9)), (0, .ref x), (1, .int v), (2, .int yv)]) hx hb dL_acts_387 hl (k := 4) rfl (nI_add (d9 + j) 1) (by decide) rfl (fun ls hl => ?_)
                        rw [show d9 + j + 1 = d9 + (j + 1) from rfl] at hl
                        refine lv_goto (tgt := 312) hx hb dL_acts_390 (by decide) ?_
                        exact ih_609 (j + 1) (by omega) _ _ _ (by omega) (kW.perm w [0, 1, 2, 3, 4, 5, 6, 7, 8, 9, 10, 11, 12, 13, 14, 15, 16, 17, 18, 19, 20, 21, 22, 23, 24] rfl rfl) (lv_sub hl [0, 2, 1, 3, 5, 6, 7, 8, 9, 10, 11, 12, 13, 14, 15, 16, 17] rfl)
                      · have h_626 : (zS σ (d9 + j)) = true := bI_o.mp h_626
                        refine lv_lconst (v := 0) hx hb dL_acts_333 (by decide) ?_
                        refine lv_goto (tgt := 349) hx hb dL_acts_334 (by decide) ?_
                        refine ktopl (y := zB (fun _ => false)) (zB_0.symm) ?_
                        refine lv_lstore (lv' := [(20, .long (zB (fun _ => false))), (19, .int (nI (d9 + j))), (18, .int (rowM σ d9 j)), (17, .int (nI (rowC d9 j σ))), (15, .long (zB (zO (rowN d9 j σ)))), (14, .int (bI false)), (13, .int (nI t9)), (12, .int (nI (zcnt (kindP σ true) 48))), (11, .int (nI (zcnt (kindP σ false) 48))), (10, .int (tA σ)), (8, .long (zB (zL σ))), (6, .long (zB (zO σ))), (5, .int (bI false)), (4, .int (nI d9)), (3, .int (nI hw9)), (0, .ref x), (1, .int v), (2, .int yv)]) hx hb dL_acts_349 hl (by decide) rfl (fun ls hl => ?_)
                        refine lv_lload hx hb dL_acts_351 (lv_at hl 4 rfl) ?_
                        refine lv_lload hx hb dL_acts_353 (lv_at hl 0 rfl) ?_
                        refine lv_lxor hx hb dL_acts_355 ?_
                        refine ktopl (y := zB (zO (rowN d9 (j + 1) σ))) (row_xor0 h_626) ?_
                        refine lv_lstore (lv' := [(15, .long (zB (zO (rowN d9 (j + 1) σ)))), (20, .long (zB (fun _ => false))), (19, .int (nI (d9 + j))), (18, .int (rowM σ d9 j)), (17, .int (nI (rowC d9 j σ))), (14, .int (bI false)), (13, .int (nI t9)), (12, .int (nI (zcnt (kindP σ true) 48))), (11, .int (nI (zcnt (kindP σ false) 48))), (10, .int (tA σ)), (8, .long (zB (zL σ))), (6, .long (zB (zO σ))), (5, .int (bI false)), (4, .int (nI d9)), (3, .int (nI hw9)), (0, .ref x), (1, .int v), (2, .int yv)]) hx hb dL_acts_356 hl (by decide) rfl (fun ls hl => ?_)
                        refine lv_iload hx hb dL_acts_358 (lv_at hl 3 rfl) ?_
                        refine lv_lload hx hb dL_acts_360 (lv_at hl 1 rfl) ?_
                        refine kcalli (wc := []) (wr := [cX x nw sn tk hs tx tr, cR nw na nb σ, xI g na 49 (zT σ), xI g nb 49 (zI σ), cH hs hq kn, xQ g hq 4 (rq ρ), cR (ρ 0) (α 0) (β 0) (γ 0), xI g (α 0) 49 (zT (γ 0)), xI g (β 0) 49 (zI (γ 0)), cR (ρ 1) (α 1) (β 1) (γ 1), xI g (α 1) 49 (zT (γ 1)), xI g (β 1) 49 (zI (γ 1)), cR (ρ 2) (α 2) (β 2) (γ 2), xI g (α 2) 49 (zT (γ 2)), xI g (β 2) 49 (zI (γ 2)), cR (ρ 3) (α 3) (β 3) (γ 3), xI g (α 3) 49 (zT (γ 3)), xI g (β 3) 49 (zI (γ 3)), cT tx ch L, xC g ch 60 T, cTr tr tw od os po re ca, cR tw ta tb τ, xI g ta 49 (zT τ), xI g tb 49 (zI τ), cO od vb n1 n2 nm en]) (wn := fun (u : Unit) => [cX x nw sn tk hs tx tr, cR nw na nb σ, xI g na 49 (zT σ), xI g nb 49 (zI σ), cH hs hq kn, xQ g hq 4 (rq ρ), cR (ρ 0) (α 0) (β 0) (γ 0), xI g (α 0) 49 (zT (γ 0)), xI g (β 0) 49 (zI (γ 0)), cR (ρ 1) (α 1) (β 1) (γ 1), xI g (α 1) 49 (zT (γ 1)), xI g (β 1) 49 (zI (γ 1)), cR (ρ 2) (α 2) (β 2) (γ 2), xI g (α 2) 49 (zT (γ 2)), xI g (β 2) 49 (zI (γ 2)), cR (ρ 3) (α 3) (β 3) (γ 3), xI g (α 3) 49 (zT (γ 3)), xI g (β 3) 49 (zI (γ 3)), cT tx ch L, xC g ch 60 T, cTr tr tw od os po re ca, cR tw ta tb τ, xI g ta 49 (zT τ), xI g tb 49 (zI τ), cO od vb n1 n2 nm en]) F w [] [0, 1, 2, 3, 4, 5, 6, 7, 8, 9, 10, 11, 12, 13, 14, 15, 16, 17, 18, 19, 20, 21, 22, 23, 24] [0, 1, 2, 3, 4, 5, 6, 7, 8, 9, 10, 11, 12, 13, 14, 15, 16, 17, 18, 19, 20, 21, 22, 23, 24] rfl rfl rfl (fun _ => rfl)
                          (fun hp => va_runS (As := [.long (zB (fun _ => false))]) (rest := [.int (rowM σ d9 j)]) F.1 (kL_ones l g (fun _ => false) H.size ) (va_cwS 1 hts gL_acts_L_ones rfl rfl rfl hd_L_ones ⟨Nat.le_of_ble_eq_true rfl, Nat.le_of_ble_eq_true rfl⟩) hp rfl rfl hl.1 rfl (lv_room (Nat.le_of_ble_eq_true rfl)) dL_acts_362 ⟨by show _ ≤ (60 : Nat); omega, by show _ ≤ (360 : Nat); omega⟩)
                          (fun r_634 _ H locs h_635 w => ?_)
                        subst h_635
                        refine lv_iadd hx hb dL_acts_365 ?_
                        refine ktopi (y := rowM σ d9 (j + 1)) (rowM_t h_626) ?_
                        refine lv_istore (lv' := [(18, .int (rowM σ d9 (j + 1))), (15, .long (zB (zO (rowN d9 (j + 1) σ)))), (20, .long (zB (fun _ => false))), (19, .int (nI (d9 + j))), (17, .int (nI (rowC d9 j σ))), (14, .int (bI false)), (13, .int (nI t9)), (12, .int (nI (zcnt (kindP σ true) 48))), (11, .int (nI (zcnt (kindP σ false) 48))), (10, .int (tA σ)), (8, .long (zB (zL σ))), (6, .long (zB (zO σ))), (5, .int (bI false)), (4, .int (nI d9)), (3, .int (nI hw9)), (0, .ref x), (1, .int v), (2, .int yv)]) hx hb dL_acts_366 hl (by decide) rfl (fun ls hl => ?_)
                        refine lv_iload hx hb dL_acts_368 (lv_at hl 4 rfl) ?_
                        refine lv_aload_n hx hb dL_acts_370 rfl (lv_at hl 15 rfl) ?_
                        refine lv_iload hx hb dL_acts_371 (lv_at hl 3 rfl) ?_
                        refine kcalli (wc := [cX x nw sn tk hs tx tr, cR nw na nb σ, xI g na 49 (zT σ), xI g nb 49 (zI σ)]) (wr := [cH hs hq kn, xQ g hq 4 (rq ρ), cR (ρ 0) (α 0) (β 0) (γ 0), xI g (α 0) 49 (zT (γ 0)), xI g (β 0) 49 (zI (γ 0)), cR (ρ 1) (α 1) (β 1) (γ 1), xI g (α 1) 49 (zT (γ 1)), xI g (β 1) 49 (zI (γ 1)), cR (ρ 2) (α 2) (β 2) (γ 2), xI g (α 2) 49 (zT (γ 2)), xI g (β 2) 49 (zI (γ 2)), cR (ρ 3) (α 3) (β 3) (γ 3), xI g (α 3) 49 (zT (γ 3)), xI g (β 3) 49 (zI (γ 3)), cT tx ch L, xC g ch 60 T, cTr tr tw od os po re ca, cR tw ta tb τ, xI g ta 49 (zT τ), xI g tb 49 (zI τ), cO od vb n1 n2 nm en]) (wn := fun (u : Unit) => [cX x nw sn tk hs tx tr, cR nw na nb σ, xI g na 49 (zT σ), xI g nb 49 (zI σ), cH hs hq kn, xQ g hq 4 (rq ρ), cR (ρ 0) (α 0) (β 0) (γ 0), xI g (α 0) 49 (zT (γ 0)), xI g (β 0) 49 (zI (γ 0)), cR (ρ 1) (α 1) (β 1) (γ 1), xI g (α 1) 49 (zT (γ 1)), xI g (β 1) 49 (zI (γ 1)), cR (ρ 2) (α 2) (β 2) (γ 2), xI g (α 2) 49 (zT (γ 2)), xI g (β 2) 49 (zI (γ 2)), cR (ρ 3) (α 3) (β 3) (γ 3), xI g (α 3) 49 (zT (γ 3)), xI g (β 3) 49 (zI (γ 3)), cT tx ch L, xC g ch 60 T, cTr tr tw od os po re ca, cR tw ta tb τ, xI g ta 49 (zT τ), xI g tb 49 (zI τ), cO od vb n1 n2 nm en]) F w [0, 1, 2, 3] [4, 5, 6, 7, 8, 9, 10, 11, 12, 13, 14, 15, 16, 17, 18, 19, 20, 21, 22, 23, 24] [21, 22, 23, 24, 0, 1, 2, 3, 4, 5, 6, 7, 8, 9, 10, 11, 12, 13, 14, 15, 16, 17, 18, 19, 20] rfl rfl rfl (fun _ => rfl)
                          (fun hp => va_runV (As := [.int (nI (d9 + j))]) (rest := [.int (nI (rowC d9 j σ))]) F.1 (kX5_isSkipped_k l g x nw sn tk hs tx tr na nb σ (d9 + j) H.size (⟨by omega, by omega⟩)) (cwV 1 hts gL_acts_X5_isSkipped rfl rfl rfl ⟨rfl, hd_X5_isSkipped⟩ ⟨Nat.le_of_ble_eq_true rfl, Nat.le_of_ble_eq_true rfl⟩) ⟨hp.1, va_recv F.2.2.2.1.1 w.1 (q0 := 0) (ci := 5) rfl rfl, hp.2⟩ rfl rfl hl.1 rfl (lv_room (Nat.le_of_ble_eq_true rfl)) dL_acts_373 ⟨by show _ ≤ (60 : Nat); omega, by show _ ≤ (360 : Nat); omega⟩)
                          (fun r_636 _ H locs h_637 w => ?_)
                        subst h_637
                        refine ktopi (y := bI true) (by rw [h_626]) ?_
                        refine lv_if_eq (tgt := 383) hx hb dL_acts_376 (by decide) (fun h_638 => ?_) (fun h_638 => ?_)
                        · exact absurd h_638 (by decide)
                        refine lv_iconst (v := nI 0) hx hb dL_acts_379 (by decide) ?_
                        refine lv_goto (tgt := 384) hx hb dL_acts_380 (by decide) ?_
                        refine lv_iadd hx hb dL_acts_384 ?_
                        refine ktopi (y := nI (rowC d9 j σ + 0)) (nI_add (rowC d9 j σ) 0) ?_
                        refine ktopi (y := nI (rowC d9 (j + 1) σ)) (rowC_tt h_626) ?_
                        refine lv_istore (lv' := [(17, .int (nI (rowC d9 (j + 1) σ))), (18, .int (rowM σ d9 (j + 1))), (15, .long (zB (zO (rowN d9 (j + 1) σ)))), (20, .long (zB (fun _ => false))), (19, .int (nI (d9 + j))), (14, .int (bI false)), (13, .int (nI t9)), (12, .int (nI (zcnt (kindP σ true) 48))), (11, .int (nI (zcnt (kindP σ false) 48))), (10, .int (tA σ)), (8, .long (zB (zL σ))), (6, .long (zB (zO σ))), (5, .int (bI false)), (4, .int (nI d9)), (3, .int (nI hw9)), (0, .ref x), (1, .int v), (2, .int yv)]) hx hb dL_acts_385 hl (by decide) rfl (fun ls hl => ?_)
                        refine lv_iinc (v := nI (d9 + j + 1)) (lv' := [(19, .int (nI (d9 + j + 1))), (17, .int (nI (rowC d9 (j + 1) σ))), (18, .int (rowM σ d9 (j + 1))), (15, .long (zB (zO (rowN d9 (j + 1) σ)))), (20, .long (zB (fun _ => false))), (14, .int (bI false)), (13, .int (nI t9)), (12, .int (nI (zcnt (kindP σ true) 48))), (11, .int (nI (zcnt (kindP σ false) 48))), (10, .int (tA σ)), (8, .long (zB (zL σ))), (6, .long (zB (zO σ))), (5, .int (bI false)), (4, .int (nI d9)), (3, .int (nI hw9)), (0, .ref x), (1, .int v), (2, .int yv)]) hx hb dL_acts_387 hl (k := 4) rfl (nI_add (d9 + j) 1) (by decide) rfl (fun ls hl => ?_)
                        rw [show d9 + j + 1 = d9 + (j + 1) from rfl] at hl
                        refine lv_goto (tgt := 312) hx hb dL_acts_390 (by decide) ?_
                        exact ih_609 (j + 1) (by omega) _ _ _ (by omega) (kW.perm w [0, 1, 2, 3, 4, 5, 6, 7, 8, 9, 10, 11, 12, 13, 14, 15, 16, 17, 18, 19, 20, 21, 22, 23, 24] rfl rfl) (lv_sub hl [0, 2, 1, 3, 5, 6, 7, 8, 9, 10, 11, 12, 13, 14, 15, 16, 17] rfl)
                exact LP_609 _ 0 (by omega) _ _ _ (Nat.lt_succ_self _) (kW.perm w [0, 1, 2, 3, 4, 5, 6, 7, 8, 9, 10, 11, 12, 13, 14, 15, 16, 17, 18, 19, 20, 21, 22, 23, 24] rfl rfl) (lv_sub hl [0, 1, 2, 3, 4, 5, 6, 7, 8, 9, 10, 11, 12, 13, 14, 15, 16] rfl)
              · have h_608 : t9 > 48 := (kc_le_f (by omega) (by omega)).mp h_608
                refine lv_iconst (v := nI 1) hx hb dL_acts_291 (by decide) ?_
                refine lv_goto (tgt := 296) hx hb dL_acts_292 (by decide) ?_
                refine ktopi (y := bI true) (by decide) ?_
                exact JN_592  (by omega) _ _ _ (kW.perm w [0, 1, 2, 3, 4, 5, 6, 7, 8, 9, 10, 11, 12, 13, 14, 15, 16, 17, 18, 19, 20, 21, 22, 23, 24] rfl rfl) (lv_sub hl [0, 1, 2, 3, 4, 5, 6, 7, 8, 9, 10, 11] rfl)
          refine lv_iload_n hx hb dL_acts_223 rfl (lv_at hl 10 rfl) ?_
          refine lv_bipush (v := nI 11) hx hb dL_acts_224 (by decide) ?_
          refine lv_ishr hx hb dL_acts_226 ?_
          refine lv_bipush (v := nI 14) hx hb dL_acts_227 (by decide) ?_
          have lw_639 := lowN_lt (yv >>> ((nI 11) &&& 31)) (n := 14) (by omega)
          refine kcalli (wc := []) (wr := [cX x nw sn tk hs tx tr, cR nw na nb σ, xI g na 49 (zT σ), xI g nb 49 (zI σ), cH hs hq kn, xQ g hq 4 (rq ρ), cR (ρ 0) (α 0) (β 0) (γ 0), xI g (α 0) 49 (zT (γ 0)), xI g (β 0) 49 (zI (γ 0)), cR (ρ 1) (α 1) (β 1) (γ 1), xI g (α 1) 49 (zT (γ 1)), xI g (β 1) 49 (zI (γ 1)), cR (ρ 2) (α 2) (β 2) (γ 2), xI g (α 2) 49 (zT (γ 2)), xI g (β 2) 49 (zI (γ 2)), cR (ρ 3) (α 3) (β 3) (γ 3), xI g (α 3) 49 (zT (γ 3)), xI g (β 3) 49 (zI (γ 3)), cT tx ch L, xC g ch 60 T, cTr tr tw od os po re ca, cR tw ta tb τ, xI g ta 49 (zT τ), xI g tb 49 (zI τ), cO od vb n1 n2 nm en]) (wn := fun (u : Unit) => [cX x nw sn tk hs tx tr, cR nw na nb σ, xI g na 49 (zT σ), xI g nb 49 (zI σ), cH hs hq kn, xQ g hq 4 (rq ρ), cR (ρ 0) (α 0) (β 0) (γ 0), xI g (α 0) 49 (zT (γ 0)), xI g (β 0) 49 (zI (γ 0)), cR (ρ 1) (α 1) (β 1) (γ 1), xI g (α 1) 49 (zT (γ 1)), xI g (β 1) 49 (zI (γ 1)), cR (ρ 2) (α 2) (β 2) (γ 2), xI g (α 2) 49 (zT (γ 2)), xI g (β 2) 49 (zI (γ 2)), cR (ρ 3) (α 3) (β 3) (γ 3), xI g (α 3) 49 (zT (γ 3)), xI g (β 3) 49 (zI (γ 3)), cT tx ch L, xC g ch 60 T, cTr tr tw od os po re ca, cR tw ta tb τ, xI g ta 49 (zT τ), xI g tb 49 (zI τ), cO od vb n1 n2 nm en]) F w [] [0, 1, 2, 3, 4, 5, 6, 7, 8, 9, 10, 11, 12, 13, 14, 15, 16, 17, 18, 19, 20, 21, 22, 23, 24] [0, 1, 2, 3, 4, 5, 6, 7, 8, 9, 10, 11, 12, 13, 14, 15, 16, 17, 18, 19, 20, 21, 22, 23, 24] rfl rfl rfl (fun _ => rfl)
            (fun hp => va_runS (As := [.int (yv >>> ((nI 11) &&& 31)), .int (nI 14)]) (rest := []) F.1 (kL_low l g (yv >>> ((nI 11) &&& 31)) 14 H.size (by omega)) (va_cwS 2 hts gL_acts_L_low rfl rfl rfl hd_L_low ⟨Nat.le_of_ble_eq_true rfl, Nat.le_of_ble_eq_true rfl⟩) hp rfl rfl hl.1 rfl (lv_room (Nat.le_of_ble_eq_true rfl)) dL_acts_229 ⟨by show _ ≤ (60 : Nat); omega, by show _ ≤ (360 : Nat); omega⟩)
            (fun r_640 _ H locs h_641 w => ?_)
          subst h_641
          refine lv_if_ne (tgt := 246) hx hb dL_acts_232 (by decide) (fun h_642 => ?_) (fun h_642 => ?_)
          · have h_642 : lowN (yv >>> ((nI 11) &&& 31)) 14 ≠ 0 := (kc0_ne_t (by omega)).mp h_642
            refine lv_iload hx hb dL_acts_246 (lv_at hl 5 rfl) ?_
            refine lv_if_eq (tgt := 256) hx hb dL_acts_248 (by decide) (fun h_643 => ?_) (fun h_643 => ?_)
            rotate_left 1
            · exact absurd rfl h_643
            refine lv_iload hx hb dL_acts_256 (lv_at hl 6 rfl) ?_
            refine lv_iload_n hx hb dL_acts_258 rfl (lv_at hl 10 rfl) ?_
            refine lv_iconst (v := nI 5) hx hb dL_acts_259 (by decide) ?_
            refine lv_ishr hx hb dL_acts_260 ?_
            refine lv_bipush (v := nI 49) hx hb dL_acts_261 (by decide) ?_
            refine lv_iload hx hb dL_acts_263 (lv_at hl 6 rfl) ?_
            refine lv_isub hx hb dL_acts_265 ?_
            refine ktopi (y := nI (49 - d9)) (pk_sub (by omega)) ?_
            have lw_644 := lowN_lt (yv >>> ((nI 5) &&& 31)) (n := 49 - d9) (by omega)
            refine kcalli (wc := []) (wr := [cX x nw sn tk hs tx tr, cR nw na nb σ, xI g na 49 (zT σ), xI g nb 49 (zI σ), cH hs hq kn, xQ g hq 4 (rq ρ), cR (ρ 0) (α 0) (β 0) (γ 0), xI g (α 0) 49 (zT (γ 0)), xI g (β 0) 49 (zI (γ 0)), cR (ρ 1) (α 1) (β 1) (γ 1), xI g (α 1) 49 (zT (γ 1)), xI g (β 1) 49 (zI (γ 1)), cR (ρ 2) (α 2) (β 2) (γ 2), xI g (α 2) 49 (zT (γ 2)), xI g (β 2) 49 (zI (γ 2)), cR (ρ 3) (α 3) (β 3) (γ 3), xI g (α 3) 49 (zT (γ 3)), xI g (β 3) 49 (zI (γ 3)), cT tx ch L, xC g ch 60 T, cTr tr tw od os po re ca, cR tw ta tb τ, xI g ta 49 (zT τ), xI g tb 49 (zI τ), cO od vb n1 n2 nm en]) (wn := fun (u : Unit) => [cX x nw sn tk hs tx tr, cR nw na nb σ, xI g na 49 (zT σ), xI g nb 49 (zI σ), cH hs hq kn, xQ g hq 4 (rq ρ), cR (ρ 0) (α 0) (β 0) (γ 0), xI g (α 0) 49 (zT (γ 0)), xI g (β 0) 49 (zI (γ 0)), cR (ρ 1) (α 1) (β 1) (γ 1), xI g (α 1) 49 (zT (γ 1)), xI g (β 1) 49 (zI (γ 1)), cR (ρ 2) (α 2) (β 2) (γ 2), xI g (α 2) 49 (zT (γ 2)), xI g (β 2) 49 (zI (γ 2)), cR (ρ 3) (α 3) (β 3) (γ 3), xI g (α 3) 49 (zT (γ 3)), xI g (β 3) 49 (zI (γ 3)), cT tx ch L, xC g ch 60 T, cTr tr tw od os po re ca, cR tw ta tb τ, xI g ta 49 (zT τ), xI g tb 49 (zI τ), cO od vb n1 n2 nm en]) F w [] [0, 1, 2, 3, 4, 5, 6, 7, 8, 9, 10, 11, 12, 13, 14, 15, 16, 17, 18, 19, 20, 21, 22, 23, 24] [0, 1, 2, 3, 4, 5, 6, 7, 8, 9, 10, 11, 12, 13, 14, 15, 16, 17, 18, 19, 20, 21, 22, 23, 24] rfl rfl rfl (fun _ => rfl)
              (fun hp => va_runS (As := [.int (yv >>> ((nI 5) &&& 31)), .int (nI (49 - d9))]) (rest := [.int (nI d9)]) F.1 (kL_low l g (yv >>> ((nI 5) &&& 31)) (49 - d9) H.size (by omega)) (va_cwS 2 hts gL_acts_L_low rfl rfl rfl hd_L_low ⟨Nat.le_of_ble_eq_true rfl, Nat.le_of_ble_eq_true rfl⟩) hp rfl rfl hl.1 rfl (lv_room (Nat.le_of_ble_eq_true rfl)) dL_acts_266 ⟨by show _ ≤ (60 : Nat); omega, by show _ ≤ (360 : Nat); omega⟩)
              (fun r_645 _ H locs h_646 w => ?_)
            subst h_646
            refine lv_iadd hx hb dL_acts_269 ?_
            refine ktopi (y := nI (d9 + lowN (yv >>> ((nI 5) &&& 31)) (49 - d9))) (nI_add d9 (lowN (yv >>> ((nI 5) &&& 31)) (49 - d9))) ?_
            exact JN_591 (d9 + lowN (yv >>> ((nI 5) &&& 31)) (49 - d9)) (by omega) _ _ _ (kW.perm w [0, 1, 2, 3, 4, 5, 6, 7, 8, 9, 10, 11, 12, 13, 14, 15, 16, 17, 18, 19, 20, 21, 22, 23, 24] rfl rfl) (lv_sub hl [0, 1, 2, 3, 4, 5, 6, 7, 8, 9, 10] rfl)
          · have h_642 : lowN (yv >>> ((nI 11) &&& 31)) 14 = 0 := (kc0_ne_f (by omega)).mp h_642
            refine lv_iload_n hx hb dL_acts_235 rfl (lv_at hl 10 rfl) ?_
            refine lv_iconst (v := nI 5) hx hb dL_acts_236 (by decide) ?_
            refine lv_ishr hx hb dL_acts_237 ?_
            refine lv_bipush (v := nI 51) hx hb dL_acts_238 (by decide) ?_
            have lw_647 := lowN_lt (yv >>> ((nI 5) &&& 31)) (n := 51) (by omega)
            refine kcalli (wc := []) (wr := [cX x nw sn tk hs tx tr, cR nw na nb σ, xI g na 49 (zT σ), xI g nb 49 (zI σ), cH hs hq kn, xQ g hq 4 (rq ρ), cR (ρ 0) (α 0) (β 0) (γ 0), xI g (α 0) 49 (zT (γ 0)), xI g (β 0) 49 (zI (γ 0)), cR (ρ 1) (α 1) (β 1) (γ 1), xI g (α 1) 49 (zT (γ 1)), xI g (β 1) 49 (zI (γ 1)), cR (ρ 2) (α 2) (β 2) (γ 2), xI g (α 2) 49 (zT (γ 2)), xI g (β 2) 49 (zI (γ 2)), cR (ρ 3) (α 3) (β 3) (γ 3), xI g (α 3) 49 (zT (γ 3)), xI g (β 3) 49 (zI (γ 3)), cT tx ch L, xC g ch 60 T, cTr tr tw od os po re ca, cR tw ta tb τ, xI g ta 49 (zT τ), xI g tb 49 (zI τ), cO od vb n1 n2 nm en]) (wn := fun (u : Unit) => [cX x nw sn tk hs tx tr, cR nw na nb σ, xI g na 49 (zT σ), xI g nb 49 (zI σ), cH hs hq kn, xQ g hq 4 (rq ρ), cR (ρ 0) (α 0) (β 0) (γ 0), xI g (α 0) 49 (zT (γ 0)), xI g (β 0) 49 (zI (γ 0)), cR (ρ 1) (α 1) (β 1) (γ 1), xI g (α 1) 49 (zT (γ 1)), xI g (β 1) 49 (zI (γ 1)), cR (ρ 2) (α 2) (β 2) (γ 2), xI g (α 2) 49 (zT (γ 2)), xI g (β 2) 49 (zI (γ 2)), cR (ρ 3) (α 3) (β 3) (γ 3), xI g (α 3) 49 (zT (γ 3)), xI g (β 3) 49 (zI (γ 3)), cT tx ch L, xC g ch 60 T, cTr tr tw od os po re ca, cR tw ta tb τ, xI g ta 49 (zT τ), xI g tb 49 (zI τ), cO od vb n1 n2 nm en]) F w [] [0, 1, 2, 3, 4, 5, 6, 7, 8, 9, 10, 11, 12, 13, 14, 15, 16, 17, 18, 19, 20, 21, 22, 23, 24] [0, 1, 2, 3, 4, 5, 6, 7, 8, 9, 10, 11, 12, 13, 14, 15, 16, 17, 18, 19, 20, 21, 22, 23, 24] rfl rfl rfl (fun _ => rfl)
              (fun hp => va_runS (As := [.int (yv >>> ((nI 5) &&& 31)), .int (nI 51)]) (rest := []) F.1 (kL_low l g (yv >>> ((nI 5) &&& 31)) 51 H.size (by omega)) (va_cwS 2 hts gL_acts_L_low rfl rfl rfl hd_L_low ⟨Nat.le_of_ble_eq_true rfl, Nat.le_of_ble_eq_true rfl⟩) hp rfl rfl hl.1 rfl (lv_room (Nat.le_of_ble_eq_true rfl)) dL_acts_240 ⟨by show _ ≤ (60 : Nat); omega, by show _ ≤ (360 : Nat); omega⟩)
              (fun r_648 _ H locs h_649 w => ?_)
            subst h_649
            refine lv_goto (tgt := 270) hx hb dL_acts_243 (by decide) ?_
            exact JN_591 (lowN (yv >>> ((nI 5) &&& 31)) 51) (by omega) _ _ _ (kW.perm w [0, 1, 2, 3, 4, 5, 6, 7, 8, 9, 10, 11, 12, 13, 14, 15, 16, 17, 18, 19, 20, 21, 22, 23, 24] rfl rfl) (lv_sub hl [0, 1, 2, 3, 4, 5, 6, 7, 8, 9, 10] rfl)
      · have h_165 : hw9 < 7 := (kc_ge_f (by omega) (by omega)).mp h_165
        refine lv_iload hx hb dL_acts_97 (lv_at hl 5 rfl) ?_
        refine lv_if_eq (tgt := 106) hx hb dL_acts_99 (by decide) (fun h_650 => ?_) (fun h_650 => ?_)
        rotate_left 1
        · exact absurd rfl h_650
        refine lv_aload_n hx hb dL_acts_106 rfl (lv_at hl 8 rfl) ?_
        refine lv_iload hx hb dL_acts_107 (lv_at hl 6 rfl) ?_
        refine kcalli (wc := [cX x nw sn tk hs tx tr, cR nw na nb σ, xI g na 49 (zT σ), xI g nb 49 (zI σ)]) (wr := [cH hs hq kn, xQ g hq 4 (rq ρ), cR (ρ 0) (α 0) (β 0) (γ 0), xI g (α 0) 49 (zT (γ 0)), xI g (β 0) 49 (zI (γ 0)), cR (ρ 1) (α 1) (β 1) (γ 1), xI g (α 1) 49 (zT (γ 1)), xI g (β 1) 49 (zI (γ 1)), cR (ρ 2) (α 2) (β 2) (γ 2), xI g (α 2) 49 (zT (γ 2)), xI g (β 2) 49 (zI (γ 2)), cR (ρ 3) (α 3) (β 3) (γ 3), xI g (α 3) 49 (zT (γ 3)), xI g (β 3) 49 (zI (γ 3)), cT tx ch L, xC g ch 60 T, cTr tr tw od os po re ca, cR tw ta tb τ, xI g ta 49 (zT τ), xI g tb 49 (zI τ), cO od vb n1 n2 nm en]) (wn := fun (u : Unit) => [cX x nw sn tk hs tx tr, cR nw na nb σ, xI g na 49 (zT σ), xI g nb 49 (zI σ), cH hs hq kn, xQ g hq 4 (rq ρ), cR (ρ 0) (α 0) (β 0) (γ 0), xI g (α 0) 49 (zT (γ 0)), xI g (β 0) 49 (zI (γ 0)), cR (ρ 1) (α 1) (β 1) (γ 1), xI g (α 1) 49 (zT (γ 1)), xI g (β 1) 49 (zI (γ 1)), cR (ρ 2) (α 2) (β 2) (γ 2), xI g (α 2) 49 (zT (γ 2)), xI g (β 2) 49 (zI (γ 2)), cR (ρ 3) (α 3) (β 3) (γ 3), xI g (α 3) 49 (zT (γ 3)), xI g (β 3) 49 (zI (γ 3)), cT tx ch L, xC g ch 60 T, cTr tr tw od os po re ca, cR tw ta tb τ, xI g ta 49 (zT τ), xI g tb 49 (zI τ), cO od vb n1 n2 nm en]) F w [0, 1, 2, 3] [4, 5, 6, 7, 8, 9, 10, 11, 12, 13, 14, 15, 16, 17, 18, 19, 20, 21, 22, 23, 24] [21, 22, 23, 24, 0, 1, 2, 3, 4, 5, 6, 7, 8, 9, 10, 11, 12, 13, 14, 15, 16, 17, 18, 19, 20] rfl rfl rfl (fun _ => rfl)
          (fun hp => va_runV (As := [.int (nI d9)]) (rest := []) F.1 (kX5_timesOf_k l g x nw sn tk hs tx tr na nb σ d9 H.size hdi) (cwV 1 hts gL_acts_X5_timesOf rfl rfl rfl ⟨rfl, hd_X5_timesOf⟩ ⟨Nat.le_of_ble_eq_true rfl, Nat.le_of_ble_eq_true rfl⟩) ⟨hp.1, va_recv F.2.2.2.1.1 w.1 (q0 := 0) (ci := 5) rfl rfl, hp.2⟩ rfl rfl hl.1 rfl (lv_room (Nat.le_of_ble_eq_true rfl)) dL_acts_109 ⟨by show _ ≤ (60 : Nat); omega, by show _ ≤ (360 : Nat); omega⟩)
          (fun r_651 _ H locs h_652 w => ?_)
        subst h_652
        refine lv_istore (lv' := [(13, .int (zI σ d9)), (12, .int (nI (zcnt (kindP σ true) 48))), (11, .int (nI (zcnt (kindP σ false) 48))), (10, .int (tA σ)), (8, .long (zB (zL σ))), (6, .long (zB (zO σ))), (5, .int (bI false)), (4, .int (nI d9)), (3, .int (nI hw9)), (0, .ref x), (1, .int v), (2, .int yv)]) hx hb dL_acts_112 hl (by decide) rfl (fun ls hl => ?_)
        refine lv_iload hx hb dL_acts_114 (lv_at hl 6 rfl) ?_
        refine lv_if_eq (tgt := 124) hx hb dL_acts_116 (by decide) (fun h_653 => ?_) (fun h_653 => ?_)
        rotate_left 1
        · exact absurd rfl h_653
        refine lv_lload hx hb dL_acts_124 (lv_at hl 5 rfl) ?_
        refine lv_iload hx hb dL_acts_126 (lv_at hl 7 rfl) ?_
        refine kcalll (wc := []) (wr := [cX x nw sn tk hs tx tr, cR nw na nb σ, xI g na 49 (zT σ), xI g nb 49 (zI σ), cH hs hq kn, xQ g hq 4 (rq ρ), cR (ρ 0) (α 0) (β 0) (γ 0), xI g (α 0) 49 (zT (γ 0)), xI g (β 0) 49 (zI (γ 0)), cR (ρ 1) (α 1) (β 1) (γ 1), xI g (α 1) 49 (zT (γ 1)), xI g (β 1) 49 (zI (γ 1)), cR (ρ 2) (α 2) (β 2) (γ 2), xI g (α 2) 49 (zT (γ 2)), xI g (β 2) 49 (zI (γ 2)), cR (ρ 3) (α 3) (β 3) (γ 3), xI g (α 3) 49 (zT (γ 3)), xI g (β 3) 49 (zI (γ 3)), cT tx ch L, xC g ch 60 T, cTr tr tw od os po re ca, cR tw ta tb τ, xI g ta 49 (zT τ), xI g tb 49 (zI τ), cO od vb n1 n2 nm en]) (wn := fun (u : Unit) => [cX x nw sn tk hs tx tr, cR nw na nb σ, xI g na 49 (zT σ), xI g nb 49 (zI σ), cH hs hq kn, xQ g hq 4 (rq ρ), cR (ρ 0) (α 0) (β 0) (γ 0), xI g (α 0) 49 (zT (γ 0)), xI g (β 0) 49 (zI (γ 0)), cR (ρ 1) (α 1) (β 1) (γ 1), xI g (α 1) 49 (zT (γ 1)), xI g (β 1) 49 (zI (γ 1)), cR (ρ 2) (α 2) (β 2) (γ 2), xI g (α 2) 49 (zT (γ 2)), xI g (β 2) 49 (zI (γ 2)), cR (ρ 3) (α 3) (β 3) (γ 3), xI g (α 3) 49 (zT (γ 3)), xI g (β 3) 49 (zI (γ 3)), cT tx ch L, xC g ch 60 T, cTr tr tw od os po re ca, cR tw ta tb τ, xI g ta 49 (zT τ), xI g tb 49 (zI τ), cO od vb n1 n2 nm en]) F w [] [0, 1, 2, 3, 4, 5, 6, 7, 8, 9, 10, 11, 12, 13, 14, 15, 16, 17, 18, 19, 20, 21, 22, 23, 24] [0, 1, 2, 3, 4, 5, 6, 7, 8, 9, 10, 11, 12, 13, 14, 15, 16, 17, 18, 19, 20, 21, 22, 23, 24] rfl rfl rfl (fun _ => rfl)
          (fun hp => va_runS (As := [.int (nI d9)]) (rest := [.long (zB (zO σ))]) F.1 (kL_turned l g d9 H.size hdi) (va_cwS 1 hts gL_acts_L_turned rfl rfl rfl hd_L_turned ⟨Nat.le_of_ble_eq_true rfl, Nat.le_of_ble_eq_true rfl⟩) hp rfl rfl hl.1 rfl (lv_room (Nat.le_of_ble_eq_true rfl)) dL_acts_128 ⟨by show _ ≤ (60 : Nat); omega, by show _ ≤ (360 : Nat); omega⟩)
          (fun r_654 _ H locs h_655 w => ?_)
        subst h_655
        refine lv_lload hx hb dL_acts_131 (lv_at hl 4 rfl) ?_
        refine lv_ldc2 (v := (-1)) hx hb F.1.2.2.2.1 (hts (.constantLong RL 175 (-1)) (by decide +kernel)) dL_acts_133 ?_
        refine lv_lxor hx hb dL_acts_136 ?_
        refine lv_land hx hb dL_acts_137 ?_
        refine ktopl (y := zB (turnP σ d9)) (turnP_b) ?_
        refine lv_lxor hx hb dL_acts_138 ?_
        refine ktopl (y := zB (zO (passS d9 σ))) (pass_set hdi.1) ?_
        refine lv_lstore (lv' := [(14, .long (zB (zO (passS d9 σ)))), (13, .int (zI σ d9)), (12, .int (nI (zcnt (kindP σ true) 48))), (11, .int (nI (zcnt (kindP σ false) 48))), (10, .int (tA σ)), (8, .long (zB (zL σ))), (6, .long (zB (zO σ))), (5, .int (bI false)), (4, .int (nI d9)), (3, .int (nI hw9)), (0, .ref x), (1, .int v), (2, .int yv)]) hx hb dL_acts_139 hl (by decide) rfl (fun ls hl => ?_)
        refine lv_aload_n hx hb dL_acts_141 rfl (lv_at hl 10 rfl) ?_
        refine lv_iload hx hb dL_acts_142 (lv_at hl 8 rfl) ?_
        refine kcalli (wc := [cX x nw sn tk hs tx tr, cR nw na nb σ, xI g na 49 (zT σ), xI g nb 49 (zI σ), cH hs hq kn, xQ g hq 4 (rq ρ), cR (ρ 0) (α 0) (β 0) (γ 0), xI g (α 0) 49 (zT (γ 0)), xI g (β 0) 49 (zI (γ 0)), cR (ρ 1) (α 1) (β 1) (γ 1), xI g (α 1) 49 (zT (γ 1)), xI g (β 1) 49 (zI (γ 1)), cR (ρ 2) (α 2) (β 2) (γ 2), xI g (α 2) 49 (zT (γ 2)), xI g (β 2) 49 (zI (γ 2)), cR (ρ 3) (α 3) (β 3) (γ 3), xI g (α 3) 49 (zT (γ 3)), xI g (β 3) 49 (zI (γ 3))]) (wr := [cT tx ch L, xC g ch 60 T, cTr tr tw od os po re ca, cR tw ta tb τ, xI g ta 49 (zT τ), xI g tb 49 (zI τ), cO od vb n1 n2 nm en]) (wn := fun (u : (Nat → Nat) × (Nat → Nat) × (Nat → Nat)) => [cX x nw sn tk hs tx tr, cR nw na nb (passS d9 σ), xI g na 49 (zT (passS d9 σ)), xI g nb 49 (zI (passS d9 σ)), cH hs hq (pushN kn), xQ g hq 4 (rq u.1), cR (u.1 0) (u.2.1 0) (u.2.2 0) ((pushG γ kn σ) 0), xI g (u.2.1 0) 49 (zT ((pushG γ kn σ) 0)), xI g (u.2.2 0) 49 (zI ((pushG γ kn σ) 0)), cR (u.1 1) (u.2.1 1) (u.2.2 1) ((pushG γ kn σ) 1), xI g (u.2.1 1) 49 (zT ((pushG γ kn σ) 1)), xI g (u.2.2 1) 49 (zI ((pushG γ kn σ) 1)), cR (u.1 2) (u.2.1 2) (u.2.2 2) ((pushG γ kn σ) 2), xI g (u.2.1 2) 49 (zT ((pushG γ kn σ) 2)), xI g (u.2.2 2) 49 (zI ((pushG γ kn σ) 2)), cR (u.1 3) (u.2.1 3) (u.2.2 3) ((pushG γ kn σ) 3), xI g (u.2.1 3) 49 (zT ((pushG γ kn σ) 3)), xI g (u.2.2 3) 49 (zI ((pushG γ kn σ) 3)), cT tx ch L, xC g ch 60 T, cTr tr tw od os po re ca, cR tw ta tb τ, xI g ta 49 (zT τ), xI g tb 49 (zI τ), cO od vb n1 n2 nm en]) F w [0, 1, 2, 3, 4, 5, 6, 7, 8, 9, 10, 11, 12, 13, 14, 15, 16, 17] [18, 19, 20, 21, 22, 23, 24] [7, 8, 9, 10, 11, 12, 13, 14, 15, 16, 17, 18, 19, 20, 21, 22, 23, 24, 0, 1, 2, 3, 4, 5, 6] rfl rfl rfl (fun _ => rfl)
          (fun hp => vx_runSW (As := [.ref x, .int (nI d9)]) (rest := []) F.1 (kL_pass_k l g x nw sn tk hs tx tr na nb σ hq kn ρ α β γ d9 H.size hdi hkn) (vx_cwSW 2 hts gL_acts_L_pass rfl rfl rfl hd_L_pass ⟨Nat.le_of_ble_eq_true rfl, Nat.le_of_ble_eq_true rfl⟩) hp rfl rfl hl.1 rfl (lv_room (Nat.le_of_ble_eq_true rfl)) dL_acts_144 ⟨by show _ ≤ (60 : Nat); omega, by show _ ≤ (360 : Nat); omega⟩)
          (fun r_656 u H locs h_657 w => ?_)
        try dsimp only at h_657
        obtain ⟨u_658, hu9⟩ : ∃ z, z = u := ⟨_, rfl⟩
        subst hu9
        have w : kW g A s [cX x nw sn tk hs tx tr, cR nw na nb (passS d9 σ), xI g na 49 (zT (passS d9 σ)), xI g nb 49 (zI (passS d9 σ)), cH hs hq (pushN kn), xQ g hq 4 (rq u_658.1), cR (u_658.1 0) (u_658.2.1 0) (u_658.2.2 0) ((pushG γ kn σ) 0), xI g (u_658.2.1 0) 49 (zT ((pushG γ kn σ) 0)), xI g (u_658.2.2 0) 49 (zI ((pushG γ kn σ) 0)), cR (u_658.1 1) (u_658.2.1 1) (u_658.2.2 1) ((pushG γ kn σ) 1), xI g (u_658.2.1 1) 49 (zT ((pushG γ kn σ) 1)), xI g (u_658.2.2 1) 49 (zI ((pushG γ kn σ) 1)), cR (u_658.1 2) (u_658.2.1 2) (u_658.2.2 2) ((pushG γ kn σ) 2), xI g (u_658.2.1 2) 49 (zT ((pushG γ kn σ) 2)), xI g (u_658.2.2 2) 49 (zI ((pushG γ kn σ) 2)), cR (u_658.1 3) (u_658.2.1 3) (u_658.2.2 3) ((pushG γ kn σ) 3), xI g (u_658.2.1 3) 49 (zT ((pushG γ kn σ) 3)), xI g (u_658.2.2 3) 49 (zI ((pushG γ kn σ) 3)), cT tx ch L, xC g ch 60 T, cTr tr tw od os po re ca, cR tw ta tb τ, xI g ta 49 (zT τ), xI g tb 49 (zI τ), cO od vb n1 n2 nm en] H locs := w
        subst h_657
        refine lv_iload hx hb dL_acts_147 (lv_at hl 7 rfl) ?_
        refine lv_if_eq (tgt := 157) hx hb dL_acts_149 (by decide) (fun h_659 => ?_) (fun h_659 => ?_)
        rotate_left 1
        · exact absurd rfl h_659
        refine lv_lload hx hb dL_acts_157 (lv_at hl 0 rfl) ?_
        refine kcalli (wc := []) (wr := [cX x nw sn tk hs tx tr, cR nw na nb (passS d9 σ), xI g na 49 (zT (passS d9 σ)), xI g nb 49 (zI (passS d9 σ)), cH hs hq (pushN kn), xQ g hq 4 (rq u_658.1), cR (u_658.1 0) (u_658.2.1 0) (u_658.2.2 0) ((pushG γ kn σ) 0), xI g (u_658.2.1 0) 49 (zT ((pushG γ kn σ) 0)), xI g (u_658.2.2 0) 49 (zI ((pushG γ kn σ) 0)), cR (u_658.1 1) (u_658.2.1 1) (u_658.2.2 1) ((pushG γ kn σ) 1), xI g (u_658.2.1 1) 49 (zT ((pushG γ kn σ) 1)), xI g (u_658.2.2 1) 49 (zI ((pushG γ kn σ) 1)), cR (u_658.1 2) (u_658.2.1 2) (u_658.2.2 2) ((pushG γ kn σ) 2), xI g (u_658.2.1 2) 49 (zT ((pushG γ kn σ) 2)), xI g (u_658.2.2 2) 49 (zI ((pushG γ kn σ) 2)), cR (u_658.1 3) (u_658.2.1 3) (u_658.2.2 3) ((pushG γ kn σ) 3), xI g (u_658.2.1 3) 49 (zT ((pushG γ kn σ) 3)), xI g (u_658.2.2 3) 49 (zI ((pushG γ kn σ) 3)), cT tx ch L, xC g ch 60 T, cTr tr tw od os po re ca, cR tw ta tb τ, xI g ta 49 (zT τ), xI g tb 49 (zI τ), cO od vb n1 n2 nm en]) (wn := fun (u : Unit) => [cX x nw sn tk hs tx tr, cR nw na nb (passS d9 σ), xI g na 49 (zT (passS d9 σ)), xI g nb 49 (zI (passS d9 σ)), cH hs hq (pushN kn), xQ g hq 4 (rq u_658.1), cR (u_658.1 0) (u_658.2.1 0) (u_658.2.2 0) ((pushG γ kn σ) 0), xI g (u_658.2.1 0) 49 (zT ((pushG γ kn σ) 0)), xI g (u_658.2.2 0) 49 (zI ((pushG γ kn σ) 0)), cR (u_658.1 1) (u_658.2.1 1) (u_658.2.2 1) ((pushG γ kn σ) 1), xI g (u_658.2.1 1) 49 (zT ((pushG γ kn σ) 1)), xI g (u_658.2.2 1) 49 (zI ((pushG γ kn σ) 1)), cR (u_658.1 2) (u_658.2.1 2) (u_658.2.2 2) ((pushG γ kn σ) 2), xI g (u_658.2.1 2) 49 (zT ((pushG γ kn σ) 2)), xI g (u_658.2.2 2) 49 (zI ((pushG γ kn σ) 2)), cR (u_658.1 3) (u_658.2.1 3) (u_658.2.2 3) ((pushG γ kn σ) 3), xI g (u_658.2.1 3) 49 (zT ((pushG γ kn σ) 3)), xI g (u_658.2.2 3) 49 (zI ((pushG γ kn σ) 3)), cT tx ch L, xC g ch 60 T, cTr tr tw od os po re ca, cR tw ta tb τ, xI g ta 49 (zT τ), xI g tb 49 (zI τ), cO od vb n1 n2 nm en]) F w [] [0, 1, 2, 3, 4, 5, 6, 7, 8, 9, 10, 11, 12, 13, 14, 15, 16, 17, 18, 19, 20, 21, 22, 23, 24] [0, 1, 2, 3, 4, 5, 6, 7, 8, 9, 10, 11, 12, 13, 14, 15, 16, 17, 18, 19, 20, 21, 22, 23, 24] rfl rfl rfl (fun _ => rfl)
          (fun hp => va_runS (As := [.long (zB (zO (passS d9 σ)))]) (rest := [.int (nI (zcnt (zO (passS d9 σ)) 48))]) F.1 (kL_ones l g (zO (passS d9 σ)) H.size ) (va_cwS 1 hts gL_acts_L_ones rfl rfl rfl hd_L_ones ⟨Nat.le_of_ble_eq_true rfl, Nat.le_of_ble_eq_true rfl⟩) hp rfl rfl hl.1 rfl (lv_room (Nat.le_of_ble_eq_true rfl)) dL_acts_159 ⟨by show _ ≤ (60 : Nat); omega, by show _ ≤ (360 : Nat); omega⟩)
          (fun r_660 _ H locs h_661 w => ?_)
        subst h_661
        refine lv_icmp_ne (tgt := 215) hx hb dL_acts_162 (by decide) (fun h_662 => ?_) (fun h_662 => ?_)
        · exact absurd rfl h_662
        refine lv_aload_n hx hb dL_acts_165 rfl (lv_at hl 10 rfl) ?_
        refine kcalll (wc := [cX x nw sn tk hs tx tr, cR nw na nb (passS d9 σ), xI g na 49 (zT (passS d9 σ)), xI g nb 49 (zI (passS d9 σ))]) (wr := [cH hs hq (pushN kn), xQ g hq 4 (rq u_658.1), cR (u_658.1 0) (u_658.2.1 0) (u_658.2.2 0) ((pushG γ kn σ) 0), xI g (u_658.2.1 0) 49 (zT ((pushG γ kn σ) 0)), xI g (u_658.2.2 0) 49 (zI ((pushG γ kn σ) 0)), cR (u_658.1 1) (u_658.2.1 1) (u_658.2.2 1) ((pushG γ kn σ) 1), xI g (u_658.2.1 1) 49 (zT ((pushG γ kn σ) 1)), xI g (u_658.2.2 1) 49 (zI ((pushG γ kn σ) 1)), cR (u_658.1 2) (u_658.2.1 2) (u_658.2.2 2) ((pushG γ kn σ) 2), xI g (u_658.2.1 2) 49 (zT ((pushG γ kn σ) 2)), xI g (u_658.2.2 2) 49 (zI ((pushG γ kn σ) 2)), cR (u_658.1 3) (u_658.2.1 3) (u_658.2.2 3) ((pushG γ kn σ) 3), xI g (u_658.2.1 3) 49 (zT ((pushG γ kn σ) 3)), xI g (u_658.2.2 3) 49 (zI ((pushG γ kn σ) 3)), cT tx ch L, xC g ch 60 T, cTr tr tw od os po re ca, cR tw ta tb τ, xI g ta 49 (zT τ), xI g tb 49 (zI τ), cO od vb n1 n2 nm en]) (wn := fun (u : Unit) => [cX x nw sn tk hs tx tr, cR nw na nb (passS d9 σ), xI g na 49 (zT (passS d9 σ)), xI g nb 49 (zI (passS d9 σ)), cH hs hq (pushN kn), xQ g hq 4 (rq u_658.1), cR (u_658.1 0) (u_658.2.1 0) (u_658.2.2 0) ((pushG γ kn σ) 0), xI g (u_658.2.1 0) 49 (zT ((pushG γ kn σ) 0)), xI g (u_658.2.2 0) 49 (zI ((pushG γ kn σ) 0)), cR (u_658.1 1) (u_658.2.1 1) (u_658.2.2 1) ((pushG γ kn σ) 1), xI g (u_658.2.1 1) 49 (zT ((pushG γ kn σ) 1)), xI g (u_658.2.2 1) 49 (zI ((pushG γ kn σ) 1)), cR (u_658.1 2) (u_658.2.1 2) (u_658.2.2 2) ((pushG γ kn σ) 2), xI g (u_658.2.1 2) 49 (zT ((pushG γ kn σ) 2)), xI g (u_658.2.2 2) 49 (zI ((pushG γ kn σ) 2)), cR (u_658.1 3) (u_658.2.1 3) (u_658.2.2 3) ((pushG γ kn σ) 3), xI g (u_658.2.1 3) 49 (zT ((pushG γ kn σ) 3)), xI g (u_658.2.2 3) 49 (zI ((pushG γ kn σ) 3)), cT tx ch L, xC g ch 60 T, cTr tr tw od os po re ca, cR tw ta tb τ, xI g ta 49 (zT τ), xI g tb 49 (zI τ), cO od vb n1 n2 nm en]) F w [0, 1, 2, 3] [4, 5, 6, 7, 8, 9, 10, 11, 12, 13, 14, 15, 16, 17, 18, 19, 20, 21, 22, 23, 24] [21, 22, 23, 24, 0, 1, 2, 3, 4, 5, 6, 7, 8, 9, 10, 11, 12, 13, 14, 15, 16, 17, 18, 19, 20] rfl rfl rfl (fun _ => rfl)
          (fun hp => va_runV (As := []) (rest := []) F.1 (kX5_openSet l g x nw sn tk hs tx tr na nb (passS d9 σ) H.size ) (cwV 0 hts gL_acts_X5_openSet rfl rfl rfl ⟨rfl, hd_X5_openSet⟩ ⟨Nat.le_of_ble_eq_true rfl, Nat.le_of_ble_eq_true rfl⟩) ⟨hp.1, va_recv F.2.2.2.1.1 w.1 (q0 := 0) (ci := 5) rfl rfl, hp.2⟩ rfl rfl hl.1 rfl (lv_room (Nat.le_of_ble_eq_true rfl)) dL_acts_166 ⟨by show _ ≤ (60 : Nat); omega, by show _ ≤ (360 : Nat); omega⟩)
          (fun r_663 _ H locs h_664 w => ?_)
        subst h_664
        refine lv_lload hx hb dL_acts_169 (lv_at hl 0 rfl) ?_
        refine W.lcmp hx hb dL_acts_171 ?_
        refine lv_if_ne (tgt := 215) hx hb dL_acts_172 (by decide) (fun h_665 => ?_) (fun h_665 => ?_)
        · exact absurd (lgc_eq.mpr rfl) h_665
        refine lv_aload_n hx hb dL_acts_175 rfl (lv_at hl 10 rfl) ?_
        refine kcalli (wc := [cX x nw sn tk hs tx tr, cR nw na nb (passS d9 σ), xI g na 49 (zT (passS d9 σ)), xI g nb 49 (zI (passS d9 σ))]) (wr := [cH hs hq (pushN kn), xQ g hq 4 (rq u_658.1), cR (u_658.1 0) (u_658.2.1 0) (u_658.2.2 0) ((pushG γ kn σ) 0), xI g (u_658.2.1 0) 49 (zT ((pushG γ kn σ) 0)), xI g (u_658.2.2 0) 49 (zI ((pushG γ kn σ) 0)), cR (u_658.1 1) (u_658.2.1 1) (u_658.2.2 1) ((pushG γ kn σ) 1), xI g (u_658.2.1 1) 49 (zT ((pushG γ kn σ) 1)), xI g (u_658.2.2 1) 49 (zI ((pushG γ kn σ) 1)), cR (u_658.1 2) (u_658.2.1 2) (u_658.2.2 2) ((pushG γ kn σ) 2), xI g (u_658.2.1 2) 49 (zT ((pushG γ kn σ) 2)), xI g (u_658.2.2 2) 49 (zI ((pushG γ kn σ) 2)), cR (u_658.1 3) (u_658.2.1 3) (u_658.2.2 3) ((pushG γ kn σ) 3), xI g (u_658.2.1 3) 49 (zT ((pushG γ kn σ) 3)), xI g (u_658.2.2 3) 49 (zI ((pushG γ kn σ) 3)), cT tx ch L, xC g ch 60 T, cTr tr tw od os po re ca, cR tw ta tb τ, xI g ta 49 (zT τ), xI g tb 49 (zI τ), cO od vb n1 n2 nm en]) (wn := fun (u : Unit) => [cX x nw sn tk hs tx tr, cR nw na nb (passS d9 σ), xI g na 49 (zT (passS d9 σ)), xI g nb 49 (zI (passS d9 σ)), cH hs hq (pushN kn), xQ g hq 4 (rq u_658.1), cR (u_658.1 0) (u_658.2.1 0) (u_658.2.2 0) ((pushG γ kn σ) 0), xI g (u_658.2.1 0) 49 (zT ((pushG γ kn σ) 0)), xI g (u_658.2.2 0) 49 (zI ((pushG γ kn σ) 0)), cR (u_658.1 1) (u_658.2.1 1) (u_658.2.2 1) ((pushG γ kn σ) 1), xI g (u_658.2.1 1) 49 (zT ((pushG γ kn σ) 1)), xI g (u_658.2.2 1) 49 (zI ((pushG γ kn σ) 1)), cR (u_658.1 2) (u_658.2.1 2) (u_658.2.2 2) ((pushG γ kn σ) 2), xI g (u_658.2.1 2) 49 (zT ((pushG γ kn σ) 2)), xI g (u_658.2.2 2) 49 (zI ((pushG γ kn σ) 2)), cR (u_658.1 3) (u_658.2.1 3) (u_658.2.2 3) ((pushG γ kn σ) 3), xI g (u_658.2.1 3) 49 (zT ((pushG γ kn σ) 3)), xI g (u_658.2.2 3) 49 (zI ((pushG γ kn σ) 3)), cT tx ch L, xC g ch 60 T, cTr tr tw od os po re ca, cR tw ta tb τ, xI g ta 49 (zT τ), xI g tb 49 (zI τ), cO od vb n1 n2 nm en]) F w [0, 1, 2, 3] [4, 5, 6, 7, 8, 9, 10, 11, 12, 13, 14, 15, 16, 17, 18, 19, 20, 21, 22, 23, 24] [21, 22, 23, 24, 0, 1, 2, 3, 4, 5, 6, 7, 8, 9, 10, 11, 12, 13, 14, 15, 16, 17, 18, 19, 20] rfl rfl rfl (fun _ => rfl)
          (fun hp => va_runV (As := []) (rest := []) F.1 (kX5_turnsInAll l g x nw sn tk hs tx tr na nb (passS d9 σ) H.size ) (cwV 0 hts gL_acts_X5_turnsInAll rfl rfl rfl ⟨rfl, hd_X5_turnsInAll⟩ ⟨Nat.le_of_ble_eq_true rfl, Nat.le_of_ble_eq_true rfl⟩) ⟨hp.1, va_recv F.2.2.2.1.1 w.1 (q0 := 0) (ci := 5) rfl rfl, hp.2⟩ rfl rfl hl.1 rfl (lv_room (Nat.le_of_ble_eq_true rfl)) dL_acts_176 ⟨by show _ ≤ (60 : Nat); omega, by show _ ≤ (360 : Nat); omega⟩)
          (fun r_666 _ H locs h_667 w => ?_)
        subst h_667
        refine ktopi (y := tA (passS d9 σ)) (rfl) ?_
        refine lv_iload hx hb dL_acts_179 (lv_at hl 4 rfl) ?_
        refine lv_lload hx hb dL_acts_181 (lv_at hl 6 rfl) ?_
        refine lv_lload hx hb dL_acts_183 (lv_at hl 0 rfl) ?_
        refine lv_lxor hx hb dL_acts_185 ?_
        refine ktopl (y := zB (turnP σ d9)) (pass_diff hdi.1) ?_
        refine kcalli (wc := []) (wr := [cX x nw sn tk hs tx tr, cR nw na nb (passS d9 σ), xI g na 49 (zT (passS d9 σ)), xI g nb 49 (zI (passS d9 σ)), cH hs hq (pushN kn), xQ g hq 4 (rq u_658.1), cR (u_658.1 0) (u_658.2.1 0) (u_658.2.2 0) ((pushG γ kn σ) 0), xI g (u_658.2.1 0) 49 (zT ((pushG γ kn σ) 0)), xI g (u_658.2.2 0) 49 (zI ((pushG γ kn σ) 0)), cR (u_658.1 1) (u_658.2.1 1) (u_658.2.2 1) ((pushG γ kn σ) 1), xI g (u_658.2.1 1) 49 (zT ((pushG γ kn σ) 1)), xI g (u_658.2.2 1) 49 (zI ((pushG γ kn σ) 1)), cR (u_658.1 2) (u_658.2.1 2) (u_658.2.2 2) ((pushG γ kn σ) 2), xI g (u_658.2.1 2) 49 (zT ((pushG γ kn σ) 2)), xI g (u_658.2.2 2) 49 (zI ((pushG γ kn σ) 2)), cR (u_658.1 3) (u_658.2.1 3) (u_658.2.2 3) ((pushG γ kn σ) 3), xI g (u_658.2.1 3) 49 (zT ((pushG γ kn σ) 3)), xI g (u_658.2.2 3) 49 (zI ((pushG γ kn σ) 3)), cT tx ch L, xC g ch 60 T, cTr tr tw od os po re ca, cR tw ta tb τ, xI g ta 49 (zT τ), xI g tb 49 (zI τ), cO od vb n1 n2 nm en]) (wn := fun (u : Unit) => [cX x nw sn tk hs tx tr, cR nw na nb (passS d9 σ), xI g na 49 (zT (passS d9 σ)), xI g nb 49 (zI (passS d9 σ)), cH hs hq (pushN kn), xQ g hq 4 (rq u_658.1), cR (u_658.1 0) (u_658.2.1 0) (u_658.2.2 0) ((pushG γ kn σ) 0), xI g (u_658.2.1 0) 49 (zT ((pushG γ kn σ) 0)), xI g (u_658.2.2 0) 49 (zI ((pushG γ kn σ) 0)), cR (u_658.1 1) (u_658.2.1 1) (u_658.2.2 1) ((pushG γ kn σ) 1), xI g (u_658.2.1 1) 49 (zT ((pushG γ kn σ) 1)), xI g (u_658.2.2 1) 49 (zI ((pushG γ kn σ) 1)), cR (u_658.1 2) (u_658.2.1 2) (u_658.2.2 2) ((pushG γ kn σ) 2), xI g (u_658.2.1 2) 49 (zT ((pushG γ kn σ) 2)), xI g (u_658.2.2 2) 49 (zI ((pushG γ kn σ) 2)), cR (u_658.1 3) (u_658.2.1 3) (u_658.2.2 3) ((pushG γ kn σ) 3), xI g (u_658.2.1 3) 49 (zT ((pushG γ kn σ) 3)), xI g (u_658.2.2 3) 49 (zI ((pushG γ kn σ) 3)), cT tx ch L, xC g ch 60 T, cTr tr tw od os po re ca, cR tw ta tb τ, xI g ta 49 (zT τ), xI g tb 49 (zI τ), cO od vb n1 n2 nm en]) F w [] [0, 1, 2, 3, 4, 5, 6, 7, 8, 9, 10, 11, 12, 13, 14, 15, 16, 17, 18, 19, 20, 21, 22, 23, 24] [0, 1, 2, 3, 4, 5, 6, 7, 8, 9, 10, 11, 12, 13, 14, 15, 16, 17, 18, 19, 20, 21, 22, 23, 24] rfl rfl rfl (fun _ => rfl)
          (fun hp => va_runS (As := [.long (zB (turnP σ d9))]) (rest := [.int (tA σ), .int (tA (passS d9 σ))]) F.1 (kL_ones l g (turnP σ d9) H.size ) (va_cwS 1 hts gL_acts_L_ones rfl rfl rfl hd_L_ones ⟨Nat.le_of_ble_eq_true rfl, Nat.le_of_ble_eq_true rfl⟩) hp rfl rfl hl.1 rfl (lv_room (Nat.le_of_ble_eq_true rfl)) dL_acts_186 ⟨by show _ ≤ (60 : Nat); omega, by show _ ≤ (360 : Nat); omega⟩)
          (fun r_668 _ H locs h_669 w => ?_)
        subst h_669
        refine lv_iadd hx hb dL_acts_189 ?_
        refine ktopi (y := tA (passS d9 σ)) ((tA_pass hdi.1 hdi.2).symm) ?_
        refine lv_icmp_ne (tgt := 215) hx hb dL_acts_190 (by decide) (fun h_670 => ?_) (fun h_670 => ?_)
        · exact absurd rfl h_670
        refine lv_iload hx hb dL_acts_193 (lv_at hl 7 rfl) ?_
        refine lv_if_ne (tgt := 211) hx hb dL_acts_195 (by decide) (fun h_671 => ?_) (fun h_671 => ?_)
        · exact absurd rfl h_671
        refine lv_aload_n hx hb dL_acts_198 rfl (lv_at hl 10 rfl) ?_
        refine lv_iload hx hb dL_acts_199 (lv_at hl 8 rfl) ?_
        refine kcalli (wc := [cX x nw sn tk hs tx tr, cR nw na nb (passS d9 σ), xI g na 49 (zT (passS d9 σ)), xI g nb 49 (zI (passS d9 σ))]) (wr := [cH hs hq (pushN kn), xQ g hq 4 (rq u_658.1), cR (u_658.1 0) (u_658.2.1 0) (u_658.2.2 0) ((pushG γ kn σ) 0), xI g (u_658.2.1 0) 49 (zT ((pushG γ kn σ) 0)), xI g (u_658.2.2 0) 49 (zI ((pushG γ kn σ) 0)), cR (u_658.1 1) (u_658.2.1 1) (u_658.2.2 1) ((pushG γ kn σ) 1), xI g (u_658.2.1 1) 49 (zT ((pushG γ kn σ) 1)), xI g (u_658.2.2 1) 49 (zI ((pushG γ kn σ) 1)), cR (u_658.1 2) (u_658.2.1 2) (u_658.2.2 2) ((pushG γ kn σ) 2), xI g (u_658.2.1 2) 49 (zT ((pushG γ kn σ) 2)), xI g (u_658.2.2 2) 49 (zI ((pushG γ kn σ) 2)), cR (u_658.1 3) (u_658.2.1 3) (u_658.2.2 3) ((pushG γ kn σ) 3), xI g (u_658.2.1 3) 49 (zT ((pushG γ kn σ) 3)), xI g (u_658.2.2 3) 49 (zI ((pushG γ kn σ) 3)), cT tx ch L, xC g ch 60 T, cTr tr tw od os po re ca, cR tw ta tb τ, xI g ta 49 (zT τ), xI g tb 49 (zI τ), cO od vb n1 n2 nm en]) (wn := fun (u : Unit) => [cX x nw sn tk hs tx tr, cR nw na nb (passS d9 σ), xI g na 49 (zT (passS d9 σ)), xI g nb 49 (zI (passS d9 σ)), cH hs hq (pushN kn), xQ g hq 4 (rq u_658.1), cR (u_658.1 0) (u_658.2.1 0) (u_658.2.2 0) ((pushG γ kn σ) 0), xI g (u_658.2.1 0) 49 (zT ((pushG γ kn σ) 0)), xI g (u_658.2.2 0) 49 (zI ((pushG γ kn σ) 0)), cR (u_658.1 1) (u_658.2.1 1) (u_658.2.2 1) ((pushG γ kn σ) 1), xI g (u_658.2.1 1) 49 (zT ((pushG γ kn σ) 1)), xI g (u_658.2.2 1) 49 (zI ((pushG γ kn σ) 1)), cR (u_658.1 2) (u_658.2.1 2) (u_658.2.2 2) ((pushG γ kn σ) 2), xI g (u_658.2.1 2) 49 (zT ((pushG γ kn σ) 2)), xI g (u_658.2.2 2) 49 (zI ((pushG γ kn σ) 2)), cR (u_658.1 3) (u_658.2.1 3) (u_658.2.2 3) ((pushG γ kn σ) 3), xI g (u_658.2.1 3) 49 (zT ((pushG γ kn σ) 3)), xI g (u_658.2.2 3) 49 (zI ((pushG γ kn σ) 3)), cT tx ch L, xC g ch 60 T, cTr tr tw od os po re ca, cR tw ta tb τ, xI g ta 49 (zT τ), xI g tb 49 (zI τ), cO od vb n1 n2 nm en]) F w [0, 1, 2, 3] [4, 5, 6, 7, 8, 9, 10, 11, 12, 13, 14, 15, 16, 17, 18, 19, 20, 21, 22, 23, 24] [21, 22, 23, 24, 0, 1, 2, 3, 4, 5, 6, 7, 8, 9, 10, 11, 12, 13, 14, 15, 16, 17, 18, 19, 20] rfl rfl rfl (fun _ => rfl)
          (fun hp => va_runV (As := [.int (nI d9)]) (rest := []) F.1 (kX5_timesOf_k l g x nw sn tk hs tx tr na nb (passS d9 σ) d9 H.size hdi) (cwV 1 hts gL_acts_X5_timesOf rfl rfl rfl ⟨rfl, hd_X5_timesOf⟩ ⟨Nat.le_of_ble_eq_true rfl, Nat.le_of_ble_eq_true rfl⟩) ⟨hp.1, va_recv F.2.2.2.1.1 w.1 (q0 := 0) (ci := 5) rfl rfl, hp.2⟩ rfl rfl hl.1 rfl (lv_room (Nat.le_of_ble_eq_true rfl)) dL_acts_201 ⟨by show _ ≤ (60 : Nat); omega, by show _ ≤ (360 : Nat); omega⟩)
          (fun r_672 _ H locs h_673 w => ?_)
        subst h_673
        refine ktopi (y := zI σ d9 + 1) (zI_pass _ _) ?_
        refine lv_iload hx hb dL_acts_204 (lv_at hl 1 rfl) ?_
        refine lv_iconst (v := nI 1) hx hb dL_acts_206 (by decide) ?_
        refine lv_iadd hx hb dL_acts_207 ?_
        refine ktopi (y := zI σ d9 + 1) (rfl) ?_
        refine lv_icmp_ne (tgt := 215) hx hb dL_acts_208 (by decide) (fun h_674 => ?_) (fun h_674 => ?_)
        · exact absurd rfl h_674
        refine lv_iconst (v := nI 1) hx hb dL_acts_211 (by decide) ?_
        refine lv_goto (tgt := 216) hx hb dL_acts_212 (by decide) ?_
        refine ktopi (y := bI true) (by decide) ?_
        refine W.widen (k := 60) (n := 360) (by omega) (by omega) ?_
        subst hA
        subst hQ
        exact kretz F w (passS d9 σ, pushN kn, u_658.1, u_658.2.1, u_658.2.2, pushG γ kn σ, L, T, os, po, re, ca, τ, vb, n1, n2, nm, en) [0, 1, 2, 3, 4, 5, 6, 7, 8, 9, 10, 11, 12, 13, 14, 15, 16, 17, 18, 19, 20, 21, 22, 23, 24] rfl rfl (⟨rfl, actP_1 hL (fun B hB => (gB_pass hB _).mono (by omega))⟩) (kz_n _) (Nat.le_of_ble_eq_true rfl) (Nat.le_of_ble_eq_true rfl) dL_acts_216
    refine lv_iload hx hb dL_acts_40 (lv_at hl 0 rfl) ?_
    refine lv_if_eq (tgt := 52) hx hb dL_acts_42 (by decide) (fun h_675 => ?_) (fun h_675 => ?_)
    · have h_675 : d9 = 0 := (kc0_eq_t (by omega)).mp h_675
      refine lv_iconst (v := nI 1) hx hb dL_acts_52 (by decide) ?_
      refine lv_goto (tgt := 57) hx hb dL_acts_53 (by decide) ?_
      refine ktopi (y := bI true) (by decide) ?_
      exact JN_5  (by omega) _ _ _ (kW.perm w [0, 1, 2, 3, 4, 5, 6, 7, 8, 9, 10, 11, 12, 13, 14, 15, 16, 17, 18, 19, 20, 21, 22, 23, 24] rfl rfl) (lv_sub hl [0, 1, 2, 3, 4] rfl)
    · have h_675 : d9 ≠ 0 := (kc0_eq_f (by omega)).mp h_675
      refine lv_iload hx hb dL_acts_45 (lv_at hl 0 rfl) ?_
      refine lv_bipush (v := nI 49) hx hb dL_acts_47 (by decide) ?_
      refine lv_icmp_ne (tgt := 56) hx hb dL_acts_49 (by decide) (fun h_676 => ?_) (fun h_676 => ?_)
      · have h_676 : d9 ≠ 49 := (kc_ne_t (by omega) (by omega)).mp h_676
        refine lv_iconst (v := nI 0) hx hb dL_acts_56 (by decide) ?_
        refine ktopi (y := bI false) (by decide) ?_
        exact JN_154  (by omega) _ _ _ (kW.perm w [0, 1, 2, 3, 4, 5, 6, 7, 8, 9, 10, 11, 12, 13, 14, 15, 16, 17, 18, 19, 20, 21, 22, 23, 24] rfl rfl) (lv_sub hl [0, 1, 2, 3, 4] rfl)
      · have h_676 : d9 = 49 := (kc_ne_f (by omega) (by omega)).mp h_676
        refine lv_iconst (v := nI 1) hx hb dL_acts_52 (by decide) ?_
        refine lv_goto (tgt := 57) hx hb dL_acts_53 (by decide) ?_
        refine ktopi (y := bI true) (by decide) ?_
        exact JN_5  (by omega) _ _ _ (kW.perm w [0, 1, 2, 3, 4, 5, 6, 7, 8, 9, 10, 11, 12, 13, 14, 15, 16, 17, 18, 19, 20, 21, 22, 23, 24] rfl rfl) (lv_sub hl [0, 1, 2, 3, 4] rfl)
  refine lv_iload_n hx hb dL_acts_7 rfl (lv_at hl 3 rfl) ?_
  refine lv_bipush (v := nI 9) hx hb dL_acts_8 (by decide) ?_
  refine lv_ishr hx hb dL_acts_10 ?_
  refine lv_bipush (v := nI 22) hx hb dL_acts_11 (by decide) ?_
  have lw_677 := lowN_lt (yv >>> ((nI 9) &&& 31)) (n := 22) (by omega)
  refine kcalli (wc := []) (wr := [cX x nw sn tk hs tx tr, cR nw na nb σ, xI g na 49 (zT σ), xI g nb 49 (zI σ), cH hs hq kn, xQ g hq 4 (rq ρ), cR (ρ 0) (α 0) (β 0) (γ 0), xI g (α 0) 49 (zT (γ 0)), xI g (β 0) 49 (zI (γ 0)), cR (ρ 1) (α 1) (β 1) (γ 1), xI g (α 1) 49 (zT (γ 1)), xI g (β 1) 49 (zI (γ 1)), cR (ρ 2) (α 2) (β 2) (γ 2), xI g (α 2) 49 (zT (γ 2)), xI g (β 2) 49 (zI (γ 2)), cR (ρ 3) (α 3) (β 3) (γ 3), xI g (α 3) 49 (zT (γ 3)), xI g (β 3) 49 (zI (γ 3)), cT tx ch L, xC g ch 60 T, cTr tr tw od os po re ca, cR tw ta tb τ, xI g ta 49 (zT τ), xI g tb 49 (zI τ), cO od vb n1 n2 nm en]) (wn := fun (u : Unit) => [cX x nw sn tk hs tx tr, cR nw na nb σ, xI g na 49 (zT σ), xI g nb 49 (zI σ), cH hs hq kn, xQ g hq 4 (rq ρ), cR (ρ 0) (α 0) (β 0) (γ 0), xI g (α 0) 49 (zT (γ 0)), xI g (β 0) 49 (zI (γ 0)), cR (ρ 1) (α 1) (β 1) (γ 1), xI g (α 1) 49 (zT (γ 1)), xI g (β 1) 49 (zI (γ 1)), cR (ρ 2) (α 2) (β 2) (γ 2), xI g (α 2) 49 (zT (γ 2)), xI g (β 2) 49 (zI (γ 2)), cR (ρ 3) (α 3) (β 3) (γ 3), xI g (α 3) 49 (zT (γ 3)), xI g (β 3) 49 (zI (γ 3)), cT tx ch L, xC g ch 60 T, cTr tr tw od os po re ca, cR tw ta tb τ, xI g ta 49 (zT τ), xI g tb 49 (zI τ), cO od vb n1 n2 nm en]) F w [] [0, 1, 2, 3, 4, 5, 6, 7, 8, 9, 10, 11, 12, 13, 14, 15, 16, 17, 18, 19, 20, 21, 22, 23, 24] [0, 1, 2, 3, 4, 5, 6, 7, 8, 9, 10, 11, 12, 13, 14, 15, 16, 17, 18, 19, 20, 21, 22, 23, 24] rfl rfl rfl (fun _ => rfl)
    (fun hp => va_runS (As := [.int (yv >>> ((nI 9) &&& 31)), .int (nI 22)]) (rest := []) F.1 (kL_low l g (yv >>> ((nI 9) &&& 31)) 22 H.size (by omega)) (va_cwS 2 hts gL_acts_L_low rfl rfl rfl hd_L_low ⟨Nat.le_of_ble_eq_true rfl, Nat.le_of_ble_eq_true rfl⟩) hp rfl rfl hl.1 rfl (lv_room (Nat.le_of_ble_eq_true rfl)) dL_acts_13 ⟨by show _ ≤ (60 : Nat); omega, by show _ ≤ (360 : Nat); omega⟩)
    (fun r_678 _ H locs h_679 w => ?_)
  subst h_679
  refine lv_if_ne (tgt := 30) hx hb dL_acts_16 (by decide) (fun h_680 => ?_) (fun h_680 => ?_)
  · have h_680 : lowN (yv >>> ((nI 9) &&& 31)) 22 ≠ 0 := (kc0_ne_t (by omega)).mp h_680
    refine lv_iconst (v := nI 1) hx hb dL_acts_30 (by decide) ?_
    refine lv_iload_n hx hb dL_acts_31 rfl (lv_at hl 3 rfl) ?_
    refine lv_bipush (v := nI 48) hx hb dL_acts_32 (by decide) ?_
    have lw_681 := lowN_lt yv (n := 48) (by omega)
    refine kcalli (wc := []) (wr := [cX x nw sn tk hs tx tr, cR nw na nb σ, xI g na 49 (zT σ), xI g nb 49 (zI σ), cH hs hq kn, xQ g hq 4 (rq ρ), cR (ρ 0) (α 0) (β 0) (γ 0), xI g (α 0) 49 (zT (γ 0)), xI g (β 0) 49 (zI (γ 0)), cR (ρ 1) (α 1) (β 1) (γ 1), xI g (α 1) 49 (zT (γ 1)), xI g (β 1) 49 (zI (γ 1)), cR (ρ 2) (α 2) (β 2) (γ 2), xI g (α 2) 49 (zT (γ 2)), xI g (β 2) 49 (zI (γ 2)), cR (ρ 3) (α 3) (β 3) (γ 3), xI g (α 3) 49 (zT (γ 3)), xI g (β 3) 49 (zI (γ 3)), cT tx ch L, xC g ch 60 T, cTr tr tw od os po re ca, cR tw ta tb τ, xI g ta 49 (zT τ), xI g tb 49 (zI τ), cO od vb n1 n2 nm en]) (wn := fun (u : Unit) => [cX x nw sn tk hs tx tr, cR nw na nb σ, xI g na 49 (zT σ), xI g nb 49 (zI σ), cH hs hq kn, xQ g hq 4 (rq ρ), cR (ρ 0) (α 0) (β 0) (γ 0), xI g (α 0) 49 (zT (γ 0)), xI g (β 0) 49 (zI (γ 0)), cR (ρ 1) (α 1) (β 1) (γ 1), xI g (α 1) 49 (zT (γ 1)), xI g (β 1) 49 (zI (γ 1)), cR (ρ 2) (α 2) (β 2) (γ 2), xI g (α 2) 49 (zT (γ 2)), xI g (β 2) 49 (zI (γ 2)), cR (ρ 3) (α 3) (β 3) (γ 3), xI g (α 3) 49 (zT (γ 3)), xI g (β 3) 49 (zI (γ 3)), cT tx ch L, xC g ch 60 T, cTr tr tw od os po re ca, cR tw ta tb τ, xI g ta 49 (zT τ), xI g tb 49 (zI τ), cO od vb n1 n2 nm en]) F w [] [0, 1, 2, 3, 4, 5, 6, 7, 8, 9, 10, 11, 12, 13, 14, 15, 16, 17, 18, 19, 20, 21, 22, 23, 24] [0, 1, 2, 3, 4, 5, 6, 7, 8, 9, 10, 11, 12, 13, 14, 15, 16, 17, 18, 19, 20, 21, 22, 23, 24] rfl rfl rfl (fun _ => rfl)
      (fun hp => va_runS (As := [.int yv, .int (nI 48)]) (rest := [.int (nI 1)]) F.1 (kL_low l g yv 48 H.size (by omega)) (va_cwS 2 hts gL_acts_L_low rfl rfl rfl hd_L_low ⟨Nat.le_of_ble_eq_true rfl, Nat.le_of_ble_eq_true rfl⟩) hp rfl rfl hl.1 rfl (lv_room (Nat.le_of_ble_eq_true rfl)) dL_acts_34 ⟨by show _ ≤ (60 : Nat); omega, by show _ ≤ (360 : Nat); omega⟩)
      (fun r_682 _ H locs h_683 w => ?_)
    subst h_683
    refine lv_iadd hx hb dL_acts_37 ?_
    refine ktopi (y := nI (1 + lowN yv 48)) (nI_add 1 (lowN yv 48)) ?_
    exact JN_4 (1 + lowN yv 48) (by omega) _ _ _ (kW.perm w [0, 1, 2, 3, 4, 5, 6, 7, 8, 9, 10, 11, 12, 13, 14, 15, 16, 17, 18, 19, 20, 21, 22, 23, 24] rfl rfl) (lv_sub hl [0, 1, 2, 3] rfl)
  · have h_680 : lowN (yv >>> ((nI 9) &&& 31)) 22 = 0 := (kc0_ne_f (by omega)).mp h_680
    refine lv_bipush (v := nI 49) hx hb dL_acts_19 (by decide) ?_
    refine lv_iload_n hx hb dL_acts_21 rfl (lv_at hl 3 rfl) ?_
    refine lv_iconst (v := nI 2) hx hb dL_acts_22 (by decide) ?_
    have lw_684 := lowN_lt yv (n := 2) (by omega)
    refine kcalli (wc := []) (wr := [cX x nw sn tk hs tx tr, cR nw na nb σ, xI g na 49 (zT σ), xI g nb 49 (zI σ), cH hs hq kn, xQ g hq 4 (rq ρ), cR (ρ 0) (α 0) (β 0) (γ 0), xI g (α 0) 49 (zT (γ 0)), xI g (β 0) 49 (zI (γ 0)), cR (ρ 1) (α 1) (β 1) (γ 1), xI g (α 1) 49 (zT (γ 1)), xI g (β 1) 49 (zI (γ 1)), cR (ρ 2) (α 2) (β 2) (γ 2), xI g (α 2) 49 (zT (γ 2)), xI g (β 2) 49 (zI (γ 2)), cR (ρ 3) (α 3) (β 3) (γ 3), xI g (α 3) 49 (zT (γ 3)), xI g (β 3) 49 (zI (γ 3)), cT tx ch L, xC g ch 60 T, cTr tr tw od os po re ca, cR tw ta tb τ, xI g ta 49 (zT τ), xI g tb 49 (zI τ), cO od vb n1 n2 nm en]) (wn := fun (u : Unit) => [cX x nw sn tk hs tx tr, cR nw na nb σ, xI g na 49 (zT σ), xI g nb 49 (zI σ), cH hs hq kn, xQ g hq 4 (rq ρ), cR (ρ 0) (α 0) (β 0) (γ 0), xI g (α 0) 49 (zT (γ 0)), xI g (β 0) 49 (zI (γ 0)), cR (ρ 1) (α 1) (β 1) (γ 1), xI g (α 1) 49 (zT (γ 1)), xI g (β 1) 49 (zI (γ 1)), cR (ρ 2) (α 2) (β 2) (γ 2), xI g (α 2) 49 (zT (γ 2)), xI g (β 2) 49 (zI (γ 2)), cR (ρ 3) (α 3) (β 3) (γ 3), xI g (α 3) 49 (zT (γ 3)), xI g (β 3) 49 (zI (γ 3)), cT tx ch L, xC g ch 60 T, cTr tr tw od os po re ca, cR tw ta tb τ, xI g ta 49 (zT τ), xI g tb 49 (zI τ), cO od vb n1 n2 nm en]) F w [] [0, 1, 2, 3, 4, 5, 6, 7, 8, 9, 10, 11, 12, 13, 14, 15, 16, 17, 18, 19, 20, 21, 22, 23, 24] [0, 1, 2, 3, 4, 5, 6, 7, 8, 9, 10, 11, 12, 13, 14, 15, 16, 17, 18, 19, 20, 21, 22, 23, 24] rfl rfl rfl (fun _ => rfl)
      (fun hp => va_runS (As := [.int yv, .int (nI 2)]) (rest := [.int (nI 49)]) F.1 (kL_low l g yv 2 H.size (by omega)) (va_cwS 2 hts gL_acts_L_low rfl rfl rfl hd_L_low ⟨Nat.le_of_ble_eq_true rfl, Nat.le_of_ble_eq_true rfl⟩) hp rfl rfl hl.1 rfl (lv_room (Nat.le_of_ble_eq_true rfl)) dL_acts_23 ⟨by show _ ≤ (60 : Nat); omega, by show _ ≤ (360 : Nat); omega⟩)
      (fun r_685 _ H locs h_686 w => ?_)
    subst h_686
    refine lv_imul hx hb dL_acts_26 ?_
    refine ktopi (y := nI (49 * (lowN yv 2))) (pk_mul 49 (lowN yv 2)) ?_
    refine lv_goto (tgt := 38) hx hb dL_acts_27 (by decide) ?_
    exact JN_4 (49 * (lowN yv 2)) (by omega) _ _ _ (kW.perm w [0, 1, 2, 3, 4, 5, 6, 7, 8, 9, 10, 11, 12, 13, 14, 15, 16, 17, 18, 19, 20, 21, 22, 23, 24] rfl rfl) (lv_sub hl [0, 1, 2, 3] rfl)
