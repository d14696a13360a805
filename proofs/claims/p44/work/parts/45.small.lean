/-! ===== the law's small methods ===== -/
theorem lcN_lt_t {a b : Nat} (ha : a < 2 ^ 63) (hb : b < 2 ^ 63) : lg_cmp (lN a) (lN b) < 0 ↔ a < b := by rw [lg_cmp_lt, pk_lLT ha hb]
theorem lcN_lt_f {a b : Nat} (ha : a < 2 ^ 63) (hb : b < 2 ^ 63) : ¬ lg_cmp (lN a) (lN b) < 0 ↔ a ≥ b := (not_congr (lcN_lt_t ha hb)).trans (by omega)
theorem lcN_ge_t {a b : Nat} (ha : a < 2 ^ 63) (hb : b < 2 ^ 63) : 0 ≤ lg_cmp (lN a) (lN b) ↔ a ≥ b := by rw [lg_cmp_ge, pk_lLE hb ha]
theorem lcN_ge_f {a b : Nat} (ha : a < 2 ^ 63) (hb : b < 2 ^ 63) : ¬ 0 ≤ lg_cmp (lN a) (lN b) ↔ a < b := (not_congr (lcN_ge_t ha hb)).trans (by omega)
theorem lcN_gt_t {a b : Nat} (ha : a < 2 ^ 63) (hb : b < 2 ^ 63) : 0 < lg_cmp (lN a) (lN b) ↔ a > b := by rw [lg_cmp_gt, pk_lLT hb ha]
theorem lcN_gt_f {a b : Nat} (ha : a < 2 ^ 63) (hb : b < 2 ^ 63) : ¬ 0 < lg_cmp (lN a) (lN b) ↔ a ≤ b := (not_congr (lcN_gt_t ha hb)).trans (by omega)
theorem lcN_le_t {a b : Nat} (ha : a < 2 ^ 63) (hb : b < 2 ^ 63) : lg_cmp (lN a) (lN b) ≤ 0 ↔ a ≤ b := by rw [lg_cmp_le, pk_lLE ha hb]
theorem lcN_le_f {a b : Nat} (ha : a < 2 ^ 63) (hb : b < 2 ^ 63) : ¬ lg_cmp (lN a) (lN b) ≤ 0 ↔ a > b := (not_congr (lcN_le_t ha hb)).trans (by omega)
theorem lcN_eq_t {a b : Nat} (ha : a < 2 ^ 63) (hb : b < 2 ^ 63) : lg_cmp (lN a) (lN b) = 0 ↔ a = b := by rw [lg_cmp_eq, pk_lEQ ha hb]
theorem lcN_eq_f {a b : Nat} (ha : a < 2 ^ 63) (hb : b < 2 ^ 63) : ¬ lg_cmp (lN a) (lN b) = 0 ↔ a ≠ b := not_congr (lcN_eq_t ha hb)
theorem lcN_ne_t {a b : Nat} (ha : a < 2 ^ 63) (hb : b < 2 ^ 63) : ¬ lg_cmp (lN a) (lN b) = 0 ↔ a ≠ b := not_congr (lcN_eq_t ha hb)
theorem lcN_ne_f {a b : Nat} (ha : a < 2 ^ 63) (hb : b < 2 ^ 63) : lg_cmp (lN a) (lN b) = 0 ↔ a = b := lcN_eq_t ha hb
theorem sh1 {k : Nat} (h : k < 64) : (1 : Int64) <<< ((nI k).toInt64 &&& 63) = lN (2 ^ k) := by
  have := wb_shl 1 h
  rw [show lN 1 = (1 : Int64) by decide, Nat.one_mul] at this
  exact this
theorem sh1m {k : Nat} (h : k < 64) : lN (2 ^ k) - 1 = lN (2 ^ k - 1) := lN_sub (b := 1) (Nat.two_pow_pos k)
theorem shrN {a k : Nat} (ha : a < 2 ^ 63) (hk : k < 64) : lN a >>> ((nI k).toInt64 &&& 63) = lN (a / 2 ^ k) := by
  rw [wb_c k hk]
  apply Int64.toBitVec_inj.mp
  rw [Int64.toBitVec_shiftRight, wb_tb, wb_tb, wb_tb, wb_sm k hk]
  unfold BitVec.sshiftRight'
  rw [BitVec.toNat_ofNat, Nat.mod_eq_of_lt (show k < 2 ^ 64 by omega)]
  have hm : (BitVec.ofNat 64 a).msb = false := by
    rw [BitVec.msb_eq_decide, BitVec.toNat_ofNat, Nat.mod_eq_of_lt (by omega)]
    exact decide_eq_false (by omega)
  rw [BitVec.sshiftRight_eq_of_msb_false hm]
  apply BitVec.eq_of_toNat_eq
  rw [BitVec.toNat_ushiftRight, BitVec.toNat_ofNat, BitVec.toNat_ofNat, Nat.mod_eq_of_lt (by omega), Nat.shiftRight_eq_div_pow, Nat.mod_eq_of_lt (Nat.lt_of_le_of_lt (Nat.div_le_self _ _) (by omega))]
/-- a small number and 6 less -/
def iT (t : Nat) : Int32 := Int32.ofInt ((t : Int) - 6)
theorem iT_6 : nI 0 = iT 6 := by decide
theorem iT_l : ∀ t, t < 20 → (iT t).toInt64 + lN 1023 = lN (1017 + t) := by decide +kernel
theorem iT_e : ∀ t, t < 20 → ∀ c, c < 7 → 6 - c ≤ t → iT t - mI c = nI (t - (6 - c)) := by decide +kernel
theorem iT_a : ∀ t, t < 20 → ∀ k, k < 3 → iT t + nI k = iT (t + k) := by decide +kernel
theorem iT_m : ∀ c, c < 7 → mI c = iT (6 - c) := by decide +kernel
theorem mI_n : ∀ c, c < 7 → -(mI c) = nI c := by decide +kernel
theorem mI_52 : ∀ c, c < 7 → nI 52 - mI c = nI (52 + c) := by decide +kernel
def rcZ (b : Nat) : Nat := if 2 ^ (byZ b - 1) < b % 2 ^ byZ b ∨ (b % 2 ^ byZ b = 2 ^ (byZ b - 1) ∧ b / 2 ^ byZ b % 2 = 1) then 1 else 0
theorem rcZ_1 {b : Nat} (h : 2 ^ (byZ b - 1) < b % 2 ^ byZ b) : 1 = rcZ b := (if_pos (Or.inl h)).symm
theorem rcZ_2 {b : Nat} (h : b % 2 ^ byZ b = 2 ^ (byZ b - 1)) (h2 : b / 2 ^ byZ b % 2 = 1) : 1 = rcZ b := (if_pos (Or.inr ⟨h, h2⟩)).symm
theorem rcZ_3 {b : Nat} (h : b % 2 ^ byZ b ≤ 2 ^ (byZ b - 1)) (h2 : b % 2 ^ byZ b ≠ 2 ^ (byZ b - 1)) : 0 = rcZ b := (if_neg (by omega)).symm
theorem rcZ_4 {b : Nat} (h : b % 2 ^ byZ b = 2 ^ (byZ b - 1)) (h2 : b / 2 ^ byZ b % 2 ≠ 1) : 0 = rcZ b := (if_neg (by omega)).symm
/-- the law's bits of a share -/
def rtM (n j : Nat) : Nat := n * 2 ^ j / 48 + (if 48 < 2 * (n * 2 ^ j % 48) ∨ (2 * (n * 2 ^ j % 48) = 48 ∧ n * 2 ^ j / 48 % 2 = 1) then 1 else 0)
theorem rtM_1 {n j : Nat} (h : 48 < 2 * (n * 2 ^ j % 48)) : n * 2 ^ j / 48 + 1 = rtM n j := by unfold rtM; rw [if_pos (Or.inl h)]
theorem rtM_2 {n j : Nat} (h : 2 * (n * 2 ^ j % 48) = 48) (h2 : n * 2 ^ j / 48 % 2 = 1) : n * 2 ^ j / 48 + 1 = rtM n j := by unfold rtM; rw [if_pos (Or.inr ⟨h, h2⟩)]
theorem rtM_3 {n j : Nat} (h : 2 * (n * 2 ^ j % 48) ≤ 48) (h2 : 2 * (n * 2 ^ j % 48) ≠ 48) : n * 2 ^ j / 48 + 0 = rtM n j := by unfold rtM; rw [if_neg (by omega)]
theorem rtM_4 {n j : Nat} (h : 2 * (n * 2 ^ j % 48) = 48) (h2 : n * 2 ^ j / 48 % 2 ≠ 1) : n * 2 ^ j / 48 + 0 = rtM n j := by unfold rtM; rw [if_neg (by omega)]
theorem rt_all : ∀ n, n < 49 → 1 ≤ n → ∀ j, j < 30 → (j = 0 ∨ n * 2 ^ (j - 1) < 402653184) → 402653184 ≤ n * 2 ^ j → nI (150 - j) <<< (nI 23 &&& 31) + (lN (rtM n j) - 8388608).toInt32 = (fsh n).toInt32 := by decide +kernel
theorem rt_0 : nI 0 = (fsh 0).toInt32 := by decide +kernel
theorem rt_j : ∀ n, n < 49 → 1 ≤ n → ∀ j, j < 31 → n * 2 ^ j < 402653184 → j < 29 := by decide +kernel
abbrev rmL_low : Room := { frames := 0, cells := 0, slots := 0, locals := 0 }
set_option maxHeartbeats 4000000 in
set_option maxRecDepth 100000 in
theorem kL_low (l : Launch) (g : GG) (v : Int32) (n : Nat) (sz : Nat) (hn : 1 ≤ n ∧ n < 2147483648) : Met l yL_low wsL_low rmL_low (va_Pc [.int v, .int (nI n)] (kPre g [] sz)) (va_Qi (fun (r : Int32) (u : Unit) => r = nI (lowN v n)) (kB g (va_A [] sz) (fun u => [])) (va_A [] sz)) 0 0 (va_A [] sz) := by
  refine kMet (cc := cL_low) (maxL := 2) (ret := (some .int)) (own := RL) (by decide) rfl rfl (Nat.le_of_ble_eq_true rfl) ?_
  intro p e s m args below meth c ls Q H locs A F w hl hnm hA hQ
  have hx := F.1.1
  have hb := F.1.2.1
  have hts := F.1.2.2.2.2
  have hl : lv_has ls 2 [(0, .int v), (1, .int (nI n))] := hl
  refine lv_iload_n hx hb dL_low_0 rfl (lv_at hl 0 rfl) ?_
  refine lv_ldc (v := (2147483647)) hx hb F.1.2.2.2.1 (hts (.constant RL 8 (2147483647)) (by decide +kernel)) dL_low_1 ?_
  refine lv_iand hx hb dL_low_3 ?_
  refine ktopi (y := nI (bT v % 2147483648)) (low_and v) ?_
  refine lv_iload_n hx hb dL_low_4 rfl (lv_at hl 1 rfl) ?_
  refine lv_irem hx hb dL_low_5 ((kc0_eq_f (by omega)).mpr (by omega)) ?_
  refine ktopi (y := nI ((bT v % 2147483648) % n)) (pk_rem (a := bT v % 2147483648) (d := n) (by omega) (by omega) (by omega)) ?_
  refine ktopi (y := nI (lowN v n)) (rfl) ?_
  subst hA
  subst hQ
  exact kreti F w () [] rfl rfl (rfl) (Nat.le_of_ble_eq_true rfl) (Nat.le_of_ble_eq_true rfl) dL_low_6
abbrev rmL_ones : Room := { frames := 0, cells := 0, slots := 0, locals := 0 }
set_option maxHeartbeats 4000000 in
set_option maxRecDepth 100000 in
theorem kL_ones (l : Launch) (g : GG) (q : Nat → Bool) (sz : Nat)  : Met l yL_ones wsL_ones rmL_ones (va_Pc [.long (zB q)] (kPre g [] sz)) (va_Qi (fun (r : Int32) (u : Unit) => r = nI (zcnt q 48)) (kB g (va_A [] sz) (fun u => [])) (va_A [] sz)) 0 0 (va_A [] sz) := by
  refine kMet (cc := cL_ones) (maxL := 5) (ret := (some .int)) (own := RL) (by decide) rfl rfl (Nat.le_of_ble_eq_true rfl) ?_
  intro p e s m args below meth c ls Q H locs A F w hl hnm hA hQ
  have hx := F.1.1
  have hb := F.1.2.1
  have hts := F.1.2.2.2.2
  have hl : lv_has ls 5 [(0, .long (zB q))] := hl
  refine lv_iconst (v := nI 0) hx hb dL_ones_0 (by decide) ?_
  refine ktopi (y := nI 0) (rfl) ?_
  refine lv_istore_n (lv' := [(2, .int (nI 0)), (0, .long (zB q))]) hx hb dL_ones_1 rfl hl (by decide) rfl (fun ls hl => ?_)
  refine lv_lload_n hx hb dL_ones_2 rfl (lv_at hl 1 rfl) ?_
  refine lv_lstore_n (lv' := [(3, .long (zB q)), (2, .int (nI 0)), (0, .long (zB q))]) hx hb dL_ones_3 rfl hl (by decide) rfl (fun ls hl => ?_)
  have hzc := zcnt_le q 48
  have LP_1 : ∀ (fu : Nat) (i : Nat) (r : Nat → Bool) (h1 : i ≤ 48) (h2 : i + zcnt r 48 = zcnt q 48) (H : Heap) (locs : List Loc) (ls : Array Slot), 50 - i < fu → kW g A s [] H locs → lv_has ls 5 [(3, .long (zB r)), (2, .int (nI i)), (0, .long (zB q))] → W p l e rmL_ones s m args below meth c H locs 0 0 Q (F0 m 4 ls []) := by
    intro fu
    induction fu with
    | zero => intro i r h1 h2 H locs ls hlt; omega
    | succ fu ih_1 =>
      intro i r h1 h2 H locs ls hlt w hl
      refine lv_lload_n hx hb dL_ones_4 rfl (lv_at hl 0 rfl) ?_
      refine lv_lconst (v := 0) hx hb dL_ones_5 (by decide) ?_
      refine W.lcmp hx hb dL_ones_6 ?_
      refine lv_if_eq (tgt := 22) hx hb dL_ones_7 (by decide) (fun h_2 => ?_) (fun h_2 => ?_)
      · have he := kern_end (lgc_eq.mp h_2)
        have hi : i = zcnt q 48 := by omega
        rw [hi] at hl
        refine lv_iload_n hx hb dL_ones_22 rfl (lv_at hl 1 rfl) ?_
        subst hA
        subst hQ
        exact kreti F w () [] rfl rfl (rfl) (Nat.le_of_ble_eq_true rfl) (Nat.le_of_ble_eq_true rfl) dL_ones_23
      · obtain ⟨d, d1, d2, d3, d4, d5⟩ := kern_zB (fun hz => h_2 (lgc_eq.mpr hz))
        refine lv_iinc (v := nI (i + 1)) (lv' := [(2, .int (nI (i + 1))), (3, .long (zB r)), (0, .long (zB q))]) hx hb dL_ones_10 hl (k := 1) rfl (nI_add i 1) (by decide) rfl (fun ls hl => ?_)
        refine lv_lload_n hx hb dL_ones_13 rfl (lv_at hl 1 rfl) ?_
        refine lv_lload_n hx hb dL_ones_14 rfl (lv_at hl 1 rfl) ?_
        refine lv_lconst (v := 1) hx hb dL_ones_15 (by decide) ?_
        refine lv_lsub hx hb dL_ones_16 ?_
        refine lv_land hx hb dL_ones_17 ?_
        refine ktopl (y := zB (bup r d false)) (d4) ?_
        refine lv_lstore_n (lv' := [(3, .long (zB (bup r d false))), (2, .int (nI (i + 1))), (0, .long (zB q))]) hx hb dL_ones_18 rfl hl (by decide) rfl (fun ls hl => ?_)
        refine lv_goto (tgt := 4) hx hb dL_ones_19 (by decide) ?_
        exact ih_1 (i + 1) (bup r d false) (by omega) (by omega) _ _ _ (by omega) (kW.perm w [] rfl rfl) (lv_sub hl [0, 1, 2] rfl)
  exact LP_1 _ 0 q (by omega) (by omega) _ _ _ (Nat.lt_succ_self _) (kW.perm w [] rfl rfl) (lv_sub hl [0, 1, 2] rfl)
theorem hd_X5_isLocked : yX5_isLocked.cls ≠ "java/lang/invoke/MethodHandle" ∧ yX5_isLocked.cls ≠ "java/lang/invoke/VarHandle" ∧ (parseMethodDescriptor yX5_isLocked.desc).map (fun d => d.parameters.length) = some 1 := by decide +kernel
abbrev rmL_locked : Room := { frames := 2, cells := 0, slots := 0, locals := 43 }
set_option maxHeartbeats 4000000 in
set_option maxRecDepth 100000 in
theorem kL_locked (l : Launch) (g : GG) (x : Nat) (nw : Nat) (sn : Nat) (tk : Bool) (hs : Nat) (tx : Nat) (tr : Nat) (na : Nat) (nb : Nat) (σ : Sg) (sz : Nat)  : Met l yL_locked wsL_locked rmL_locked (va_Pc [.ref x] (kPre g [cX x nw sn tk hs tx tr, cR nw na nb σ, xI g na 49 (zT σ), xI g nb 49 (zI σ)] sz)) (va_Ql (fun (r : Int64) (u : Unit) => r = zB (zL σ)) (kB g (va_A [cX x nw sn tk hs tx tr, cR nw na nb σ, xI g na 49 (zT σ), xI g nb 49 (zI σ)] sz) (fun u => [cX x nw sn tk hs tx tr, cR nw na nb σ, xI g na 49 (zT σ), xI g nb 49 (zI σ)])) (va_A [cX x nw sn tk hs tx tr, cR nw na nb σ, xI g na 49 (zT σ), xI g nb 49 (zI σ)] sz)) 0 0 (va_A [cX x nw sn tk hs tx tr, cR nw na nb σ, xI g na 49 (zT σ), xI g nb 49 (zI σ)] sz) := by
  refine kMet (cc := cL_locked) (maxL := 4) (ret := (some .long)) (own := RL) (by decide) rfl rfl (Nat.le_of_ble_eq_true rfl) ?_
  intro p e s m args below meth c ls Q H locs A F w hl hnm hA hQ
  have hx := F.1.1
  have hb := F.1.2.1
  have hts := F.1.2.2.2.2
  have hl : lv_has ls 4 [(0, .ref x)] := hl
  refine lv_lconst (v := 0) hx hb dL_locked_0 (by decide) ?_
  refine ktopl (y := zBu (zL σ) 0) (zBu_0.symm) ?_
  refine lv_lstore_n (lv' := [(1, .long (zBu (zL σ) 0)), (0, .ref x)]) hx hb dL_locked_1 rfl hl (by decide) rfl (fun ls hl => ?_)
  refine lv_iconst (v := nI 1) hx hb dL_locked_2 (by decide) ?_
  refine ktopi (y := nI (0 + 1)) (rfl) ?_
  refine lv_istore_n (lv' := [(3, .int (nI (0 + 1))), (1, .long (zBu (zL σ) 0)), (0, .ref x)]) hx hb dL_locked_3 rfl hl (by decide) rfl (fun ls hl => ?_)
  have LP_1 : ∀ (fu : Nat) (j : Nat) (h1 : j ≤ 48) (H : Heap) (locs : List Loc) (ls : Array Slot), 50 - j < fu → kW g A s [cX x nw sn tk hs tx tr, cR nw na nb σ, xI g na 49 (zT σ), xI g nb 49 (zI σ)] H locs → lv_has ls 4 [(3, .int (nI (j + 1))), (1, .long (zBu (zL σ) j)), (0, .ref x)] → W p l e rmL_locked s m args below meth c H locs 0 0 Q (F0 m 4 ls []) := by
    intro fu
    induction fu with
    | zero => intro j h1 H locs ls hlt; omega
    | succ fu ih_1 =>
      intro j h1 H locs ls hlt w hl
      refine lv_iload_n hx hb dL_locked_4 rfl (lv_at hl 0 rfl) ?_
      refine lv_bipush (v := nI 49) hx hb dL_locked_5 (by decide) ?_
      refine lv_icmp_ge (tgt := 34) hx hb dL_locked_7 (by decide) (fun h_2 => ?_) (fun h_2 => ?_)
      · have h_2 : j + 1 ≥ 49 := (kc_ge_t (by omega) (by omega)).mp h_2
        have e_3 : j = 48 := by omega
        subst e_3
        refine lv_lload_n hx hb dL_locked_34 rfl (lv_at hl 1 rfl) ?_
        refine ktopl (y := zB (zL σ)) (zBu_e) ?_
        subst hA
        subst hQ
        exact kretl F w () [0, 1, 2, 3] rfl rfl (rfl) (Nat.le_of_ble_eq_true rfl) (Nat.le_of_ble_eq_true rfl) dL_locked_35
      · have h_2 : j + 1 < 49 := (kc_ge_f (by omega) (by omega)).mp h_2
        refine lv_lload_n hx hb dL_locked_10 rfl (lv_at hl 1 rfl) ?_
        refine lv_aload_n hx hb dL_locked_11 rfl (lv_at hl 2 rfl) ?_
        refine lv_iload_n hx hb dL_locked_12 rfl (lv_at hl 0 rfl) ?_
        refine kcalli (wc := [cX x nw sn tk hs tx tr, cR nw na nb σ, xI g na 49 (zT σ), xI g nb 49 (zI σ)]) (wr := []) (wn := fun (u : Unit) => [cX x nw sn tk hs tx tr, cR nw na nb σ, xI g na 49 (zT σ), xI g nb 49 (zI σ)]) F w [0, 1, 2, 3] [] [0, 1, 2, 3] rfl rfl rfl (fun _ => rfl)
          (fun hp => va_runV (As := [.int (nI (j + 1))]) (rest := [.long (zBu (zL σ) j)]) F.1 (kX5_isLocked_k l g x nw sn tk hs tx tr na nb σ (j + 1) H.size (by omega)) (cwV 1 hts gL_locked_X5_isLocked rfl rfl rfl ⟨rfl, hd_X5_isLocked⟩ ⟨Nat.le_of_ble_eq_true rfl, Nat.le_of_ble_eq_true rfl⟩) ⟨hp.1, va_recv F.2.2.2.1.1 w.1 (q0 := 0) (ci := 5) rfl rfl, hp.2⟩ rfl rfl hl.1 rfl (lv_room (Nat.le_of_ble_eq_true rfl)) dL_locked_13 ⟨Nat.le_of_ble_eq_true rfl, Nat.le_of_ble_eq_true rfl⟩)
          (fun r_4 _ H locs h_5 w => ?_)
        subst h_5
        refine lv_if_eq (tgt := 25) hx hb dL_locked_16 (by decide) (fun h_6 => ?_) (fun h_6 => ?_)
        · have h_6 : (zL σ (j + 1)) = false := bI_z.mp h_6
          refine lv_lconst (v := 0) hx hb dL_locked_25 (by decide) ?_
          refine lv_lor hx hb dL_locked_26 ?_
          refine ktopl (y := zBu (zL σ) (j + 1)) (zBu_f h_6) ?_
          refine lv_lstore_n (lv' := [(1, .long (zBu (zL σ) (j + 1))), (3, .int (nI (j + 1))), (0, .ref x)]) hx hb dL_locked_27 rfl hl (by decide) rfl (fun ls hl => ?_)
          refine lv_iinc (v := nI (j + 1 + 1)) (lv' := [(3, .int (nI (j + 1 + 1))), (1, .long (zBu (zL σ) (j + 1))), (0, .ref x)]) hx hb dL_locked_28 hl (k := 1) rfl (nI_add (j + 1) 1) (by decide) rfl (fun ls hl => ?_)
          refine lv_goto (tgt := 4) hx hb dL_locked_31 (by decide) ?_
          exact ih_1 (j + 1) (by omega) _ _ _ (by omega) (kW.perm w [0, 1, 2, 3] rfl rfl) (lv_sub hl [0, 1, 2] rfl)
        · have h_6 : (zL σ (j + 1)) = true := bI_o.mp h_6
          refine lv_lconst (v := 1) hx hb dL_locked_19 (by decide) ?_
          refine lv_iload_n hx hb dL_locked_20 rfl (lv_at hl 0 rfl) ?_
          refine lv_lshl hx hb dL_locked_21 rfl ?_
          refine ktopl (y := zbit (j + 1)) (zm_bit (by omega)) ?_
          refine lv_goto (tgt := 26) hx hb dL_locked_22 (by decide) ?_
          refine lv_lor hx hb dL_locked_26 ?_
          refine ktopl (y := zBu (zL σ) (j + 1)) (zBu_t (by omega) h_6) ?_
          refine lv_lstore_n (lv' := [(1, .long (zBu (zL σ) (j + 1))), (3, .int (nI (j + 1))), (0, .ref x)]) hx hb dL_locked_27 rfl hl (by decide) rfl (fun ls hl => ?_)
          refine lv_iinc (v := nI (j + 1 + 1)) (lv' := [(3, .int (nI (j + 1 + 1))), (1, .long (zBu (zL σ) (j + 1))), (0, .ref x)]) hx hb dL_locked_28 hl (k := 1) rfl (nI_add (j + 1) 1) (by decide) rfl (fun ls hl => ?_)
          refine lv_goto (tgt := 4) hx hb dL_locked_31 (by decide) ?_
          exact ih_1 (j + 1) (by omega) _ _ _ (by omega) (kW.perm w [0, 1, 2, 3] rfl rfl) (lv_sub hl [0, 1, 2] rfl)
  exact LP_1 _ 0 (by omega) _ _ _ (Nat.lt_succ_self _) (kW.perm w [0, 1, 2, 3] rfl rfl) (lv_sub hl [0, 1, 2] rfl)
abbrev rmL_turned : Room := { frames := 0, cells := 0, slots := 0, locals := 0 }
set_option maxHeartbeats 4000000 in
set_option maxRecDepth 100000 in
theorem kL_turned (l : Launch) (g : GG) (k : Nat) (sz : Nat) (hk : 1 ≤ k ∧ k ≤ 48) : Met l yL_turned wsL_turned rmL_turned (va_Pc [.int (nI k)] (kPre g [] sz)) (va_Ql (fun (r : Int64) (u : Unit) => r = zB (mulA k)) (kB g (va_A [] sz) (fun u => [])) (va_A [] sz)) 0 0 (va_A [] sz) := by
  refine kMet (cc := cL_turned) (maxL := 4) (ret := (some .long)) (own := RL) (by decide) rfl rfl (Nat.le_of_ble_eq_true rfl) ?_
  intro p e s m args below meth c ls Q H locs A F w hl hnm hA hQ
  have hx := F.1.1
  have hb := F.1.2.1
  have hts := F.1.2.2.2.2
  have hl : lv_has ls 4 [(0, .int (nI k))] := hl
  refine lv_lconst (v := 0) hx hb dL_turned_0 (by decide) ?_
  refine ktopl (y := zB (mulP k 1)) ((mulP_1 hk.1).symm) ?_
  refine lv_lstore_n (lv' := [(1, .long (zB (mulP k 1))), (0, .int (nI k))]) hx hb dL_turned_1 rfl hl (by decide) rfl (fun ls hl => ?_)
  refine lv_iload_n hx hb dL_turned_2 rfl (lv_at hl 1 rfl) ?_
  refine ktopi (y := nI (1 * k)) (by rw [Nat.one_mul]) ?_
  refine lv_istore_n (lv' := [(3, .int (nI (1 * k))), (1, .long (zB (mulP k 1))), (0, .int (nI k))]) hx hb dL_turned_3 rfl hl (by decide) rfl (fun ls hl => ?_)
  have hq : 48 / k ≤ 48 := Nat.div_le_self _ _
  have LP_1 : ∀ (fu : Nat) (i : Nat) (h1 : 1 ≤ i) (h2 : i ≤ 48 / k + 1) (H : Heap) (locs : List Loc) (ls : Array Slot), 50 - i < fu → kW g A s [] H locs → lv_has ls 4 [(3, .int (nI (i * k))), (1, .long (zB (mulP k i))), (0, .int (nI k))] → W p l e rmL_turned s m args below meth c H locs 0 0 Q (F0 m 4 ls []) := by
    intro fu
    induction fu with
    | zero => intro i h1 h2 H locs ls hlt; omega
    | succ fu ih_1 =>
      intro i h1 h2 H locs ls hlt w hl
      have hb1 : i * k ≤ 49 * 48 := Nat.mul_le_mul (by omega) hk.2
      refine lv_iload_n hx hb dL_turned_4 rfl (lv_at hl 0 rfl) ?_
      refine lv_bipush (v := nI 49) hx hb dL_turned_5 (by decide) ?_
      refine lv_icmp_ge (tgt := 23) hx hb dL_turned_7 (by decide) (fun h_2 => ?_) (fun h_2 => ?_)
      · have h_2 : i * k ≥ 49 := (kc_ge_t (by omega) (by omega)).mp h_2
        have hj : ¬ i ≤ 48 / k := fun hc => by have := mul_in hk.1 hc; omega
        have e_3 : i = 48 / k + 1 := by omega
        subst e_3
        refine lv_lload_n hx hb dL_turned_23 rfl (lv_at hl 1 rfl) ?_
        refine ktopl (y := zB (mulA k)) (mulP_end hk.1) ?_
        subst hA
        subst hQ
        exact kretl F w () [] rfl rfl (rfl) (Nat.le_of_ble_eq_true rfl) (Nat.le_of_ble_eq_true rfl) dL_turned_24
      · have h_2 : i * k < 49 := (kc_ge_f (by omega) (by omega)).mp h_2
        have hi48 : i * k ≤ 48 := by omega
        have hj : i ≤ 48 / k := (Nat.le_div_iff_mul_le hk.1).mpr hi48
        refine lv_lload_n hx hb dL_turned_10 rfl (lv_at hl 1 rfl) ?_
        refine lv_lconst (v := 1) hx hb dL_turned_11 (by decide) ?_
        refine lv_iload_n hx hb dL_turned_12 rfl (lv_at hl 0 rfl) ?_
        refine lv_lshl hx hb dL_turned_13 rfl ?_
        refine ktopl (y := zbit (i * k)) (zm_bit (by omega)) ?_
        refine lv_lor hx hb dL_turned_14 ?_
        refine ktopl (y := zB (mulP k (i + 1))) (mulP_s hk.1 h1 hi48) ?_
        refine lv_lstore_n (lv' := [(1, .long (zB (mulP k (i + 1)))), (3, .int (nI (i * k))), (0, .int (nI k))]) hx hb dL_turned_15 rfl hl (by decide) rfl (fun ls hl => ?_)
        refine lv_iload_n hx hb dL_turned_16 rfl (lv_at hl 1 rfl) ?_
        refine lv_iload_n hx hb dL_turned_17 rfl (lv_at hl 2 rfl) ?_
        refine lv_iadd hx hb dL_turned_18 ?_
        refine ktopi (y := nI (i * k + k)) (nI_add (i * k) k) ?_
        refine ktopi (y := nI ((i + 1) * k)) (congrArg nI (Nat.succ_mul i k).symm) ?_
        refine lv_istore_n (lv' := [(3, .int (nI ((i + 1) * k))), (1, .long (zB (mulP k (i + 1)))), (0, .int (nI k))]) hx hb dL_turned_19 rfl hl (by decide) rfl (fun ls hl => ?_)
        refine lv_goto (tgt := 4) hx hb dL_turned_20 (by decide) ?_
        exact ih_1 (i + 1) (by omega) (by omega) _ _ _ (by omega) (kW.perm w [] rfl rfl) (lv_sub hl [0, 1, 2] rfl)
  exact LP_1 _ 1 (Nat.le_refl 1) (Nat.le_add_left 1 _) _ _ _ (Nat.lt_succ_self _) (kW.perm w [] rfl rfl) (lv_sub hl [0, 1, 2] rfl)
theorem hd_L_thingAt : yL_thingAt.cls ≠ "java/lang/invoke/MethodHandle" ∧ yL_thingAt.cls ≠ "java/lang/invoke/VarHandle" ∧ (parseMethodDescriptor yL_thingAt.desc).map (fun d => d.parameters.length) = some 2 := by decide +kernel
theorem hd_X5_isSkipped : yX5_isSkipped.cls ≠ "java/lang/invoke/MethodHandle" ∧ yX5_isSkipped.cls ≠ "java/lang/invoke/VarHandle" ∧ (parseMethodDescriptor yX5_isSkipped.desc).map (fun d => d.parameters.length) = some 1 := by decide +kernel
theorem hd_X5_openSet : yX5_openSet.cls ≠ "java/lang/invoke/MethodHandle" ∧ yX5_openSet.cls ≠ "java/lang/invoke/VarHandle" ∧ (parseMethodDescriptor yX5_openSet.desc).map (fun d => d.parameters.length) = some 0 := by decide +kernel
theorem hd_X5_turnsOf : yX5_turnsOf.cls ≠ "java/lang/invoke/MethodHandle" ∧ yX5_turnsOf.cls ≠ "java/lang/invoke/VarHandle" ∧ (parseMethodDescriptor yX5_turnsOf.desc).map (fun d => d.parameters.length) = some 1 := by decide +kernel
abbrev rmL_look : Room := { frames := 8, cells := 48, slots := 288, locals := 125 }
set_option maxHeartbeats 4000000 in
set_option maxRecDepth 100000 in
theorem kL_look (l : Launch) (hnl : l.stackTraces = false) (g : GG) (x : Nat) (nw : Nat) (sn : Nat) (tk : Bool) (hs : Nat) (tx : Nat) (tr : Nat) (na : Nat) (nb : Nat) (σ : Sg) (sz : Nat)  : Met l yL_look wsL_look rmL_look (va_Pc [.ref x] (kPre g [cX x nw sn tk hs tx tr, cR nw na nb σ, xI g na 49 (zT σ), xI g nb 49 (zI σ)] sz)) (va_Ql (fun (r : Int64) (u : Unit) => r = LK σ) (kB g (va_A [cX x nw sn tk hs tx tr, cR nw na nb σ, xI g na 49 (zT σ), xI g nb 49 (zI σ)] sz) (fun u => [cX x nw sn tk hs tx tr, cR nw na nb σ, xI g na 49 (zT σ), xI g nb 49 (zI σ)])) (va_A [cX x nw sn tk hs tx tr, cR nw na nb σ, xI g na 49 (zT σ), xI g nb 49 (zI σ)] sz)) 48 288 (va_A [cX x nw sn tk hs tx tr, cR nw na nb σ, xI g na 49 (zT σ), xI g nb 49 (zI σ)] sz) := by
  refine kMet (cc := cL_look) (maxL := 4) (ret := (some .long)) (own := RL) (by decide) rfl rfl (Nat.le_of_ble_eq_true rfl) ?_
  intro p e s m args below meth c ls Q H locs A F w hl hnm hA hQ
  have hx := F.1.1
  have hb := F.1.2.1
  have hts := F.1.2.2.2.2
  have hl : lv_has ls 4 [(0, .ref x)] := hl
  refine lv_ldc2 (v := (25451)) hx hb F.1.2.2.2.1 (hts (.constantLong RL 118 (25451)) (by decide +kernel)) dL_look_0 ?_
  refine lv_aload_n hx hb dL_look_3 rfl (lv_at hl 0 rfl) ?_
  refine kcalll (wc := [cX x nw sn tk hs tx tr, cR nw na nb σ, xI g na 49 (zT σ), xI g nb 49 (zI σ)]) (wr := []) (wn := fun (u : Unit) => [cX x nw sn tk hs tx tr, cR nw na nb σ, xI g na 49 (zT σ), xI g nb 49 (zI σ)]) F w [0, 1, 2, 3] [] [0, 1, 2, 3] rfl rfl rfl (fun _ => rfl)
    (fun hp => va_runV (As := []) (rest := [.long (25451)]) F.1 (kX5_openSet l g x nw sn tk hs tx tr na nb σ H.size ) (cwV 0 hts gL_look_X5_openSet rfl rfl rfl ⟨rfl, hd_X5_openSet⟩ ⟨Nat.le_of_ble_eq_true rfl, Nat.le_of_ble_eq_true rfl⟩) ⟨hp.1, va_recv F.2.2.2.1.1 w.1 (q0 := 0) (ci := 5) rfl rfl, hp.2⟩ rfl rfl hl.1 rfl (lv_room (Nat.le_of_ble_eq_true rfl)) dL_look_4 ⟨by show _ ≤ (48 : Nat); omega, by show _ ≤ (288 : Nat); omega⟩)
    (fun r_1 _ H locs h_2 w => ?_)
  subst h_2
  refine lv_ladd hx hb dL_look_7 ?_
  refine ktopl (y := lkN σ 0) (rfl) ?_
  refine lv_lstore_n (lv' := [(1, .long (lkN σ 0)), (0, .ref x)]) hx hb dL_look_8 rfl hl (by decide) rfl (fun ls hl => ?_)
  refine lv_iconst (v := nI 1) hx hb dL_look_9 (by decide) ?_
  refine ktopi (y := nI (0 + 1)) (rfl) ?_
  refine lv_istore_n (lv' := [(3, .int (nI (0 + 1))), (1, .long (lkN σ 0)), (0, .ref x)]) hx hb dL_look_10 rfl hl (by decide) rfl (fun ls hl => ?_)
  have LP_3 : ∀ (fu : Nat) (j : Nat) (h1 : j ≤ 48) (H : Heap) (locs : List Loc) (ls : Array Slot), 50 - j < fu → kW g A s [cX x nw sn tk hs tx tr, cR nw na nb σ, xI g na 49 (zT σ), xI g nb 49 (zI σ)] H locs → lv_has ls 4 [(3, .int (nI (j + 1))), (1, .long (lkN σ j)), (0, .ref x)] → W p l e rmL_look s m args below meth c H locs j (6 * j) Q (F0 m 11 ls []) := by
    intro fu
    induction fu with
    | zero => intro j h1 H locs ls hlt; omega
    | succ fu ih_3 =>
      intro j h1 H locs ls hlt w hl
      refine lv_iload_n hx hb dL_look_11 rfl (lv_at hl 0 rfl) ?_
      refine lv_bipush (v := nI 49) hx hb dL_look_12 (by decide) ?_
      refine lv_icmp_ge (tgt := 94) hx hb dL_look_14 (by decide) (fun h_4 => ?_) (fun h_4 => ?_)
      · have h_4 : j + 1 ≥ 49 := (kc_ge_t (by omega) (by omega)).mp h_4
        have e_5 : j = 48 := by omega
        subst e_5
        refine lv_lload_n hx hb dL_look_94 rfl (lv_at hl 1 rfl) ?_
        refine ktopl (y := LK σ) (rfl) ?_
        subst hA
        subst hQ
        refine W.widen (k := 48) (n := 288) (by omega) (by omega) ?_
        exact kretl F w () [0, 1, 2, 3] rfl rfl (rfl) (Nat.le_of_ble_eq_true rfl) (Nat.le_of_ble_eq_true rfl) dL_look_95
      · have h_4 : j + 1 < 49 := (kc_ge_f (by omega) (by omega)).mp h_4
        refine lv_ldc2 (v := (31)) hx hb F.1.2.2.2.1 (hts (.constantLong RL 124 (31)) (by decide +kernel)) dL_look_17 ?_
        refine lv_ldc2 (v := (31)) hx hb F.1.2.2.2.1 (hts (.constantLong RL 124 (31)) (by decide +kernel)) dL_look_20 ?_
        refine lv_ldc2 (v := (31)) hx hb F.1.2.2.2.1 (hts (.constantLong RL 124 (31)) (by decide +kernel)) dL_look_23 ?_
        refine lv_lload_n hx hb dL_look_26 rfl (lv_at hl 1 rfl) ?_
        refine lv_lmul hx hb dL_look_27 ?_
        refine lv_aload_n hx hb dL_look_28 rfl (lv_at hl 2 rfl) ?_
        refine lv_iload_n hx hb dL_look_29 rfl (lv_at hl 0 rfl) ?_
        refine kcalli (wc := [cX x nw sn tk hs tx tr, cR nw na nb σ, xI g na 49 (zT σ), xI g nb 49 (zI σ)]) (wr := []) (wn := fun (u : Unit) => [cX x nw sn tk hs tx tr, cR nw na nb σ, xI g na 49 (zT σ), xI g nb 49 (zI σ)]) F w [0, 1, 2, 3] [] [0, 1, 2, 3] rfl rfl rfl (fun _ => rfl)
          (fun hp => va_runV (As := [.int (nI (j + 1))]) (rest := [.long ((31) * (lkN σ j)), .long (31), .long (31)]) F.1 (kX5_turnsOf_k l g x nw sn tk hs tx tr na nb σ (j + 1) H.size (by omega)) (cwV 1 hts gL_look_X5_turnsOf rfl rfl rfl ⟨rfl, hd_X5_turnsOf⟩ ⟨Nat.le_of_ble_eq_true rfl, Nat.le_of_ble_eq_true rfl⟩) ⟨hp.1, va_recv F.2.2.2.1.1 w.1 (q0 := 0) (ci := 5) rfl rfl, hp.2⟩ rfl rfl hl.1 rfl (lv_room (Nat.le_of_ble_eq_true rfl)) dL_look_30 ⟨by show _ ≤ (48 : Nat); omega, by show _ ≤ (288 : Nat); omega⟩)
          (fun r_6 _ H locs h_7 w => ?_)
        subst h_7
        refine lv_i2l hx hb dL_look_33 rfl ?_
        refine lv_ladd hx hb dL_look_34 ?_
        refine lv_lmul hx hb dL_look_35 ?_
        refine lv_aload_n hx hb dL_look_36 rfl (lv_at hl 2 rfl) ?_
        refine lv_iload_n hx hb dL_look_37 rfl (lv_at hl 0 rfl) ?_
        refine kcalli (wc := [cX x nw sn tk hs tx tr, cR nw na nb σ, xI g na 49 (zT σ), xI g nb 49 (zI σ)]) (wr := []) (wn := fun (u : Unit) => [cX x nw sn tk hs tx tr, cR nw na nb σ, xI g na 49 (zT σ), xI g nb 49 (zI σ)]) F w [0, 1, 2, 3] [] [0, 1, 2, 3] rfl rfl rfl (fun _ => rfl)
          (fun hp => va_runV (As := [.int (nI (j + 1))]) (rest := [.long ((31) * (((31) * (lkN σ j)) + ((zT σ (j + 1)).toInt64))), .long (31)]) F.1 (kX5_timesOf_k l g x nw sn tk hs tx tr na nb σ (j + 1) H.size (by omega)) (cwV 1 hts gL_look_X5_timesOf rfl rfl rfl ⟨rfl, hd_X5_timesOf⟩ ⟨Nat.le_of_ble_eq_true rfl, Nat.le_of_ble_eq_true rfl⟩) ⟨hp.1, va_recv F.2.2.2.1.1 w.1 (q0 := 0) (ci := 5) rfl rfl, hp.2⟩ rfl rfl hl.1 rfl (lv_room (Nat.le_of_ble_eq_true rfl)) dL_look_38 ⟨by show _ ≤ (48 : Nat); omega, by show _ ≤ (288 : Nat); omega⟩)
          (fun r_8 _ H locs h_9 w => ?_)
        subst h_9
        refine lv_i2l hx hb dL_look_41 rfl ?_
        refine lv_ladd hx hb dL_look_42 ?_
        refine lv_lmul hx hb dL_look_43 ?_
        refine lv_aload_n hx hb dL_look_44 rfl (lv_at hl 2 rfl) ?_
        refine lv_iload_n hx hb dL_look_45 rfl (lv_at hl 0 rfl) ?_
        refine kcalli (wc := [cX x nw sn tk hs tx tr, cR nw na nb σ, xI g na 49 (zT σ), xI g nb 49 (zI σ)]) (wr := []) (wn := fun (u : Unit) => [cX x nw sn tk hs tx tr, cR nw na nb σ, xI g na 49 (zT σ), xI g nb 49 (zI σ)]) F w [0, 1, 2, 3] [] [0, 1, 2, 3] rfl rfl rfl (fun _ => rfl)
          (fun hp => vx_runSW (As := [.ref x, .int (nI (j + 1))]) (rest := [.long ((31) * (((31) * (((31) * (lkN σ j)) + ((zT σ (j + 1)).toInt64))) + ((zI σ (j + 1)).toInt64)))]) F.1 (kL_thingAt l hnl g x nw sn tk hs tx tr na nb σ (j + 1) H.size (by omega)) (vx_cwSW 2 hts gL_look_L_thingAt rfl rfl rfl hd_L_thingAt ⟨Nat.le_of_ble_eq_true rfl, Nat.le_of_ble_eq_true rfl⟩) hp rfl rfl hl.1 rfl (lv_room (Nat.le_of_ble_eq_true rfl)) dL_look_46 ⟨by show _ ≤ (48 : Nat); omega, by show _ ≤ (288 : Nat); omega⟩)
          (fun r_10 _ H locs h_11 w => ?_)
        subst h_11
        refine lv_i2l hx hb dL_look_49 rfl ?_
        refine lv_ladd hx hb dL_look_50 ?_
        refine lv_lstore_n (lv' := [(1, .long (((31) * (((31) * (((31) * (lkN σ j)) + ((zT σ (j + 1)).toInt64))) + ((zI σ (j + 1)).toInt64))) + ((thV σ (j + 1)).toInt64))), (3, .int (nI (j + 1))), (0, .ref x)]) hx hb dL_look_51 rfl hl (by decide) rfl (fun ls hl => ?_)
        refine lv_ldc2 (v := (4)) hx hb F.1.2.2.2.1 (hts (.constantLong RL 129 (4)) (by decide +kernel)) dL_look_52 ?_
        refine lv_lload_n hx hb dL_look_55 rfl (lv_at hl 0 rfl) ?_
        refine lv_lmul hx hb dL_look_56 ?_
        refine lv_aload_n hx hb dL_look_57 rfl (lv_at hl 2 rfl) ?_
        refine lv_iload_n hx hb dL_look_58 rfl (lv_at hl 1 rfl) ?_
        refine kcalli (wc := [cX x nw sn tk hs tx tr, cR nw na nb σ, xI g na 49 (zT σ), xI g nb 49 (zI σ)]) (wr := []) (wn := fun (u : Unit) => [cX x nw sn tk hs tx tr, cR nw na nb σ, xI g na 49 (zT σ), xI g nb 49 (zI σ)]) F w [0, 1, 2, 3] [] [0, 1, 2, 3] rfl rfl rfl (fun _ => rfl)
          (fun hp => va_runV (As := [.int (nI (j + 1))]) (rest := [.long ((4) * (((31) * (((31) * (((31) * (lkN σ j)) + ((zT σ (j + 1)).toInt64))) + ((zI σ (j + 1)).toInt64))) + ((thV σ (j + 1)).toInt64)))]) F.1 (kX5_isLocked_k l g x nw sn tk hs tx tr na nb σ (j + 1) H.size (by omega)) (cwV 1 hts gL_look_X5_isLocked rfl rfl rfl ⟨rfl, hd_X5_isLocked⟩ ⟨Nat.le_of_ble_eq_true rfl, Nat.le_of_ble_eq_true rfl⟩) ⟨hp.1, va_recv F.2.2.2.1.1 w.1 (q0 := 0) (ci := 5) rfl rfl, hp.2⟩ rfl rfl hl.1 rfl (lv_room (Nat.le_of_ble_eq_true rfl)) dL_look_59 ⟨by show _ ≤ (48 : Nat); omega, by show _ ≤ (288 : Nat); omega⟩)
          (fun r_12 _ H locs h_13 w => ?_)
        subst h_13
        refine lv_if_eq (tgt := 69) hx hb dL_look_62 (by decide) (fun h_14 => ?_) (fun h_14 => ?_)
        · have h_14 : (zL σ (j + 1)) = false := bI_z.mp h_14
          refine lv_iconst (v := nI 0) hx hb dL_look_69 (by decide) ?_
          refine lv_i2l hx hb dL_look_70 rfl ?_
          refine lv_ladd hx hb dL_look_71 ?_
          refine lv_aload_n hx hb dL_look_72 rfl (lv_at hl 2 rfl) ?_
          refine lv_iload_n hx hb dL_look_73 rfl (lv_at hl 1 rfl) ?_
          refine kcalli (wc := [cX x nw sn tk hs tx tr, cR nw na nb σ, xI g na 49 (zT σ), xI g nb 49 (zI σ)]) (wr := []) (wn := fun (u : Unit) => [cX x nw sn tk hs tx tr, cR nw na nb σ, xI g na 49 (zT σ), xI g nb 49 (zI σ)]) F w [0, 1, 2, 3] [] [0, 1, 2, 3] rfl rfl rfl (fun _ => rfl)
            (fun hp => va_runV (As := [.int (nI (j + 1))]) (rest := [.long (((4) * (((31) * (((31) * (((31) * (lkN σ j)) + ((zT σ (j + 1)).toInt64))) + ((zI σ (j + 1)).toInt64))) + ((thV σ (j + 1)).toInt64))) + ((nI 0).toInt64))]) F.1 (kX5_isSkipped_k l g x nw sn tk hs tx tr na nb σ (j + 1) H.size (by omega)) (cwV 1 hts gL_look_X5_isSkipped rfl rfl rfl ⟨rfl, hd_X5_isSkipped⟩ ⟨Nat.le_of_ble_eq_true rfl, Nat.le_of_ble_eq_true rfl⟩) ⟨hp.1, va_recv F.2.2.2.1.1 w.1 (q0 := 0) (ci := 5) rfl rfl, hp.2⟩ rfl rfl hl.1 rfl (lv_room (Nat.le_of_ble_eq_true rfl)) dL_look_74 ⟨by show _ ≤ (48 : Nat); omega, by show _ ≤ (288 : Nat); omega⟩)
            (fun r_15 _ H locs h_16 w => ?_)
          subst h_16
          refine lv_if_eq (tgt := 84) hx hb dL_look_77 (by decide) (fun h_17 => ?_) (fun h_17 => ?_)
          · have h_17 : (zS σ (j + 1)) = false := bI_z.mp h_17
            refine lv_iconst (v := nI 0) hx hb dL_look_84 (by decide) ?_
            refine lv_i2l hx hb dL_look_85 rfl ?_
            refine lv_ladd hx hb dL_look_86 ?_
            refine ktopl (y := lkN σ (j + 1)) (by rw [lkN, h_14, h_17]; rfl) ?_
            refine lv_lstore_n (lv' := [(1, .long (lkN σ (j + 1))), (3, .int (nI (j + 1))), (0, .ref x)]) hx hb dL_look_87 rfl hl (by decide) rfl (fun ls hl => ?_)
            refine lv_iinc (v := nI (j + 1 + 1)) (lv' := [(3, .int (nI (j + 1 + 1))), (1, .long (lkN σ (j + 1))), (0, .ref x)]) hx hb dL_look_88 hl (k := 1) rfl (nI_add (j + 1) 1) (by decide) rfl (fun ls hl => ?_)
            refine lv_goto (tgt := 11) hx hb dL_look_91 (by decide) ?_
            refine W.widen (k := (j + 1)) (n := 6 * (j + 1)) (by omega) (by omega) ?_
            exact ih_3 (j + 1) (by omega) _ _ _ (by omega) (kW.perm w [0, 1, 2, 3] rfl rfl) (lv_sub hl [0, 1, 2] rfl)
          · have h_17 : (zS σ (j + 1)) = true := bI_o.mp h_17
            refine lv_iconst (v := nI 2) hx hb dL_look_80 (by decide) ?_
            refine lv_goto (tgt := 85) hx hb dL_look_81 (by decide) ?_
            refine lv_i2l hx hb dL_look_85 rfl ?_
            refine lv_ladd hx hb dL_look_86 ?_
            refine ktopl (y := lkN σ (j + 1)) (by rw [lkN, h_14, h_17]; rfl) ?_
            refine lv_lstore_n (lv' := [(1, .long (lkN σ (j + 1))), (3, .int (nI (j + 1))), (0, .ref x)]) hx hb dL_look_87 rfl hl (by decide) rfl (fun ls hl => ?_)
            refine lv_iinc (v := nI (j + 1 + 1)) (lv' := [(3, .int (nI (j + 1 + 1))), (1, .long (lkN σ (j + 1))), (0, .ref x)]) hx hb dL_look_88 hl (k := 1) rfl (nI_add (j + 1) 1) (by decide) rfl (fun ls hl => ?_)
            refine lv_goto (tgt := 11) hx hb dL_look_91 (by decide) ?_
            refine W.widen (k := (j + 1)) (n := 6 * (j + 1)) (by omega) (by omega) ?_
            exact ih_3 (j + 1) (by omega) _ _ _ (by omega) (kW.perm w [0, 1, 2, 3] rfl rfl) (lv_sub hl [0, 1, 2] rfl)
        · have h_14 : (zL σ (j + 1)) = true := bI_o.mp h_14
          refine lv_iconst (v := nI 1) hx hb dL_look_65 (by decide) ?_
          refine lv_goto (tgt := 70) hx hb dL_look_66 (by decide) ?_
          refine lv_i2l hx hb dL_look_70 rfl ?_
          refine lv_ladd hx hb dL_look_71 ?_
          refine lv_aload_n hx hb dL_look_72 rfl (lv_at hl 2 rfl) ?_
          refine lv_iload_n hx hb dL_look_73 rfl (lv_at hl 1 rfl) ?_
          refine kcalli (wc := [cX x nw sn tk hs tx tr, cR nw na nb σ, xI g na 49 (zT σ), xI g nb 49 (zI σ)]) (wr := []) (wn := fun (u : Unit) => [cX x nw sn tk hs tx tr, cR nw na nb σ, xI g na 49 (zT σ), xI g nb 49 (zI σ)]) F w [0, 1, 2, 3] [] [0, 1, 2, 3] rfl rfl rfl (fun _ => rfl)
            (fun hp => va_runV (As := [.int (nI (j + 1))]) (rest := [.long (((4) * (((31) * (((31) * (((31) * (lkN σ j)) + ((zT σ (j + 1)).toInt64))) + ((zI σ (j + 1)).toInt64))) + ((thV σ (j + 1)).toInt64))) + ((nI 1).toInt64))]) F.1 (kX5_isSkipped_k l g x nw sn tk hs tx tr na nb σ (j + 1) H.size (by omega)) (cwV 1 hts gL_look_X5_isSkipped rfl rfl rfl ⟨rfl, hd_X5_isSkipped⟩ ⟨Nat.le_of_ble_eq_true rfl, Nat.le_of_ble_eq_true rfl⟩) ⟨hp.1, va_recv F.2.2.2.1.1 w.1 (q0 := 0) (ci := 5) rfl rfl, hp.2⟩ rfl rfl hl.1 rfl (lv_room (Nat.le_of_ble_eq_true rfl)) dL_look_74 ⟨by show _ ≤ (48 : Nat); omega, by show _ ≤ (288 : Nat); omega⟩)
            (fun r_18 _ H locs h_19 w => ?_)
          subst h_19
          refine lv_if_eq (tgt := 84) hx hb dL_look_77 (by decide) (fun h_20 => ?_) (fun h_20 => ?_)
          · have h_20 : (zS σ (j + 1)) = false := bI_z.mp h_20
            refine lv_iconst (v := nI 0) hx hb dL_look_84 (by decide) ?_
            refine lv_i2l hx hb dL_look_85 rfl ?_
            refine lv_ladd hx hb dL_look_86 ?_
            refine ktopl (y := lkN σ (j + 1)) (by rw [lkN, h_14, h_20]; rfl) ?_
            refine lv_lstore_n (lv' := [(1, .long (lkN σ (j + 1))), (3, .int (nI (j + 1))), (0, .ref x)]) hx hb dL_look_87 rfl hl (by decide) rfl (fun ls hl => ?_)
            refine lv_iinc (v := nI (j + 1 + 1)) (lv' := [(3, .int (nI (j + 1 + 1))), (1, .long (lkN σ (j + 1))), (0, .ref x)]) hx hb dL_look_88 hl (k := 1) rfl (nI_add (j + 1) 1) (by decide) rfl (fun ls hl => ?_)
            refine lv_goto (tgt := 11) hx hb dL_look_91 (by decide) ?_
            refine W.widen (k := (j + 1)) (n := 6 * (j + 1)) (by omega) (by omega) ?_
            exact ih_3 (j + 1) (by omega) _ _ _ (by omega) (kW.perm w [0, 1, 2, 3] rfl rfl) (lv_sub hl [0, 1, 2] rfl)
          · have h_20 : (zS σ (j + 1)) = true := bI_o.mp h_20
            refine lv_iconst (v := nI 2) hx hb dL_look_80 (by decide) ?_
            refine lv_goto (tgt := 85) hx hb dL_look_81 (by decide) ?_
            refine lv_i2l hx hb dL_look_85 rfl ?_
            refine lv_ladd hx hb dL_look_86 ?_
            refine ktopl (y := lkN σ (j + 1)) (by rw [lkN, h_14, h_20]; rfl) ?_
            refine lv_lstore_n (lv' := [(1, .long (lkN σ (j + 1))), (3, .int (nI (j + 1))), (0, .ref x)]) hx hb dL_look_87 rfl hl (by decide) rfl (fun ls hl => ?_)
            refine lv_iinc (v := nI (j + 1 + 1)) (lv' := [(3, .int (nI (j + 1 + 1))), (1, .long (lkN σ (j + 1))), (0, .ref x)]) hx hb dL_look_88 hl (k := 1) rfl (nI_add (j + 1) 1) (by decide) rfl (fun ls hl => ?_)
            refine lv_goto (tgt := 11) hx hb dL_look_91 (by decide) ?_
            refine W.widen (k := (j + 1)) (n := 6 * (j + 1)) (by omega) (by omega) ?_
            exact ih_3 (j + 1) (by omega) _ _ _ (by omega) (kW.perm w [0, 1, 2, 3] rfl rfl) (lv_sub hl [0, 1, 2] rfl)
  refine W.widen (k := 0) (n := 6 * 0) (by omega) (by omega) ?_
  exact LP_3 _ 0 (by omega) _ _ _ (Nat.lt_succ_self _) (kW.perm w [0, 1, 2, 3] rfl rfl) (lv_sub hl [0, 1, 2] rfl)
abbrev rmL_bits : Room := { frames := 0, cells := 0, slots := 0, locals := 0 }
set_option maxHeartbeats 4000000 in
set_option maxRecDepth 100000 in
theorem kL_bits (l : Launch) (g : GG) (mm : Nat) (t : Nat) (sz : Nat) (hm : 2 ^ 52 ≤ mm ∧ t < 20) : Met l yL_bits wsL_bits rmL_bits (va_Pc [.long (lN mm), .int (iT t)] (kPre g [] sz)) (va_Ql (fun (r : Int64) (u : Unit) => r = lN ((1017 + t) * 2 ^ 52 + (mm - 2 ^ 52))) (kB g (va_A [] sz) (fun u => [])) (va_A [] sz)) 0 0 (va_A [] sz) := by
  refine kMet (cc := cL_bits) (maxL := 3) (ret := (some .long)) (own := RL) (by decide) rfl rfl (Nat.le_of_ble_eq_true rfl) ?_
  intro p e s m args below meth c ls Q H locs A F w hl hnm hA hQ
  have hx := F.1.1
  have hb := F.1.2.1
  have hts := F.1.2.2.2.2
  have hl : lv_has ls 3 [(0, .long (lN mm)), (2, .int (iT t))] := hl
  refine lv_iload_n hx hb dL_bits_0 rfl (lv_at hl 1 rfl) ?_
  refine lv_i2l hx hb dL_bits_1 rfl ?_
  refine lv_ldc2 (v := (1023)) hx hb F.1.2.2.2.1 (hts (.constantLong RL 104 (1023)) (by decide +kernel)) dL_bits_2 ?_
  refine ktopl (y := lN 1023) (by decide) ?_
  refine lv_ladd hx hb dL_bits_5 ?_
  refine ktopl (y := lN (1017 + t)) (iT_l t (by omega)) ?_
  refine lv_bipush (v := nI 52) hx hb dL_bits_6 (by decide) ?_
  refine lv_lshl hx hb dL_bits_8 rfl ?_
  refine ktopl (y := lN ((1017 + t) * 2 ^ 52)) (wb_shl _ (by omega)) ?_
  refine lv_lload_n hx hb dL_bits_9 rfl (lv_at hl 0 rfl) ?_
  refine lv_ldc2 (v := (4503599627370496)) hx hb F.1.2.2.2.1 (hts (.constantLong RL 106 (4503599627370496)) (by decide +kernel)) dL_bits_10 ?_
  refine ktopl (y := lN 4503599627370496) (by decide) ?_
  refine lv_lsub hx hb dL_bits_13 ?_
  refine ktopl (y := lN (mm - 4503599627370496)) (lN_sub (by omega)) ?_
  refine lv_ladd hx hb dL_bits_14 ?_
  refine ktopl (y := lN (((1017 + t) * 2 ^ 52) + (mm - 4503599627370496))) (lN_add ((1017 + t) * 2 ^ 52) (mm - 4503599627370496)) ?_
  refine ktopl (y := lN ((1017 + t) * 2 ^ 52 + (mm - 2 ^ 52))) (by simp only [Nat.reducePow]) ?_
  subst hA
  subst hQ
  exact kretl F w () [] rfl rfl (rfl) (Nat.le_of_ble_eq_true rfl) (Nat.le_of_ble_eq_true rfl) dL_bits_15
abbrev rmL_ratio : Room := { frames := 0, cells := 0, slots := 0, locals := 0 }
set_option maxHeartbeats 4000000 in
set_option maxRecDepth 100000 in
theorem kL_ratio (l : Launch) (g : GG) (n : Nat) (sz : Nat) (hn : n ≤ 48) : Met l yL_ratio wsL_ratio rmL_ratio (va_Pc [.int (nI n)] (kPre g [] sz)) (va_Qi (fun (r : Int32) (u : Unit) => r = (fsh n).toInt32) (kB g (va_A [] sz) (fun u => [])) (va_A [] sz)) 0 0 (va_A [] sz) := by
  refine kMet (cc := cL_ratio) (maxL := 8) (ret := (some .int)) (own := RL) (by decide) rfl rfl (Nat.le_of_ble_eq_true rfl) ?_
  intro p e s m args below meth c ls Q H locs A F w hl hnm hA hQ
  have hx := F.1.1
  have hb := F.1.2.1
  have hts := F.1.2.2.2.2
  have hl : lv_has ls 8 [(0, .int (nI n))] := hl
  refine lv_iload_n hx hb dL_ratio_0 rfl (lv_at hl 0 rfl) ?_
  refine lv_if_ne (tgt := 6) hx hb dL_ratio_1 (by decide) (fun h_1 => ?_) (fun h_1 => ?_)
  · have h_1 : n ≠ 0 := (kc0_ne_t (by omega)).mp h_1
    refine lv_iload_n hx hb dL_ratio_6 rfl (lv_at hl 0 rfl) ?_
    refine lv_i2l hx hb dL_ratio_7 rfl ?_
    refine ktopl (y := lN n) (nI_l (by omega)) ?_
    refine ktopl (y := lN (n * 2 ^ 0)) (by rw [Nat.pow_zero, Nat.mul_one]) ?_
    refine lv_lstore_n (lv' := [(1, .long (lN (n * 2 ^ 0))), (0, .int (nI n))]) hx hb dL_ratio_8 rfl hl (by decide) rfl (fun ls hl => ?_)
    refine lv_sipush (v := nI 150) hx hb dL_ratio_9 (by decide) ?_
    refine ktopi (y := nI (150 - 0)) (rfl) ?_
    refine lv_istore_n (lv' := [(3, .int (nI (150 - 0))), (1, .long (lN (n * 2 ^ 0))), (0, .int (nI n))]) hx hb dL_ratio_12 rfl hl (by decide) rfl (fun ls hl => ?_)
    have LP_2 : ∀ (fu : Nat) (j : Nat) (h1 : j ≤ 29) (h2 : j = 0 ∨ n * 2 ^ (j - 1) < 402653184) (H : Heap) (locs : List Loc) (ls : Array Slot), 40 - j < fu → kW g A s [] H locs → lv_has ls 8 [(3, .int (nI (150 - j))), (1, .long (lN (n * 2 ^ j)))] → W p l e rmL_ratio s m args below meth c H locs 0 0 Q (F0 m 13 ls []) := by
      intro fu
      induction fu with
      | zero => intro j h1 h2 H locs ls hlt; omega
      | succ fu ih_2 =>
        intro j h1 h2 H locs ls hlt w hl
        have hjb : n * 2 ^ j ≤ 48 * 2 ^ 29 := Nat.mul_le_mul (by omega) (Nat.pow_le_pow_right (by decide) (by omega))
        refine lv_lload_n hx hb dL_ratio_13 rfl (lv_at hl 1 rfl) ?_
        refine lv_ldc2 (v := (402653184)) hx hb F.1.2.2.2.1 (hts (.constantLong RL 96 (402653184)) (by decide +kernel)) dL_ratio_14 ?_
        refine ktopl (y := lN 402653184) (by decide) ?_
        refine W.lcmp hx hb dL_ratio_17 ?_
        refine lv_if_ge (tgt := 33) hx hb dL_ratio_18 (by decide) (fun h_3 => ?_) (fun h_3 => ?_)
        · have h_3 : n * 2 ^ j ≥ 402653184 := (lcN_ge_t (by omega) (by omega)).mp h_3
          have hrt := rt_all n (by omega) (by omega) j (by omega) h2 (by omega)
          refine lv_lload_n hx hb dL_ratio_33 rfl (lv_at hl 1 rfl) ?_
          refine lv_ldc2 (v := (48)) hx hb F.1.2.2.2.1 (hts (.constantLong RL 100 (48)) (by decide +kernel)) dL_ratio_34 ?_
          refine ktopl (y := lN 48) (by decide) ?_
          refine lv_ldiv hx hb dL_ratio_37 (fun hz => absurd ((pk_lEQ (b := 0) (by omega) (by omega)).mp hz) (by omega)) ?_
          refine ktopl (y := lN ((n * 2 ^ j) / 48)) (pk_lDiv (by omega) (by omega) (by omega)) ?_
          refine lv_lstore (lv' := [(4, .long (lN ((n * 2 ^ j) / 48))), (3, .int (nI (150 - j))), (1, .long (lN (n * 2 ^ j)))]) hx hb dL_ratio_38 hl (by decide) rfl (fun ls hl => ?_)
          refine lv_lload_n hx hb dL_ratio_40 rfl (lv_at hl 2 rfl) ?_
          refine lv_ldc2 (v := (48)) hx hb F.1.2.2.2.1 (hts (.constantLong RL 100 (48)) (by decide +kernel)) dL_ratio_41 ?_
          refine ktopl (y := lN 48) (by decide) ?_
          refine lv_lrem hx hb dL_ratio_44 (fun hz => absurd ((pk_lEQ (b := 0) (by omega) (by omega)).mp hz) (by omega)) ?_
          refine ktopl (y := lN ((n * 2 ^ j) % 48)) (pk_lRem (by omega) (by omega) (by omega)) ?_
          refine lv_lstore (lv' := [(6, .long (lN ((n * 2 ^ j) % 48))), (4, .long (lN ((n * 2 ^ j) / 48))), (3, .int (nI (150 - j))), (1, .long (lN (n * 2 ^ j)))]) hx hb dL_ratio_45 hl (by decide) rfl (fun ls hl => ?_)
          have JN_4 : ∀   (H : Heap) (locs : List Loc) (ls : Array Slot), kW g A s [] H locs → lv_has ls 8 [(3, .int (nI (150 - j)))] → W p l e rmL_ratio s m args below meth c H locs 0 0 Q (F0 m 92 ls [.long (lN (rtM n j))]) := by
            intro   H locs ls w hl
            skip
            refine lv_lstore (lv' := [(4, .long (lN (rtM n j))), (3, .int (nI (150 - j)))]) hx hb dL_ratio_92 hl (by decide) rfl (fun ls hl => ?_)
            refine lv_iload_n hx hb dL_ratio_94 rfl (lv_at hl 1 rfl) ?_
            refine lv_bipush (v := nI 23) hx hb dL_ratio_95 (by decide) ?_
            refine lv_ishl hx hb dL_ratio_97 ?_
            refine lv_lload hx hb dL_ratio_98 (lv_at hl 0 rfl) ?_
            refine lv_ldc2 (v := (8388608)) hx hb F.1.2.2.2.1 (hts (.constantLong RL 102 (8388608)) (by decide +kernel)) dL_ratio_100 ?_
            refine lv_lsub hx hb dL_ratio_103 ?_
            refine lv_l2i hx hb dL_ratio_104 rfl ?_
            refine lv_iadd hx hb dL_ratio_105 ?_
            refine ktopi (y := (fsh n).toInt32) (hrt) ?_
            subst hA
            subst hQ
            exact kreti F w () [] rfl rfl (rfl) (Nat.le_of_ble_eq_true rfl) (Nat.le_of_ble_eq_true rfl) dL_ratio_106
          refine lv_lload hx hb dL_ratio_47 (lv_at hl 1 rfl) ?_
          refine lv_ldc2 (v := (2)) hx hb F.1.2.2.2.1 (hts (.constantLong RL 98 (2)) (by decide +kernel)) dL_ratio_49 ?_
          refine ktopl (y := lN 2) (by decide) ?_
          refine lv_lload hx hb dL_ratio_52 (lv_at hl 0 rfl) ?_
          refine lv_lmul hx hb dL_ratio_54 ?_
          refine ktopl (y := lN (2 * ((n * 2 ^ j) % 48))) (lN_mul 2 ((n * 2 ^ j) % 48)) ?_
          refine lv_ldc2 (v := (48)) hx hb F.1.2.2.2.1 (hts (.constantLong RL 100 (48)) (by decide +kernel)) dL_ratio_55 ?_
          refine ktopl (y := lN 48) (by decide) ?_
          refine W.lcmp hx hb dL_ratio_58 ?_
          refine lv_if_gt (tgt := 86) hx hb dL_ratio_59 (by decide) (fun h_5 => ?_) (fun h_5 => ?_)
          · have h_5 : 2 * ((n * 2 ^ j) % 48) > 48 := (lcN_gt_t (by omega) (by omega)).mp h_5
            refine lv_lconst (v := 1) hx hb dL_ratio_86 (by decide) ?_
            refine ktopl (y := lN 1) (by decide) ?_
            refine lv_goto (tgt := 91) hx hb dL_ratio_87 (by decide) ?_
            refine lv_ladd hx hb dL_ratio_91 ?_
            refine ktopl (y := lN (((n * 2 ^ j) / 48) + 1)) (lN_add ((n * 2 ^ j) / 48) 1) ?_
            refine ktopl (y := lN (rtM n j)) (congrArg lN (rtM_1 h_5)) ?_
            exact JN_4   _ _ _ (kW.perm w [] rfl rfl) (lv_sub hl [2] rfl)
          · have h_5 : 2 * ((n * 2 ^ j) % 48) ≤ 48 := (lcN_gt_f (by omega) (by omega)).mp h_5
            refine lv_ldc2 (v := (2)) hx hb F.1.2.2.2.1 (hts (.constantLong RL 98 (2)) (by decide +kernel)) dL_ratio_62 ?_
            refine ktopl (y := lN 2) (by decide) ?_
            refine lv_lload hx hb dL_ratio_65 (lv_at hl 0 rfl) ?_
            refine lv_lmul hx hb dL_ratio_67 ?_
            refine ktopl (y := lN (2 * ((n * 2 ^ j) % 48))) (lN_mul 2 ((n * 2 ^ j) % 48)) ?_
            refine lv_ldc2 (v := (48)) hx hb F.1.2.2.2.1 (hts (.constantLong RL 100 (48)) (by decide +kernel)) dL_ratio_68 ?_
            refine ktopl (y := lN 48) (by decide) ?_
            refine W.lcmp hx hb dL_ratio_71 ?_
            refine lv_if_ne (tgt := 90) hx hb dL_ratio_72 (by decide) (fun h_6 => ?_) (fun h_6 => ?_)
            · have h_6 : 2 * ((n * 2 ^ j) % 48) ≠ 48 := (lcN_ne_t (by omega) (by omega)).mp h_6
              refine lv_lconst (v := 0) hx hb dL_ratio_90 (by decide) ?_
              refine ktopl (y := lN 0) (by decide) ?_
              refine lv_ladd hx hb dL_ratio_91 ?_
              refine ktopl (y := lN (((n * 2 ^ j) / 48) + 0)) (lN_add ((n * 2 ^ j) / 48) 0) ?_
              refine ktopl (y := lN (rtM n j)) (congrArg lN (rtM_3 h_5 h_6)) ?_
              exact JN_4   _ _ _ (kW.perm w [] rfl rfl) (lv_sub hl [2] rfl)
            · have h_6 : 2 * ((n * 2 ^ j) % 48) = 48 := (lcN_ne_f (by omega) (by omega)).mp h_6
              refine lv_lload hx hb dL_ratio_75 (lv_at hl 1 rfl) ?_
              refine lv_ldc2 (v := (2)) hx hb F.1.2.2.2.1 (hts (.constantLong RL 98 (2)) (by decide +kernel)) dL_ratio_77 ?_
              refine ktopl (y := lN 2) (by decide) ?_
              refine lv_lrem hx hb dL_ratio_80 (fun hz => absurd ((pk_lEQ (b := 0) (by omega) (by omega)).mp hz) (by omega)) ?_
              refine ktopl (y := lN (((n * 2 ^ j) / 48) % 2)) (pk_lRem (by omega) (by omega) (by omega)) ?_
              refine lv_lconst (v := 1) hx hb dL_ratio_81 (by decide) ?_
              refine ktopl (y := lN 1) (by decide) ?_
              refine W.lcmp hx hb dL_ratio_82 ?_
              refine lv_if_ne (tgt := 90) hx hb dL_ratio_83 (by decide) (fun h_7 => ?_) (fun h_7 => ?_)
              · have h_7 : ((n * 2 ^ j) / 48) % 2 ≠ 1 := (lcN_ne_t (by omega) (by omega)).mp h_7
                refine lv_lconst (v := 0) hx hb dL_ratio_90 (by decide) ?_
                refine ktopl (y := lN 0) (by decide) ?_
                refine lv_ladd hx hb dL_ratio_91 ?_
                refine ktopl (y := lN (((n * 2 ^ j) / 48) + 0)) (lN_add ((n * 2 ^ j) / 48) 0) ?_
                refine ktopl (y := lN (rtM n j)) (congrArg lN (rtM_4 h_6 h_7)) ?_
                exact JN_4   _ _ _ (kW.perm w [] rfl rfl) (lv_sub hl [2] rfl)
              · have h_7 : ((n * 2 ^ j) / 48) % 2 = 1 := (lcN_ne_f (by omega) (by omega)).mp h_7
                refine lv_lconst (v := 1) hx hb dL_ratio_86 (by decide) ?_
                refine ktopl (y := lN 1) (by decide) ?_
                refine lv_goto (tgt := 91) hx hb dL_ratio_87 (by decide) ?_
                refine lv_ladd hx hb dL_ratio_91 ?_
                refine ktopl (y := lN (((n * 2 ^ j) / 48) + 1)) (lN_add ((n * 2 ^ j) / 48) 1) ?_
                refine ktopl (y := lN (rtM n j)) (congrArg lN (rtM_2 h_6 h_7)) ?_
                exact JN_4   _ _ _ (kW.perm w [] rfl rfl) (lv_sub hl [2] rfl)
        · have h_3 : n * 2 ^ j < 402653184 := (lcN_ge_f (by omega) (by omega)).mp h_3
          have hj29 := rt_j n (by omega) (by omega) j (by omega) h_3
          refine lv_lload_n hx hb dL_ratio_21 rfl (lv_at hl 1 rfl) ?_
          refine lv_ldc2 (v := (2)) hx hb F.1.2.2.2.1 (hts (.constantLong RL 98 (2)) (by decide +kernel)) dL_ratio_22 ?_
          refine ktopl (y := lN 2) (by decide) ?_
          refine lv_lmul hx hb dL_ratio_25 ?_
          refine ktopl (y := lN ((n * 2 ^ j) * 2)) (lN_mul (n * 2 ^ j) 2) ?_
          refine ktopl (y := lN (n * 2 ^ (j + 1))) (by rw [Nat.pow_succ, Nat.mul_assoc]) ?_
          refine lv_lstore_n (lv' := [(1, .long (lN (n * 2 ^ (j + 1)))), (3, .int (nI (150 - j)))]) hx hb dL_ratio_26 rfl hl (by decide) rfl (fun ls hl => ?_)
          refine lv_iinc (v := nI (150 - j) + -1) (lv' := [(3, .int (nI (150 - j) + -1)), (1, .long (lN (n * 2 ^ (j + 1))))]) hx hb dL_ratio_27 hl (k := 1) rfl (rfl) (by decide) rfl (fun ls hl => ?_)
          rw [show nI (150 - j) + (-1) = nI (150 - (j + 1)) from (by rw [show 150 - j = 150 - (j + 1) + 1 by omega]; exact pk_m1 _)] at hl
          refine lv_goto (tgt := 13) hx hb dL_ratio_30 (by decide) ?_
          exact ih_2 (j + 1) (by omega) (Or.inr (by rw [Nat.add_sub_cancel]; exact h_3)) _ _ _ (by omega) (kW.perm w [] rfl rfl) (lv_sub hl [0, 1] rfl)
    exact LP_2 _ 0 (by omega) (Or.inl rfl) _ _ _ (Nat.lt_succ_self _) (kW.perm w [] rfl rfl) (lv_sub hl [0, 1] rfl)
  · have h_1 : n = 0 := (kc0_ne_f (by omega)).mp h_1
    refine lv_iconst (v := nI 0) hx hb dL_ratio_4 (by decide) ?_
    refine ktopi (y := (fsh n).toInt32) (by rw [h_1]; exact rt_0) ?_
    subst hA
    subst hQ
    exact kreti F w () [] rfl rfl (rfl) (Nat.le_of_ble_eq_true rfl) (Nat.le_of_ble_eq_true rfl) dL_ratio_5
theorem hd_L_bits : yL_bits.cls ≠ "java/lang/invoke/MethodHandle" ∧ yL_bits.cls ≠ "java/lang/invoke/VarHandle" ∧ (parseMethodDescriptor yL_bits.desc).map (fun d => d.parameters.length) = some 2 := by decide +kernel
abbrev rmL_parts : Room := { frames := 1, cells := 0, slots := 0, locals := 22 }
set_option maxHeartbeats 4000000 in
set_option maxRecDepth 100000 in
theorem kL_parts (l : Launch) (g : GG) (p9 : Nat → Bool) (sz : Nat)  : Met l yL_parts wsL_parts rmL_parts (va_Pc [.long (zB p9)] (kPre g [] sz)) (va_Ql (fun (r : Int64) (u : Unit) => r = (dS p9 48).toInt64) (kB g (va_A [] sz) (fun u => [])) (va_A [] sz)) 0 0 (va_A [] sz) := by
  refine kMet (cc := cL_parts) (maxL := 16) (ret := (some .long)) (own := RL) (by decide) rfl rfl (Nat.le_of_ble_eq_true rfl) ?_
  intro p e s m args below meth c ls Q H locs A F w hl hnm hA hQ
  have hx := F.1.1
  have hb := F.1.2.1
  have hts := F.1.2.2.2.2
  have hl : lv_has ls 16 [(0, .long (zB p9))] := hl
  refine lv_lconst (v := 0) hx hb dL_parts_0 (by decide) ?_
  refine ktopl (y := lN 0) (by decide) ?_
  refine ktopl (y := lN (pS p9 0).1) (rfl) ?_
  refine lv_lstore_n (lv' := [(2, .long (lN (pS p9 0).1)), (0, .long (zB p9))]) hx hb dL_parts_1 rfl hl (by decide) rfl (fun ls hl => ?_)
  refine lv_iconst (v := nI 0) hx hb dL_parts_2 (by decide) ?_
  refine ktopi (y := iT (pS p9 0).2) (iT_6) ?_
  refine lv_istore (lv' := [(4, .int (iT (pS p9 0).2)), (2, .long (lN (pS p9 0).1)), (0, .long (zB p9))]) hx hb dL_parts_3 hl (by decide) rfl (fun ls hl => ?_)
  refine lv_iconst (v := nI 1) hx hb dL_parts_5 (by decide) ?_
  refine ktopi (y := nI (0 + 1)) (rfl) ?_
  refine lv_istore (lv' := [(5, .int (nI (0 + 1))), (4, .int (iT (pS p9 0).2)), (2, .long (lN (pS p9 0).1)), (0, .long (zB p9))]) hx hb dL_parts_6 hl (by decide) rfl (fun ls hl => ?_)
  have LP_1 : ∀ (fu : Nat) (j : Nat) (h1 : j ≤ 48) (H : Heap) (locs : List Loc) (ls : Array Slot), 50 - j < fu → kW g A s [] H locs → lv_has ls 16 [(5, .int (nI (j + 1))), (4, .int (iT (pS p9 j).2)), (2, .long (lN (pS p9 j).1)), (0, .long (zB p9))] → W p l e rmL_parts s m args below meth c H locs 0 0 Q (F0 m 8 ls []) := by
    intro fu
    induction fu with
    | zero => intro j h1 H locs ls hlt; omega
    | succ fu ih_1 =>
      intro j h1 H locs ls hlt w hl
      refine lv_iload hx hb dL_parts_8 (lv_at hl 0 rfl) ?_
      refine lv_bipush (v := nI 49) hx hb dL_parts_10 (by decide) ?_
      refine lv_icmp_ge (tgt := 248) hx hb dL_parts_12 (by decide) (fun h_2 => ?_) (fun h_2 => ?_)
      · have h_2 : j + 1 ≥ 49 := (kc_ge_t (by omega) (by omega)).mp h_2
        have e_3 : j = 48 := by omega
        subst e_3
        refine lv_lload_n hx hb dL_parts_248 rfl (lv_at hl 2 rfl) ?_
        refine lv_lconst (v := 0) hx hb dL_parts_249 (by decide) ?_
        refine ktopl (y := lN 0) (by decide) ?_
        refine W.lcmp hx hb dL_parts_250 ?_
        have hpe := pS_end p9
        have hub := pS_use p9 (Nat.le_refl 48)
        refine lv_if_ne (tgt := 258) hx hb dL_parts_251 (by decide) (fun h_4 => ?_) (fun h_4 => ?_)
        · have h_4 : (pS p9 48).1 ≠ 0 := (lcN_ne_t (by omega) (by omega)).mp h_4
          obtain ⟨u1, u2, u3, u4⟩ := (pS_use p9 (Nat.le_refl 48)).resolve_left h_4
          rw [if_neg h_4] at hpe
          refine lv_lload_n hx hb dL_parts_258 rfl (lv_at hl 2 rfl) ?_
          refine lv_iload hx hb dL_parts_259 (lv_at hl 1 rfl) ?_
          refine kcalll (wc := []) (wr := []) (wn := fun (u : Unit) => []) F w [] [] [] rfl rfl rfl (fun _ => rfl)
            (fun hp => va_runS (As := [.long (lN (pS p9 48).1), .int (iT (pS p9 48).2)]) (rest := []) F.1 (kL_bits l g ((pS p9 48).1) ((pS p9 48).2) H.size (⟨u1, by omega⟩)) (va_cwS 2 hts gL_parts_L_bits rfl rfl rfl hd_L_bits ⟨Nat.le_of_ble_eq_true rfl, Nat.le_of_ble_eq_true rfl⟩) hp rfl rfl hl.1 rfl (lv_room (Nat.le_of_ble_eq_true rfl)) dL_parts_261 ⟨Nat.le_of_ble_eq_true rfl, Nat.le_of_ble_eq_true rfl⟩)
            (fun r_5 _ H locs h_6 w => ?_)
          subst h_6
          refine ktopl (y := (dS p9 48).toInt64) (hpe.symm) ?_
          subst hA
          subst hQ
          exact kretl F w () [] rfl rfl (rfl) (Nat.le_of_ble_eq_true rfl) (Nat.le_of_ble_eq_true rfl) dL_parts_264
        · have h_4 : (pS p9 48).1 = 0 := (lcN_ne_f (by omega) (by omega)).mp h_4
          rw [if_pos h_4] at hpe
          refine lv_lconst (v := 0) hx hb dL_parts_254 (by decide) ?_
          refine ktopl (y := lN 0) (by decide) ?_
          refine ktopl (y := (dS p9 48).toInt64) (hpe.symm) ?_
          refine lv_goto (tgt := 264) hx hb dL_parts_255 (by decide) ?_
          subst hA
          subst hQ
          exact kretl F w () [] rfl rfl (rfl) (Nat.le_of_ble_eq_true rfl) (Nat.le_of_ble_eq_true rfl) dL_parts_264
      · have h_2 : j + 1 < 49 := (kc_ge_f (by omega) (by omega)).mp h_2
        refine lv_lload_n hx hb dL_parts_15 rfl (lv_at hl 3 rfl) ?_
        refine lv_iload hx hb dL_parts_16 (lv_at hl 0 rfl) ?_
        refine lv_lshr hx hb dL_parts_18 rfl ?_
        refine lv_lconst (v := 1) hx hb dL_parts_19 (by decide) ?_
        refine lv_land hx hb dL_parts_20 ?_
        refine lv_lconst (v := 1) hx hb dL_parts_21 (by decide) ?_
        refine W.lcmp hx hb dL_parts_22 ?_
        refine lv_if_ne (tgt := 242) hx hb dL_parts_23 (by decide) (fun h_7 => ?_) (fun h_7 => ?_)
        · have hz9 : p9 (j + 1) = false := (zG_in (p := p9) (by omega) (by omega)).symm.trans (zm_hasL0 (by omega) h_7)
          rw [← pS_f hz9] at hl
          refine lv_iinc (v := nI (j + 1 + 1)) (lv' := [(5, .int (nI (j + 1 + 1))), (4, .int (iT (pS p9 (j + 1)).2)), (2, .long (lN (pS p9 (j + 1)).1)), (0, .long (zB p9))]) hx hb dL_parts_242 hl (k := 0) rfl (nI_add (j + 1) 1) (by decide) rfl (fun ls hl => ?_)
          refine lv_goto (tgt := 8) hx hb dL_parts_245 (by decide) ?_
          exact ih_1 (j + 1) (by omega) _ _ _ (by omega) (kW.perm w [] rfl rfl) (lv_sub hl [0, 1, 2, 3] rfl)
        · have hz9 : p9 (j + 1) = true := (zG_in (p := p9) (by omega) (by omega)).symm.trans (zm_hasL1 (by omega) h_7)
          have hce := ceZ_le (j + 1)
          have hcm := ceZ_mono (show j ≤ j + 1 by omega)
          obtain ⟨hp1, hp2⟩ := ptZ_b (j + 1) (by omega) (by omega)
          have hub := pS_use p9 (show j ≤ 48 by omega)
          refine lv_iconst (v := nI 0) hx hb dL_parts_26 (by decide) ?_
          refine ktopi (y := mI 0) (mI_0) ?_
          refine lv_istore (lv' := [(6, .int (mI 0)), (5, .int (nI (j + 1))), (4, .int (iT (pS p9 j).2)), (2, .long (lN (pS p9 j).1)), (0, .long (zB p9))]) hx hb dL_parts_27 hl (by decide) rfl (fun ls hl => ?_)
          have LP_8 : ∀ (fu : Nat) (c9 : Nat) (k1 : c9 ≤ ceZ (j + 1)) (H : Heap) (locs : List Loc) (ls : Array Slot), 10 - c9 < fu → kW g A s [] H locs → lv_has ls 16 [(6, .int (mI c9)), (5, .int (nI (j + 1))), (4, .int (iT (pS p9 j).2)), (2, .long (lN (pS p9 j).1)), (0, .long (zB p9))] → W p l e rmL_parts s m args below meth c H locs 0 0 Q (F0 m 29 ls []) := by
            intro fu
            induction fu with
            | zero => intro c9 k1 H locs ls hlt; omega
            | succ fu ih_8 =>
              intro c9 k1 H locs ls hlt w hl
              refine lv_lconst (v := 1) hx hb dL_parts_29 (by decide) ?_
              refine lv_iload hx hb dL_parts_30 (lv_at hl 0 rfl) ?_
              refine lv_ineg hx hb dL_parts_32 ?_
              refine ktopi (y := nI c9) (mI_n c9 (by omega)) ?_
              refine lv_lshl hx hb dL_parts_33 rfl ?_
              refine ktopl (y := lN (2 ^ c9)) (sh1 (by omega)) ?_
              have hc7 : 2 ^ c9 ≤ 2 ^ 6 := Nat.pow_le_pow_right (by decide) (by omega)
              refine lv_iload hx hb dL_parts_34 (lv_at hl 1 rfl) ?_
              refine lv_i2l hx hb dL_parts_36 rfl ?_
              refine ktopl (y := lN (j + 1)) (nI_l (by omega)) ?_
              refine W.lcmp hx hb dL_parts_37 ?_
              refine lv_if_ge (tgt := 47) hx hb dL_parts_38 (by decide) (fun h_9 => ?_) (fun h_9 => ?_)
              · have h_9 : 2 ^ c9 ≥ j + 1 := (lcN_ge_t (by omega) (by omega)).mp h_9
                have hce2 : c9 = ceZ (j + 1) := by have := (ceZ_lt (j + 1) (by omega) c9 (by omega)).mpr; omega
                rw [hce2] at hl
                have hw1 : 2 ^ 52 ≤ 2 ^ (52 + ceZ (j + 1)) := Nat.pow_le_pow_right (by decide) (by omega)
                have hw2 : 2 ^ (52 + ceZ (j + 1)) ≤ 2 ^ 58 := Nat.pow_le_pow_right (by decide) (by omega)
                refine lv_lconst (v := 1) hx hb dL_parts_47 (by decide) ?_
                refine lv_bipush (v := nI 52) hx hb dL_parts_48 (by decide) ?_
                refine lv_iload hx hb dL_parts_50 (lv_at hl 0 rfl) ?_
                refine lv_isub hx hb dL_parts_52 ?_
                refine ktopi (y := nI (52 + ceZ (j + 1))) (mI_52 _ (by omega)) ?_
                refine lv_lshl hx hb dL_parts_53 rfl ?_
                refine ktopl (y := lN (2 ^ (52 + ceZ (j + 1)))) (sh1 (by omega)) ?_
                refine lv_lstore (lv' := [(7, .long (lN (2 ^ (52 + ceZ (j + 1))))), (6, .int (mI (ceZ (j + 1)))), (5, .int (nI (j + 1))), (4, .int (iT (pS p9 j).2)), (2, .long (lN (pS p9 j).1)), (0, .long (zB p9))]) hx hb dL_parts_54 hl (by decide) rfl (fun ls hl => ?_)
                have hw3 : 2 ^ (52 + ceZ (j + 1)) / (j + 1) ≤ 2 ^ (52 + ceZ (j + 1)) := Nat.div_le_self _ _
                have hw4 : 2 ^ (52 + ceZ (j + 1)) % (j + 1) < j + 1 := Nat.mod_lt _ (by omega)
                have JN_10 : ∀   (H : Heap) (locs : List Loc) (ls : Array Slot), kW g A s [] H locs → lv_has ls 16 [(6, .int (mI (ceZ (j + 1)))), (5, .int (nI (j + 1))), (4, .int (iT (pS p9 j).2)), (2, .long (lN (pS p9 j).1)), (0, .long (zB p9))] → W p l e rmL_parts s m args below meth c H locs 0 0 Q (F0 m 85 ls [.long (lN (ptZ (j + 1)))]) := by
                  intro   H locs ls w hl
                  refine lv_lstore (lv' := [(9, .long (lN (ptZ (j + 1)))), (6, .int (mI (ceZ (j + 1)))), (5, .int (nI (j + 1))), (4, .int (iT (pS p9 j).2)), (2, .long (lN (pS p9 j).1)), (0, .long (zB p9))]) hx hb dL_parts_85 hl (by decide) rfl (fun ls hl => ?_)
                  refine lv_lload_n hx hb dL_parts_87 rfl (lv_at hl 4 rfl) ?_
                  refine lv_lconst (v := 0) hx hb dL_parts_88 (by decide) ?_
                  refine ktopl (y := lN 0) (by decide) ?_
                  refine W.lcmp hx hb dL_parts_89 ?_
                  refine lv_if_ne (tgt := 103) hx hb dL_parts_90 (by decide) (fun h_11 => ?_) (fun h_11 => ?_)
                  · have h_11 : (pS p9 j).1 ≠ 0 := (lcN_ne_t (by omega) (by omega)).mp h_11
                    obtain ⟨u1, u2, u3, u4⟩ := hub.resolve_left h_11
                    obtain ⟨b1, b2⟩ := bothZ_b (t := (pS p9 j).2) (u := 6 - ceZ (j + 1)) u1 u2 hp2
                    obtain ⟨r1, r2, -⟩ := rndZ_b b1 b2
                    have hby := byZ_c (bothZ (pS p9 j).1 (pS p9 j).2 (ptZ (j + 1)) (6 - ceZ (j + 1)))
                    refine lv_lload_n hx hb dL_parts_103 rfl (lv_at hl 4 rfl) ?_
                    refine lv_bipush (v := nI 9) hx hb dL_parts_104 (by decide) ?_
                    refine lv_lshl hx hb dL_parts_106 rfl ?_
                    refine ktopl (y := lN ((pS p9 j).1 * 2 ^ 9)) (wb_shl _ (by omega)) ?_
                    refine lv_lload hx hb dL_parts_107 (lv_at hl 0 rfl) ?_
                    refine lv_bipush (v := nI 9) hx hb dL_parts_109 (by decide) ?_
                    refine lv_iload hx hb dL_parts_111 (lv_at hl 3 rfl) ?_
                    refine lv_iload hx hb dL_parts_113 (lv_at hl 1 rfl) ?_
                    refine lv_isub hx hb dL_parts_115 ?_
                    refine ktopi (y := nI ((pS p9 j).2 - (6 - ceZ (j + 1)))) (iT_e _ (by omega) _ (by omega) (by omega)) ?_
                    refine lv_isub hx hb dL_parts_116 ?_
                    refine ktopi (y := nI (9 - ((pS p9 j).2 - (6 - ceZ (j + 1))))) (pk_sub (by omega)) ?_
                    refine lv_lshl hx hb dL_parts_117 rfl ?_
                    refine ktopl (y := lN (ptZ (j + 1) * 2 ^ (9 - ((pS p9 j).2 - (6 - ceZ (j + 1)))))) (wb_shl _ (by omega)) ?_
                    refine lv_ladd hx hb dL_parts_118 ?_
                    refine ktopl (y := lN (((pS p9 j).1 * 2 ^ 9) + (ptZ (j + 1) * 2 ^ (9 - ((pS p9 j).2 - (6 - ceZ (j + 1))))))) (lN_add ((pS p9 j).1 * 2 ^ 9) (ptZ (j + 1) * 2 ^ (9 - ((pS p9 j).2 - (6 - ceZ (j + 1)))))) ?_
                    refine ktopl (y := lN (bothZ (pS p9 j).1 (pS p9 j).2 (ptZ (j + 1)) (6 - ceZ (j + 1)))) (rfl) ?_
                    refine lv_lstore (lv' := [(11, .long (lN (bothZ (pS p9 j).1 (pS p9 j).2 (ptZ (j + 1)) (6 - ceZ (j + 1))))), (9, .long (lN (ptZ (j + 1)))), (6, .int (mI (ceZ (j + 1)))), (5, .int (nI (j + 1))), (4, .int (iT (pS p9 j).2)), (2, .long (lN (pS p9 j).1)), (0, .long (zB p9))]) hx hb dL_parts_119 hl (by decide) rfl (fun ls hl => ?_)
                    have hb9 : bothZ (pS p9 j).1 (pS p9 j).2 (ptZ (j + 1)) (6 - ceZ (j + 1)) < 2 ^ 63 := b2
                    obtain ⟨BB, hBB⟩ : ∃ z, z = bothZ (pS p9 j).1 (pS p9 j).2 (ptZ (j + 1)) (6 - ceZ (j + 1)) := ⟨_, rfl⟩
                    rw [← hBB] at hl b1 b2 r1 r2 hby hb9
                    have JN_12 : ∀   (H : Heap) (locs : List Loc) (ls : Array Slot), kW g A s [] H locs → lv_has ls 16 [(11, .long (lN (BB))), (5, .int (nI (j + 1))), (4, .int (iT (pS p9 j).2)), (2, .long (lN (pS p9 j).1)), (0, .long (zB p9))] → W p l e rmL_parts s m args below meth c H locs 0 0 Q (F0 m 137 ls [.int (nI (byZ BB))]) := by
                      intro   H locs ls w hl
                      have hy : byZ BB ≤ 10 ∧ 9 ≤ byZ BB := by omega
                      have hy2 : 2 ^ byZ BB ≤ 2 ^ 10 := Nat.pow_le_pow_right (by decide) hy.1
                      have hy3 : 2 ^ (byZ BB - 1) ≤ 2 ^ 10 := Nat.pow_le_pow_right (by decide) (by omega)
                      have hm1 : BB % 2 ^ byZ BB < 2 ^ byZ BB := Nat.mod_lt _ (Nat.two_pow_pos _)
                      have hd1 : BB / 2 ^ byZ BB ≤ BB := Nat.div_le_self _ _
                      refine lv_istore (lv' := [(13, .int (nI (byZ BB))), (11, .long (lN (BB))), (5, .int (nI (j + 1))), (4, .int (iT (pS p9 j).2)), (2, .long (lN (pS p9 j).1)), (0, .long (zB p9))]) hx hb dL_parts_137 hl (by decide) rfl (fun ls hl => ?_)
                      refine lv_lload hx hb dL_parts_139 (lv_at hl 1 rfl) ?_
                      refine lv_lconst (v := 1) hx hb dL_parts_141 (by decide) ?_
                      refine lv_iload hx hb dL_parts_142 (lv_at hl 0 rfl) ?_
                      refine lv_lshl hx hb dL_parts_144 rfl ?_
                      refine ktopl (y := lN (2 ^ byZ BB)) (sh1 (by omega)) ?_
                      refine lv_lconst (v := 1) hx hb dL_parts_145 (by decide) ?_
                      refine lv_lsub hx hb dL_parts_146 ?_
                      refine ktopl (y := lN (2 ^ byZ BB - 1)) (sh1m (by omega)) ?_
                      refine lv_land hx hb dL_parts_147 ?_
                      refine ktopl (y := lN (BB % 2 ^ byZ BB)) (wb_mask (by omega) (by omega)) ?_
                      refine lv_lstore (lv' := [(14, .long (lN (BB % 2 ^ byZ BB))), (13, .int (nI (byZ BB))), (11, .long (lN (BB))), (5, .int (nI (j + 1))), (4, .int (iT (pS p9 j).2)), (2, .long (lN (pS p9 j).1)), (0, .long (zB p9))]) hx hb dL_parts_148 hl (by decide) rfl (fun ls hl => ?_)
                      refine lv_lload hx hb dL_parts_150 (lv_at hl 2 rfl) ?_
                      refine lv_iload hx hb dL_parts_152 (lv_at hl 1 rfl) ?_
                      refine lv_lshr hx hb dL_parts_154 rfl ?_
                      refine ktopl (y := lN (BB / 2 ^ byZ BB)) (shrN hb9 (by omega)) ?_
                      refine lv_lstore_n (lv' := [(2, .long (lN (BB / 2 ^ byZ BB))), (14, .long (lN (BB % 2 ^ byZ BB))), (13, .int (nI (byZ BB))), (11, .long (lN (BB))), (5, .int (nI (j + 1))), (4, .int (iT (pS p9 j).2)), (0, .long (zB p9))]) hx hb dL_parts_155 rfl hl (by decide) rfl (fun ls hl => ?_)
                      refine lv_iload hx hb dL_parts_156 (lv_at hl 5 rfl) ?_
                      refine lv_iload hx hb dL_parts_158 (lv_at hl 2 rfl) ?_
                      refine lv_bipush (v := nI 9) hx hb dL_parts_160 (by decide) ?_
                      refine lv_isub hx hb dL_parts_162 ?_
                      refine ktopi (y := nI ((byZ BB) - 9)) (pk_sub (by omega)) ?_
                      refine lv_iadd hx hb dL_parts_163 ?_
                      refine ktopi (y := iT ((pS p9 j).2 + (byZ BB - 9))) (iT_a _ (by omega) _ (by omega)) ?_
                      refine lv_istore (lv' := [(4, .int (iT ((pS p9 j).2 + (byZ BB - 9)))), (2, .long (lN (BB / 2 ^ byZ BB))), (14, .long (lN (BB % 2 ^ byZ BB))), (13, .int (nI (byZ BB))), (11, .long (lN (BB))), (5, .int (nI (j + 1))), (0, .long (zB p9))]) hx hb dL_parts_164 hl (by decide) rfl (fun ls hl => ?_)
                      have hrc : rcZ BB ≤ 1 := by unfold rcZ; split <;> omega
                      have hqr : BB / 2 ^ byZ BB + rcZ BB = rndZ BB := rfl
                      have JN_13 : ∀   (H : Heap) (locs : List Loc) (ls : Array Slot), kW g A s [] H locs → lv_has ls 16 [(4, .int (iT ((pS p9 j).2 + (byZ BB - 9)))), (2, .long (lN (BB / 2 ^ byZ BB))), (5, .int (nI (j + 1))), (0, .long (zB p9))] → W p l e rmL_parts s m args below meth c H locs 0 0 Q (F0 m 206 ls [.long (lN (rcZ BB)), .long (lN (BB / 2 ^ byZ BB))]) := by
                        intro   H locs ls w hl
                        refine lv_ladd hx hb dL_parts_206 ?_
                        refine ktopl (y := lN ((BB / 2 ^ byZ BB) + (rcZ BB))) (lN_add (BB / 2 ^ byZ BB) (rcZ BB)) ?_
                        refine ktopl (y := lN (rndZ BB)) (rfl) ?_
                        refine lv_lstore_n (lv' := [(2, .long (lN (rndZ BB))), (4, .int (iT ((pS p9 j).2 + (byZ BB - 9)))), (5, .int (nI (j + 1))), (0, .long (zB p9))]) hx hb dL_parts_207 rfl hl (by decide) rfl (fun ls hl => ?_)
                        refine lv_iload hx hb dL_parts_208 (lv_at hl 1 rfl) ?_
                        refine lv_lload_n hx hb dL_parts_210 rfl (lv_at hl 0 rfl) ?_
                        refine lv_ldc2 (v := (9007199254740992)) hx hb F.1.2.2.2.1 (hts (.constantLong RL 110 (9007199254740992)) (by decide +kernel)) dL_parts_211 ?_
                        refine ktopl (y := lN 9007199254740992) (by decide) ?_
                        refine W.lcmp hx hb dL_parts_214 ?_
                        refine lv_if_ne (tgt := 222) hx hb dL_parts_215 (by decide) (fun h_14 => ?_) (fun h_14 => ?_)
                        · have h_14 : rndZ BB ≠ 9007199254740992 := (lcN_ne_t (by omega) (by omega)).mp h_14
                          have eM : addM (pS p9 j).1 (pS p9 j).2 (ptZ (j + 1)) (6 - ceZ (j + 1)) = rndZ BB := by unfold addM; rw [← hBB, if_neg (show ¬ rndZ BB = 2 ^ 53 by omega)]
                          have eT : addT (pS p9 j).1 (pS p9 j).2 (ptZ (j + 1)) (6 - ceZ (j + 1)) = (pS p9 j).2 + (byZ BB - 9) + 0 := by unfold addT; rw [← hBB, if_neg (show ¬ rndZ BB = 2 ^ 53 by omega)]
                          refine lv_iconst (v := nI 0) hx hb dL_parts_222 (by decide) ?_
                          refine lv_iadd hx hb dL_parts_223 ?_
                          refine ktopi (y := iT (addT (pS p9 j).1 (pS p9 j).2 (ptZ (j + 1)) (6 - ceZ (j + 1)))) (by rw [eT]; exact iT_a _ (by omega) _ (by omega)) ?_
                          refine lv_istore (lv' := [(4, .int (iT (addT (pS p9 j).1 (pS p9 j).2 (ptZ (j + 1)) (6 - ceZ (j + 1))))), (2, .long (lN (rndZ BB))), (5, .int (nI (j + 1))), (0, .long (zB p9))]) hx hb dL_parts_224 hl (by decide) rfl (fun ls hl => ?_)
                          refine lv_lload_n hx hb dL_parts_226 rfl (lv_at hl 1 rfl) ?_
                          refine lv_ldc2 (v := (9007199254740992)) hx hb F.1.2.2.2.1 (hts (.constantLong RL 110 (9007199254740992)) (by decide +kernel)) dL_parts_227 ?_
                          refine ktopl (y := lN 9007199254740992) (by decide) ?_
                          refine W.lcmp hx hb dL_parts_230 ?_
                          refine lv_if_ne (tgt := 240) hx hb dL_parts_231 (by decide) (fun h_15 => ?_) (fun h_15 => ?_)
                          · have h_15 : rndZ BB ≠ 9007199254740992 := (lcN_ne_t (by omega) (by omega)).mp h_15
                            refine lv_lload_n hx hb dL_parts_240 rfl (lv_at hl 1 rfl) ?_
                            refine ktopl (y := lN (addM (pS p9 j).1 (pS p9 j).2 (ptZ (j + 1)) (6 - ceZ (j + 1)))) (by rw [eM]) ?_
                            refine lv_lstore_n (lv' := [(2, .long (lN (addM (pS p9 j).1 (pS p9 j).2 (ptZ (j + 1)) (6 - ceZ (j + 1))))), (4, .int (iT (addT (pS p9 j).1 (pS p9 j).2 (ptZ (j + 1)) (6 - ceZ (j + 1))))), (5, .int (nI (j + 1))), (0, .long (zB p9))]) hx hb dL_parts_241 rfl hl (by decide) rfl (fun ls hl => ?_)
                            have hsn := pS_n hz9 (show (pS p9 j).1 ≠ 0 by omega)
                            have e1 : addM (pS p9 j).1 (pS p9 j).2 (ptZ (j + 1)) (6 - ceZ (j + 1)) = (pS p9 (j + 1)).1 := by rw [hsn]
                            have e2 : addT (pS p9 j).1 (pS p9 j).2 (ptZ (j + 1)) (6 - ceZ (j + 1)) = (pS p9 (j + 1)).2 := by rw [hsn]
                            rw [e1, e2] at hl
                            refine lv_iinc (v := nI (j + 1 + 1)) (lv' := [(5, .int (nI (j + 1 + 1))), (2, .long (lN (pS p9 (j + 1)).1)), (4, .int (iT (pS p9 (j + 1)).2)), (0, .long (zB p9))]) hx hb dL_parts_242 hl (k := 2) rfl (nI_add (j + 1) 1) (by decide) rfl (fun ls hl => ?_)
                            refine lv_goto (tgt := 8) hx hb dL_parts_245 (by decide) ?_
                            exact ih_1 (j + 1) (by omega) _ _ _ (by omega) (kW.perm w [] rfl rfl) (lv_sub hl [0, 2, 1, 3] rfl)
                          · have h_15 : rndZ BB = 9007199254740992 := (lcN_ne_f (by omega) (by omega)).mp h_15
                            exact absurd h_15 (show ¬ rndZ BB = 9007199254740992 by omega)
                        · have h_14 : rndZ BB = 9007199254740992 := (lcN_ne_f (by omega) (by omega)).mp h_14
                          have eM : addM (pS p9 j).1 (pS p9 j).2 (ptZ (j + 1)) (6 - ceZ (j + 1)) = 2 ^ 52 := by unfold addM; rw [← hBB, if_pos (show rndZ BB = 2 ^ 53 by omega)]
                          have eT : addT (pS p9 j).1 (pS p9 j).2 (ptZ (j + 1)) (6 - ceZ (j + 1)) = (pS p9 j).2 + (byZ BB - 9) + 1 := by unfold addT; rw [← hBB, if_pos (show rndZ BB = 2 ^ 53 by omega)]
                          refine lv_iconst (v := nI 1) hx hb dL_parts_218 (by decide) ?_
                          refine lv_goto (tgt := 223) hx hb dL_parts_219 (by decide) ?_
                          refine lv_iadd hx hb dL_parts_223 ?_
                          refine ktopi (y := iT (addT (pS p9 j).1 (pS p9 j).2 (ptZ (j + 1)) (6 - ceZ (j + 1)))) (by rw [eT]; exact iT_a _ (by omega) _ (by omega)) ?_
                          refine lv_istore (lv' := [(4, .int (iT (addT (pS p9 j).1 (pS p9 j).2 (ptZ (j + 1)) (6 - ceZ (j + 1))))), (2, .long (lN (rndZ BB))), (5, .int (nI (j + 1))), (0, .long (zB p9))]) hx hb dL_parts_224 hl (by decide) rfl (fun ls hl => ?_)
                          refine lv_lload_n hx hb dL_parts_226 rfl (lv_at hl 1 rfl) ?_
                          refine lv_ldc2 (v := (9007199254740992)) hx hb F.1.2.2.2.1 (hts (.constantLong RL 110 (9007199254740992)) (by decide +kernel)) dL_parts_227 ?_
                          refine ktopl (y := lN 9007199254740992) (by decide) ?_
                          refine W.lcmp hx hb dL_parts_230 ?_
                          refine lv_if_ne (tgt := 240) hx hb dL_parts_231 (by decide) (fun h_16 => ?_) (fun h_16 => ?_)
                          · have h_16 : rndZ BB ≠ 9007199254740992 := (lcN_ne_t (by omega) (by omega)).mp h_16
                            exact absurd (show rndZ BB = 9007199254740992 by omega) h_16
                          · have h_16 : rndZ BB = 9007199254740992 := (lcN_ne_f (by omega) (by omega)).mp h_16
                            refine lv_ldc2 (v := (4503599627370496)) hx hb F.1.2.2.2.1 (hts (.constantLong RL 106 (4503599627370496)) (by decide +kernel)) dL_parts_234 ?_
                            refine ktopl (y := lN 4503599627370496) (by decide) ?_
                            refine lv_goto (tgt := 241) hx hb dL_parts_237 (by decide) ?_
                            refine ktopl (y := lN (addM (pS p9 j).1 (pS p9 j).2 (ptZ (j + 1)) (6 - ceZ (j + 1)))) (by rw [eM]) ?_
                            refine lv_lstore_n (lv' := [(2, .long (lN (addM (pS p9 j).1 (pS p9 j).2 (ptZ (j + 1)) (6 - ceZ (j + 1))))), (4, .int (iT (addT (pS p9 j).1 (pS p9 j).2 (ptZ (j + 1)) (6 - ceZ (j + 1))))), (5, .int (nI (j + 1))), (0, .long (zB p9))]) hx hb dL_parts_241 rfl hl (by decide) rfl (fun ls hl => ?_)
                            have hsn := pS_n hz9 (show (pS p9 j).1 ≠ 0 by omega)
                            have e1 : addM (pS p9 j).1 (pS p9 j).2 (ptZ (j + 1)) (6 - ceZ (j + 1)) = (pS p9 (j + 1)).1 := by rw [hsn]
                            have e2 : addT (pS p9 j).1 (pS p9 j).2 (ptZ (j + 1)) (6 - ceZ (j + 1)) = (pS p9 (j + 1)).2 := by rw [hsn]
                            rw [e1, e2] at hl
                            refine lv_iinc (v := nI (j + 1 + 1)) (lv' := [(5, .int (nI (j + 1 + 1))), (2, .long (lN (pS p9 (j + 1)).1)), (4, .int (iT (pS p9 (j + 1)).2)), (0, .long (zB p9))]) hx hb dL_parts_242 hl (k := 2) rfl (nI_add (j + 1) 1) (by decide) rfl (fun ls hl => ?_)
                            refine lv_goto (tgt := 8) hx hb dL_parts_245 (by decide) ?_
                            exact ih_1 (j + 1) (by omega) _ _ _ (by omega) (kW.perm w [] rfl rfl) (lv_sub hl [0, 2, 1, 3] rfl)
                      refine lv_lload_n hx hb dL_parts_166 rfl (lv_at hl 1 rfl) ?_
                      refine lv_lload hx hb dL_parts_167 (lv_at hl 2 rfl) ?_
                      refine lv_lconst (v := 1) hx hb dL_parts_169 (by decide) ?_
                      refine lv_iload hx hb dL_parts_170 (lv_at hl 3 rfl) ?_
                      refine lv_iconst (v := nI 1) hx hb dL_parts_172 (by decide) ?_
                      refine lv_isub hx hb dL_parts_173 ?_
                      refine ktopi (y := nI ((byZ BB) - 1)) (pk_sub (by omega)) ?_
                      refine lv_lshl hx hb dL_parts_174 rfl ?_
                      refine ktopl (y := lN (2 ^ (byZ BB - 1))) (sh1 (by omega)) ?_
                      refine W.lcmp hx hb dL_parts_175 ?_
                      refine lv_if_gt (tgt := 201) hx hb dL_parts_176 (by decide) (fun h_17 => ?_) (fun h_17 => ?_)
                      · have h_17 : BB % 2 ^ byZ BB > 2 ^ (byZ BB - 1) := (lcN_gt_t (by omega) (by omega)).mp h_17
                        refine lv_lconst (v := 1) hx hb dL_parts_201 (by decide) ?_
                        refine ktopl (y := lN 1) (by decide) ?_
                        refine lv_goto (tgt := 206) hx hb dL_parts_202 (by decide) ?_
                        refine ktopl (y := lN (rcZ BB)) (congrArg lN (rcZ_1 h_17)) ?_
                        exact JN_13   _ _ _ (kW.perm w [] rfl rfl) (lv_sub hl [0, 1, 5, 6] rfl)
                      · have h_17 : BB % 2 ^ byZ BB ≤ 2 ^ (byZ BB - 1) := (lcN_gt_f (by omega) (by omega)).mp h_17
                        refine lv_lload hx hb dL_parts_179 (lv_at hl 2 rfl) ?_
                        refine lv_lconst (v := 1) hx hb dL_parts_181 (by decide) ?_
                        refine lv_iload hx hb dL_parts_182 (lv_at hl 3 rfl) ?_
                        refine lv_iconst (v := nI 1) hx hb dL_parts_184 (by decide) ?_
                        refine lv_isub hx hb dL_parts_185 ?_
                        refine ktopi (y := nI ((byZ BB) - 1)) (pk_sub (by omega)) ?_
                        refine lv_lshl hx hb dL_parts_186 rfl ?_
                        refine ktopl (y := lN (2 ^ (byZ BB - 1))) (sh1 (by omega)) ?_
                        refine W.lcmp hx hb dL_parts_187 ?_
                        refine lv_if_ne (tgt := 205) hx hb dL_parts_188 (by decide) (fun h_18 => ?_) (fun h_18 => ?_)
                        · have h_18 : BB % 2 ^ byZ BB ≠ 2 ^ (byZ BB - 1) := (lcN_ne_t (by omega) (by omega)).mp h_18
                          refine lv_lconst (v := 0) hx hb dL_parts_205 (by decide) ?_
                          refine ktopl (y := lN 0) (by decide) ?_
                          refine ktopl (y := lN (rcZ BB)) (congrArg lN (rcZ_3 h_17 h_18)) ?_
                          exact JN_13   _ _ _ (kW.perm w [] rfl rfl) (lv_sub hl [0, 1, 5, 6] rfl)
                        · have h_18 : BB % 2 ^ byZ BB = 2 ^ (byZ BB - 1) := (lcN_ne_f (by omega) (by omega)).mp h_18
                          refine lv_lload_n hx hb dL_parts_191 rfl (lv_at hl 1 rfl) ?_
                          refine lv_ldc2 (v := (2)) hx hb F.1.2.2.2.1 (hts (.constantLong RL 98 (2)) (by decide +kernel)) dL_parts_192 ?_
                          refine ktopl (y := lN 2) (by decide) ?_
                          refine lv_lrem hx hb dL_parts_195 (fun hz => absurd ((pk_lEQ (b := 0) (by omega) (by omega)).mp hz) (by omega)) ?_
                          refine ktopl (y := lN ((BB / 2 ^ byZ BB) % 2)) (pk_lRem (by omega) (by omega) (by omega)) ?_
                          refine lv_lconst (v := 1) hx hb dL_parts_196 (by decide) ?_
                          refine ktopl (y := lN 1) (by decide) ?_
                          refine W.lcmp hx hb dL_parts_197 ?_
                          refine lv_if_ne (tgt := 205) hx hb dL_parts_198 (by decide) (fun h_19 => ?_) (fun h_19 => ?_)
                          · have h_19 : (BB / 2 ^ byZ BB) % 2 ≠ 1 := (lcN_ne_t (by omega) (by omega)).mp h_19
                            refine lv_lconst (v := 0) hx hb dL_parts_205 (by decide) ?_
                            refine ktopl (y := lN 0) (by decide) ?_
                            refine ktopl (y := lN (rcZ BB)) (congrArg lN (rcZ_4 h_18 h_19)) ?_
                            exact JN_13   _ _ _ (kW.perm w [] rfl rfl) (lv_sub hl [0, 1, 5, 6] rfl)
                          · have h_19 : (BB / 2 ^ byZ BB) % 2 = 1 := (lcN_ne_f (by omega) (by omega)).mp h_19
                            refine lv_lconst (v := 1) hx hb dL_parts_201 (by decide) ?_
                            refine ktopl (y := lN 1) (by decide) ?_
                            refine lv_goto (tgt := 206) hx hb dL_parts_202 (by decide) ?_
                            refine ktopl (y := lN (rcZ BB)) (congrArg lN (rcZ_2 h_18 h_19)) ?_
                            exact JN_13   _ _ _ (kW.perm w [] rfl rfl) (lv_sub hl [0, 1, 5, 6] rfl)
                    refine lv_lload hx hb dL_parts_121 (lv_at hl 0 rfl) ?_
                    refine lv_ldc2 (v := (4611686018427387904)) hx hb F.1.2.2.2.1 (hts (.constantLong RL 108 (4611686018427387904)) (by decide +kernel)) dL_parts_123 ?_
                    refine ktopl (y := lN 4611686018427387904) (by decide) ?_
                    refine W.lcmp hx hb dL_parts_126 ?_
                    refine lv_if_ge (tgt := 135) hx hb dL_parts_127 (by decide) (fun h_20 => ?_) (fun h_20 => ?_)
                    · have h_20 : BB ≥ 4611686018427387904 := (lcN_ge_t (by omega) (by omega)).mp h_20
                      refine lv_bipush (v := nI 10) hx hb dL_parts_135 (by decide) ?_
                      refine ktopi (y := nI (byZ BB)) (by rw [show byZ BB = 10 by omega]) ?_
                      exact JN_12   _ _ _ (kW.perm w [] rfl rfl) (lv_sub hl [0, 3, 4, 5, 6] rfl)
                    · have h_20 : BB < 4611686018427387904 := (lcN_ge_f (by omega) (by omega)).mp h_20
                      refine lv_bipush (v := nI 9) hx hb dL_parts_130 (by decide) ?_
                      refine lv_goto (tgt := 137) hx hb dL_parts_132 (by decide) ?_
                      refine ktopi (y := nI (byZ BB)) (by rw [show byZ BB = 9 by omega]) ?_
                      exact JN_12   _ _ _ (kW.perm w [] rfl rfl) (lv_sub hl [0, 3, 4, 5, 6] rfl)
                  · have h_11 : (pS p9 j).1 = 0 := (lcN_ne_f (by omega) (by omega)).mp h_11
                    refine lv_lload hx hb dL_parts_93 (lv_at hl 0 rfl) ?_
                    refine lv_lstore_n (lv' := [(2, .long (lN (ptZ (j + 1)))), (9, .long (lN (ptZ (j + 1)))), (6, .int (mI (ceZ (j + 1)))), (5, .int (nI (j + 1))), (4, .int (iT (pS p9 j).2)), (0, .long (zB p9))]) hx hb dL_parts_95 rfl hl (by decide) rfl (fun ls hl => ?_)
                    refine lv_iload hx hb dL_parts_96 (lv_at hl 2 rfl) ?_
                    refine lv_istore (lv' := [(4, .int (mI (ceZ (j + 1)))), (2, .long (lN (ptZ (j + 1)))), (9, .long (lN (ptZ (j + 1)))), (6, .int (mI (ceZ (j + 1)))), (5, .int (nI (j + 1))), (0, .long (zB p9))]) hx hb dL_parts_98 hl (by decide) rfl (fun ls hl => ?_)
                    refine lv_goto (tgt := 242) hx hb dL_parts_100 (by decide) ?_
                    have hs0 := pS_0 hz9 h_11
                    have hl := hl
                    have e2 : mI (ceZ (j + 1)) = iT (pS p9 (j + 1)).2 := by rw [hs0]; exact iT_m _ (by omega)
                    have e1 : ptZ (j + 1) = (pS p9 (j + 1)).1 := by rw [hs0]
                    have hl : lv_has ls 16 [(4, .int (mI (ceZ (j + 1)))), (2, .long (lN (ptZ (j + 1)))), (5, .int (nI (j + 1))), (0, .long (zB p9))] := lv_sub hl [0, 1, 4, 5] rfl
                    rw [e1, e2] at hl
                    refine lv_iinc (v := nI (j + 1 + 1)) (lv' := [(5, .int (nI (j + 1 + 1))), (4, .int (iT (pS p9 (j + 1)).2)), (2, .long (lN (pS p9 (j + 1)).1)), (0, .long (zB p9))]) hx hb dL_parts_242 hl (k := 2) rfl (nI_add (j + 1) 1) (by decide) rfl (fun ls hl => ?_)
                    refine lv_goto (tgt := 8) hx hb dL_parts_245 (by decide) ?_
                    exact ih_1 (j + 1) (by omega) _ _ _ (by omega) (kW.perm w [] rfl rfl) (lv_sub hl [0, 1, 2, 3] rfl)
                refine lv_lload hx hb dL_parts_56 (lv_at hl 0 rfl) ?_
                refine lv_iload hx hb dL_parts_58 (lv_at hl 2 rfl) ?_
                refine lv_i2l hx hb dL_parts_60 rfl ?_
                refine ktopl (y := lN (j + 1)) (nI_l (by omega)) ?_
                refine lv_ldiv hx hb dL_parts_61 (fun hz => absurd ((pk_lEQ (b := 0) (by omega) (by omega)).mp hz) (by omega)) ?_
                refine ktopl (y := lN ((2 ^ (52 + ceZ (j + 1))) / (j + 1))) (pk_lDiv (by omega) (by omega) (by omega)) ?_
                refine lv_ldc2 (v := (2)) hx hb F.1.2.2.2.1 (hts (.constantLong RL 98 (2)) (by decide +kernel)) dL_parts_62 ?_
                refine ktopl (y := lN 2) (by decide) ?_
                refine lv_lload hx hb dL_parts_65 (lv_at hl 0 rfl) ?_
                refine lv_iload hx hb dL_parts_67 (lv_at hl 2 rfl) ?_
                refine lv_i2l hx hb dL_parts_69 rfl ?_
                refine ktopl (y := lN (j + 1)) (nI_l (by omega)) ?_
                refine lv_lrem hx hb dL_parts_70 (fun hz => absurd ((pk_lEQ (b := 0) (by omega) (by omega)).mp hz) (by omega)) ?_
                refine ktopl (y := lN ((2 ^ (52 + ceZ (j + 1))) % (j + 1))) (pk_lRem (by omega) (by omega) (by omega)) ?_
                refine lv_lmul hx hb dL_parts_71 ?_
                refine ktopl (y := lN (2 * ((2 ^ (52 + ceZ (j + 1))) % (j + 1)))) (lN_mul 2 ((2 ^ (52 + ceZ (j + 1))) % (j + 1))) ?_
                refine lv_iload hx hb dL_parts_72 (lv_at hl 2 rfl) ?_
                refine lv_i2l hx hb dL_parts_74 rfl ?_
                refine ktopl (y := lN (j + 1)) (nI_l (by omega)) ?_
                refine W.lcmp hx hb dL_parts_75 ?_
                refine lv_if_le (tgt := 83) hx hb dL_parts_76 (by decide) (fun h_21 => ?_) (fun h_21 => ?_)
                · have h_21 : 2 * ((2 ^ (52 + ceZ (j + 1))) % (j + 1)) ≤ j + 1 := (lcN_le_t (by omega) (by omega)).mp h_21
                  refine lv_lconst (v := 0) hx hb dL_parts_83 (by decide) ?_
                  refine ktopl (y := lN 0) (by decide) ?_
                  refine lv_ladd hx hb dL_parts_84 ?_
                  refine ktopl (y := lN (((2 ^ (52 + ceZ (j + 1))) / (j + 1)) + 0)) (lN_add ((2 ^ (52 + ceZ (j + 1))) / (j + 1)) 0) ?_
                  refine ktopl (y := lN (ptZ (j + 1))) (congrArg lN (by unfold ptZ; rw [if_neg (by omega)])) ?_
                  exact JN_10   _ _ _ (kW.perm w [] rfl rfl) (lv_sub hl [1, 2, 3, 4, 5] rfl)
                · have h_21 : 2 * ((2 ^ (52 + ceZ (j + 1))) % (j + 1)) > j + 1 := (lcN_le_f (by omega) (by omega)).mp h_21
                  refine lv_lconst (v := 1) hx hb dL_parts_79 (by decide) ?_
                  refine ktopl (y := lN 1) (by decide) ?_
                  refine lv_goto (tgt := 84) hx hb dL_parts_80 (by decide) ?_
                  refine lv_ladd hx hb dL_parts_84 ?_
                  refine ktopl (y := lN (((2 ^ (52 + ceZ (j + 1))) / (j + 1)) + 1)) (lN_add ((2 ^ (52 + ceZ (j + 1))) / (j + 1)) 1) ?_
                  refine ktopl (y := lN (ptZ (j + 1))) (congrArg lN (by unfold ptZ; rw [if_pos (by omega)])) ?_
                  exact JN_10   _ _ _ (kW.perm w [] rfl rfl) (lv_sub hl [1, 2, 3, 4, 5] rfl)
              · have h_9 : 2 ^ c9 < j + 1 := (lcN_ge_f (by omega) (by omega)).mp h_9
                have hcl := (ceZ_lt (j + 1) (by omega) c9 (by omega)).mp h_9
                refine lv_iinc (v := mI c9 + -1) (lv' := [(6, .int (mI c9 + -1)), (5, .int (nI (j + 1))), (4, .int (iT (pS p9 j).2)), (2, .long (lN (pS p9 j).1)), (0, .long (zB p9))]) hx hb dL_parts_41 hl (k := 0) rfl (rfl) (by decide) rfl (fun ls hl => ?_)
                rw [mI_s] at hl
                refine lv_goto (tgt := 29) hx hb dL_parts_44 (by decide) ?_
                exact ih_8 (c9 + 1) (by omega) _ _ _ (by omega) (kW.perm w [] rfl rfl) (lv_sub hl [0, 1, 2, 3, 4] rfl)
          exact LP_8 _ 0 (by omega) _ _ _ (Nat.lt_succ_self _) (kW.perm w [] rfl rfl) (lv_sub hl [0, 1, 2, 3, 4] rfl)
  exact LP_1 _ 0 (by omega) _ _ _ (Nat.lt_succ_self _) (kW.perm w [] rfl rfl) (lv_sub hl [0, 1, 2, 3] rfl)
