/-! ===== the class: what it answers ===== -/
abbrev cX (x nw sn : Nat) (tk : Bool) (hs tx tr : Nat) : Nat × va_E := xO x 5 [.ref nw, .ref sn, .int (bI tk), .ref hs, .ref tx, .ref tr]
theorem zB_xor (p q : Nat → Bool) : zB p ^^^ zB q = zB (fun d => (p d ^^ q d)) := by
  refine zG_ext fun j _ => ?_
  rw [zG_xor, zG_B, zG_B, zG_B]
  cases decide (1 ≤ j) <;> cases decide (j ≤ 48) <;> simp
theorem shutP_b (σ : Sg) : zB (zF σ) &&& (zB (zO σ) ^^^ (-1)) = zB (shutP σ) := by
  refine zG_ext fun j hj => ?_
  rw [zG_and, zG_not _ _ hj, zG_B, zG_B, zG_B]
  unfold shutP
  cases decide (1 ≤ j) <;> cases decide (j ≤ 48) <;> cases zF σ j <;> cases zO σ j <;> rfl
theorem zodd_and (x : Int32) : x &&& nI 1 = bI (zodd x) := by
  unfold zodd
  have h1 : (nI 1) = (1 : Int32) := rfl
  rw [h1]
  apply Int32.toBitVec_inj.mp
  rw [Int32.toBitVec_and]
  refine BitVec.eq_of_getLsbD_eq fun j hj => ?_
  have e1 : (1 : Int32).toBitVec = BitVec.twoPow 32 0 := by decide
  rw [BitVec.getLsbD_and, e1, BitVec.getLsbD_twoPow]
  by_cases j0 : j = 0
  · subst j0
    cases x.toBitVec.getLsbD 0 <;> decide
  · have e2 : decide (0 = j) = false := decide_eq_false (fun h => j0 h.symm)
    rw [e2, Bool.and_false, Bool.and_false]
    cases x.toBitVec.getLsbD 0
    · show false = (0#32).getLsbD j; simp
    · show false = (bI true).toBitVec.getLsbD j
      have e3 : (bI true).toBitVec = BitVec.twoPow 32 0 := by decide
      rw [e3, BitVec.getLsbD_twoPow, e2, Bool.and_false]
theorem bI_nat (b : Bool) : bI b = nI (if b = true then 1 else 0) := by cases b <;> rfl
/-- squarefree quotients, counted mod 2 -/
def cdN (p : Nat → Bool) (k : Nat) : Nat → Bool
  | 0 => false
  | j + 1 => (cdN p k j ^^ (p (j + 1) && (decide (j + 1 ∣ k) && zsq (k / (j + 1)))))
def cdP (p : Nat → Bool) (k : Nat) : Bool := cdN p k 48
theorem cdN_f {p : Nat → Bool} {k j : Nat} (h : (p (j + 1) && (decide (j + 1 ∣ k) && zsq (k / (j + 1)))) = false) : cdN p k (j + 1) = cdN p k j := by rw [cdN, h, Bool.xor_false]
theorem cdN_t {p : Nat → Bool} {k j : Nat} (h : (p (j + 1) && (decide (j + 1 ∣ k) && zsq (k / (j + 1)))) = true) : cdN p k (j + 1) = !cdN p k j := by rw [cdN, h, Bool.xor_true]
section ROWS
variable {σ : Sg}
theorem turnL_L (d : Nat) : zL (turnL d σ) = zL σ := by unfold turnL; split <;> rfl
theorem turnL_S (d : Nat) : zS (turnL d σ) = zS σ := by unfold turnL; split <;> rfl
theorem passN_L (k : Nat) : ∀ j, zL (passN k j σ) = zL σ
  | 0 => rfl
  | j + 1 => by rw [passN, turnL_L, passN_L k j]
theorem passN_S (k : Nat) : ∀ j, zS (passN k j σ) = zS σ
  | 0 => rfl
  | j + 1 => by rw [passN, turnL_S, passN_S k j]
theorem passS_L (k : Nat) : zL (passS k σ) = zL σ := by rw [passS_time]; exact passN_L k _
theorem passS_S (k : Nat) : zS (passS k σ) = zS σ := by rw [passS_time]; exact passN_S k _
theorem rowN_L (n : Nat) : ∀ j, zL (rowN n j σ) = zL σ
  | 0 => rfl
  | j + 1 => by rw [rowN]; split; exact rowN_L n j; rw [passS_L, rowN_L n j]
theorem rowN_S (n : Nat) : ∀ j, zS (rowN n j σ) = zS σ
  | 0 => rfl
  | j + 1 => by rw [rowN]; split; exact rowN_S n j; rw [passS_S, rowN_S n j]
theorem turnL_O (d i : Nat) : zO (turnL d σ) i = (zO σ i ^^ (decide (i = d) && !zL σ d)) := by
  unfold turnL
  by_cases h : zL σ d = true
  · rw [if_pos h, h]; simp
  · rw [if_neg h]
    have h2 : zL σ d = false := by cases hz : zL σ d; rfl; exact absurd hz h
    rw [h2]
    show zodd (upd (zT σ) d (zT σ d + 1) i) = _
    by_cases e : i = d
    · subst e; rw [upd_s, zodd_1, decide_eq_true rfl]; simp [zO]
    · rw [upd_n e, decide_eq_false e]; simp [zO]
theorem passN_O {k : Nat} (hk : 1 ≤ k) (i : Nat) (hi : 1 ≤ i) : ∀ j, zO (passN k j σ) i = (zO σ i ^^ (mulP k (j + 1) i && !zL σ i))
  | 0 => by
    rw [passN]
    have e : mulP k (0 + 1) i = false := by
      unfold mulP
      cases hd : decide (k ∣ i)
      · rfl
      · have h2 : k ≤ i := Nat.le_of_dvd hi (of_decide_eq_true hd)
        have h3 : 1 ≤ i / k := (Nat.le_div_iff_mul_le hk).mpr (by omega)
        rw [show decide (i / k < 0 + 1) = false from decide_eq_false (by omega), Bool.and_false]
    rw [e]; simp
  | j + 1 => by
    rw [passN, turnL_O, passN_O hk i hi j, mulP_at (j := j + 1) hk, passN_L]
    by_cases e : i = (j + 1) * k
    · subst e; rw [mulP_no hk, decide_eq_true rfl]; simp
    · rw [decide_eq_false e]; simp
theorem passS_O {k : Nat} (hk : 1 ≤ k) {i : Nat} (h1 : 1 ≤ i) (h2 : i ≤ 48) : zO (passS k σ) i = (zO σ i ^^ turnP σ k i) := by
  have e : zO (passS k σ) i = zO (passN k (48 / k) σ) i := by rw [passS_time]; rfl
  rw [e, passN_O hk i h1]
  unfold turnP mulP mulA
  have h3 : i / k ≤ 48 / k := Nat.div_le_div_right h2
  rw [show decide (i / k < 48 / k + 1) = true from decide_eq_true (by omega), Bool.and_true]
theorem row_step {n j : Nat} (h1 : 1 ≤ n + j) (h : zS σ (n + j) = false) : zB (zO (rowN n j σ)) ^^^ zB (turnP σ (n + j)) = zB (zO (rowN n (j + 1) σ)) := by
  rw [zB_xor]
  refine zB_cong fun d p q => ?_
  rw [rowN_n (by rw [rowN_S]; exact h), passS_O h1 p q]
  unfold turnP
  rw [rowN_L]
theorem row_skip {n j : Nat} (h : zS σ (n + j) = true) : rowN n (j + 1) σ = rowN n j σ := rowN_t (by rw [rowN_S]; exact h)
end ROWS
theorem lN2 (T : Nat) : True := trivial
theorem xor_0 (x : Int64) : x ^^^ 0 = x := zG_ext fun j _ => by rw [zG_xor, zG_0, Bool.xor_false]
theorem or_0 (x : Int64) : x ||| 0 = x := zG_ext fun j _ => by rw [zG_or, zG_0, Bool.or_false]
theorem str_t {n t : Nat} (h : 1 ≤ n ∧ n ≤ t ∧ t ≤ 48) : decide (1 ≤ (nI n).toInt ∧ (nI n).toInt ≤ (nI t).toInt ∧ (nI t).toInt ≤ 48) = true := by
  rw [ki_n (by omega), ki_n (by omega), decide_eq_true_iff]; omega
abbrev rmJ13_bitCount_95d88 : Room := { frames := 0, cells := 0, slots := 0, locals := 0 }
set_option maxHeartbeats 4000000 in
set_option maxRecDepth 100000 in
theorem kJ13_bitCount_95d88 (l : Launch) (g : GG) (x : Int64) (sz : Nat)  : Met l yJ13_bitCount_95d88 wsJ13_bitCount_95d88 rmJ13_bitCount_95d88 (va_Pc [.long x] (kPre g [] sz)) (va_Qi (fun (r : Int32) (u : Unit) => r = zpop x) (kB g (va_A [] sz) (fun u => [])) (va_A [] sz)) 0 0 (va_A [] sz) := by
  refine kMet (cc := cJ13_bitCount_95d88) (maxL := 2) (ret := (some .int)) (own := RJ13) (by decide) rfl rfl (Nat.le_of_ble_eq_true rfl) ?_
  intro p e s m args below meth c ls Q H locs A F w hl hnm hA hQ
  have hx := F.1.1
  have hb := F.1.2.1
  have hts := F.1.2.2.2.2
  have hl : lv_has ls 2 [(0, .long x)] := hl
  refine lv_lload_n hx hb dJ13_bitCount_95d88_0 rfl (lv_at hl 0 rfl) ?_
  refine lv_lload_n hx hb dJ13_bitCount_95d88_1 rfl (lv_at hl 0 rfl) ?_
  refine lv_iconst (v := nI 1) hx hb dJ13_bitCount_95d88_2 (by decide) ?_
  refine lv_lushr hx hb dJ13_bitCount_95d88_3 rfl ?_
  refine lv_ldc2 (v := (6148914691236517205)) hx hb F.1.2.2.2.1 (hts (.constantLong RJ13 314 (6148914691236517205)) (by decide +kernel)) dJ13_bitCount_95d88_4 ?_
  refine lv_land hx hb dJ13_bitCount_95d88_7 ?_
  refine lv_lsub hx hb dJ13_bitCount_95d88_8 ?_
  refine ktopl (y := pc1 x) (rfl) ?_
  refine lv_lstore_n (lv' := [(0, .long (pc1 x))]) hx hb dJ13_bitCount_95d88_9 rfl hl (by decide) rfl (fun ls hl => ?_)
  refine lv_lload_n hx hb dJ13_bitCount_95d88_10 rfl (lv_at hl 0 rfl) ?_
  refine lv_ldc2 (v := (3689348814741910323)) hx hb F.1.2.2.2.1 (hts (.constantLong RJ13 316 (3689348814741910323)) (by decide +kernel)) dJ13_bitCount_95d88_11 ?_
  refine lv_land hx hb dJ13_bitCount_95d88_14 ?_
  refine lv_lload_n hx hb dJ13_bitCount_95d88_15 rfl (lv_at hl 0 rfl) ?_
  refine lv_iconst (v := nI 2) hx hb dJ13_bitCount_95d88_16 (by decide) ?_
  refine lv_lushr hx hb dJ13_bitCount_95d88_17 rfl ?_
  refine lv_ldc2 (v := (3689348814741910323)) hx hb F.1.2.2.2.1 (hts (.constantLong RJ13 316 (3689348814741910323)) (by decide +kernel)) dJ13_bitCount_95d88_18 ?_
  refine lv_land hx hb dJ13_bitCount_95d88_21 ?_
  refine lv_ladd hx hb dJ13_bitCount_95d88_22 ?_
  refine ktopl (y := pc2 (pc1 x)) (rfl) ?_
  refine lv_lstore_n (lv' := [(0, .long (pc2 (pc1 x)))]) hx hb dJ13_bitCount_95d88_23 rfl hl (by decide) rfl (fun ls hl => ?_)
  refine lv_lload_n hx hb dJ13_bitCount_95d88_24 rfl (lv_at hl 0 rfl) ?_
  refine lv_lload_n hx hb dJ13_bitCount_95d88_25 rfl (lv_at hl 0 rfl) ?_
  refine lv_iconst (v := nI 4) hx hb dJ13_bitCount_95d88_26 (by decide) ?_
  refine lv_lushr hx hb dJ13_bitCount_95d88_27 rfl ?_
  refine lv_ladd hx hb dJ13_bitCount_95d88_28 ?_
  refine lv_ldc2 (v := (1085102592571150095)) hx hb F.1.2.2.2.1 (hts (.constantLong RJ13 318 (1085102592571150095)) (by decide +kernel)) dJ13_bitCount_95d88_29 ?_
  refine lv_land hx hb dJ13_bitCount_95d88_32 ?_
  refine ktopl (y := pc3 (pc2 (pc1 x))) (rfl) ?_
  refine lv_lstore_n (lv' := [(0, .long (pc3 (pc2 (pc1 x))))]) hx hb dJ13_bitCount_95d88_33 rfl hl (by decide) rfl (fun ls hl => ?_)
  refine lv_lload_n hx hb dJ13_bitCount_95d88_34 rfl (lv_at hl 0 rfl) ?_
  refine lv_lload_n hx hb dJ13_bitCount_95d88_35 rfl (lv_at hl 0 rfl) ?_
  refine lv_bipush (v := nI 8) hx hb dJ13_bitCount_95d88_36 (by decide) ?_
  refine lv_lushr hx hb dJ13_bitCount_95d88_38 rfl ?_
  refine lv_ladd hx hb dJ13_bitCount_95d88_39 ?_
  refine ktopl (y := pc4 (pc3 (pc2 (pc1 x)))) (rfl) ?_
  refine lv_lstore_n (lv' := [(0, .long (pc4 (pc3 (pc2 (pc1 x)))))]) hx hb dJ13_bitCount_95d88_40 rfl hl (by decide) rfl (fun ls hl => ?_)
  refine lv_lload_n hx hb dJ13_bitCount_95d88_41 rfl (lv_at hl 0 rfl) ?_
  refine lv_lload_n hx hb dJ13_bitCount_95d88_42 rfl (lv_at hl 0 rfl) ?_
  refine lv_bipush (v := nI 16) hx hb dJ13_bitCount_95d88_43 (by decide) ?_
  refine lv_lushr hx hb dJ13_bitCount_95d88_45 rfl ?_
  refine lv_ladd hx hb dJ13_bitCount_95d88_46 ?_
  refine ktopl (y := pc5 (pc4 (pc3 (pc2 (pc1 x))))) (rfl) ?_
  refine lv_lstore_n (lv' := [(0, .long (pc5 (pc4 (pc3 (pc2 (pc1 x))))))]) hx hb dJ13_bitCount_95d88_47 rfl hl (by decide) rfl (fun ls hl => ?_)
  refine lv_lload_n hx hb dJ13_bitCount_95d88_48 rfl (lv_at hl 0 rfl) ?_
  refine lv_lload_n hx hb dJ13_bitCount_95d88_49 rfl (lv_at hl 0 rfl) ?_
  refine lv_bipush (v := nI 32) hx hb dJ13_bitCount_95d88_50 (by decide) ?_
  refine lv_lushr hx hb dJ13_bitCount_95d88_52 rfl ?_
  refine lv_ladd hx hb dJ13_bitCount_95d88_53 ?_
  refine ktopl (y := pc6 (pc5 (pc4 (pc3 (pc2 (pc1 x)))))) (rfl) ?_
  refine lv_lstore_n (lv' := [(0, .long (pc6 (pc5 (pc4 (pc3 (pc2 (pc1 x)))))))]) hx hb dJ13_bitCount_95d88_54 rfl hl (by decide) rfl (fun ls hl => ?_)
  refine lv_lload_n hx hb dJ13_bitCount_95d88_55 rfl (lv_at hl 0 rfl) ?_
  refine lv_l2i hx hb dJ13_bitCount_95d88_56 rfl ?_
  refine lv_bipush (v := nI 127) hx hb dJ13_bitCount_95d88_57 (by decide) ?_
  refine lv_iand hx hb dJ13_bitCount_95d88_59 ?_
  refine ktopi (y := zpop x) (rfl) ?_
  subst hA
  subst hQ
  exact kreti F w () [] rfl rfl (rfl) (Nat.le_of_ble_eq_true rfl) (Nat.le_of_ble_eq_true rfl) dJ13_bitCount_95d88_60
theorem in_X5_isOpen_X2 : ∀ w ∈ wsX20, w ∈ wsX5_isOpen := by decide +kernel
theorem in_X5_isOpen_X5 : ∀ w ∈ wsX50, w ∈ wsX5_isOpen := by decide +kernel
abbrev rmX5_isOpen_k : Room := { frames := 1, cells := 0, slots := 0, locals := 22 }
set_option maxHeartbeats 4000000 in
set_option maxRecDepth 100000 in
theorem kX5_isOpen_k (l : Launch) (g : GG) (x : Nat) (nw : Nat) (sn : Nat) (tk : Bool) (hs : Nat) (tx : Nat) (tr : Nat) (na : Nat) (nb : Nat) (σ : Sg) (d : Nat) (sz : Nat) (hd : 1 ≤ d ∧ d ≤ 48) : Met l yX5_isOpen wsX5_isOpen rmX5_isOpen_k (va_Pc [.ref x, .int (nI d)] (kPre g [cX x nw sn tk hs tx tr, cR nw na nb σ, xI g na 49 (zT σ), xI g nb 49 (zI σ)] sz)) (va_Qi (fun (r : Int32) (u : Unit) => r = bI (zO σ d)) (kB g (va_A [cX x nw sn tk hs tx tr, cR nw na nb σ, xI g na 49 (zT σ), xI g nb 49 (zI σ)] sz) (fun u => [cX x nw sn tk hs tx tr, cR nw na nb σ, xI g na 49 (zT σ), xI g nb 49 (zI σ)])) (va_A [cX x nw sn tk hs tx tr, cR nw na nb σ, xI g na 49 (zT σ), xI g nb 49 (zI σ)] sz)) 0 0 (va_A [cX x nw sn tk hs tx tr, cR nw na nb σ, xI g na 49 (zT σ), xI g nb 49 (zI σ)] sz) := by
  refine kMet (cc := cX5_isOpen) (maxL := 2) (ret := (some .boolean)) (own := RX5) (by decide) rfl rfl (Nat.le_of_ble_eq_true rfl) ?_
  intro p e s m args below meth c ls Q H locs A F w hl hnm hA hQ
  have hx := F.1.1
  have hb := F.1.2.1
  have hts := F.1.2.2.2.2
  have hl : lv_has ls 2 [(0, .ref x), (1, .int (nI d))] := hl
  refine lv_iload_n hx hb dX5_isOpen_0 rfl (lv_at hl 1 rfl) ?_
  refine kcalli (wc := []) (wr := [cX x nw sn tk hs tx tr, cR nw na nb σ, xI g na 49 (zT σ), xI g nb 49 (zI σ)]) (wn := fun (u : Unit) => [cX x nw sn tk hs tx tr, cR nw na nb σ, xI g na 49 (zT σ), xI g nb 49 (zI σ)]) F w [] [0, 1, 2, 3] [0, 1, 2, 3] rfl rfl rfl (fun _ => rfl)
    (fun hp => va_runS (As := [.int (nI d)]) (rest := []) F.1 (kX5_isInRow l g (nI d) H.size ) (va_cwS 1 hts gX5_isOpen_X5_isInRow rfl rfl rfl hd_X5_isInRow ⟨Nat.le_of_ble_eq_true rfl, Nat.le_of_ble_eq_true rfl⟩) hp rfl rfl hl.1 rfl (lv_room (Nat.le_of_ble_eq_true rfl)) dX5_isOpen_1 ⟨Nat.le_of_ble_eq_true rfl, Nat.le_of_ble_eq_true rfl⟩)
    (fun r_1 _ H locs h_2 w => ?_)
  subst h_2
  refine ktopi (y := bI true) (congrArg bI (door_t hd)) ?_
  refine lv_if_ne (tgt := 17) hx hb dX5_isOpen_4 (by decide) (fun h_3 => ?_) (fun h_3 => ?_)
  · have h_3 : true = true := bI_o.mp h_3
    refine lv_aload_n hx hb dX5_isOpen_17 rfl (lv_at hl 0 rfl) ?_
    refine kget (fs := [.ref nw, .ref sn, .int (bI tk), .ref hs, .ref tx, .ref tr]) F w in_X5_isOpen_X5 0 rfl rfl 0 (by decide) (by decide +kernel) rfl rfl dX5_isOpen_18 ?_
    refine kgetN (host := RX5) (fs := [.long (zB (zO σ)), .long (zB (zL σ)), .long (zB (zS σ)), .long (zB (zF σ)), .long (zB (zV σ)), .ref na, .ref nb]) F w in_X5_isOpen_X2 1 rfl rfl 0 (by decide) (by decide +kernel) rfl rfl dX5_isOpen_21 ?_
    refine lv_iload_n hx hb dX5_isOpen_24 rfl (lv_at hl 1 rfl) ?_
    refine kcalli (wc := []) (wr := [cX x nw sn tk hs tx tr, cR nw na nb σ, xI g na 49 (zT σ), xI g nb 49 (zI σ)]) (wn := fun (u : Unit) => [cX x nw sn tk hs tx tr, cR nw na nb σ, xI g na 49 (zT σ), xI g nb 49 (zI σ)]) F w [] [0, 1, 2, 3] [0, 1, 2, 3] rfl rfl rfl (fun _ => rfl)
      (fun hp => va_runS (As := [.long (zB (zO σ)), .int (nI d)]) (rest := []) F.1 (kX5_contains l g (zB (zO σ)) d H.size (by omega)) (va_cwS 2 hts gX5_isOpen_X5_contains rfl rfl rfl hd_X5_contains ⟨Nat.le_of_ble_eq_true rfl, Nat.le_of_ble_eq_true rfl⟩) hp rfl rfl hl.1 rfl (lv_room (Nat.le_of_ble_eq_true rfl)) dX5_isOpen_25 ⟨Nat.le_of_ble_eq_true rfl, Nat.le_of_ble_eq_true rfl⟩)
      (fun r_4 _ H locs h_5 w => ?_)
    subst h_5
    refine ktopi (y := bI (zO σ d)) (congrArg bI (zG_in hd.1 hd.2)) ?_
    subst hA
    subst hQ
    exact kretz F w () [0, 1, 2, 3] rfl rfl (rfl) (kz_n _) (Nat.le_of_ble_eq_true rfl) (Nat.le_of_ble_eq_true rfl) dX5_isOpen_28
  · have h_3 : true = false := bI_z.mp h_3
    exact absurd h_3 (by simp)
theorem in_X5_isLocked_X2 : ∀ w ∈ wsX20, w ∈ wsX5_isLocked := by decide +kernel
theorem in_X5_isLocked_X5 : ∀ w ∈ wsX50, w ∈ wsX5_isLocked := by decide +kernel
abbrev rmX5_isLocked_k : Room := { frames := 1, cells := 0, slots := 0, locals := 22 }
set_option maxHeartbeats 4000000 in
set_option maxRecDepth 100000 in
theorem kX5_isLocked_k (l : Launch) (g : GG) (x : Nat) (nw : Nat) (sn : Nat) (tk : Bool) (hs : Nat) (tx : Nat) (tr : Nat) (na : Nat) (nb : Nat) (σ : Sg) (d : Nat) (sz : Nat) (hd : 1 ≤ d ∧ d ≤ 48) : Met l yX5_isLocked wsX5_isLocked rmX5_isLocked_k (va_Pc [.ref x, .int (nI d)] (kPre g [cX x nw sn tk hs tx tr, cR nw na nb σ, xI g na 49 (zT σ), xI g nb 49 (zI σ)] sz)) (va_Qi (fun (r : Int32) (u : Unit) => r = bI (zL σ d)) (kB g (va_A [cX x nw sn tk hs tx tr, cR nw na nb σ, xI g na 49 (zT σ), xI g nb 49 (zI σ)] sz) (fun u => [cX x nw sn tk hs tx tr, cR nw na nb σ, xI g na 49 (zT σ), xI g nb 49 (zI σ)])) (va_A [cX x nw sn tk hs tx tr, cR nw na nb σ, xI g na 49 (zT σ), xI g nb 49 (zI σ)] sz)) 0 0 (va_A [cX x nw sn tk hs tx tr, cR nw na nb σ, xI g na 49 (zT σ), xI g nb 49 (zI σ)] sz) := by
  refine kMet (cc := cX5_isLocked) (maxL := 2) (ret := (some .boolean)) (own := RX5) (by decide) rfl rfl (Nat.le_of_ble_eq_true rfl) ?_
  intro p e s m args below meth c ls Q H locs A F w hl hnm hA hQ
  have hx := F.1.1
  have hb := F.1.2.1
  have hts := F.1.2.2.2.2
  have hl : lv_has ls 2 [(0, .ref x), (1, .int (nI d))] := hl
  refine lv_iload_n hx hb dX5_isLocked_0 rfl (lv_at hl 1 rfl) ?_
  refine kcalli (wc := []) (wr := [cX x nw sn tk hs tx tr, cR nw na nb σ, xI g na 49 (zT σ), xI g nb 49 (zI σ)]) (wn := fun (u : Unit) => [cX x nw sn tk hs tx tr, cR nw na nb σ, xI g na 49 (zT σ), xI g nb 49 (zI σ)]) F w [] [0, 1, 2, 3] [0, 1, 2, 3] rfl rfl rfl (fun _ => rfl)
    (fun hp => va_runS (As := [.int (nI d)]) (rest := []) F.1 (kX5_isInRow l g (nI d) H.size ) (va_cwS 1 hts gX5_isLocked_X5_isInRow rfl rfl rfl hd_X5_isInRow ⟨Nat.le_of_ble_eq_true rfl, Nat.le_of_ble_eq_true rfl⟩) hp rfl rfl hl.1 rfl (lv_room (Nat.le_of_ble_eq_true rfl)) dX5_isLocked_1 ⟨Nat.le_of_ble_eq_true rfl, Nat.le_of_ble_eq_true rfl⟩)
    (fun r_1 _ H locs h_2 w => ?_)
  subst h_2
  refine ktopi (y := bI true) (congrArg bI (door_t hd)) ?_
  refine lv_if_ne (tgt := 17) hx hb dX5_isLocked_4 (by decide) (fun h_3 => ?_) (fun h_3 => ?_)
  · have h_3 : true = true := bI_o.mp h_3
    refine lv_aload_n hx hb dX5_isLocked_17 rfl (lv_at hl 0 rfl) ?_
    refine kget (fs := [.ref nw, .ref sn, .int (bI tk), .ref hs, .ref tx, .ref tr]) F w in_X5_isLocked_X5 0 rfl rfl 0 (by decide) (by decide +kernel) rfl rfl dX5_isLocked_18 ?_
    refine kgetN (host := RX5) (fs := [.long (zB (zO σ)), .long (zB (zL σ)), .long (zB (zS σ)), .long (zB (zF σ)), .long (zB (zV σ)), .ref na, .ref nb]) F w in_X5_isLocked_X2 1 rfl rfl 1 (by decide) (by decide +kernel) rfl rfl dX5_isLocked_21 ?_
    refine lv_iload_n hx hb dX5_isLocked_24 rfl (lv_at hl 1 rfl) ?_
    refine kcalli (wc := []) (wr := [cX x nw sn tk hs tx tr, cR nw na nb σ, xI g na 49 (zT σ), xI g nb 49 (zI σ)]) (wn := fun (u : Unit) => [cX x nw sn tk hs tx tr, cR nw na nb σ, xI g na 49 (zT σ), xI g nb 49 (zI σ)]) F w [] [0, 1, 2, 3] [0, 1, 2, 3] rfl rfl rfl (fun _ => rfl)
      (fun hp => va_runS (As := [.long (zB (zL σ)), .int (nI d)]) (rest := []) F.1 (kX5_contains l g (zB (zL σ)) d H.size (by omega)) (va_cwS 2 hts gX5_isLocked_X5_contains rfl rfl rfl hd_X5_contains ⟨Nat.le_of_ble_eq_true rfl, Nat.le_of_ble_eq_true rfl⟩) hp rfl rfl hl.1 rfl (lv_room (Nat.le_of_ble_eq_true rfl)) dX5_isLocked_25 ⟨Nat.le_of_ble_eq_true rfl, Nat.le_of_ble_eq_true rfl⟩)
      (fun r_4 _ H locs h_5 w => ?_)
    subst h_5
    refine ktopi (y := bI (zL σ d)) (congrArg bI (zG_in hd.1 hd.2)) ?_
    subst hA
    subst hQ
    exact kretz F w () [0, 1, 2, 3] rfl rfl (rfl) (kz_n _) (Nat.le_of_ble_eq_true rfl) (Nat.le_of_ble_eq_true rfl) dX5_isLocked_28
  · have h_3 : true = false := bI_z.mp h_3
    exact absurd h_3 (by simp)
theorem in_X5_isSkipped_X2 : ∀ w ∈ wsX20, w ∈ wsX5_isSkipped := by decide +kernel
theorem in_X5_isSkipped_X5 : ∀ w ∈ wsX50, w ∈ wsX5_isSkipped := by decide +kernel
abbrev rmX5_isSkipped_k : Room := { frames := 1, cells := 0, slots := 0, locals := 22 }
set_option maxHeartbeats 4000000 in
set_option maxRecDepth 100000 in
theorem kX5_isSkipped_k (l : Launch) (g : GG) (x : Nat) (nw : Nat) (sn : Nat) (tk : Bool) (hs : Nat) (tx : Nat) (tr : Nat) (na : Nat) (nb : Nat) (σ : Sg) (d : Nat) (sz : Nat) (hd : 1 ≤ d ∧ d ≤ 48) : Met l yX5_isSkipped wsX5_isSkipped rmX5_isSkipped_k (va_Pc [.ref x, .int (nI d)] (kPre g [cX x nw sn tk hs tx tr, cR nw na nb σ, xI g na 49 (zT σ), xI g nb 49 (zI σ)] sz)) (va_Qi (fun (r : Int32) (u : Unit) => r = bI (zS σ d)) (kB g (va_A [cX x nw sn tk hs tx tr, cR nw na nb σ, xI g na 49 (zT σ), xI g nb 49 (zI σ)] sz) (fun u => [cX x nw sn tk hs tx tr, cR nw na nb σ, xI g na 49 (zT σ), xI g nb 49 (zI σ)])) (va_A [cX x nw sn tk hs tx tr, cR nw na nb σ, xI g na 49 (zT σ), xI g nb 49 (zI σ)] sz)) 0 0 (va_A [cX x nw sn tk hs tx tr, cR nw na nb σ, xI g na 49 (zT σ), xI g nb 49 (zI σ)] sz) := by
  refine kMet (cc := cX5_isSkipped) (maxL := 2) (ret := (some .boolean)) (own := RX5) (by decide) rfl rfl (Nat.le_of_ble_eq_true rfl) ?_
  intro p e s m args below meth c ls Q H locs A F w hl hnm hA hQ
  have hx := F.1.1
  have hb := F.1.2.1
  have hts := F.1.2.2.2.2
  have hl : lv_has ls 2 [(0, .ref x), (1, .int (nI d))] := hl
  refine lv_iload_n hx hb dX5_isSkipped_0 rfl (lv_at hl 1 rfl) ?_
  refine kcalli (wc := []) (wr := [cX x nw sn tk hs tx tr, cR nw na nb σ, xI g na 49 (zT σ), xI g nb 49 (zI σ)]) (wn := fun (u : Unit) => [cX x nw sn tk hs tx tr, cR nw na nb σ, xI g na 49 (zT σ), xI g nb 49 (zI σ)]) F w [] [0, 1, 2, 3] [0, 1, 2, 3] rfl rfl rfl (fun _ => rfl)
    (fun hp => va_runS (As := [.int (nI d)]) (rest := []) F.1 (kX5_isInRow l g (nI d) H.size ) (va_cwS 1 hts gX5_isSkipped_X5_isInRow rfl rfl rfl hd_X5_isInRow ⟨Nat.le_of_ble_eq_true rfl, Nat.le_of_ble_eq_true rfl⟩) hp rfl rfl hl.1 rfl (lv_room (Nat.le_of_ble_eq_true rfl)) dX5_isSkipped_1 ⟨Nat.le_of_ble_eq_true rfl, Nat.le_of_ble_eq_true rfl⟩)
    (fun r_1 _ H locs h_2 w => ?_)
  subst h_2
  refine ktopi (y := bI true) (congrArg bI (door_t hd)) ?_
  refine lv_if_ne (tgt := 17) hx hb dX5_isSkipped_4 (by decide) (fun h_3 => ?_) (fun h_3 => ?_)
  · have h_3 : true = true := bI_o.mp h_3
    refine lv_aload_n hx hb dX5_isSkipped_17 rfl (lv_at hl 0 rfl) ?_
    refine kget (fs := [.ref nw, .ref sn, .int (bI tk), .ref hs, .ref tx, .ref tr]) F w in_X5_isSkipped_X5 0 rfl rfl 0 (by decide) (by decide +kernel) rfl rfl dX5_isSkipped_18 ?_
    refine kgetN (host := RX5) (fs := [.long (zB (zO σ)), .long (zB (zL σ)), .long (zB (zS σ)), .long (zB (zF σ)), .long (zB (zV σ)), .ref na, .ref nb]) F w in_X5_isSkipped_X2 1 rfl rfl 2 (by decide) (by decide +kernel) rfl rfl dX5_isSkipped_21 ?_
    refine lv_iload_n hx hb dX5_isSkipped_24 rfl (lv_at hl 1 rfl) ?_
    refine kcalli (wc := []) (wr := [cX x nw sn tk hs tx tr, cR nw na nb σ, xI g na 49 (zT σ), xI g nb 49 (zI σ)]) (wn := fun (u : Unit) => [cX x nw sn tk hs tx tr, cR nw na nb σ, xI g na 49 (zT σ), xI g nb 49 (zI σ)]) F w [] [0, 1, 2, 3] [0, 1, 2, 3] rfl rfl rfl (fun _ => rfl)
      (fun hp => va_runS (As := [.long (zB (zS σ)), .int (nI d)]) (rest := []) F.1 (kX5_contains l g (zB (zS σ)) d H.size (by omega)) (va_cwS 2 hts gX5_isSkipped_X5_contains rfl rfl rfl hd_X5_contains ⟨Nat.le_of_ble_eq_true rfl, Nat.le_of_ble_eq_true rfl⟩) hp rfl rfl hl.1 rfl (lv_room (Nat.le_of_ble_eq_true rfl)) dX5_isSkipped_25 ⟨Nat.le_of_ble_eq_true rfl, Nat.le_of_ble_eq_true rfl⟩)
      (fun r_4 _ H locs h_5 w => ?_)
    subst h_5
    refine ktopi (y := bI (zS σ d)) (congrArg bI (zG_in hd.1 hd.2)) ?_
    subst hA
    subst hQ
    exact kretz F w () [0, 1, 2, 3] rfl rfl (rfl) (kz_n _) (Nat.le_of_ble_eq_true rfl) (Nat.le_of_ble_eq_true rfl) dX5_isSkipped_28
  · have h_3 : true = false := bI_z.mp h_3
    exact absurd h_3 (by simp)
theorem in_X5_turnsOf_X2 : ∀ w ∈ wsX20, w ∈ wsX5_turnsOf := by decide +kernel
theorem in_X5_turnsOf_X5 : ∀ w ∈ wsX50, w ∈ wsX5_turnsOf := by decide +kernel
theorem hd_X5_countAt : yX5_countAt.cls ≠ "java/lang/invoke/MethodHandle" ∧ yX5_countAt.cls ≠ "java/lang/invoke/VarHandle" ∧ (parseMethodDescriptor yX5_countAt.desc).map (fun d => d.parameters.length) = some 2 := by decide +kernel
abbrev rmX5_turnsOf_k : Room := { frames := 1, cells := 0, slots := 0, locals := 21 }
set_option maxHeartbeats 4000000 in
set_option maxRecDepth 100000 in
theorem kX5_turnsOf_k (l : Launch) (g : GG) (x : Nat) (nw : Nat) (sn : Nat) (tk : Bool) (hs : Nat) (tx : Nat) (tr : Nat) (na : Nat) (nb : Nat) (σ : Sg) (d : Nat) (sz : Nat) (hd : 1 ≤ d ∧ d ≤ 48) : Met l yX5_turnsOf wsX5_turnsOf rmX5_turnsOf_k (va_Pc [.ref x, .int (nI d)] (kPre g [cX x nw sn tk hs tx tr, cR nw na nb σ, xI g na 49 (zT σ), xI g nb 49 (zI σ)] sz)) (va_Qi (fun (r : Int32) (u : Unit) => r = zT σ d) (kB g (va_A [cX x nw sn tk hs tx tr, cR nw na nb σ, xI g na 49 (zT σ), xI g nb 49 (zI σ)] sz) (fun u => [cX x nw sn tk hs tx tr, cR nw na nb σ, xI g na 49 (zT σ), xI g nb 49 (zI σ)])) (va_A [cX x nw sn tk hs tx tr, cR nw na nb σ, xI g na 49 (zT σ), xI g nb 49 (zI σ)] sz)) 0 0 (va_A [cX x nw sn tk hs tx tr, cR nw na nb σ, xI g na 49 (zT σ), xI g nb 49 (zI σ)] sz) := by
  refine kMet (cc := cX5_turnsOf) (maxL := 2) (ret := (some .int)) (own := RX5) (by decide) rfl rfl (Nat.le_of_ble_eq_true rfl) ?_
  intro p e s m args below meth c ls Q H locs A F w hl hnm hA hQ
  have hx := F.1.1
  have hb := F.1.2.1
  have hts := F.1.2.2.2.2
  have hl : lv_has ls 2 [(0, .ref x), (1, .int (nI d))] := hl
  refine lv_iload_n hx hb dX5_turnsOf_0 rfl (lv_at hl 1 rfl) ?_
  refine kcalli (wc := []) (wr := [cX x nw sn tk hs tx tr, cR nw na nb σ, xI g na 49 (zT σ), xI g nb 49 (zI σ)]) (wn := fun (u : Unit) => [cX x nw sn tk hs tx tr, cR nw na nb σ, xI g na 49 (zT σ), xI g nb 49 (zI σ)]) F w [] [0, 1, 2, 3] [0, 1, 2, 3] rfl rfl rfl (fun _ => rfl)
    (fun hp => va_runS (As := [.int (nI d)]) (rest := []) F.1 (kX5_isInRow l g (nI d) H.size ) (va_cwS 1 hts gX5_turnsOf_X5_isInRow rfl rfl rfl hd_X5_isInRow ⟨Nat.le_of_ble_eq_true rfl, Nat.le_of_ble_eq_true rfl⟩) hp rfl rfl hl.1 rfl (lv_room (Nat.le_of_ble_eq_true rfl)) dX5_turnsOf_1 ⟨Nat.le_of_ble_eq_true rfl, Nat.le_of_ble_eq_true rfl⟩)
    (fun r_1 _ H locs h_2 w => ?_)
  subst h_2
  refine ktopi (y := bI true) (congrArg bI (door_t hd)) ?_
  refine lv_if_ne (tgt := 17) hx hb dX5_turnsOf_4 (by decide) (fun h_3 => ?_) (fun h_3 => ?_)
  · have h_3 : true = true := bI_o.mp h_3
    refine lv_aload_n hx hb dX5_turnsOf_17 rfl (lv_at hl 0 rfl) ?_
    refine kget (fs := [.ref nw, .ref sn, .int (bI tk), .ref hs, .ref tx, .ref tr]) F w in_X5_turnsOf_X5 0 rfl rfl 0 (by decide) (by decide +kernel) rfl rfl dX5_turnsOf_18 ?_
    refine kgetN (host := RX5) (fs := [.long (zB (zO σ)), .long (zB (zL σ)), .long (zB (zS σ)), .long (zB (zF σ)), .long (zB (zV σ)), .ref na, .ref nb]) F w in_X5_turnsOf_X2 1 rfl rfl 5 (by decide) (by decide +kernel) rfl rfl dX5_turnsOf_21 ?_
    refine lv_iload_n hx hb dX5_turnsOf_24 rfl (lv_at hl 1 rfl) ?_
    refine kcalli (wc := [xI g na 49 (zT σ)]) (wr := [cX x nw sn tk hs tx tr, cR nw na nb σ, xI g nb 49 (zI σ)]) (wn := fun (u : Unit) => [cX x nw sn tk hs tx tr, cR nw na nb σ, xI g na 49 (zT σ), xI g nb 49 (zI σ)]) F w [2] [0, 1, 3] [0, 1, 3, 2] rfl rfl rfl (fun _ => rfl)
      (fun hp => va_runS (As := [.ref na, .int (nI d)]) (rest := []) F.1 (kX5_countAt l g na (zT σ) d H.size (by omega)) (va_cwS 2 hts gX5_turnsOf_X5_countAt rfl rfl rfl hd_X5_countAt ⟨Nat.le_of_ble_eq_true rfl, Nat.le_of_ble_eq_true rfl⟩) hp rfl rfl hl.1 rfl (lv_room (Nat.le_of_ble_eq_true rfl)) dX5_turnsOf_25 ⟨Nat.le_of_ble_eq_true rfl, Nat.le_of_ble_eq_true rfl⟩)
      (fun r_4 _ H locs h_5 w => ?_)
    subst h_5
    subst hA
    subst hQ
    exact kreti F w () [0, 1, 2, 3] rfl rfl (rfl) (Nat.le_of_ble_eq_true rfl) (Nat.le_of_ble_eq_true rfl) dX5_turnsOf_28
  · have h_3 : true = false := bI_z.mp h_3
    exact absurd h_3 (by simp)
theorem in_X5_timesOf_X2 : ∀ w ∈ wsX20, w ∈ wsX5_timesOf := by decide +kernel
theorem in_X5_timesOf_X5 : ∀ w ∈ wsX50, w ∈ wsX5_timesOf := by decide +kernel
abbrev rmX5_timesOf_k : Room := { frames := 1, cells := 0, slots := 0, locals := 21 }
set_option maxHeartbeats 4000000 in
set_option maxRecDepth 100000 in
theorem kX5_timesOf_k (l : Launch) (g : GG) (x : Nat) (nw : Nat) (sn : Nat) (tk : Bool) (hs : Nat) (tx : Nat) (tr : Nat) (na : Nat) (nb : Nat) (σ : Sg) (d : Nat) (sz : Nat) (hd : 1 ≤ d ∧ d ≤ 48) : Met l yX5_timesOf wsX5_timesOf rmX5_timesOf_k (va_Pc [.ref x, .int (nI d)] (kPre g [cX x nw sn tk hs tx tr, cR nw na nb σ, xI g na 49 (zT σ), xI g nb 49 (zI σ)] sz)) (va_Qi (fun (r : Int32) (u : Unit) => r = zI σ d) (kB g (va_A [cX x nw sn tk hs tx tr, cR nw na nb σ, xI g na 49 (zT σ), xI g nb 49 (zI σ)] sz) (fun u => [cX x nw sn tk hs tx tr, cR nw na nb σ, xI g na 49 (zT σ), xI g nb 49 (zI σ)])) (va_A [cX x nw sn tk hs tx tr, cR nw na nb σ, xI g na 49 (zT σ), xI g nb 49 (zI σ)] sz)) 0 0 (va_A [cX x nw sn tk hs tx tr, cR nw na nb σ, xI g na 49 (zT σ), xI g nb 49 (zI σ)] sz) := by
  refine kMet (cc := cX5_timesOf) (maxL := 2) (ret := (some .int)) (own := RX5) (by decide) rfl rfl (Nat.le_of_ble_eq_true rfl) ?_
  intro p e s m args below meth c ls Q H locs A F w hl hnm hA hQ
  have hx := F.1.1
  have hb := F.1.2.1
  have hts := F.1.2.2.2.2
  have hl : lv_has ls 2 [(0, .ref x), (1, .int (nI d))] := hl
  refine lv_iload_n hx hb dX5_timesOf_0 rfl (lv_at hl 1 rfl) ?_
  refine kcalli (wc := []) (wr := [cX x nw sn tk hs tx tr, cR nw na nb σ, xI g na 49 (zT σ), xI g nb 49 (zI σ)]) (wn := fun (u : Unit) => [cX x nw sn tk hs tx tr, cR nw na nb σ, xI g na 49 (zT σ), xI g nb 49 (zI σ)]) F w [] [0, 1, 2, 3] [0, 1, 2, 3] rfl rfl rfl (fun _ => rfl)
    (fun hp => va_runS (As := [.int (nI d)]) (rest := []) F.1 (kX5_isInRow l g (nI d) H.size ) (va_cwS 1 hts gX5_timesOf_X5_isInRow rfl rfl rfl hd_X5_isInRow ⟨Nat.le_of_ble_eq_true rfl, Nat.le_of_ble_eq_true rfl⟩) hp rfl rfl hl.1 rfl (lv_room (Nat.le_of_ble_eq_true rfl)) dX5_timesOf_1 ⟨Nat.le_of_ble_eq_true rfl, Nat.le_of_ble_eq_true rfl⟩)
    (fun r_1 _ H locs h_2 w => ?_)
  subst h_2
  refine ktopi (y := bI true) (congrArg bI (door_t hd)) ?_
  refine lv_if_ne (tgt := 17) hx hb dX5_timesOf_4 (by decide) (fun h_3 => ?_) (fun h_3 => ?_)
  · have h_3 : true = true := bI_o.mp h_3
    refine lv_aload_n hx hb dX5_timesOf_17 rfl (lv_at hl 0 rfl) ?_
    refine kget (fs := [.ref nw, .ref sn, .int (bI tk), .ref hs, .ref tx, .ref tr]) F w in_X5_timesOf_X5 0 rfl rfl 0 (by decide) (by decide +kernel) rfl rfl dX5_timesOf_18 ?_
    refine kgetN (host := RX5) (fs := [.long (zB (zO σ)), .long (zB (zL σ)), .long (zB (zS σ)), .long (zB (zF σ)), .long (zB (zV σ)), .ref na, .ref nb]) F w in_X5_timesOf_X2 1 rfl rfl 6 (by decide) (by decide +kernel) rfl rfl dX5_timesOf_21 ?_
    refine lv_iload_n hx hb dX5_timesOf_24 rfl (lv_at hl 1 rfl) ?_
    refine kcalli (wc := [xI g nb 49 (zI σ)]) (wr := [cX x nw sn tk hs tx tr, cR nw na nb σ, xI g na 49 (zT σ)]) (wn := fun (u : Unit) => [cX x nw sn tk hs tx tr, cR nw na nb σ, xI g na 49 (zT σ), xI g nb 49 (zI σ)]) F w [3] [0, 1, 2] [0, 1, 2, 3] rfl rfl rfl (fun _ => rfl)
      (fun hp => va_runS (As := [.ref nb, .int (nI d)]) (rest := []) F.1 (kX5_countAt l g nb (zI σ) d H.size (by omega)) (va_cwS 2 hts gX5_timesOf_X5_countAt rfl rfl rfl hd_X5_countAt ⟨Nat.le_of_ble_eq_true rfl, Nat.le_of_ble_eq_true rfl⟩) hp rfl rfl hl.1 rfl (lv_room (Nat.le_of_ble_eq_true rfl)) dX5_timesOf_25 ⟨Nat.le_of_ble_eq_true rfl, Nat.le_of_ble_eq_true rfl⟩)
      (fun r_4 _ H locs h_5 w => ?_)
    subst h_5
    subst hA
    subst hQ
    exact kreti F w () [0, 1, 2, 3] rfl rfl (rfl) (Nat.le_of_ble_eq_true rfl) (Nat.le_of_ble_eq_true rfl) dX5_timesOf_28
  · have h_3 : true = false := bI_z.mp h_3
    exact absurd h_3 (by simp)
abbrev rmX5_divisorsOf_k : Room := { frames := 1, cells := 0, slots := 0, locals := 21 }
set_option maxHeartbeats 4000000 in
set_option maxRecDepth 100000 in
theorem kX5_divisorsOf_k (l : Launch) (g : GG) (x : Nat) (d : Nat) (sz : Nat) (hd : 1 ≤ d ∧ d ≤ 48) : Met l yX5_divisorsOf wsX5_divisorsOf rmX5_divisorsOf_k (va_Pc [.ref x, .int (nI d)] (kPre g [] sz)) (va_Qi (fun (r : Int32) (u : Unit) => r = nI (zcnt (dvP d) 48)) (kB g (va_A [] sz) (fun u => [])) (va_A [] sz)) 0 0 (va_A [] sz) := by
  refine kMet (cc := cX5_divisorsOf) (maxL := 4) (ret := (some .int)) (own := RX5) (by decide) rfl rfl (Nat.le_of_ble_eq_true rfl) ?_
  intro p e s m args below meth c ls Q H locs A F w hl hnm hA hQ
  have hx := F.1.1
  have hb := F.1.2.1
  have hts := F.1.2.2.2.2
  have hl : lv_has ls 4 [(0, .ref x), (1, .int (nI d))] := hl
  refine lv_iload_n hx hb dX5_divisorsOf_0 rfl (lv_at hl 1 rfl) ?_
  refine kcalli (wc := []) (wr := []) (wn := fun (u : Unit) => []) F w [] [] [] rfl rfl rfl (fun _ => rfl)
    (fun hp => va_runS (As := [.int (nI d)]) (rest := []) F.1 (kX5_isInRow l g (nI d) H.size ) (va_cwS 1 hts gX5_divisorsOf_X5_isInRow rfl rfl rfl hd_X5_isInRow ⟨Nat.le_of_ble_eq_true rfl, Nat.le_of_ble_eq_true rfl⟩) hp rfl rfl hl.1 rfl (lv_room (Nat.le_of_ble_eq_true rfl)) dX5_divisorsOf_1 ⟨Nat.le_of_ble_eq_true rfl, Nat.le_of_ble_eq_true rfl⟩)
    (fun r_1 _ H locs h_2 w => ?_)
  subst h_2
  refine ktopi (y := bI true) (congrArg bI (door_t hd)) ?_
  refine lv_if_ne (tgt := 17) hx hb dX5_divisorsOf_4 (by decide) (fun h_3 => ?_) (fun h_3 => ?_)
  · have h_3 : true = true := bI_o.mp h_3
    refine lv_iconst (v := nI 0) hx hb dX5_divisorsOf_17 (by decide) ?_
    refine ktopi (y := nI (zcnt (dvP d) 0)) (rfl) ?_
    refine lv_istore_n (lv' := [(2, .int (nI (zcnt (dvP d) 0))), (0, .ref x), (1, .int (nI d))]) hx hb dX5_divisorsOf_18 rfl hl (by decide) rfl (fun ls hl => ?_)
    refine lv_iconst (v := nI 1) hx hb dX5_divisorsOf_19 (by decide) ?_
    refine ktopi (y := nI (0 + 1)) (rfl) ?_
    refine lv_istore_n (lv' := [(3, .int (nI (0 + 1))), (2, .int (nI (zcnt (dvP d) 0))), (0, .ref x), (1, .int (nI d))]) hx hb dX5_divisorsOf_20 rfl hl (by decide) rfl (fun ls hl => ?_)
    have LP_4 : ∀ (fu : Nat) (j : Nat) (h1 : j ≤ 48) (H : Heap) (locs : List Loc) (ls : Array Slot), 50 - j < fu → kW g A s [] H locs → lv_has ls 4 [(3, .int (nI (j + 1))), (2, .int (nI (zcnt (dvP d) j))), (0, .ref x), (1, .int (nI d))] → W p l e rmX5_divisorsOf_k s m args below meth c H locs 0 0 Q (F0 m 21 ls []) := by
      intro fu
      induction fu with
      | zero => intro j h1 H locs ls hlt; omega
      | succ fu ih_4 =>
        intro j h1 H locs ls hlt w hl
        refine lv_iload_n hx hb dX5_divisorsOf_21 rfl (lv_at hl 0 rfl) ?_
        refine lv_bipush (v := nI 48) hx hb dX5_divisorsOf_22 (by decide) ?_
        refine lv_icmp_gt (tgt := 44) hx hb dX5_divisorsOf_24 (by decide) (fun h_5 => ?_) (fun h_5 => ?_)
        · have h_5 : j + 1 > 48 := (kc_gt_t (by omega) (by omega)).mp h_5
          have e_6 : j = 48 := by omega
          subst e_6
          refine lv_iload_n hx hb dX5_divisorsOf_44 rfl (lv_at hl 1 rfl) ?_
          subst hA
          subst hQ
          exact kreti F w () [] rfl rfl (rfl) (Nat.le_of_ble_eq_true rfl) (Nat.le_of_ble_eq_true rfl) dX5_divisorsOf_45
        · have h_5 : j + 1 ≤ 48 := (kc_gt_f (by omega) (by omega)).mp h_5
          refine lv_iload_n hx hb dX5_divisorsOf_27 rfl (lv_at hl 0 rfl) ?_
          refine lv_iload_n hx hb dX5_divisorsOf_28 rfl (lv_at hl 3 rfl) ?_
          refine kcalli (wc := []) (wr := []) (wn := fun (u : Unit) => []) F w [] [] [] rfl rfl rfl (fun _ => rfl)
            (fun hp => va_runS (As := [.int (nI (j + 1)), .int (nI d)]) (rest := []) F.1 (kX5_divides l g (j + 1) d H.size (by omega) (by omega)) (va_cwS 2 hts gX5_divisorsOf_X5_divides rfl rfl rfl hd_X5_divides ⟨Nat.le_of_ble_eq_true rfl, Nat.le_of_ble_eq_true rfl⟩) hp rfl rfl hl.1 rfl (lv_room (Nat.le_of_ble_eq_true rfl)) dX5_divisorsOf_29 ⟨Nat.le_of_ble_eq_true rfl, Nat.le_of_ble_eq_true rfl⟩)
            (fun r_7 _ H locs h_8 w => ?_)
          subst h_8
          refine lv_if_eq (tgt := 38) hx hb dX5_divisorsOf_32 (by decide) (fun h_9 => ?_) (fun h_9 => ?_)
          · have h_9 : (decide ((j + 1) ∣ d)) = false := bI_z.mp h_9
            have hc : zcnt (dvP d) (j + 1) = zcnt (dvP d) j := zcnt_f h_9
            rw [← hc] at hl
            refine lv_iinc (v := nI (j + 1 + 1)) (lv' := [(3, .int (nI (j + 1 + 1))), (2, .int (nI (zcnt (dvP d) (j + 1)))), (0, .ref x), (1, .int (nI d))]) hx hb dX5_divisorsOf_38 hl (k := 0) rfl (nI_add (j + 1) 1) (by decide) rfl (fun ls hl => ?_)
            refine lv_goto (tgt := 21) hx hb dX5_divisorsOf_41 (by decide) ?_
            exact ih_4 (j + 1) (by omega) _ _ _ (by omega) (kW.perm w [] rfl rfl) (lv_sub hl [0, 1, 2, 3] rfl)
          · have h_9 : (decide ((j + 1) ∣ d)) = true := bI_o.mp h_9
            refine lv_iinc (v := nI (zcnt (dvP d) j + 1)) (lv' := [(2, .int (nI (zcnt (dvP d) j + 1))), (3, .int (nI (j + 1))), (0, .ref x), (1, .int (nI d))]) hx hb dX5_divisorsOf_35 hl (k := 1) rfl (nI_add (zcnt (dvP d) j) 1) (by decide) rfl (fun ls hl => ?_)
            have hc : zcnt (dvP d) (j + 1) = zcnt (dvP d) j + 1 := zcnt_t h_9
            rw [← hc] at hl
            refine lv_iinc (v := nI (j + 1 + 1)) (lv' := [(3, .int (nI (j + 1 + 1))), (2, .int (nI (zcnt (dvP d) (j + 1)))), (0, .ref x), (1, .int (nI d))]) hx hb dX5_divisorsOf_38 hl (k := 1) rfl (nI_add (j + 1) 1) (by decide) rfl (fun ls hl => ?_)
            refine lv_goto (tgt := 21) hx hb dX5_divisorsOf_41 (by decide) ?_
            exact ih_4 (j + 1) (by omega) _ _ _ (by omega) (kW.perm w [] rfl rfl) (lv_sub hl [0, 1, 2, 3] rfl)
    exact LP_4 _ 0 (by omega) _ _ _ (Nat.lt_succ_self _) (kW.perm w [] rfl rfl) (lv_sub hl [0, 1, 2, 3] rfl)
  · have h_3 : true = false := bI_z.mp h_3
    exact absurd h_3 (by simp)
theorem in_X5_openDoors_X2 : ∀ w ∈ wsX20, w ∈ wsX5_openDoors := by decide +kernel
theorem in_X5_openDoors_X5 : ∀ w ∈ wsX50, w ∈ wsX5_openDoors := by decide +kernel
abbrev rmX5_openDoors : Room := { frames := 1, cells := 0, slots := 0, locals := 22 }
set_option maxHeartbeats 4000000 in
set_option maxRecDepth 100000 in
theorem kX5_openDoors (l : Launch) (g : GG) (x : Nat) (nw : Nat) (sn : Nat) (tk : Bool) (hs : Nat) (tx : Nat) (tr : Nat) (na : Nat) (nb : Nat) (σ : Sg) (sz : Nat)  : Met l yX5_openDoors wsX5_openDoors rmX5_openDoors (va_Pc [.ref x] (kPre g [cX x nw sn tk hs tx tr, cR nw na nb σ, xI g na 49 (zT σ), xI g nb 49 (zI σ)] sz)) (va_Qi (fun (r : Int32) (u : Unit) => r = nI (zcnt (zO σ) 48)) (kB g (va_A [cX x nw sn tk hs tx tr, cR nw na nb σ, xI g na 49 (zT σ), xI g nb 49 (zI σ)] sz) (fun u => [cX x nw sn tk hs tx tr, cR nw na nb σ, xI g na 49 (zT σ), xI g nb 49 (zI σ)])) (va_A [cX x nw sn tk hs tx tr, cR nw na nb σ, xI g na 49 (zT σ), xI g nb 49 (zI σ)] sz)) 0 0 (va_A [cX x nw sn tk hs tx tr, cR nw na nb σ, xI g na 49 (zT σ), xI g nb 49 (zI σ)] sz) := by
  refine kMet (cc := cX5_openDoors) (maxL := 3) (ret := (some .int)) (own := RX5) (by decide) rfl rfl (Nat.le_of_ble_eq_true rfl) ?_
  intro p e s m args below meth c ls Q H locs A F w hl hnm hA hQ
  have hx := F.1.1
  have hb := F.1.2.1
  have hts := F.1.2.2.2.2
  have hl : lv_has ls 3 [(0, .ref x)] := hl
  refine lv_iconst (v := nI 0) hx hb dX5_openDoors_0 (by decide) ?_
  refine ktopi (y := nI (zcnt (zO σ) 0)) (rfl) ?_
  refine lv_istore_n (lv' := [(1, .int (nI (zcnt (zO σ) 0))), (0, .ref x)]) hx hb dX5_openDoors_1 rfl hl (by decide) rfl (fun ls hl => ?_)
  refine lv_iconst (v := nI 1) hx hb dX5_openDoors_2 (by decide) ?_
  refine ktopi (y := nI (0 + 1)) (rfl) ?_
  refine lv_istore_n (lv' := [(2, .int (nI (0 + 1))), (1, .int (nI (zcnt (zO σ) 0))), (0, .ref x)]) hx hb dX5_openDoors_3 rfl hl (by decide) rfl (fun ls hl => ?_)
  have LP_1 : ∀ (fu : Nat) (j : Nat) (h1 : j ≤ 48) (H : Heap) (locs : List Loc) (ls : Array Slot), 50 - j < fu → kW g A s [cX x nw sn tk hs tx tr, cR nw na nb σ, xI g na 49 (zT σ), xI g nb 49 (zI σ)] H locs → lv_has ls 3 [(2, .int (nI (j + 1))), (1, .int (nI (zcnt (zO σ) j))), (0, .ref x)] → W p l e rmX5_openDoors s m args below meth c H locs 0 0 Q (F0 m 4 ls []) := by
    intro fu
    induction fu with
    | zero => intro j h1 H locs ls hlt; omega
    | succ fu ih_1 =>
      intro j h1 H locs ls hlt w hl
      refine lv_iload_n hx hb dX5_openDoors_4 rfl (lv_at hl 0 rfl) ?_
      refine lv_bipush (v := nI 48) hx hb dX5_openDoors_5 (by decide) ?_
      refine lv_icmp_gt (tgt := 33) hx hb dX5_openDoors_7 (by decide) (fun h_2 => ?_) (fun h_2 => ?_)
      · have h_2 : j + 1 > 48 := (kc_gt_t (by omega) (by omega)).mp h_2
        have e_3 : j = 48 := by omega
        subst e_3
        refine lv_iload_n hx hb dX5_openDoors_33 rfl (lv_at hl 1 rfl) ?_
        subst hA
        subst hQ
        exact kreti F w () [0, 1, 2, 3] rfl rfl (rfl) (Nat.le_of_ble_eq_true rfl) (Nat.le_of_ble_eq_true rfl) dX5_openDoors_34
      · have h_2 : j + 1 ≤ 48 := (kc_gt_f (by omega) (by omega)).mp h_2
        refine lv_aload_n hx hb dX5_openDoors_10 rfl (lv_at hl 2 rfl) ?_
        refine kget (fs := [.ref nw, .ref sn, .int (bI tk), .ref hs, .ref tx, .ref tr]) F w in_X5_openDoors_X5 0 rfl rfl 0 (by decide) (by decide +kernel) rfl rfl dX5_openDoors_11 ?_
        refine kgetN (host := RX5) (fs := [.long (zB (zO σ)), .long (zB (zL σ)), .long (zB (zS σ)), .long (zB (zF σ)), .long (zB (zV σ)), .ref na, .ref nb]) F w in_X5_openDoors_X2 1 rfl rfl 0 (by decide) (by decide +kernel) rfl rfl dX5_openDoors_14 ?_
        refine lv_iload_n hx hb dX5_openDoors_17 rfl (lv_at hl 0 rfl) ?_
        refine kcalli (wc := []) (wr := [cX x nw sn tk hs tx tr, cR nw na nb σ, xI g na 49 (zT σ), xI g nb 49 (zI σ)]) (wn := fun (u : Unit) => [cX x nw sn tk hs tx tr, cR nw na nb σ, xI g na 49 (zT σ), xI g nb 49 (zI σ)]) F w [] [0, 1, 2, 3] [0, 1, 2, 3] rfl rfl rfl (fun _ => rfl)
          (fun hp => va_runS (As := [.long (zB (zO σ)), .int (nI (j + 1))]) (rest := []) F.1 (kX5_contains l g (zB (zO σ)) (j + 1) H.size (by omega)) (va_cwS 2 hts gX5_openDoors_X5_contains rfl rfl rfl hd_X5_contains ⟨Nat.le_of_ble_eq_true rfl, Nat.le_of_ble_eq_true rfl⟩) hp rfl rfl hl.1 rfl (lv_room (Nat.le_of_ble_eq_true rfl)) dX5_openDoors_18 ⟨Nat.le_of_ble_eq_true rfl, Nat.le_of_ble_eq_true rfl⟩)
          (fun r_4 _ H locs h_5 w => ?_)
        subst h_5
        refine ktopi (y := bI (zO σ (j + 1))) (congrArg bI (zG_in (by omega) (by omega))) ?_
        refine lv_if_eq (tgt := 27) hx hb dX5_openDoors_21 (by decide) (fun h_6 => ?_) (fun h_6 => ?_)
        · have h_6 : (zO σ (j + 1)) = false := bI_z.mp h_6
          have hc : zcnt (zO σ) (j + 1) = zcnt (zO σ) j := zcnt_f h_6
          rw [← hc] at hl
          refine lv_iinc (v := nI (j + 1 + 1)) (lv' := [(2, .int (nI (j + 1 + 1))), (1, .int (nI (zcnt (zO σ) (j + 1)))), (0, .ref x)]) hx hb dX5_openDoors_27 hl (k := 0) rfl (nI_add (j + 1) 1) (by decide) rfl (fun ls hl => ?_)
          refine lv_goto (tgt := 4) hx hb dX5_openDoors_30 (by decide) ?_
          exact ih_1 (j + 1) (by omega) _ _ _ (by omega) (kW.perm w [0, 1, 2, 3] rfl rfl) (lv_sub hl [0, 1, 2] rfl)
        · have h_6 : (zO σ (j + 1)) = true := bI_o.mp h_6
          refine lv_iinc (v := nI (zcnt (zO σ) j + 1)) (lv' := [(1, .int (nI (zcnt (zO σ) j + 1))), (2, .int (nI (j + 1))), (0, .ref x)]) hx hb dX5_openDoors_24 hl (k := 1) rfl (nI_add (zcnt (zO σ) j) 1) (by decide) rfl (fun ls hl => ?_)
          have hc : zcnt (zO σ) (j + 1) = zcnt (zO σ) j + 1 := zcnt_t h_6
          rw [← hc] at hl
          refine lv_iinc (v := nI (j + 1 + 1)) (lv' := [(2, .int (nI (j + 1 + 1))), (1, .int (nI (zcnt (zO σ) (j + 1)))), (0, .ref x)]) hx hb dX5_openDoors_27 hl (k := 1) rfl (nI_add (j + 1) 1) (by decide) rfl (fun ls hl => ?_)
          refine lv_goto (tgt := 4) hx hb dX5_openDoors_30 (by decide) ?_
          exact ih_1 (j + 1) (by omega) _ _ _ (by omega) (kW.perm w [0, 1, 2, 3] rfl rfl) (lv_sub hl [0, 1, 2] rfl)
  exact LP_1 _ 0 (by omega) _ _ _ (Nat.lt_succ_self _) (kW.perm w [0, 1, 2, 3] rfl rfl) (lv_sub hl [0, 1, 2] rfl)
theorem in_X5_openByTurns_X2 : ∀ w ∈ wsX20, w ∈ wsX5_openByTurns := by decide +kernel
theorem in_X5_openByTurns_X5 : ∀ w ∈ wsX50, w ∈ wsX5_openByTurns := by decide +kernel
abbrev rmX5_openByTurns : Room := { frames := 1, cells := 0, slots := 0, locals := 21 }
set_option maxHeartbeats 4000000 in
set_option maxRecDepth 100000 in
theorem kX5_openByTurns (l : Launch) (g : GG) (x : Nat) (nw : Nat) (sn : Nat) (tk : Bool) (hs : Nat) (tx : Nat) (tr : Nat) (na : Nat) (nb : Nat) (σ : Sg) (sz : Nat)  : Met l yX5_openByTurns wsX5_openByTurns rmX5_openByTurns (va_Pc [.ref x] (kPre g [cX x nw sn tk hs tx tr, cR nw na nb σ, xI g na 49 (zT σ), xI g nb 49 (zI σ)] sz)) (va_Qi (fun (r : Int32) (u : Unit) => r = nI (zcnt (zO σ) 48)) (kB g (va_A [cX x nw sn tk hs tx tr, cR nw na nb σ, xI g na 49 (zT σ), xI g nb 49 (zI σ)] sz) (fun u => [cX x nw sn tk hs tx tr, cR nw na nb σ, xI g na 49 (zT σ), xI g nb 49 (zI σ)])) (va_A [cX x nw sn tk hs tx tr, cR nw na nb σ, xI g na 49 (zT σ), xI g nb 49 (zI σ)] sz)) 0 0 (va_A [cX x nw sn tk hs tx tr, cR nw na nb σ, xI g na 49 (zT σ), xI g nb 49 (zI σ)] sz) := by
  refine kMet (cc := cX5_openByTurns) (maxL := 3) (ret := (some .int)) (own := RX5) (by decide) rfl rfl (Nat.le_of_ble_eq_true rfl) ?_
  intro p e s m args below meth c ls Q H locs A F w hl hnm hA hQ
  have hx := F.1.1
  have hb := F.1.2.1
  have hts := F.1.2.2.2.2
  have hl : lv_has ls 3 [(0, .ref x)] := hl
  refine lv_iconst (v := nI 0) hx hb dX5_openByTurns_0 (by decide) ?_
  refine ktopi (y := nI (zcnt (zO σ) 0)) (rfl) ?_
  refine lv_istore_n (lv' := [(1, .int (nI (zcnt (zO σ) 0))), (0, .ref x)]) hx hb dX5_openByTurns_1 rfl hl (by decide) rfl (fun ls hl => ?_)
  refine lv_iconst (v := nI 1) hx hb dX5_openByTurns_2 (by decide) ?_
  refine ktopi (y := nI (0 + 1)) (rfl) ?_
  refine lv_istore_n (lv' := [(2, .int (nI (0 + 1))), (1, .int (nI (zcnt (zO σ) 0))), (0, .ref x)]) hx hb dX5_openByTurns_3 rfl hl (by decide) rfl (fun ls hl => ?_)
  have LP_1 : ∀ (fu : Nat) (j : Nat) (h1 : j ≤ 48) (H : Heap) (locs : List Loc) (ls : Array Slot), 50 - j < fu → kW g A s [cX x nw sn tk hs tx tr, cR nw na nb σ, xI g na 49 (zT σ), xI g nb 49 (zI σ)] H locs → lv_has ls 3 [(2, .int (nI (j + 1))), (1, .int (nI (zcnt (zO σ) j))), (0, .ref x)] → W p l e rmX5_openByTurns s m args below meth c H locs 0 0 Q (F0 m 4 ls []) := by
    intro fu
    induction fu with
    | zero => intro j h1 H locs ls hlt; omega
    | succ fu ih_1 =>
      intro j h1 H locs ls hlt w hl
      refine lv_iload_n hx hb dX5_openByTurns_4 rfl (lv_at hl 0 rfl) ?_
      refine lv_bipush (v := nI 48) hx hb dX5_openByTurns_5 (by decide) ?_
      refine lv_icmp_gt (tgt := 32) hx hb dX5_openByTurns_7 (by decide) (fun h_2 => ?_) (fun h_2 => ?_)
      · have h_2 : j + 1 > 48 := (kc_gt_t (by omega) (by omega)).mp h_2
        have e_3 : j = 48 := by omega
        subst e_3
        refine lv_iload_n hx hb dX5_openByTurns_32 rfl (lv_at hl 1 rfl) ?_
        subst hA
        subst hQ
        exact kreti F w () [0, 1, 2, 3] rfl rfl (rfl) (Nat.le_of_ble_eq_true rfl) (Nat.le_of_ble_eq_true rfl) dX5_openByTurns_33
      · have h_2 : j + 1 ≤ 48 := (kc_gt_f (by omega) (by omega)).mp h_2
        refine lv_iload_n hx hb dX5_openByTurns_10 rfl (lv_at hl 1 rfl) ?_
        refine lv_aload_n hx hb dX5_openByTurns_11 rfl (lv_at hl 2 rfl) ?_
        refine kget (fs := [.ref nw, .ref sn, .int (bI tk), .ref hs, .ref tx, .ref tr]) F w in_X5_openByTurns_X5 0 rfl rfl 0 (by decide) (by decide +kernel) rfl rfl dX5_openByTurns_12 ?_
        refine kgetN (host := RX5) (fs := [.long (zB (zO σ)), .long (zB (zL σ)), .long (zB (zS σ)), .long (zB (zF σ)), .long (zB (zV σ)), .ref na, .ref nb]) F w in_X5_openByTurns_X2 1 rfl rfl 5 (by decide) (by decide +kernel) rfl rfl dX5_openByTurns_15 ?_
        refine lv_iload_n hx hb dX5_openByTurns_18 rfl (lv_at hl 0 rfl) ?_
        refine kcalli (wc := [xI g na 49 (zT σ)]) (wr := [cX x nw sn tk hs tx tr, cR nw na nb σ, xI g nb 49 (zI σ)]) (wn := fun (u : Unit) => [cX x nw sn tk hs tx tr, cR nw na nb σ, xI g na 49 (zT σ), xI g nb 49 (zI σ)]) F w [2] [0, 1, 3] [0, 1, 3, 2] rfl rfl rfl (fun _ => rfl)
          (fun hp => va_runS (As := [.ref na, .int (nI (j + 1))]) (rest := [.int (nI (zcnt (zO σ) j))]) F.1 (kX5_countAt l g na (zT σ) (j + 1) H.size (by omega)) (va_cwS 2 hts gX5_openByTurns_X5_countAt rfl rfl rfl hd_X5_countAt ⟨Nat.le_of_ble_eq_true rfl, Nat.le_of_ble_eq_true rfl⟩) hp rfl rfl hl.1 rfl (lv_room (Nat.le_of_ble_eq_true rfl)) dX5_openByTurns_19 ⟨Nat.le_of_ble_eq_true rfl, Nat.le_of_ble_eq_true rfl⟩)
          (fun r_4 _ H locs h_5 w => ?_)
        subst h_5
        refine lv_iconst (v := nI 1) hx hb dX5_openByTurns_22 (by decide) ?_
        refine lv_iand hx hb dX5_openByTurns_23 ?_
        refine ktopi (y := nI (if zO σ (j + 1) = true then 1 else 0)) ((zodd_and _).trans (bI_nat _)) ?_
        refine lv_iadd hx hb dX5_openByTurns_24 ?_
        refine ktopi (y := nI (zcnt (zO σ) (j + 1))) (nI_add _ _) ?_
        refine lv_istore_n (lv' := [(1, .int (nI (zcnt (zO σ) (j + 1)))), (2, .int (nI (j + 1))), (0, .ref x)]) hx hb dX5_openByTurns_25 rfl hl (by decide) rfl (fun ls hl => ?_)
        refine lv_iinc (v := nI (j + 1 + 1)) (lv' := [(2, .int (nI (j + 1 + 1))), (1, .int (nI (zcnt (zO σ) (j + 1)))), (0, .ref x)]) hx hb dX5_openByTurns_26 hl (k := 1) rfl (nI_add (j + 1) 1) (by decide) rfl (fun ls hl => ?_)
        refine lv_goto (tgt := 4) hx hb dX5_openByTurns_29 (by decide) ?_
        exact ih_1 (j + 1) (by omega) _ _ _ (by omega) (kW.perm w [0, 1, 2, 3] rfl rfl) (lv_sub hl [0, 1, 2] rfl)
  exact LP_1 _ 0 (by omega) _ _ _ (Nat.lt_succ_self _) (kW.perm w [0, 1, 2, 3] rfl rfl) (lv_sub hl [0, 1, 2] rfl)
theorem in_X5_openSet_X2 : ∀ w ∈ wsX20, w ∈ wsX5_openSet := by decide +kernel
theorem in_X5_openSet_X5 : ∀ w ∈ wsX50, w ∈ wsX5_openSet := by decide +kernel
abbrev rmX5_openSet : Room := { frames := 0, cells := 0, slots := 0, locals := 0 }
set_option maxHeartbeats 4000000 in
set_option maxRecDepth 100000 in
theorem kX5_openSet (l : Launch) (g : GG) (x : Nat) (nw : Nat) (sn : Nat) (tk : Bool) (hs : Nat) (tx : Nat) (tr : Nat) (na : Nat) (nb : Nat) (σ : Sg) (sz : Nat)  : Met l yX5_openSet wsX5_openSet rmX5_openSet (va_Pc [.ref x] (kPre g [cX x nw sn tk hs tx tr, cR nw na nb σ, xI g na 49 (zT σ), xI g nb 49 (zI σ)] sz)) (va_Ql (fun (r : Int64) (u : Unit) => r = zB (zO σ)) (kB g (va_A [cX x nw sn tk hs tx tr, cR nw na nb σ, xI g na 49 (zT σ), xI g nb 49 (zI σ)] sz) (fun u => [cX x nw sn tk hs tx tr, cR nw na nb σ, xI g na 49 (zT σ), xI g nb 49 (zI σ)])) (va_A [cX x nw sn tk hs tx tr, cR nw na nb σ, xI g na 49 (zT σ), xI g nb 49 (zI σ)] sz)) 0 0 (va_A [cX x nw sn tk hs tx tr, cR nw na nb σ, xI g na 49 (zT σ), xI g nb 49 (zI σ)] sz) := by
  refine kMet (cc := cX5_openSet) (maxL := 1) (ret := (some .long)) (own := RX5) (by decide) rfl rfl (Nat.le_of_ble_eq_true rfl) ?_
  intro p e s m args below meth c ls Q H locs A F w hl hnm hA hQ
  have hx := F.1.1
  have hb := F.1.2.1
  have hts := F.1.2.2.2.2
  have hl : lv_has ls 1 [(0, .ref x)] := hl
  refine lv_aload_n hx hb dX5_openSet_0 rfl (lv_at hl 0 rfl) ?_
  refine kget (fs := [.ref nw, .ref sn, .int (bI tk), .ref hs, .ref tx, .ref tr]) F w in_X5_openSet_X5 0 rfl rfl 0 (by decide) (by decide +kernel) rfl rfl dX5_openSet_1 ?_
  refine kgetN (host := RX5) (fs := [.long (zB (zO σ)), .long (zB (zL σ)), .long (zB (zS σ)), .long (zB (zF σ)), .long (zB (zV σ)), .ref na, .ref nb]) F w in_X5_openSet_X2 1 rfl rfl 0 (by decide) (by decide +kernel) rfl rfl dX5_openSet_4 ?_
  subst hA
  subst hQ
  exact kretl F w () [0, 1, 2, 3] rfl rfl (rfl) (Nat.le_of_ble_eq_true rfl) (Nat.le_of_ble_eq_true rfl) dX5_openSet_7
theorem in_X5_turnsInAll_X2 : ∀ w ∈ wsX20, w ∈ wsX5_turnsInAll := by decide +kernel
theorem in_X5_turnsInAll_X5 : ∀ w ∈ wsX50, w ∈ wsX5_turnsInAll := by decide +kernel
abbrev rmX5_turnsInAll : Room := { frames := 1, cells := 0, slots := 0, locals := 21 }
set_option maxHeartbeats 4000000 in
set_option maxRecDepth 100000 in
theorem kX5_turnsInAll (l : Launch) (g : GG) (x : Nat) (nw : Nat) (sn : Nat) (tk : Bool) (hs : Nat) (tx : Nat) (tr : Nat) (na : Nat) (nb : Nat) (σ : Sg) (sz : Nat)  : Met l yX5_turnsInAll wsX5_turnsInAll rmX5_turnsInAll (va_Pc [.ref x] (kPre g [cX x nw sn tk hs tx tr, cR nw na nb σ, xI g na 49 (zT σ), xI g nb 49 (zI σ)] sz)) (va_Qi (fun (r : Int32) (u : Unit) => r = sumZ (enc σ) 96 48) (kB g (va_A [cX x nw sn tk hs tx tr, cR nw na nb σ, xI g na 49 (zT σ), xI g nb 49 (zI σ)] sz) (fun u => [cX x nw sn tk hs tx tr, cR nw na nb σ, xI g na 49 (zT σ), xI g nb 49 (zI σ)])) (va_A [cX x nw sn tk hs tx tr, cR nw na nb σ, xI g na 49 (zT σ), xI g nb 49 (zI σ)] sz)) 0 0 (va_A [cX x nw sn tk hs tx tr, cR nw na nb σ, xI g na 49 (zT σ), xI g nb 49 (zI σ)] sz) := by
  refine kMet (cc := cX5_turnsInAll) (maxL := 3) (ret := (some .int)) (own := RX5) (by decide) rfl rfl (Nat.le_of_ble_eq_true rfl) ?_
  intro p e s m args below meth c ls Q H locs A F w hl hnm hA hQ
  have hx := F.1.1
  have hb := F.1.2.1
  have hts := F.1.2.2.2.2
  have hl : lv_has ls 3 [(0, .ref x)] := hl
  refine lv_iconst (v := nI 0) hx hb dX5_turnsInAll_0 (by decide) ?_
  refine ktopi (y := sumZ (enc σ) 96 0) (rfl) ?_
  refine lv_istore_n (lv' := [(1, .int (sumZ (enc σ) 96 0)), (0, .ref x)]) hx hb dX5_turnsInAll_1 rfl hl (by decide) rfl (fun ls hl => ?_)
  refine lv_iconst (v := nI 1) hx hb dX5_turnsInAll_2 (by decide) ?_
  refine ktopi (y := nI (0 + 1)) (rfl) ?_
  refine lv_istore_n (lv' := [(2, .int (nI (0 + 1))), (1, .int (sumZ (enc σ) 96 0)), (0, .ref x)]) hx hb dX5_turnsInAll_3 rfl hl (by decide) rfl (fun ls hl => ?_)
  have LP_1 : ∀ (fu : Nat) (j : Nat) (h1 : j ≤ 48) (H : Heap) (locs : List Loc) (ls : Array Slot), 50 - j < fu → kW g A s [cX x nw sn tk hs tx tr, cR nw na nb σ, xI g na 49 (zT σ), xI g nb 49 (zI σ)] H locs → lv_has ls 3 [(2, .int (nI (j + 1))), (1, .int (sumZ (enc σ) 96 j)), (0, .ref x)] → W p l e rmX5_turnsInAll s m args below meth c H locs 0 0 Q (F0 m 4 ls []) := by
    intro fu
    induction fu with
    | zero => intro j h1 H locs ls hlt; omega
    | succ fu ih_1 =>
      intro j h1 H locs ls hlt w hl
      refine lv_iload_n hx hb dX5_turnsInAll_4 rfl (lv_at hl 0 rfl) ?_
      refine lv_bipush (v := nI 48) hx hb dX5_turnsInAll_5 (by decide) ?_
      refine lv_icmp_gt (tgt := 30) hx hb dX5_turnsInAll_7 (by decide) (fun h_2 => ?_) (fun h_2 => ?_)
      · have h_2 : j + 1 > 48 := (kc_gt_t (by omega) (by omega)).mp h_2
        have e_3 : j = 48 := by omega
        subst e_3
        refine lv_iload_n hx hb dX5_turnsInAll_30 rfl (lv_at hl 1 rfl) ?_
        subst hA
        subst hQ
        exact kreti F w () [0, 1, 2, 3] rfl rfl (rfl) (Nat.le_of_ble_eq_true rfl) (Nat.le_of_ble_eq_true rfl) dX5_turnsInAll_31
      · have h_2 : j + 1 ≤ 48 := (kc_gt_f (by omega) (by omega)).mp h_2
        refine lv_iload_n hx hb dX5_turnsInAll_10 rfl (lv_at hl 1 rfl) ?_
        refine lv_aload_n hx hb dX5_turnsInAll_11 rfl (lv_at hl 2 rfl) ?_
        refine kget (fs := [.ref nw, .ref sn, .int (bI tk), .ref hs, .ref tx, .ref tr]) F w in_X5_turnsInAll_X5 0 rfl rfl 0 (by decide) (by decide +kernel) rfl rfl dX5_turnsInAll_12 ?_
        refine kgetN (host := RX5) (fs := [.long (zB (zO σ)), .long (zB (zL σ)), .long (zB (zS σ)), .long (zB (zF σ)), .long (zB (zV σ)), .ref na, .ref nb]) F w in_X5_turnsInAll_X2 1 rfl rfl 5 (by decide) (by decide +kernel) rfl rfl dX5_turnsInAll_15 ?_
        refine lv_iload_n hx hb dX5_turnsInAll_18 rfl (lv_at hl 0 rfl) ?_
        refine kcalli (wc := [xI g na 49 (zT σ)]) (wr := [cX x nw sn tk hs tx tr, cR nw na nb σ, xI g nb 49 (zI σ)]) (wn := fun (u : Unit) => [cX x nw sn tk hs tx tr, cR nw na nb σ, xI g na 49 (zT σ), xI g nb 49 (zI σ)]) F w [2] [0, 1, 3] [0, 1, 3, 2] rfl rfl rfl (fun _ => rfl)
          (fun hp => va_runS (As := [.ref na, .int (nI (j + 1))]) (rest := [.int (sumZ (enc σ) 96 j)]) F.1 (kX5_countAt l g na (zT σ) (j + 1) H.size (by omega)) (va_cwS 2 hts gX5_turnsInAll_X5_countAt rfl rfl rfl hd_X5_countAt ⟨Nat.le_of_ble_eq_true rfl, Nat.le_of_ble_eq_true rfl⟩) hp rfl rfl hl.1 rfl (lv_room (Nat.le_of_ble_eq_true rfl)) dX5_turnsInAll_19 ⟨Nat.le_of_ble_eq_true rfl, Nat.le_of_ble_eq_true rfl⟩)
          (fun r_4 _ H locs h_5 w => ?_)
        subst h_5
        refine lv_iadd hx hb dX5_turnsInAll_22 ?_
        refine ktopi (y := sumZ (enc σ) 96 (j + 1)) (by rw [sumZ, enc_T (by omega) (by omega)]) ?_
        refine lv_istore_n (lv' := [(1, .int (sumZ (enc σ) 96 (j + 1))), (2, .int (nI (j + 1))), (0, .ref x)]) hx hb dX5_turnsInAll_23 rfl hl (by decide) rfl (fun ls hl => ?_)
        refine lv_iinc (v := nI (j + 1 + 1)) (lv' := [(2, .int (nI (j + 1 + 1))), (1, .int (sumZ (enc σ) 96 (j + 1))), (0, .ref x)]) hx hb dX5_turnsInAll_24 hl (k := 1) rfl (nI_add (j + 1) 1) (by decide) rfl (fun ls hl => ?_)
        refine lv_goto (tgt := 4) hx hb dX5_turnsInAll_27 (by decide) ?_
        exact ih_1 (j + 1) (by omega) _ _ _ (by omega) (kW.perm w [0, 1, 2, 3] rfl rfl) (lv_sub hl [0, 1, 2] rfl)
  exact LP_1 _ 0 (by omega) _ _ _ (Nat.lt_succ_self _) (kW.perm w [0, 1, 2, 3] rfl rfl) (lv_sub hl [0, 1, 2] rfl)
theorem in_X5_nextOpen_X2 : ∀ w ∈ wsX20, w ∈ wsX5_nextOpen := by decide +kernel
theorem in_X5_nextOpen_X5 : ∀ w ∈ wsX50, w ∈ wsX5_nextOpen := by decide +kernel
abbrev rmX5_nextOpen_k : Room := { frames := 1, cells := 0, slots := 0, locals := 22 }
set_option maxHeartbeats 4000000 in
set_option maxRecDepth 100000 in
theorem kX5_nextOpen_k (l : Launch) (g : GG) (x : Nat) (nw : Nat) (sn : Nat) (tk : Bool) (hs : Nat) (tx : Nat) (tr : Nat) (na : Nat) (nb : Nat) (σ : Sg) (d : Nat) (q : Nat) (sz : Nat) (hd : 1 ≤ d ∧ d ≤ 48) (he : d ≤ q ∧ q ≤ 48) (he2 : ∀ j, d ≤ j → j < q → zO σ j = false) (hz9 : zO σ q = true) : Met l yX5_nextOpen wsX5_nextOpen rmX5_nextOpen_k (va_Pc [.ref x, .int (nI d)] (kPre g [cX x nw sn tk hs tx tr, cR nw na nb σ, xI g na 49 (zT σ), xI g nb 49 (zI σ)] sz)) (va_Qi (fun (r : Int32) (u : Unit) => r = nI q) (kB g (va_A [cX x nw sn tk hs tx tr, cR nw na nb σ, xI g na 49 (zT σ), xI g nb 49 (zI σ)] sz) (fun u => [cX x nw sn tk hs tx tr, cR nw na nb σ, xI g na 49 (zT σ), xI g nb 49 (zI σ)])) (va_A [cX x nw sn tk hs tx tr, cR nw na nb σ, xI g na 49 (zT σ), xI g nb 49 (zI σ)] sz)) 0 0 (va_A [cX x nw sn tk hs tx tr, cR nw na nb σ, xI g na 49 (zT σ), xI g nb 49 (zI σ)] sz) := by
  refine kMet (cc := cX5_nextOpen) (maxL := 3) (ret := (some .int)) (own := RX5) (by decide) rfl rfl (Nat.le_of_ble_eq_true rfl) ?_
  intro p e s m args below meth c ls Q H locs A F w hl hnm hA hQ
  have hx := F.1.1
  have hb := F.1.2.1
  have hts := F.1.2.2.2.2
  have hl : lv_has ls 3 [(0, .ref x), (1, .int (nI d))] := hl
  refine lv_iload_n hx hb dX5_nextOpen_0 rfl (lv_at hl 1 rfl) ?_
  refine kcalli (wc := []) (wr := [cX x nw sn tk hs tx tr, cR nw na nb σ, xI g na 49 (zT σ), xI g nb 49 (zI σ)]) (wn := fun (u : Unit) => [cX x nw sn tk hs tx tr, cR nw na nb σ, xI g na 49 (zT σ), xI g nb 49 (zI σ)]) F w [] [0, 1, 2, 3] [0, 1, 2, 3] rfl rfl rfl (fun _ => rfl)
    (fun hp => va_runS (As := [.int (nI d)]) (rest := []) F.1 (kX5_isInRow l g (nI d) H.size ) (va_cwS 1 hts gX5_nextOpen_X5_isInRow rfl rfl rfl hd_X5_isInRow ⟨Nat.le_of_ble_eq_true rfl, Nat.le_of_ble_eq_true rfl⟩) hp rfl rfl hl.1 rfl (lv_room (Nat.le_of_ble_eq_true rfl)) dX5_nextOpen_1 ⟨Nat.le_of_ble_eq_true rfl, Nat.le_of_ble_eq_true rfl⟩)
    (fun r_1 _ H locs h_2 w => ?_)
  subst h_2
  refine ktopi (y := bI true) (congrArg bI (door_t hd)) ?_
  refine lv_if_ne (tgt := 17) hx hb dX5_nextOpen_4 (by decide) (fun h_3 => ?_) (fun h_3 => ?_)
  · have h_3 : true = true := bI_o.mp h_3
    refine lv_iload_n hx hb dX5_nextOpen_17 rfl (lv_at hl 1 rfl) ?_
    refine lv_istore_n (lv' := [(2, .int (nI d)), (0, .ref x), (1, .int (nI d))]) hx hb dX5_nextOpen_18 rfl hl (by decide) rfl (fun ls hl => ?_)
    have LP_4 : ∀ (fu : Nat) (i : Nat) (h1 : d ≤ i) (h2 : i ≤ q) (H : Heap) (locs : List Loc) (ls : Array Slot), 60 - i < fu → kW g A s [cX x nw sn tk hs tx tr, cR nw na nb σ, xI g na 49 (zT σ), xI g nb 49 (zI σ)] H locs → lv_has ls 3 [(2, .int (nI i)), (0, .ref x), (1, .int (nI d))] → W p l e rmX5_nextOpen_k s m args below meth c H locs 0 0 Q (F0 m 19 ls []) := by
      intro fu
      induction fu with
      | zero => intro i h1 h2 H locs ls hlt; omega
      | succ fu ih_4 =>
        intro i h1 h2 H locs ls hlt w hl
        refine lv_iload_n hx hb dX5_nextOpen_19 rfl (lv_at hl 0 rfl) ?_
        refine lv_bipush (v := nI 48) hx hb dX5_nextOpen_20 (by decide) ?_
        refine lv_icmp_gt (tgt := 47) hx hb dX5_nextOpen_22 (by decide) (fun h_5 => ?_) (fun h_5 => ?_)
        · have h_5 : i > 48 := (kc_gt_t (by omega) (by omega)).mp h_5
          omega
        · have h_5 : i ≤ 48 := (kc_gt_f (by omega) (by omega)).mp h_5
          refine lv_aload_n hx hb dX5_nextOpen_25 rfl (lv_at hl 1 rfl) ?_
          refine kget (fs := [.ref nw, .ref sn, .int (bI tk), .ref hs, .ref tx, .ref tr]) F w in_X5_nextOpen_X5 0 rfl rfl 0 (by decide) (by decide +kernel) rfl rfl dX5_nextOpen_26 ?_
          refine kgetN (host := RX5) (fs := [.long (zB (zO σ)), .long (zB (zL σ)), .long (zB (zS σ)), .long (zB (zF σ)), .long (zB (zV σ)), .ref na, .ref nb]) F w in_X5_nextOpen_X2 1 rfl rfl 0 (by decide) (by decide +kernel) rfl rfl dX5_nextOpen_29 ?_
          refine lv_iload_n hx hb dX5_nextOpen_32 rfl (lv_at hl 0 rfl) ?_
          refine kcalli (wc := []) (wr := [cX x nw sn tk hs tx tr, cR nw na nb σ, xI g na 49 (zT σ), xI g nb 49 (zI σ)]) (wn := fun (u : Unit) => [cX x nw sn tk hs tx tr, cR nw na nb σ, xI g na 49 (zT σ), xI g nb 49 (zI σ)]) F w [] [0, 1, 2, 3] [0, 1, 2, 3] rfl rfl rfl (fun _ => rfl)
            (fun hp => va_runS (As := [.long (zB (zO σ)), .int (nI i)]) (rest := []) F.1 (kX5_contains l g (zB (zO σ)) i H.size (by omega)) (va_cwS 2 hts gX5_nextOpen_X5_contains rfl rfl rfl hd_X5_contains ⟨Nat.le_of_ble_eq_true rfl, Nat.le_of_ble_eq_true rfl⟩) hp rfl rfl hl.1 rfl (lv_room (Nat.le_of_ble_eq_true rfl)) dX5_nextOpen_33 ⟨Nat.le_of_ble_eq_true rfl, Nat.le_of_ble_eq_true rfl⟩)
            (fun r_6 _ H locs h_7 w => ?_)
          subst h_7
          refine ktopi (y := bI (zO σ i)) (congrArg bI (zG_in (by omega) (by omega))) ?_
          refine lv_if_eq (tgt := 41) hx hb dX5_nextOpen_36 (by decide) (fun h_8 => ?_) (fun h_8 => ?_)
          · have h_8 : (zO σ i) = false := bI_z.mp h_8
            have hie : i ≠ q := fun hc => by subst hc; rw [hz9] at h_8; cases h_8
            refine lv_iinc (v := nI (i + 1)) (lv' := [(2, .int (nI (i + 1))), (0, .ref x), (1, .int (nI d))]) hx hb dX5_nextOpen_41 hl (k := 0) rfl (nI_add i 1) (by decide) rfl (fun ls hl => ?_)
            refine lv_goto (tgt := 19) hx hb dX5_nextOpen_44 (by decide) ?_
            exact ih_4 (i + 1) (by omega) (by omega) _ _ _ (by omega) (kW.perm w [0, 1, 2, 3] rfl rfl) (lv_sub hl [0, 1, 2] rfl)
          · have h_8 : (zO σ i) = true := bI_o.mp h_8
            have hie : i = q := by
              by_cases hc : i < q
              · exact absurd (he2 i h1 hc) (by rw [h_8]; decide)
              · omega
            rw [hie] at hl
            refine lv_iload_n hx hb dX5_nextOpen_39 rfl (lv_at hl 0 rfl) ?_
            subst hA
            subst hQ
            exact kreti F w () [0, 1, 2, 3] rfl rfl (rfl) (Nat.le_of_ble_eq_true rfl) (Nat.le_of_ble_eq_true rfl) dX5_nextOpen_40
    exact LP_4 _ d (Nat.le_refl _) (by omega) _ _ _ (Nat.lt_succ_self _) (kW.perm w [0, 1, 2, 3] rfl rfl) (lv_sub hl [0, 1, 2] rfl)
  · have h_3 : true = false := bI_z.mp h_3
    exact absurd h_3 (by simp)
theorem in_X5_closingPasses_X2 : ∀ w ∈ wsX20, w ∈ wsX5_closingPasses := by decide +kernel
theorem in_X5_closingPasses_X5 : ∀ w ∈ wsX50, w ∈ wsX5_closingPasses := by decide +kernel
abbrev rmX5_closingPasses : Room := { frames := 2, cells := 0, slots := 0, locals := 44 }
set_option maxHeartbeats 4000000 in
set_option maxRecDepth 100000 in
theorem kX5_closingPasses (l : Launch) (g : GG) (x : Nat) (nw : Nat) (sn : Nat) (tk : Bool) (hs : Nat) (tx : Nat) (tr : Nat) (na : Nat) (nb : Nat) (σ : Sg) (sz : Nat)  : Met l yX5_closingPasses wsX5_closingPasses rmX5_closingPasses (va_Pc [.ref x] (kPre g [cX x nw sn tk hs tx tr, cR nw na nb σ, xI g na 49 (zT σ), xI g nb 49 (zI σ)] sz)) (va_Ql (fun (r : Int64) (u : Unit) => r = zB (clP (zO σ) 48)) (kB g (va_A [cX x nw sn tk hs tx tr, cR nw na nb σ, xI g na 49 (zT σ), xI g nb 49 (zI σ)] sz) (fun u => [cX x nw sn tk hs tx tr, cR nw na nb σ, xI g na 49 (zT σ), xI g nb 49 (zI σ)])) (va_A [cX x nw sn tk hs tx tr, cR nw na nb σ, xI g na 49 (zT σ), xI g nb 49 (zI σ)] sz)) 0 0 (va_A [cX x nw sn tk hs tx tr, cR nw na nb σ, xI g na 49 (zT σ), xI g nb 49 (zI σ)] sz) := by
  refine kMet (cc := cX5_closingPasses) (maxL := 6) (ret := (some .long)) (own := RX5) (by decide) rfl rfl (Nat.le_of_ble_eq_true rfl) ?_
  intro p e s m args below meth c ls Q H locs A F w hl hnm hA hQ
  have hx := F.1.1
  have hb := F.1.2.1
  have hts := F.1.2.2.2.2
  have hl : lv_has ls 6 [(0, .ref x)] := hl
  refine lv_aload_n hx hb dX5_closingPasses_0 rfl (lv_at hl 0 rfl) ?_
  refine kget (fs := [.ref nw, .ref sn, .int (bI tk), .ref hs, .ref tx, .ref tr]) F w in_X5_closingPasses_X5 0 rfl rfl 0 (by decide) (by decide +kernel) rfl rfl dX5_closingPasses_1 ?_
  refine kgetN (host := RX5) (fs := [.long (zB (zO σ)), .long (zB (zL σ)), .long (zB (zS σ)), .long (zB (zF σ)), .long (zB (zV σ)), .ref na, .ref nb]) F w in_X5_closingPasses_X2 1 rfl rfl 0 (by decide) (by decide +kernel) rfl rfl dX5_closingPasses_4 ?_
  refine ktopl (y := zB (clO (zO σ) 0)) (rfl) ?_
  refine lv_lstore_n (lv' := [(1, .long (zB (clO (zO σ) 0))), (0, .ref x)]) hx hb dX5_closingPasses_7 rfl hl (by decide) rfl (fun ls hl => ?_)
  refine lv_lconst (v := 0) hx hb dX5_closingPasses_8 (by decide) ?_
  refine ktopl (y := zB (clP (zO σ) 0)) (zB_0.symm) ?_
  refine lv_lstore_n (lv' := [(3, .long (zB (clP (zO σ) 0))), (1, .long (zB (clO (zO σ) 0))), (0, .ref x)]) hx hb dX5_closingPasses_9 rfl hl (by decide) rfl (fun ls hl => ?_)
  refine lv_iconst (v := nI 1) hx hb dX5_closingPasses_10 (by decide) ?_
  refine ktopi (y := nI (0 + 1)) (rfl) ?_
  refine lv_istore (lv' := [(5, .int (nI (0 + 1))), (3, .long (zB (clP (zO σ) 0))), (1, .long (zB (clO (zO σ) 0))), (0, .ref x)]) hx hb dX5_closingPasses_11 hl (by decide) rfl (fun ls hl => ?_)
  have LP_1 : ∀ (fu : Nat) (j : Nat) (h1 : j ≤ 48) (H : Heap) (locs : List Loc) (ls : Array Slot), 50 - j < fu → kW g A s [cX x nw sn tk hs tx tr, cR nw na nb σ, xI g na 49 (zT σ), xI g nb 49 (zI σ)] H locs → lv_has ls 6 [(5, .int (nI (j + 1))), (3, .long (zB (clP (zO σ) j))), (1, .long (zB (clO (zO σ) j))), (0, .ref x)] → W p l e rmX5_closingPasses s m args below meth c H locs 0 0 Q (F0 m 13 ls []) := by
    intro fu
    induction fu with
    | zero => intro j h1 H locs ls hlt; omega
    | succ fu ih_1 =>
      intro j h1 H locs ls hlt w hl
      refine lv_iload hx hb dX5_closingPasses_13 (lv_at hl 0 rfl) ?_
      refine lv_bipush (v := nI 48) hx hb dX5_closingPasses_15 (by decide) ?_
      refine lv_icmp_gt (tgt := 51) hx hb dX5_closingPasses_17 (by decide) (fun h_2 => ?_) (fun h_2 => ?_)
      · have h_2 : j + 1 > 48 := (kc_gt_t (by omega) (by omega)).mp h_2
        have e_3 : j = 48 := by omega
        subst e_3
        refine lv_lload_n hx hb dX5_closingPasses_51 rfl (lv_at hl 1 rfl) ?_
        subst hA
        subst hQ
        exact kretl F w () [0, 1, 2, 3] rfl rfl (rfl) (Nat.le_of_ble_eq_true rfl) (Nat.le_of_ble_eq_true rfl) dX5_closingPasses_52
      · have h_2 : j + 1 ≤ 48 := (kc_gt_f (by omega) (by omega)).mp h_2
        refine lv_lload_n hx hb dX5_closingPasses_20 rfl (lv_at hl 2 rfl) ?_
        refine lv_iload hx hb dX5_closingPasses_21 (lv_at hl 0 rfl) ?_
        refine kcalli (wc := []) (wr := [cX x nw sn tk hs tx tr, cR nw na nb σ, xI g na 49 (zT σ), xI g nb 49 (zI σ)]) (wn := fun (u : Unit) => [cX x nw sn tk hs tx tr, cR nw na nb σ, xI g na 49 (zT σ), xI g nb 49 (zI σ)]) F w [] [0, 1, 2, 3] [0, 1, 2, 3] rfl rfl rfl (fun _ => rfl)
          (fun hp => va_runS (As := [.long (zB (clO (zO σ) j)), .int (nI (j + 1))]) (rest := []) F.1 (kX5_contains l g (zB (clO (zO σ) j)) (j + 1) H.size (by omega)) (va_cwS 2 hts gX5_closingPasses_X5_contains rfl rfl rfl hd_X5_contains ⟨Nat.le_of_ble_eq_true rfl, Nat.le_of_ble_eq_true rfl⟩) hp rfl rfl hl.1 rfl (lv_room (Nat.le_of_ble_eq_true rfl)) dX5_closingPasses_23 ⟨Nat.le_of_ble_eq_true rfl, Nat.le_of_ble_eq_true rfl⟩)
          (fun r_4 _ H locs h_5 w => ?_)
        subst h_5
        refine ktopi (y := bI (clO (zO σ) j (j + 1))) (congrArg bI (zG_in (by omega) (by omega))) ?_
        refine lv_if_eq (tgt := 45) hx hb dX5_closingPasses_26 (by decide) (fun h_6 => ?_) (fun h_6 => ?_)
        · have h_6 : (clO (zO σ) j (j + 1)) = false := bI_z.mp h_6
          have hl := hl
          rw [show zB (clO (zO σ) j) = zB (clO (zO σ) (j + 1)) from (by rw [← clO_f h_6]; exact (xor_0 _).symm), show zB (clP (zO σ) j) = zB (clP (zO σ) (j + 1)) from (by rw [← clP_f h_6]; exact (or_0 _).symm)] at hl
          refine lv_iinc (v := nI (j + 1 + 1)) (lv' := [(5, .int (nI (j + 1 + 1))), (3, .long (zB (clP (zO σ) (j + 1)))), (1, .long (zB (clO (zO σ) (j + 1)))), (0, .ref x)]) hx hb dX5_closingPasses_45 hl (k := 0) rfl (nI_add (j + 1) 1) (by decide) rfl (fun ls hl => ?_)
          refine lv_goto (tgt := 13) hx hb dX5_closingPasses_48 (by decide) ?_
          exact ih_1 (j + 1) (by omega) _ _ _ (by omega) (kW.perm w [0, 1, 2, 3] rfl rfl) (lv_sub hl [0, 1, 2, 3] rfl)
        · have h_6 : (clO (zO σ) j (j + 1)) = true := bI_o.mp h_6
          refine lv_lload_n hx hb dX5_closingPasses_29 rfl (lv_at hl 1 rfl) ?_
          refine lv_iload hx hb dX5_closingPasses_30 (lv_at hl 0 rfl) ?_
          refine kcalll (wc := []) (wr := [cX x nw sn tk hs tx tr, cR nw na nb σ, xI g na 49 (zT σ), xI g nb 49 (zI σ)]) (wn := fun (u : Unit) => [cX x nw sn tk hs tx tr, cR nw na nb σ, xI g na 49 (zT σ), xI g nb 49 (zI σ)]) F w [] [0, 1, 2, 3] [0, 1, 2, 3] rfl rfl rfl (fun _ => rfl)
            (fun hp => va_runS (As := [.int (nI (j + 1))]) (rest := [.long (zB (clP (zO σ) j))]) F.1 (kX5_bit l g (j + 1) H.size (by omega)) (va_cwS 1 hts gX5_closingPasses_X5_bit rfl rfl rfl hd_X5_bit ⟨Nat.le_of_ble_eq_true rfl, Nat.le_of_ble_eq_true rfl⟩) hp rfl rfl hl.1 rfl (lv_room (Nat.le_of_ble_eq_true rfl)) dX5_closingPasses_32 ⟨Nat.le_of_ble_eq_true rfl, Nat.le_of_ble_eq_true rfl⟩)
            (fun r_7 _ H locs h_8 w => ?_)
          subst h_8
          refine lv_lor hx hb dX5_closingPasses_35 ?_
          refine ktopl (y := zB (clP (zO σ) (j + 1))) (clP_t (by omega) h_6) ?_
          refine lv_lstore_n (lv' := [(3, .long (zB (clP (zO σ) (j + 1)))), (5, .int (nI (j + 1))), (1, .long (zB (clO (zO σ) j))), (0, .ref x)]) hx hb dX5_closingPasses_36 rfl hl (by decide) rfl (fun ls hl => ?_)
          refine lv_lload_n hx hb dX5_closingPasses_37 rfl (lv_at hl 2 rfl) ?_
          refine lv_iload hx hb dX5_closingPasses_38 (lv_at hl 1 rfl) ?_
          refine kcalll (wc := []) (wr := [cX x nw sn tk hs tx tr, cR nw na nb σ, xI g na 49 (zT σ), xI g nb 49 (zI σ)]) (wn := fun (u : Unit) => [cX x nw sn tk hs tx tr, cR nw na nb σ, xI g na 49 (zT σ), xI g nb 49 (zI σ)]) F w [] [0, 1, 2, 3] [0, 1, 2, 3] rfl rfl rfl (fun _ => rfl)
            (fun hp => va_runS (As := [.int (nI (j + 1))]) (rest := [.long (zB (clO (zO σ) j))]) F.1 (kX5_multiplesOf l g (j + 1) H.size (by omega)) (va_cwS 1 hts gX5_closingPasses_X5_multiplesOf rfl rfl rfl hd_X5_multiplesOf ⟨Nat.le_of_ble_eq_true rfl, Nat.le_of_ble_eq_true rfl⟩) hp rfl rfl hl.1 rfl (lv_room (Nat.le_of_ble_eq_true rfl)) dX5_closingPasses_40 ⟨Nat.le_of_ble_eq_true rfl, Nat.le_of_ble_eq_true rfl⟩)
            (fun r_9 _ H locs h_10 w => ?_)
          subst h_10
          refine lv_lxor hx hb dX5_closingPasses_43 ?_
          refine ktopl (y := zB (clO (zO σ) (j + 1))) (clO_t h_6) ?_
          refine lv_lstore_n (lv' := [(1, .long (zB (clO (zO σ) (j + 1)))), (3, .long (zB (clP (zO σ) (j + 1)))), (5, .int (nI (j + 1))), (0, .ref x)]) hx hb dX5_closingPasses_44 rfl hl (by decide) rfl (fun ls hl => ?_)
          refine lv_iinc (v := nI (j + 1 + 1)) (lv' := [(5, .int (nI (j + 1 + 1))), (1, .long (zB (clO (zO σ) (j + 1)))), (3, .long (zB (clP (zO σ) (j + 1)))), (0, .ref x)]) hx hb dX5_closingPasses_45 hl (k := 2) rfl (nI_add (j + 1) 1) (by decide) rfl (fun ls hl => ?_)
          refine lv_goto (tgt := 13) hx hb dX5_closingPasses_48 (by decide) ?_
          exact ih_1 (j + 1) (by omega) _ _ _ (by omega) (kW.perm w [0, 1, 2, 3] rfl rfl) (lv_sub hl [0, 2, 1, 3] rfl)
  exact LP_1 _ 0 (by omega) _ _ _ (Nat.lt_succ_self _) (kW.perm w [0, 1, 2, 3] rfl rfl) (lv_sub hl [0, 1, 2, 3] rfl)
theorem hd_J13_bitCount_95d88 : yJ13_bitCount_95d88.cls ≠ "java/lang/invoke/MethodHandle" ∧ yJ13_bitCount_95d88.cls ≠ "java/lang/invoke/VarHandle" ∧ (parseMethodDescriptor yJ13_bitCount_95d88.desc).map (fun d => d.parameters.length) = some 1 := by decide +kernel
theorem hd_X5_closingPasses : yX5_closingPasses.cls ≠ "java/lang/invoke/MethodHandle" ∧ yX5_closingPasses.cls ≠ "java/lang/invoke/VarHandle" ∧ (parseMethodDescriptor yX5_closingPasses.desc).map (fun d => d.parameters.length) = some 0 := by decide +kernel
abbrev rmX5_passesToClose : Room := { frames := 3, cells := 0, slots := 0, locals := 69 }
set_option maxHeartbeats 4000000 in
set_option maxRecDepth 100000 in
theorem kX5_passesToClose (l : Launch) (g : GG) (x : Nat) (nw : Nat) (sn : Nat) (tk : Bool) (hs : Nat) (tx : Nat) (tr : Nat) (na : Nat) (nb : Nat) (σ : Sg) (sz : Nat)  : Met l yX5_passesToClose wsX5_passesToClose rmX5_passesToClose (va_Pc [.ref x] (kPre g [cX x nw sn tk hs tx tr, cR nw na nb σ, xI g na 49 (zT σ), xI g nb 49 (zI σ)] sz)) (va_Qi (fun (r : Int32) (u : Unit) => r = nI (zcnt (clP (zO σ) 48) 48)) (kB g (va_A [cX x nw sn tk hs tx tr, cR nw na nb σ, xI g na 49 (zT σ), xI g nb 49 (zI σ)] sz) (fun u => [cX x nw sn tk hs tx tr, cR nw na nb σ, xI g na 49 (zT σ), xI g nb 49 (zI σ)])) (va_A [cX x nw sn tk hs tx tr, cR nw na nb σ, xI g na 49 (zT σ), xI g nb 49 (zI σ)] sz)) 0 0 (va_A [cX x nw sn tk hs tx tr, cR nw na nb σ, xI g na 49 (zT σ), xI g nb 49 (zI σ)] sz) := by
  refine kMet (cc := cX5_passesToClose) (maxL := 1) (ret := (some .int)) (own := RX5) (by decide) rfl rfl (Nat.le_of_ble_eq_true rfl) ?_
  intro p e s m args below meth c ls Q H locs A F w hl hnm hA hQ
  have hx := F.1.1
  have hb := F.1.2.1
  have hts := F.1.2.2.2.2
  have hl : lv_has ls 1 [(0, .ref x)] := hl
  refine lv_aload_n hx hb dX5_passesToClose_0 rfl (lv_at hl 0 rfl) ?_
  refine kcalll (wc := [cX x nw sn tk hs tx tr, cR nw na nb σ, xI g na 49 (zT σ), xI g nb 49 (zI σ)]) (wr := []) (wn := fun (u : Unit) => [cX x nw sn tk hs tx tr, cR nw na nb σ, xI g na 49 (zT σ), xI g nb 49 (zI σ)]) F w [0, 1, 2, 3] [] [0, 1, 2, 3] rfl rfl rfl (fun _ => rfl)
    (fun hp => va_runV (As := []) (rest := []) F.1 (kX5_closingPasses l g x nw sn tk hs tx tr na nb σ H.size ) (cwV 0 hts gX5_passesToClose_X5_closingPasses rfl rfl rfl ⟨rfl, hd_X5_closingPasses⟩ ⟨Nat.le_of_ble_eq_true rfl, Nat.le_of_ble_eq_true rfl⟩) ⟨hp.1, va_recv F.2.2.2.1.1 w.1 (q0 := 0) (ci := 5) rfl rfl, hp.2⟩ rfl rfl hl.1 rfl (lv_room (Nat.le_of_ble_eq_true rfl)) dX5_passesToClose_1 ⟨Nat.le_of_ble_eq_true rfl, Nat.le_of_ble_eq_true rfl⟩)
    (fun r_1 _ H locs h_2 w => ?_)
  subst h_2
  refine kcalli (wc := []) (wr := [cX x nw sn tk hs tx tr, cR nw na nb σ, xI g na 49 (zT σ), xI g nb 49 (zI σ)]) (wn := fun (u : Unit) => [cX x nw sn tk hs tx tr, cR nw na nb σ, xI g na 49 (zT σ), xI g nb 49 (zI σ)]) F w [] [0, 1, 2, 3] [0, 1, 2, 3] rfl rfl rfl (fun _ => rfl)
    (fun hp => va_runS (As := [.long (zB (clP (zO σ) 48))]) (rest := []) F.1 (kJ13_bitCount_95d88 l g (zB (clP (zO σ) 48)) H.size ) (va_cwS 1 hts gX5_passesToClose_J13_bitCount_95d88 rfl rfl rfl hd_J13_bitCount_95d88 ⟨Nat.le_of_ble_eq_true rfl, Nat.le_of_ble_eq_true rfl⟩) hp rfl rfl hl.1 rfl (lv_room (Nat.le_of_ble_eq_true rfl)) dX5_passesToClose_4 ⟨Nat.le_of_ble_eq_true rfl, Nat.le_of_ble_eq_true rfl⟩)
    (fun r_3 _ H locs h_4 w => ?_)
  subst h_4
  refine ktopi (y := nI (zcnt (clP (zO σ) 48) 48)) (zpop_B _) ?_
  subst hA
  subst hQ
  exact kreti F w () [0, 1, 2, 3] rfl rfl (rfl) (Nat.le_of_ble_eq_true rfl) (Nat.le_of_ble_eq_true rfl) dX5_passesToClose_7
theorem in_X5_isClosingByDivisors_X2 : ∀ w ∈ wsX20, w ∈ wsX5_isClosingByDivisors := by decide +kernel
theorem in_X5_isClosingByDivisors_X5 : ∀ w ∈ wsX50, w ∈ wsX5_isClosingByDivisors := by decide +kernel
theorem hd_X5_isSquareFree : yX5_isSquareFree.cls ≠ "java/lang/invoke/MethodHandle" ∧ yX5_isSquareFree.cls ≠ "java/lang/invoke/VarHandle" ∧ (parseMethodDescriptor yX5_isSquareFree.desc).map (fun d => d.parameters.length) = some 1 := by decide +kernel
abbrev rmX5_isClosingByDivisors : Room := { frames := 2, cells := 0, slots := 0, locals := 42 }
set_option maxHeartbeats 4000000 in
set_option maxRecDepth 100000 in
theorem kX5_isClosingByDivisors (l : Launch) (g : GG) (x : Nat) (nw : Nat) (sn : Nat) (tk : Bool) (hs : Nat) (tx : Nat) (tr : Nat) (na : Nat) (nb : Nat) (σ : Sg) (k : Nat) (sz : Nat) (hk : 1 ≤ k ∧ k ≤ 48) : Met l yX5_isClosingByDivisors wsX5_isClosingByDivisors rmX5_isClosingByDivisors (va_Pc [.ref x, .int (nI k)] (kPre g [cX x nw sn tk hs tx tr, cR nw na nb σ, xI g na 49 (zT σ), xI g nb 49 (zI σ)] sz)) (va_Qi (fun (r : Int32) (u : Unit) => r = bI (cdN (zO σ) k 48)) (kB g (va_A [cX x nw sn tk hs tx tr, cR nw na nb σ, xI g na 49 (zT σ), xI g nb 49 (zI σ)] sz) (fun u => [cX x nw sn tk hs tx tr, cR nw na nb σ, xI g na 49 (zT σ), xI g nb 49 (zI σ)])) (va_A [cX x nw sn tk hs tx tr, cR nw na nb σ, xI g na 49 (zT σ), xI g nb 49 (zI σ)] sz)) 0 0 (va_A [cX x nw sn tk hs tx tr, cR nw na nb σ, xI g na 49 (zT σ), xI g nb 49 (zI σ)] sz) := by
  refine kMet (cc := cX5_isClosingByDivisors) (maxL := 4) (ret := (some .boolean)) (own := RX5) (by decide) rfl rfl (Nat.le_of_ble_eq_true rfl) ?_
  intro p e s m args below meth c ls Q H locs A F w hl hnm hA hQ
  have hx := F.1.1
  have hb := F.1.2.1
  have hts := F.1.2.2.2.2
  have hl : lv_has ls 4 [(0, .ref x), (1, .int (nI k))] := hl
  refine lv_iconst (v := nI 0) hx hb dX5_isClosingByDivisors_0 (by decide) ?_
  refine ktopi (y := bI (cdN (zO σ) k 0)) (rfl) ?_
  refine lv_istore_n (lv' := [(2, .int (bI (cdN (zO σ) k 0))), (0, .ref x), (1, .int (nI k))]) hx hb dX5_isClosingByDivisors_1 rfl hl (by decide) rfl (fun ls hl => ?_)
  refine lv_iconst (v := nI 1) hx hb dX5_isClosingByDivisors_2 (by decide) ?_
  refine ktopi (y := nI (0 + 1)) (rfl) ?_
  refine lv_istore_n (lv' := [(3, .int (nI (0 + 1))), (2, .int (bI (cdN (zO σ) k 0))), (0, .ref x), (1, .int (nI k))]) hx hb dX5_isClosingByDivisors_3 rfl hl (by decide) rfl (fun ls hl => ?_)
  have LP_1 : ∀ (fu : Nat) (j : Nat) (h1 : j ≤ 48) (H : Heap) (locs : List Loc) (ls : Array Slot), 50 - j < fu → kW g A s [cX x nw sn tk hs tx tr, cR nw na nb σ, xI g na 49 (zT σ), xI g nb 49 (zI σ)] H locs → lv_has ls 4 [(3, .int (nI (j + 1))), (2, .int (bI (cdN (zO σ) k j))), (0, .ref x), (1, .int (nI k))] → W p l e rmX5_isClosingByDivisors s m args below meth c H locs 0 0 Q (F0 m 4 ls []) := by
    intro fu
    induction fu with
    | zero => intro j h1 H locs ls hlt; omega
    | succ fu ih_1 =>
      intro j h1 H locs ls hlt w hl
      refine lv_iload_n hx hb dX5_isClosingByDivisors_4 rfl (lv_at hl 0 rfl) ?_
      refine lv_bipush (v := nI 48) hx hb dX5_isClosingByDivisors_5 (by decide) ?_
      refine lv_icmp_gt (tgt := 57) hx hb dX5_isClosingByDivisors_7 (by decide) (fun h_2 => ?_) (fun h_2 => ?_)
      · have h_2 : j + 1 > 48 := (kc_gt_t (by omega) (by omega)).mp h_2
        have e_3 : j = 48 := by omega
        subst e_3
        skip
        refine lv_iload_n hx hb dX5_isClosingByDivisors_57 rfl (lv_at hl 1 rfl) ?_
        subst hA
        subst hQ
        exact kretz F w () [0, 1, 2, 3] rfl rfl (rfl) (kz_n _) (Nat.le_of_ble_eq_true rfl) (Nat.le_of_ble_eq_true rfl) dX5_isClosingByDivisors_58
      · have h_2 : j + 1 ≤ 48 := (kc_gt_f (by omega) (by omega)).mp h_2
        refine lv_aload_n hx hb dX5_isClosingByDivisors_10 rfl (lv_at hl 2 rfl) ?_
        refine kget (fs := [.ref nw, .ref sn, .int (bI tk), .ref hs, .ref tx, .ref tr]) F w in_X5_isClosingByDivisors_X5 0 rfl rfl 0 (by decide) (by decide +kernel) rfl rfl dX5_isClosingByDivisors_11 ?_
        refine kgetN (host := RX5) (fs := [.long (zB (zO σ)), .long (zB (zL σ)), .long (zB (zS σ)), .long (zB (zF σ)), .long (zB (zV σ)), .ref na, .ref nb]) F w in_X5_isClosingByDivisors_X2 1 rfl rfl 0 (by decide) (by decide +kernel) rfl rfl dX5_isClosingByDivisors_14 ?_
        refine lv_iload_n hx hb dX5_isClosingByDivisors_17 rfl (lv_at hl 0 rfl) ?_
        refine kcalli (wc := []) (wr := [cX x nw sn tk hs tx tr, cR nw na nb σ, xI g na 49 (zT σ), xI g nb 49 (zI σ)]) (wn := fun (u : Unit) => [cX x nw sn tk hs tx tr, cR nw na nb σ, xI g na 49 (zT σ), xI g nb 49 (zI σ)]) F w [] [0, 1, 2, 3] [0, 1, 2, 3] rfl rfl rfl (fun _ => rfl)
          (fun hp => va_runS (As := [.long (zB (zO σ)), .int (nI (j + 1))]) (rest := []) F.1 (kX5_contains l g (zB (zO σ)) (j + 1) H.size (by omega)) (va_cwS 2 hts gX5_isClosingByDivisors_X5_contains rfl rfl rfl hd_X5_contains ⟨Nat.le_of_ble_eq_true rfl, Nat.le_of_ble_eq_true rfl⟩) hp rfl rfl hl.1 rfl (lv_room (Nat.le_of_ble_eq_true rfl)) dX5_isClosingByDivisors_18 ⟨Nat.le_of_ble_eq_true rfl, Nat.le_of_ble_eq_true rfl⟩)
          (fun r_4 _ H locs h_5 w => ?_)
        subst h_5
        refine ktopi (y := bI (zO σ (j + 1))) (congrArg bI (zG_in (by omega) (by omega))) ?_
        refine lv_if_eq (tgt := 51) hx hb dX5_isClosingByDivisors_21 (by decide) (fun h_6 => ?_) (fun h_6 => ?_)
        · have h_6 : (zO σ (j + 1)) = false := bI_z.mp h_6
          have hc : cdN (zO σ) k (j + 1) = cdN (zO σ) k j := cdN_f (by rw [h_6]; simp)
          rw [← hc] at hl
          refine lv_iinc (v := nI (j + 1 + 1)) (lv' := [(3, .int (nI (j + 1 + 1))), (2, .int (bI (cdN (zO σ) k (j + 1)))), (0, .ref x), (1, .int (nI k))]) hx hb dX5_isClosingByDivisors_51 hl (k := 0) rfl (nI_add (j + 1) 1) (by decide) rfl (fun ls hl => ?_)
          refine lv_goto (tgt := 4) hx hb dX5_isClosingByDivisors_54 (by decide) ?_
          exact ih_1 (j + 1) (by omega) _ _ _ (by omega) (kW.perm w [0, 1, 2, 3] rfl rfl) (lv_sub hl [0, 1, 2, 3] rfl)
        · have h_6 : (zO σ (j + 1)) = true := bI_o.mp h_6
          refine lv_iload_n hx hb dX5_isClosingByDivisors_24 rfl (lv_at hl 0 rfl) ?_
          refine lv_iload_n hx hb dX5_isClosingByDivisors_25 rfl (lv_at hl 3 rfl) ?_
          refine kcalli (wc := []) (wr := [cX x nw sn tk hs tx tr, cR nw na nb σ, xI g na 49 (zT σ), xI g nb 49 (zI σ)]) (wn := fun (u : Unit) => [cX x nw sn tk hs tx tr, cR nw na nb σ, xI g na 49 (zT σ), xI g nb 49 (zI σ)]) F w [] [0, 1, 2, 3] [0, 1, 2, 3] rfl rfl rfl (fun _ => rfl)
            (fun hp => va_runS (As := [.int (nI (j + 1)), .int (nI k)]) (rest := []) F.1 (kX5_divides l g (j + 1) k H.size (by omega) (by omega)) (va_cwS 2 hts gX5_isClosingByDivisors_X5_divides rfl rfl rfl hd_X5_divides ⟨Nat.le_of_ble_eq_true rfl, Nat.le_of_ble_eq_true rfl⟩) hp rfl rfl hl.1 rfl (lv_room (Nat.le_of_ble_eq_true rfl)) dX5_isClosingByDivisors_26 ⟨Nat.le_of_ble_eq_true rfl, Nat.le_of_ble_eq_true rfl⟩)
            (fun r_7 _ H locs h_8 w => ?_)
          subst h_8
          refine lv_if_eq (tgt := 51) hx hb dX5_isClosingByDivisors_29 (by decide) (fun h_9 => ?_) (fun h_9 => ?_)
          · have h_9 : (decide ((j + 1) ∣ k)) = false := bI_z.mp h_9
            have hc : cdN (zO σ) k (j + 1) = cdN (zO σ) k j := cdN_f (by rw [h_9]; simp)
            rw [← hc] at hl
            refine lv_iinc (v := nI (j + 1 + 1)) (lv' := [(3, .int (nI (j + 1 + 1))), (2, .int (bI (cdN (zO σ) k (j + 1)))), (0, .ref x), (1, .int (nI k))]) hx hb dX5_isClosingByDivisors_51 hl (k := 0) rfl (nI_add (j + 1) 1) (by decide) rfl (fun ls hl => ?_)
            refine lv_goto (tgt := 4) hx hb dX5_isClosingByDivisors_54 (by decide) ?_
            exact ih_1 (j + 1) (by omega) _ _ _ (by omega) (kW.perm w [0, 1, 2, 3] rfl rfl) (lv_sub hl [0, 1, 2, 3] rfl)
          · have h_9 : (decide ((j + 1) ∣ k)) = true := bI_o.mp h_9
            have hkj : k / (j + 1) ≤ k := Nat.div_le_self _ _
            refine lv_iload_n hx hb dX5_isClosingByDivisors_32 rfl (lv_at hl 3 rfl) ?_
            refine lv_iload_n hx hb dX5_isClosingByDivisors_33 rfl (lv_at hl 0 rfl) ?_
            refine lv_idiv hx hb dX5_isClosingByDivisors_34 ((kc0_eq_f (by omega)).mpr (by omega)) ?_
            refine ktopi (y := nI (k / (j + 1))) (pk_div (a := k) (d := j + 1) (by omega) (by omega) (by omega)) ?_
            refine kcalli (wc := []) (wr := [cX x nw sn tk hs tx tr, cR nw na nb σ, xI g na 49 (zT σ), xI g nb 49 (zI σ)]) (wn := fun (u : Unit) => [cX x nw sn tk hs tx tr, cR nw na nb σ, xI g na 49 (zT σ), xI g nb 49 (zI σ)]) F w [] [0, 1, 2, 3] [0, 1, 2, 3] rfl rfl rfl (fun _ => rfl)
              (fun hp => va_runS (As := [.int (nI (k / (j + 1)))]) (rest := []) F.1 (kX5_isSquareFree l g (k / (j + 1)) H.size (by omega)) (va_cwS 1 hts gX5_isClosingByDivisors_X5_isSquareFree rfl rfl rfl hd_X5_isSquareFree ⟨Nat.le_of_ble_eq_true rfl, Nat.le_of_ble_eq_true rfl⟩) hp rfl rfl hl.1 rfl (lv_room (Nat.le_of_ble_eq_true rfl)) dX5_isClosingByDivisors_35 ⟨Nat.le_of_ble_eq_true rfl, Nat.le_of_ble_eq_true rfl⟩)
              (fun r_10 _ H locs h_11 w => ?_)
            subst h_11
            refine lv_if_eq (tgt := 51) hx hb dX5_isClosingByDivisors_38 (by decide) (fun h_12 => ?_) (fun h_12 => ?_)
            · have h_12 : (zsq (k / (j + 1))) = false := bI_z.mp h_12
              have hc : cdN (zO σ) k (j + 1) = cdN (zO σ) k j := cdN_f (by rw [h_12]; simp)
              rw [← hc] at hl
              refine lv_iinc (v := nI (j + 1 + 1)) (lv' := [(3, .int (nI (j + 1 + 1))), (2, .int (bI (cdN (zO σ) k (j + 1)))), (0, .ref x), (1, .int (nI k))]) hx hb dX5_isClosingByDivisors_51 hl (k := 0) rfl (nI_add (j + 1) 1) (by decide) rfl (fun ls hl => ?_)
              refine lv_goto (tgt := 4) hx hb dX5_isClosingByDivisors_54 (by decide) ?_
              exact ih_1 (j + 1) (by omega) _ _ _ (by omega) (kW.perm w [0, 1, 2, 3] rfl rfl) (lv_sub hl [0, 1, 2, 3] rfl)
            · have h_12 : (zsq (k / (j + 1))) = true := bI_o.mp h_12
              have hc : cdN (zO σ) k (j + 1) = !cdN (zO σ) k j := cdN_t (by rw [h_6, h_9, h_12]; rfl)
              refine lv_iload_n hx hb dX5_isClosingByDivisors_41 rfl (lv_at hl 1 rfl) ?_
              refine lv_if_ne (tgt := 49) hx hb dX5_isClosingByDivisors_42 (by decide) (fun h_13 => ?_) (fun h_13 => ?_)
              · have h_13 : (cdN (zO σ) k j) = true := bI_o.mp h_13
                refine lv_iconst (v := nI 0) hx hb dX5_isClosingByDivisors_49 (by decide) ?_
                refine ktopi (y := bI (cdN (zO σ) k (j + 1))) (by rw [hc, h_13]; rfl) ?_
                refine lv_istore_n (lv' := [(2, .int (bI (cdN (zO σ) k (j + 1)))), (3, .int (nI (j + 1))), (0, .ref x), (1, .int (nI k))]) hx hb dX5_isClosingByDivisors_50 rfl hl (by decide) rfl (fun ls hl => ?_)
                refine lv_iinc (v := nI (j + 1 + 1)) (lv' := [(3, .int (nI (j + 1 + 1))), (2, .int (bI (cdN (zO σ) k (j + 1)))), (0, .ref x), (1, .int (nI k))]) hx hb dX5_isClosingByDivisors_51 hl (k := 1) rfl (nI_add (j + 1) 1) (by decide) rfl (fun ls hl => ?_)
                refine lv_goto (tgt := 4) hx hb dX5_isClosingByDivisors_54 (by decide) ?_
                exact ih_1 (j + 1) (by omega) _ _ _ (by omega) (kW.perm w [0, 1, 2, 3] rfl rfl) (lv_sub hl [0, 1, 2, 3] rfl)
              · have h_13 : (cdN (zO σ) k j) = false := bI_z.mp h_13
                refine lv_iconst (v := nI 1) hx hb dX5_isClosingByDivisors_45 (by decide) ?_
                refine lv_goto (tgt := 50) hx hb dX5_isClosingByDivisors_46 (by decide) ?_
                refine ktopi (y := bI (cdN (zO σ) k (j + 1))) (by rw [hc, h_13]; rfl) ?_
                refine lv_istore_n (lv' := [(2, .int (bI (cdN (zO σ) k (j + 1)))), (3, .int (nI (j + 1))), (0, .ref x), (1, .int (nI k))]) hx hb dX5_isClosingByDivisors_50 rfl hl (by decide) rfl (fun ls hl => ?_)
                refine lv_iinc (v := nI (j + 1 + 1)) (lv' := [(3, .int (nI (j + 1 + 1))), (2, .int (bI (cdN (zO σ) k (j + 1)))), (0, .ref x), (1, .int (nI k))]) hx hb dX5_isClosingByDivisors_51 hl (k := 1) rfl (nI_add (j + 1) 1) (by decide) rfl (fun ls hl => ?_)
                refine lv_goto (tgt := 4) hx hb dX5_isClosingByDivisors_54 (by decide) ?_
                exact ih_1 (j + 1) (by omega) _ _ _ (by omega) (kW.perm w [0, 1, 2, 3] rfl rfl) (lv_sub hl [0, 1, 2, 3] rfl)
  exact LP_1 _ 0 (by omega) _ _ _ (Nat.lt_succ_self _) (kW.perm w [0, 1, 2, 3] rfl rfl) (lv_sub hl [0, 1, 2, 3] rfl)
theorem hd_X5_isClosingByDivisors : yX5_isClosingByDivisors.cls ≠ "java/lang/invoke/MethodHandle" ∧ yX5_isClosingByDivisors.cls ≠ "java/lang/invoke/VarHandle" ∧ (parseMethodDescriptor yX5_isClosingByDivisors.desc).map (fun d => d.parameters.length) = some 1 := by decide +kernel
abbrev rmX5_closingByDivisors : Room := { frames := 3, cells := 0, slots := 0, locals := 65 }
set_option maxHeartbeats 4000000 in
set_option maxRecDepth 100000 in
theorem kX5_closingByDivisors (l : Launch) (g : GG) (x : Nat) (nw : Nat) (sn : Nat) (tk : Bool) (hs : Nat) (tx : Nat) (tr : Nat) (na : Nat) (nb : Nat) (σ : Sg) (sz : Nat)  : Met l yX5_closingByDivisors wsX5_closingByDivisors rmX5_closingByDivisors (va_Pc [.ref x] (kPre g [cX x nw sn tk hs tx tr, cR nw na nb σ, xI g na 49 (zT σ), xI g nb 49 (zI σ)] sz)) (va_Ql (fun (r : Int64) (u : Unit) => r = zB (cdP (zO σ))) (kB g (va_A [cX x nw sn tk hs tx tr, cR nw na nb σ, xI g na 49 (zT σ), xI g nb 49 (zI σ)] sz) (fun u => [cX x nw sn tk hs tx tr, cR nw na nb σ, xI g na 49 (zT σ), xI g nb 49 (zI σ)])) (va_A [cX x nw sn tk hs tx tr, cR nw na nb σ, xI g na 49 (zT σ), xI g nb 49 (zI σ)] sz)) 0 0 (va_A [cX x nw sn tk hs tx tr, cR nw na nb σ, xI g na 49 (zT σ), xI g nb 49 (zI σ)] sz) := by
  refine kMet (cc := cX5_closingByDivisors) (maxL := 4) (ret := (some .long)) (own := RX5) (by decide) rfl rfl (Nat.le_of_ble_eq_true rfl) ?_
  intro p e s m args below meth c ls Q H locs A F w hl hnm hA hQ
  have hx := F.1.1
  have hb := F.1.2.1
  have hts := F.1.2.2.2.2
  have hl : lv_has ls 4 [(0, .ref x)] := hl
  refine lv_lconst (v := 0) hx hb dX5_closingByDivisors_0 (by decide) ?_
  refine ktopl (y := zBu (cdP (zO σ)) 0) (zBu_0.symm) ?_
  refine lv_lstore_n (lv' := [(1, .long (zBu (cdP (zO σ)) 0)), (0, .ref x)]) hx hb dX5_closingByDivisors_1 rfl hl (by decide) rfl (fun ls hl => ?_)
  refine lv_iconst (v := nI 1) hx hb dX5_closingByDivisors_2 (by decide) ?_
  refine ktopi (y := nI (0 + 1)) (rfl) ?_
  refine lv_istore_n (lv' := [(3, .int (nI (0 + 1))), (1, .long (zBu (cdP (zO σ)) 0)), (0, .ref x)]) hx hb dX5_closingByDivisors_3 rfl hl (by decide) rfl (fun ls hl => ?_)
  have LP_1 : ∀ (fu : Nat) (j : Nat) (h1 : j ≤ 48) (H : Heap) (locs : List Loc) (ls : Array Slot), 50 - j < fu → kW g A s [cX x nw sn tk hs tx tr, cR nw na nb σ, xI g na 49 (zT σ), xI g nb 49 (zI σ)] H locs → lv_has ls 4 [(3, .int (nI (j + 1))), (1, .long (zBu (cdP (zO σ)) j)), (0, .ref x)] → W p l e rmX5_closingByDivisors s m args below meth c H locs 0 0 Q (F0 m 4 ls []) := by
    intro fu
    induction fu with
    | zero => intro j h1 H locs ls hlt; omega
    | succ fu ih_1 =>
      intro j h1 H locs ls hlt w hl
      refine lv_iload_n hx hb dX5_closingByDivisors_4 rfl (lv_at hl 0 rfl) ?_
      refine lv_bipush (v := nI 48) hx hb dX5_closingByDivisors_5 (by decide) ?_
      refine lv_icmp_gt (tgt := 31) hx hb dX5_closingByDivisors_7 (by decide) (fun h_2 => ?_) (fun h_2 => ?_)
      · have h_2 : j + 1 > 48 := (kc_gt_t (by omega) (by omega)).mp h_2
        have e_3 : j = 48 := by omega
        subst e_3
        refine lv_lload_n hx hb dX5_closingByDivisors_31 rfl (lv_at hl 1 rfl) ?_
        refine ktopl (y := zB (cdP (zO σ))) (zBu_e) ?_
        subst hA
        subst hQ
        exact kretl F w () [0, 1, 2, 3] rfl rfl (rfl) (Nat.le_of_ble_eq_true rfl) (Nat.le_of_ble_eq_true rfl) dX5_closingByDivisors_32
      · have h_2 : j + 1 ≤ 48 := (kc_gt_f (by omega) (by omega)).mp h_2
        refine lv_aload_n hx hb dX5_closingByDivisors_10 rfl (lv_at hl 2 rfl) ?_
        refine lv_iload_n hx hb dX5_closingByDivisors_11 rfl (lv_at hl 0 rfl) ?_
        refine kcalli (wc := [cX x nw sn tk hs tx tr, cR nw na nb σ, xI g na 49 (zT σ), xI g nb 49 (zI σ)]) (wr := []) (wn := fun (u : Unit) => [cX x nw sn tk hs tx tr, cR nw na nb σ, xI g na 49 (zT σ), xI g nb 49 (zI σ)]) F w [0, 1, 2, 3] [] [0, 1, 2, 3] rfl rfl rfl (fun _ => rfl)
          (fun hp => va_runV (As := [.int (nI (j + 1))]) (rest := []) F.1 (kX5_isClosingByDivisors l g x nw sn tk hs tx tr na nb σ (j + 1) H.size (by omega)) (cwV 1 hts gX5_closingByDivisors_X5_isClosingByDivisors rfl rfl rfl ⟨rfl, hd_X5_isClosingByDivisors⟩ ⟨Nat.le_of_ble_eq_true rfl, Nat.le_of_ble_eq_true rfl⟩) ⟨hp.1, va_recv F.2.2.2.1.1 w.1 (q0 := 0) (ci := 5) rfl rfl, hp.2⟩ rfl rfl hl.1 rfl (lv_room (Nat.le_of_ble_eq_true rfl)) dX5_closingByDivisors_12 ⟨Nat.le_of_ble_eq_true rfl, Nat.le_of_ble_eq_true rfl⟩)
          (fun r_4 _ H locs h_5 w => ?_)
        subst h_5
        refine ktopi (y := bI (cdP (zO σ) (j + 1))) (rfl) ?_
        refine lv_if_eq (tgt := 25) hx hb dX5_closingByDivisors_15 (by decide) (fun h_6 => ?_) (fun h_6 => ?_)
        · have h_6 : (cdP (zO σ) (j + 1)) = false := bI_z.mp h_6
          rw [show zBu (cdP (zO σ)) j = zBu (cdP (zO σ)) (j + 1) from (or_0 _).symm.trans (zBu_f h_6)] at hl
          refine lv_iinc (v := nI (j + 1 + 1)) (lv' := [(3, .int (nI (j + 1 + 1))), (1, .long (zBu (cdP (zO σ)) (j + 1))), (0, .ref x)]) hx hb dX5_closingByDivisors_25 hl (k := 0) rfl (nI_add (j + 1) 1) (by decide) rfl (fun ls hl => ?_)
          refine lv_goto (tgt := 4) hx hb dX5_closingByDivisors_28 (by decide) ?_
          exact ih_1 (j + 1) (by omega) _ _ _ (by omega) (kW.perm w [0, 1, 2, 3] rfl rfl) (lv_sub hl [0, 1, 2] rfl)
        · have h_6 : (cdP (zO σ) (j + 1)) = true := bI_o.mp h_6
          refine lv_lload_n hx hb dX5_closingByDivisors_18 rfl (lv_at hl 1 rfl) ?_
          refine lv_iload_n hx hb dX5_closingByDivisors_19 rfl (lv_at hl 0 rfl) ?_
          refine kcalll (wc := []) (wr := [cX x nw sn tk hs tx tr, cR nw na nb σ, xI g na 49 (zT σ), xI g nb 49 (zI σ)]) (wn := fun (u : Unit) => [cX x nw sn tk hs tx tr, cR nw na nb σ, xI g na 49 (zT σ), xI g nb 49 (zI σ)]) F w [] [0, 1, 2, 3] [0, 1, 2, 3] rfl rfl rfl (fun _ => rfl)
            (fun hp => va_runS (As := [.int (nI (j + 1))]) (rest := [.long (zBu (cdP (zO σ)) j)]) F.1 (kX5_bit l g (j + 1) H.size (by omega)) (va_cwS 1 hts gX5_closingByDivisors_X5_bit rfl rfl rfl hd_X5_bit ⟨Nat.le_of_ble_eq_true rfl, Nat.le_of_ble_eq_true rfl⟩) hp rfl rfl hl.1 rfl (lv_room (Nat.le_of_ble_eq_true rfl)) dX5_closingByDivisors_20 ⟨Nat.le_of_ble_eq_true rfl, Nat.le_of_ble_eq_true rfl⟩)
            (fun r_7 _ H locs h_8 w => ?_)
          subst h_8
          refine lv_lor hx hb dX5_closingByDivisors_23 ?_
          refine ktopl (y := zBu (cdP (zO σ)) (j + 1)) (zBu_t (by omega) h_6) ?_
          refine lv_lstore_n (lv' := [(1, .long (zBu (cdP (zO σ)) (j + 1))), (3, .int (nI (j + 1))), (0, .ref x)]) hx hb dX5_closingByDivisors_24 rfl hl (by decide) rfl (fun ls hl => ?_)
          refine lv_iinc (v := nI (j + 1 + 1)) (lv' := [(3, .int (nI (j + 1 + 1))), (1, .long (zBu (cdP (zO σ)) (j + 1))), (0, .ref x)]) hx hb dX5_closingByDivisors_25 hl (k := 1) rfl (nI_add (j + 1) 1) (by decide) rfl (fun ls hl => ?_)
          refine lv_goto (tgt := 4) hx hb dX5_closingByDivisors_28 (by decide) ?_
          exact ih_1 (j + 1) (by omega) _ _ _ (by omega) (kW.perm w [0, 1, 2, 3] rfl rfl) (lv_sub hl [0, 1, 2] rfl)
  exact LP_1 _ 0 (by omega) _ _ _ (Nat.lt_succ_self _) (kW.perm w [0, 1, 2, 3] rfl rfl) (lv_sub hl [0, 1, 2] rfl)
theorem in_X5_wouldBeOpen_X2 : ∀ w ∈ wsX20, w ∈ wsX5_wouldBeOpen := by decide +kernel
theorem in_X5_wouldBeOpen_X5 : ∀ w ∈ wsX50, w ∈ wsX5_wouldBeOpen := by decide +kernel
theorem hd_X2_turnedBy : yX2_turnedBy.cls ≠ "java/lang/invoke/MethodHandle" ∧ yX2_turnedBy.cls ≠ "java/lang/invoke/VarHandle" ∧ (parseMethodDescriptor yX2_turnedBy.desc).map (fun d => d.parameters.length) = some 1 := by decide +kernel
abbrev rmX5_wouldBeOpen_k : Room := { frames := 3, cells := 0, slots := 0, locals := 65 }
set_option maxHeartbeats 4000000 in
set_option maxRecDepth 100000 in
theorem kX5_wouldBeOpen_k (l : Launch) (g : GG) (x : Nat) (nw : Nat) (sn : Nat) (tk : Bool) (hs : Nat) (tx : Nat) (tr : Nat) (na : Nat) (nb : Nat) (σ : Sg) (n : Nat) (t : Nat) (sz : Nat) (hn : 1 ≤ n ∧ n ≤ t ∧ t ≤ 48) : Met l yX5_wouldBeOpen wsX5_wouldBeOpen rmX5_wouldBeOpen_k (va_Pc [.ref x, .int (nI n), .int (nI t)] (kPre g [cX x nw sn tk hs tx tr, cR nw na nb σ, xI g na 49 (zT σ), xI g nb 49 (zI σ)] sz)) (va_Qi (fun (r : Int32) (u : Unit) => r = nI (zcnt (zO (rowN n (t + 1 - n) σ)) 48)) (kB g (va_A [cX x nw sn tk hs tx tr, cR nw na nb σ, xI g na 49 (zT σ), xI g nb 49 (zI σ)] sz) (fun u => [cX x nw sn tk hs tx tr, cR nw na nb σ, xI g na 49 (zT σ), xI g nb 49 (zI σ)])) (va_A [cX x nw sn tk hs tx tr, cR nw na nb σ, xI g na 49 (zT σ), xI g nb 49 (zI σ)] sz)) 0 0 (va_A [cX x nw sn tk hs tx tr, cR nw na nb σ, xI g na 49 (zT σ), xI g nb 49 (zI σ)] sz) := by
  refine kMet (cc := cX5_wouldBeOpen) (maxL := 6) (ret := (some .int)) (own := RX5) (by decide) rfl rfl (Nat.le_of_ble_eq_true rfl) ?_
  intro p e s m args below meth c ls Q H locs A F w hl hnm hA hQ
  have hx := F.1.1
  have hb := F.1.2.1
  have hts := F.1.2.2.2.2
  have hl : lv_has ls 6 [(0, .ref x), (1, .int (nI n)), (2, .int (nI t))] := hl
  refine lv_iload_n hx hb dX5_wouldBeOpen_0 rfl (lv_at hl 1 rfl) ?_
  refine lv_iload_n hx hb dX5_wouldBeOpen_1 rfl (lv_at hl 2 rfl) ?_
  refine kcalli (wc := []) (wr := [cX x nw sn tk hs tx tr, cR nw na nb σ, xI g na 49 (zT σ), xI g nb 49 (zI σ)]) (wn := fun (u : Unit) => [cX x nw sn tk hs tx tr, cR nw na nb σ, xI g na 49 (zT σ), xI g nb 49 (zI σ)]) F w [] [0, 1, 2, 3] [0, 1, 2, 3] rfl rfl rfl (fun _ => rfl)
    (fun hp => va_runS (As := [.int (nI n), .int (nI t)]) (rest := []) F.1 (kX5_isStretch l g (nI n) (nI t) H.size ) (va_cwS 2 hts gX5_wouldBeOpen_X5_isStretch rfl rfl rfl hd_X5_isStretch ⟨Nat.le_of_ble_eq_true rfl, Nat.le_of_ble_eq_true rfl⟩) hp rfl rfl hl.1 rfl (lv_room (Nat.le_of_ble_eq_true rfl)) dX5_wouldBeOpen_2 ⟨Nat.le_of_ble_eq_true rfl, Nat.le_of_ble_eq_true rfl⟩)
    (fun r_1 _ H locs h_2 w => ?_)
  subst h_2
  refine ktopi (y := bI true) (congrArg bI (str_t hn)) ?_
  refine lv_if_ne (tgt := 18) hx hb dX5_wouldBeOpen_5 (by decide) (fun h_3 => ?_) (fun h_3 => ?_)
  · have h_3 : true = true := bI_o.mp h_3
    refine lv_aload_n hx hb dX5_wouldBeOpen_18 rfl (lv_at hl 0 rfl) ?_
    refine kget (fs := [.ref nw, .ref sn, .int (bI tk), .ref hs, .ref tx, .ref tr]) F w in_X5_wouldBeOpen_X5 0 rfl rfl 0 (by decide) (by decide +kernel) rfl rfl dX5_wouldBeOpen_19 ?_
    refine kgetN (host := RX5) (fs := [.long (zB (zO σ)), .long (zB (zL σ)), .long (zB (zS σ)), .long (zB (zF σ)), .long (zB (zV σ)), .ref na, .ref nb]) F w in_X5_wouldBeOpen_X2 1 rfl rfl 0 (by decide) (by decide +kernel) rfl rfl dX5_wouldBeOpen_22 ?_
    refine ktopl (y := zB (zO (rowN n 0 σ))) (rfl) ?_
    refine lv_lstore_n (lv' := [(3, .long (zB (zO (rowN n 0 σ)))), (0, .ref x), (1, .int (nI n)), (2, .int (nI t))]) hx hb dX5_wouldBeOpen_25 rfl hl (by decide) rfl (fun ls hl => ?_)
    refine lv_iload_n hx hb dX5_wouldBeOpen_26 rfl (lv_at hl 2 rfl) ?_
    refine ktopi (y := nI (n + 0)) (rfl) ?_
    refine lv_istore (lv' := [(5, .int (nI (n + 0))), (3, .long (zB (zO (rowN n 0 σ)))), (0, .ref x), (1, .int (nI n)), (2, .int (nI t))]) hx hb dX5_wouldBeOpen_27 hl (by decide) rfl (fun ls hl => ?_)
    have LP_4 : ∀ (fu : Nat) (j : Nat) (h1 : j ≤ t + 1 - n) (h2 : j ≤ 48) (H : Heap) (locs : List Loc) (ls : Array Slot), 50 - j < fu → kW g A s [cX x nw sn tk hs tx tr, cR nw na nb σ, xI g na 49 (zT σ), xI g nb 49 (zI σ)] H locs → lv_has ls 6 [(5, .int (nI (n + j))), (3, .long (zB (zO (rowN n j σ)))), (0, .ref x), (1, .int (nI n)), (2, .int (nI t))] → W p l e rmX5_wouldBeOpen_k s m args below meth c H locs 0 0 Q (F0 m 29 ls []) := by
      intro fu
      induction fu with
      | zero => intro j h1 h2 H locs ls hlt; omega
      | succ fu ih_4 =>
        intro j h1 h2 H locs ls hlt w hl
        refine lv_iload hx hb dX5_wouldBeOpen_29 (lv_at hl 0 rfl) ?_
        refine lv_iload_n hx hb dX5_wouldBeOpen_31 rfl (lv_at hl 4 rfl) ?_
        refine lv_icmp_gt (tgt := 75) hx hb dX5_wouldBeOpen_32 (by decide) (fun h_5 => ?_) (fun h_5 => ?_)
        · have h_5 : n + j > t := (kc_gt_t (by omega) (by omega)).mp h_5
          have e_6 : j = t + 1 - n := by omega
          subst e_6
          refine lv_lload_n hx hb dX5_wouldBeOpen_75 rfl (lv_at hl 1 rfl) ?_
          refine kcalli (wc := []) (wr := [cX x nw sn tk hs tx tr, cR nw na nb σ, xI g na 49 (zT σ), xI g nb 49 (zI σ)]) (wn := fun (u : Unit) => [cX x nw sn tk hs tx tr, cR nw na nb σ, xI g na 49 (zT σ), xI g nb 49 (zI σ)]) F w [] [0, 1, 2, 3] [0, 1, 2, 3] rfl rfl rfl (fun _ => rfl)
            (fun hp => va_runS (As := [.long (zB (zO (rowN n (t + 1 - n) σ)))]) (rest := []) F.1 (kJ13_bitCount_95d88 l g (zB (zO (rowN n (t + 1 - n) σ))) H.size ) (va_cwS 1 hts gX5_wouldBeOpen_J13_bitCount_95d88 rfl rfl rfl hd_J13_bitCount_95d88 ⟨Nat.le_of_ble_eq_true rfl, Nat.le_of_ble_eq_true rfl⟩) hp rfl rfl hl.1 rfl (lv_room (Nat.le_of_ble_eq_true rfl)) dX5_wouldBeOpen_76 ⟨Nat.le_of_ble_eq_true rfl, Nat.le_of_ble_eq_true rfl⟩)
            (fun r_7 _ H locs h_8 w => ?_)
          subst h_8
          refine ktopi (y := nI (zcnt (zO (rowN n (t + 1 - n) σ)) 48)) (zpop_B _) ?_
          subst hA
          subst hQ
          exact kreti F w () [0, 1, 2, 3] rfl rfl (rfl) (Nat.le_of_ble_eq_true rfl) (Nat.le_of_ble_eq_true rfl) dX5_wouldBeOpen_79
        · have h_5 : n + j ≤ t := (kc_gt_f (by omega) (by omega)).mp h_5
          refine lv_iload hx hb dX5_wouldBeOpen_35 (lv_at hl 0 rfl) ?_
          refine lv_bipush (v := nI 48) hx hb dX5_wouldBeOpen_37 (by decide) ?_
          refine lv_icmp_gt (tgt := 75) hx hb dX5_wouldBeOpen_39 (by decide) (fun h_9 => ?_) (fun h_9 => ?_)
          · have h_9 : n + j > 48 := (kc_gt_t (by omega) (by omega)).mp h_9
            omega
          · have h_9 : n + j ≤ 48 := (kc_gt_f (by omega) (by omega)).mp h_9
            refine lv_aload_n hx hb dX5_wouldBeOpen_42 rfl (lv_at hl 2 rfl) ?_
            refine kget (fs := [.ref nw, .ref sn, .int (bI tk), .ref hs, .ref tx, .ref tr]) F w in_X5_wouldBeOpen_X5 0 rfl rfl 0 (by decide) (by decide +kernel) rfl rfl dX5_wouldBeOpen_43 ?_
            refine kgetN (host := RX5) (fs := [.long (zB (zO σ)), .long (zB (zL σ)), .long (zB (zS σ)), .long (zB (zF σ)), .long (zB (zV σ)), .ref na, .ref nb]) F w in_X5_wouldBeOpen_X2 1 rfl rfl 2 (by decide) (by decide +kernel) rfl rfl dX5_wouldBeOpen_46 ?_
            refine lv_iload hx hb dX5_wouldBeOpen_49 (lv_at hl 0 rfl) ?_
            refine kcalli (wc := []) (wr := [cX x nw sn tk hs tx tr, cR nw na nb σ, xI g na 49 (zT σ), xI g nb 49 (zI σ)]) (wn := fun (u : Unit) => [cX x nw sn tk hs tx tr, cR nw na nb σ, xI g na 49 (zT σ), xI g nb 49 (zI σ)]) F w [] [0, 1, 2, 3] [0, 1, 2, 3] rfl rfl rfl (fun _ => rfl)
              (fun hp => va_runS (As := [.long (zB (zS σ)), .int (nI (n + j))]) (rest := []) F.1 (kX5_contains l g (zB (zS σ)) (n + j) H.size (by omega)) (va_cwS 2 hts gX5_wouldBeOpen_X5_contains rfl rfl rfl hd_X5_contains ⟨Nat.le_of_ble_eq_true rfl, Nat.le_of_ble_eq_true rfl⟩) hp rfl rfl hl.1 rfl (lv_room (Nat.le_of_ble_eq_true rfl)) dX5_wouldBeOpen_51 ⟨Nat.le_of_ble_eq_true rfl, Nat.le_of_ble_eq_true rfl⟩)
              (fun r_10 _ H locs h_11 w => ?_)
            subst h_11
            refine ktopi (y := bI (zS σ (n + j))) (congrArg bI (zG_in (by omega) (by omega))) ?_
            refine lv_if_ne (tgt := 69) hx hb dX5_wouldBeOpen_54 (by decide) (fun h_12 => ?_) (fun h_12 => ?_)
            · have h_12 : (zS σ (n + j)) = true := bI_o.mp h_12
              rw [← row_skip (σ := σ) (n := n) (j := j) h_12] at hl
              refine lv_iinc (v := nI (n + j + 1)) (lv' := [(5, .int (nI (n + j + 1))), (3, .long (zB (zO (rowN n (j + 1) σ)))), (0, .ref x), (1, .int (nI n)), (2, .int (nI t))]) hx hb dX5_wouldBeOpen_69 hl (k := 0) rfl (nI_add (n + j) 1) (by decide) rfl (fun ls hl => ?_)
              rw [show n + j + 1 = n + (j + 1) from rfl] at hl
              refine lv_goto (tgt := 29) hx hb dX5_wouldBeOpen_72 (by decide) ?_
              exact ih_4 (j + 1) (by omega) (by omega) _ _ _ (by omega) (kW.perm w [0, 1, 2, 3] rfl rfl) (lv_sub hl [0, 1, 2, 3, 4] rfl)
            · have h_12 : (zS σ (n + j)) = false := bI_z.mp h_12
              refine lv_lload_n hx hb dX5_wouldBeOpen_57 rfl (lv_at hl 1 rfl) ?_
              refine lv_aload_n hx hb dX5_wouldBeOpen_58 rfl (lv_at hl 2 rfl) ?_
              refine kget (fs := [.ref nw, .ref sn, .int (bI tk), .ref hs, .ref tx, .ref tr]) F w in_X5_wouldBeOpen_X5 0 rfl rfl 0 (by decide) (by decide +kernel) rfl rfl dX5_wouldBeOpen_59 ?_
              refine lv_iload hx hb dX5_wouldBeOpen_62 (lv_at hl 0 rfl) ?_
              refine kcalll (wc := [cR nw na nb σ, xI g na 49 (zT σ), xI g nb 49 (zI σ)]) (wr := [cX x nw sn tk hs tx tr]) (wn := fun (u : Unit) => [cX x nw sn tk hs tx tr, cR nw na nb σ, xI g na 49 (zT σ), xI g nb 49 (zI σ)]) F w [1, 2, 3] [0] [0, 1, 2, 3] rfl rfl rfl (fun _ => rfl)
                (fun hp => va_runV (As := [.int (nI (n + j))]) (rest := [.long (zB (zO (rowN n j σ)))]) F.1 (kX2_turnedBy l g nw na nb σ (n + j) H.size (by omega)) (cwV 1 hts gX5_wouldBeOpen_X2_turnedBy rfl rfl rfl ⟨rfl, hd_X2_turnedBy⟩ ⟨Nat.le_of_ble_eq_true rfl, Nat.le_of_ble_eq_true rfl⟩) ⟨hp.1, va_recv F.2.2.2.1.1 w.1 (q0 := 1) (ci := 2) rfl rfl, hp.2⟩ rfl rfl hl.1 rfl (lv_room (Nat.le_of_ble_eq_true rfl)) dX5_wouldBeOpen_64 ⟨Nat.le_of_ble_eq_true rfl, Nat.le_of_ble_eq_true rfl⟩)
                (fun r_13 _ H locs h_14 w => ?_)
              subst h_14
              refine lv_lxor hx hb dX5_wouldBeOpen_67 ?_
              refine ktopl (y := zB (zO (rowN n (j + 1) σ))) (row_step (by omega) h_12) ?_
              refine lv_lstore_n (lv' := [(3, .long (zB (zO (rowN n (j + 1) σ)))), (5, .int (nI (n + j))), (0, .ref x), (1, .int (nI n)), (2, .int (nI t))]) hx hb dX5_wouldBeOpen_68 rfl hl (by decide) rfl (fun ls hl => ?_)
              refine lv_iinc (v := nI (n + j + 1)) (lv' := [(5, .int (nI (n + j + 1))), (3, .long (zB (zO (rowN n (j + 1) σ)))), (0, .ref x), (1, .int (nI n)), (2, .int (nI t))]) hx hb dX5_wouldBeOpen_69 hl (k := 1) rfl (nI_add (n + j) 1) (by decide) rfl (fun ls hl => ?_)
              rw [show n + j + 1 = n + (j + 1) from rfl] at hl
              refine lv_goto (tgt := 29) hx hb dX5_wouldBeOpen_72 (by decide) ?_
              exact ih_4 (j + 1) (by omega) (by omega) _ _ _ (by omega) (kW.perm w [0, 1, 2, 3] rfl rfl) (lv_sub hl [0, 1, 2, 3, 4] rfl)
    exact LP_4 _ 0 (by omega) (by omega) _ _ _ (Nat.lt_succ_self _) (kW.perm w [0, 1, 2, 3] rfl rfl) (lv_sub hl [0, 1, 2, 3, 4] rfl)
  · have h_3 : true = false := bI_z.mp h_3
    exact absurd h_3 (by simp)
theorem in_X5_bestPass_X2 : ∀ w ∈ wsX20, w ∈ wsX5_bestPass := by decide +kernel
theorem in_X5_bestPass_X5 : ∀ w ∈ wsX50, w ∈ wsX5_bestPass := by decide +kernel
abbrev rmX5_bestPass : Room := { frames := 3, cells := 0, slots := 0, locals := 65 }
set_option maxHeartbeats 4000000 in
set_option maxRecDepth 100000 in
theorem kX5_bestPass (l : Launch) (g : GG) (x : Nat) (nw : Nat) (sn : Nat) (tk : Bool) (hs : Nat) (tx : Nat) (tr : Nat) (na : Nat) (nb : Nat) (σ : Sg) (sz : Nat)  : Met l yX5_bestPass wsX5_bestPass rmX5_bestPass (va_Pc [.ref x] (kPre g [cX x nw sn tk hs tx tr, cR nw na nb σ, xI g na 49 (zT σ), xI g nb 49 (zI σ)] sz)) (va_Qi (fun (r : Int32) (u : Unit) => r = nI (bstN (opF σ) 1 48)) (kB g (va_A [cX x nw sn tk hs tx tr, cR nw na nb σ, xI g na 49 (zT σ), xI g nb 49 (zI σ)] sz) (fun u => [cX x nw sn tk hs tx tr, cR nw na nb σ, xI g na 49 (zT σ), xI g nb 49 (zI σ)])) (va_A [cX x nw sn tk hs tx tr, cR nw na nb σ, xI g na 49 (zT σ), xI g nb 49 (zI σ)] sz)) 0 0 (va_A [cX x nw sn tk hs tx tr, cR nw na nb σ, xI g na 49 (zT σ), xI g nb 49 (zI σ)] sz) := by
  refine kMet (cc := cX5_bestPass) (maxL := 5) (ret := (some .int)) (own := RX5) (by decide) rfl rfl (Nat.le_of_ble_eq_true rfl) ?_
  intro p e s m args below meth c ls Q H locs A F w hl hnm hA hQ
  have hx := F.1.1
  have hb := F.1.2.1
  have hts := F.1.2.2.2.2
  have hl : lv_has ls 5 [(0, .ref x)] := hl
  refine lv_iconst (v := nI 1) hx hb dX5_bestPass_0 (by decide) ?_
  refine ktopi (y := nI (bstN (opF σ) 1 0)) (rfl) ?_
  refine lv_istore_n (lv' := [(1, .int (nI (bstN (opF σ) 1 0))), (0, .ref x)]) hx hb dX5_bestPass_1 rfl hl (by decide) rfl (fun ls hl => ?_)
  refine lv_bipush (v := nI 49) hx hb dX5_bestPass_2 (by decide) ?_
  refine ktopi (y := nI (bstV (opF σ) 0)) (rfl) ?_
  refine lv_istore_n (lv' := [(2, .int (nI (bstV (opF σ) 0))), (1, .int (nI (bstN (opF σ) 1 0))), (0, .ref x)]) hx hb dX5_bestPass_4 rfl hl (by decide) rfl (fun ls hl => ?_)
  refine lv_iconst (v := nI 1) hx hb dX5_bestPass_5 (by decide) ?_
  refine ktopi (y := nI (0 + 1)) (rfl) ?_
  refine lv_istore_n (lv' := [(3, .int (nI (0 + 1))), (2, .int (nI (bstV (opF σ) 0))), (1, .int (nI (bstN (opF σ) 1 0))), (0, .ref x)]) hx hb dX5_bestPass_6 rfl hl (by decide) rfl (fun ls hl => ?_)
  have LP_1 : ∀ (fu : Nat) (k : Nat) (h1 : k ≤ 48) (H : Heap) (locs : List Loc) (ls : Array Slot), 50 - k < fu → kW g A s [cX x nw sn tk hs tx tr, cR nw na nb σ, xI g na 49 (zT σ), xI g nb 49 (zI σ)] H locs → lv_has ls 5 [(3, .int (nI (k + 1))), (2, .int (nI (bstV (opF σ) k))), (1, .int (nI (bstN (opF σ) 1 k))), (0, .ref x)] → W p l e rmX5_bestPass s m args below meth c H locs 0 0 Q (F0 m 7 ls []) := by
    intro fu
    induction fu with
    | zero => intro k h1 H locs ls hlt; omega
    | succ fu ih_1 =>
      intro k h1 H locs ls hlt w hl
      refine lv_iload_n hx hb dX5_bestPass_7 rfl (lv_at hl 0 rfl) ?_
      refine lv_bipush (v := nI 48) hx hb dX5_bestPass_8 (by decide) ?_
      refine lv_icmp_gt (tgt := 51) hx hb dX5_bestPass_10 (by decide) (fun h_2 => ?_) (fun h_2 => ?_)
      · have h_2 : k + 1 > 48 := (kc_gt_t (by omega) (by omega)).mp h_2
        have e_3 : k = 48 := by omega
        subst e_3
        refine lv_iload_n hx hb dX5_bestPass_51 rfl (lv_at hl 2 rfl) ?_
        subst hA
        subst hQ
        exact kreti F w () [0, 1, 2, 3] rfl rfl (rfl) (Nat.le_of_ble_eq_true rfl) (Nat.le_of_ble_eq_true rfl) dX5_bestPass_52
      · have h_2 : k + 1 ≤ 48 := (kc_gt_f (by omega) (by omega)).mp h_2
        have hol := opF_le σ (k + 1)
        have hvl := bstV_le (opF σ) k
        refine lv_aload_n hx hb dX5_bestPass_13 rfl (lv_at hl 3 rfl) ?_
        refine kget (fs := [.ref nw, .ref sn, .int (bI tk), .ref hs, .ref tx, .ref tr]) F w in_X5_bestPass_X5 0 rfl rfl 0 (by decide) (by decide +kernel) rfl rfl dX5_bestPass_14 ?_
        refine kgetN (host := RX5) (fs := [.long (zB (zO σ)), .long (zB (zL σ)), .long (zB (zS σ)), .long (zB (zF σ)), .long (zB (zV σ)), .ref na, .ref nb]) F w in_X5_bestPass_X2 1 rfl rfl 0 (by decide) (by decide +kernel) rfl rfl dX5_bestPass_17 ?_
        refine lv_aload_n hx hb dX5_bestPass_20 rfl (lv_at hl 3 rfl) ?_
        refine kget (fs := [.ref nw, .ref sn, .int (bI tk), .ref hs, .ref tx, .ref tr]) F w in_X5_bestPass_X5 0 rfl rfl 0 (by decide) (by decide +kernel) rfl rfl dX5_bestPass_21 ?_
        refine lv_iload_n hx hb dX5_bestPass_24 rfl (lv_at hl 0 rfl) ?_
        refine kcalll (wc := [cR nw na nb σ, xI g na 49 (zT σ), xI g nb 49 (zI σ)]) (wr := [cX x nw sn tk hs tx tr]) (wn := fun (u : Unit) => [cX x nw sn tk hs tx tr, cR nw na nb σ, xI g na 49 (zT σ), xI g nb 49 (zI σ)]) F w [1, 2, 3] [0] [0, 1, 2, 3] rfl rfl rfl (fun _ => rfl)
          (fun hp => va_runV (As := [.int (nI (k + 1))]) (rest := [.long (zB (zO σ))]) F.1 (kX2_turnedBy l g nw na nb σ (k + 1) H.size (by omega)) (cwV 1 hts gX5_bestPass_X2_turnedBy rfl rfl rfl ⟨rfl, hd_X2_turnedBy⟩ ⟨Nat.le_of_ble_eq_true rfl, Nat.le_of_ble_eq_true rfl⟩) ⟨hp.1, va_recv F.2.2.2.1.1 w.1 (q0 := 1) (ci := 2) rfl rfl, hp.2⟩ rfl rfl hl.1 rfl (lv_room (Nat.le_of_ble_eq_true rfl)) dX5_bestPass_25 ⟨Nat.le_of_ble_eq_true rfl, Nat.le_of_ble_eq_true rfl⟩)
          (fun r_4 _ H locs h_5 w => ?_)
        subst h_5
        refine lv_lxor hx hb dX5_bestPass_28 ?_
        refine kcalli (wc := []) (wr := [cX x nw sn tk hs tx tr, cR nw na nb σ, xI g na 49 (zT σ), xI g nb 49 (zI σ)]) (wn := fun (u : Unit) => [cX x nw sn tk hs tx tr, cR nw na nb σ, xI g na 49 (zT σ), xI g nb 49 (zI σ)]) F w [] [0, 1, 2, 3] [0, 1, 2, 3] rfl rfl rfl (fun _ => rfl)
          (fun hp => va_runS (As := [.long ((zB (zO σ)) ^^^ (zB (turnP σ (k + 1))))]) (rest := []) F.1 (kJ13_bitCount_95d88 l g ((zB (zO σ)) ^^^ (zB (turnP σ (k + 1)))) H.size ) (va_cwS 1 hts gX5_bestPass_J13_bitCount_95d88 rfl rfl rfl hd_J13_bitCount_95d88 ⟨Nat.le_of_ble_eq_true rfl, Nat.le_of_ble_eq_true rfl⟩) hp rfl rfl hl.1 rfl (lv_room (Nat.le_of_ble_eq_true rfl)) dX5_bestPass_29 ⟨Nat.le_of_ble_eq_true rfl, Nat.le_of_ble_eq_true rfl⟩)
          (fun r_6 _ H locs h_7 w => ?_)
        subst h_7
        refine ktopi (y := nI (opF σ (k + 1))) (by rw [zB_xor]; exact zpop_B _) ?_
        refine lv_istore (lv' := [(4, .int (nI (opF σ (k + 1)))), (3, .int (nI (k + 1))), (2, .int (nI (bstV (opF σ) k))), (1, .int (nI (bstN (opF σ) 1 k))), (0, .ref x)]) hx hb dX5_bestPass_32 hl (by decide) rfl (fun ls hl => ?_)
        refine lv_iload hx hb dX5_bestPass_34 (lv_at hl 0 rfl) ?_
        refine lv_iload_n hx hb dX5_bestPass_36 rfl (lv_at hl 2 rfl) ?_
        refine lv_icmp_ge (tgt := 45) hx hb dX5_bestPass_37 (by decide) (fun h_8 => ?_) (fun h_8 => ?_)
        · have h_8 : opF σ (k + 1) ≥ bstV (opF σ) k := (kc_ge_t (by omega) (by omega)).mp h_8
          rw [← bstV_f (f := opF σ) (k := k) (by omega), ← bstN_f (f := opF σ) (a := 1) (k := k) (by omega)] at hl
          refine lv_iinc (v := nI (k + 1 + 1)) (lv' := [(3, .int (nI (k + 1 + 1))), (4, .int (nI (opF σ (k + 1)))), (2, .int (nI (bstV (opF σ) (k + 1)))), (1, .int (nI (bstN (opF σ) 1 (k + 1)))), (0, .ref x)]) hx hb dX5_bestPass_45 hl (k := 1) rfl (nI_add (k + 1) 1) (by decide) rfl (fun ls hl => ?_)
          refine lv_goto (tgt := 7) hx hb dX5_bestPass_48 (by decide) ?_
          exact ih_1 (k + 1) (by omega) _ _ _ (by omega) (kW.perm w [0, 1, 2, 3] rfl rfl) (lv_sub hl [0, 2, 3, 4] rfl)
        · have h_8 : opF σ (k + 1) < bstV (opF σ) k := (kc_ge_f (by omega) (by omega)).mp h_8
          refine lv_iload hx hb dX5_bestPass_40 (lv_at hl 0 rfl) ?_
          refine ktopi (y := nI (bstV (opF σ) (k + 1))) (by rw [bstV_t h_8]) ?_
          refine lv_istore_n (lv' := [(2, .int (nI (bstV (opF σ) (k + 1)))), (4, .int (nI (opF σ (k + 1)))), (3, .int (nI (k + 1))), (1, .int (nI (bstN (opF σ) 1 k))), (0, .ref x)]) hx hb dX5_bestPass_42 rfl hl (by decide) rfl (fun ls hl => ?_)
          refine lv_iload_n hx hb dX5_bestPass_43 rfl (lv_at hl 2 rfl) ?_
          refine ktopi (y := nI (bstN (opF σ) 1 (k + 1))) (by rw [bstN_t h_8]) ?_
          refine lv_istore_n (lv' := [(1, .int (nI (bstN (opF σ) 1 (k + 1)))), (2, .int (nI (bstV (opF σ) (k + 1)))), (4, .int (nI (opF σ (k + 1)))), (3, .int (nI (k + 1))), (0, .ref x)]) hx hb dX5_bestPass_44 rfl hl (by decide) rfl (fun ls hl => ?_)
          refine lv_iinc (v := nI (k + 1 + 1)) (lv' := [(3, .int (nI (k + 1 + 1))), (1, .int (nI (bstN (opF σ) 1 (k + 1)))), (2, .int (nI (bstV (opF σ) (k + 1)))), (4, .int (nI (opF σ (k + 1)))), (0, .ref x)]) hx hb dX5_bestPass_45 hl (k := 3) rfl (nI_add (k + 1) 1) (by decide) rfl (fun ls hl => ?_)
          refine lv_goto (tgt := 7) hx hb dX5_bestPass_48 (by decide) ?_
          exact ih_1 (k + 1) (by omega) _ _ _ (by omega) (kW.perm w [0, 1, 2, 3] rfl rfl) (lv_sub hl [0, 2, 1, 4] rfl)
  exact LP_1 _ 0 (by omega) _ _ _ (Nat.lt_succ_self _) (kW.perm w [0, 1, 2, 3] rfl rfl) (lv_sub hl [0, 1, 2, 3] rfl)
theorem in_X5_whyNot_X5 : ∀ w ∈ wsX50, w ∈ wsX5_whyNot := by decide +kernel
abbrev rmX5_whyNot_k : Room := { frames := 2, cells := 0, slots := 0, locals := 44 }
set_option maxHeartbeats 4000000 in
set_option maxRecDepth 100000 in
theorem kX5_whyNot_k (l : Launch) (g : GG) (x : Nat) (nw : Nat) (sn : Nat) (tk : Bool) (hs : Nat) (tx : Nat) (tr : Nat) (na : Nat) (nb : Nat) (σ : Sg) (d : Nat) (kd : Bool) (sz : Nat) (hd : 1 ≤ d ∧ d ≤ 48) : Met l yX5_whyNot wsX5_whyNot rmX5_whyNot_k (va_Pc [.ref x, .int (nI d), .int (bI kd)] (kPre g [cX x nw sn tk hs tx tr, cR nw na nb σ, xI g na 49 (zT σ), xI g nb 49 (zI σ)] sz)) (va_Qi (fun (r : Int32) (u : Unit) => r = nI (reasZ σ d kd)) (kB g (va_A [cX x nw sn tk hs tx tr, cR nw na nb σ, xI g na 49 (zT σ), xI g nb 49 (zI σ)] sz) (fun u => [cX x nw sn tk hs tx tr, cR nw na nb σ, xI g na 49 (zT σ), xI g nb 49 (zI σ)])) (va_A [cX x nw sn tk hs tx tr, cR nw na nb σ, xI g na 49 (zT σ), xI g nb 49 (zI σ)] sz)) 0 0 (va_A [cX x nw sn tk hs tx tr, cR nw na nb σ, xI g na 49 (zT σ), xI g nb 49 (zI σ)] sz) := by
  refine kMet (cc := cX5_whyNot) (maxL := 3) (ret := (some .int)) (own := RX5) (by decide) rfl rfl (Nat.le_of_ble_eq_true rfl) ?_
  intro p e s m args below meth c ls Q H locs A F w hl hnm hA hQ
  have hx := F.1.1
  have hb := F.1.2.1
  have hts := F.1.2.2.2.2
  have hl : lv_has ls 3 [(0, .ref x), (1, .int (nI d)), (2, .int (bI kd))] := hl
  refine lv_iload_n hx hb dX5_whyNot_0 rfl (lv_at hl 1 rfl) ?_
  refine kcalli (wc := []) (wr := [cX x nw sn tk hs tx tr, cR nw na nb σ, xI g na 49 (zT σ), xI g nb 49 (zI σ)]) (wn := fun (u : Unit) => [cX x nw sn tk hs tx tr, cR nw na nb σ, xI g na 49 (zT σ), xI g nb 49 (zI σ)]) F w [] [0, 1, 2, 3] [0, 1, 2, 3] rfl rfl rfl (fun _ => rfl)
    (fun hp => va_runS (As := [.int (nI d)]) (rest := []) F.1 (kX5_isInRow l g (nI d) H.size ) (va_cwS 1 hts gX5_whyNot_X5_isInRow rfl rfl rfl hd_X5_isInRow ⟨Nat.le_of_ble_eq_true rfl, Nat.le_of_ble_eq_true rfl⟩) hp rfl rfl hl.1 rfl (lv_room (Nat.le_of_ble_eq_true rfl)) dX5_whyNot_1 ⟨Nat.le_of_ble_eq_true rfl, Nat.le_of_ble_eq_true rfl⟩)
    (fun r_1 _ H locs h_2 w => ?_)
  subst h_2
  refine ktopi (y := bI true) (congrArg bI (door_t hd)) ?_
  refine lv_if_eq (tgt := 14) hx hb dX5_whyNot_4 (by decide) (fun h_3 => ?_) (fun h_3 => ?_)
  · have h_3 : true = false := bI_z.mp h_3
    exact absurd h_3 (by simp)
  · have h_3 : true = true := bI_o.mp h_3
    refine lv_iload_n hx hb dX5_whyNot_7 rfl (lv_at hl 2 rfl) ?_
    refine kcalli (wc := []) (wr := [cX x nw sn tk hs tx tr, cR nw na nb σ, xI g na 49 (zT σ), xI g nb 49 (zI σ)]) (wn := fun (u : Unit) => [cX x nw sn tk hs tx tr, cR nw na nb σ, xI g na 49 (zT σ), xI g nb 49 (zI σ)]) F w [] [0, 1, 2, 3] [0, 1, 2, 3] rfl rfl rfl (fun _ => rfl)
      (fun hp => va_runS (As := [.int (bI kd)]) (rest := []) F.1 (kX5_isKind l g (bI kd) H.size ) (va_cwS 1 hts gX5_whyNot_X5_isKind rfl rfl rfl hd_X5_isKind ⟨Nat.le_of_ble_eq_true rfl, Nat.le_of_ble_eq_true rfl⟩) hp rfl rfl hl.1 rfl (lv_room (Nat.le_of_ble_eq_true rfl)) dX5_whyNot_8 ⟨Nat.le_of_ble_eq_true rfl, Nat.le_of_ble_eq_true rfl⟩)
      (fun r_4 _ H locs h_5 w => ?_)
    subst h_5
    refine ktopi (y := bI true) (congrArg bI (kind_b kd)) ?_
    refine lv_if_ne (tgt := 24) hx hb dX5_whyNot_11 (by decide) (fun h_6 => ?_) (fun h_6 => ?_)
    · have h_6 : true = true := bI_o.mp h_6
      refine lv_aload_n hx hb dX5_whyNot_24 rfl (lv_at hl 0 rfl) ?_
      refine kget (fs := [.ref nw, .ref sn, .int (bI tk), .ref hs, .ref tx, .ref tr]) F w in_X5_whyNot_X5 0 rfl rfl 0 (by decide) (by decide +kernel) rfl rfl dX5_whyNot_25 ?_
      refine lv_iload_n hx hb dX5_whyNot_28 rfl (lv_at hl 1 rfl) ?_
      refine lv_iload_n hx hb dX5_whyNot_29 rfl (lv_at hl 2 rfl) ?_
      refine kcalli (wc := [cR nw na nb σ, xI g na 49 (zT σ), xI g nb 49 (zI σ)]) (wr := [cX x nw sn tk hs tx tr]) (wn := fun (u : Unit) => [cX x nw sn tk hs tx tr, cR nw na nb σ, xI g na 49 (zT σ), xI g nb 49 (zI σ)]) F w [1, 2, 3] [0] [0, 1, 2, 3] rfl rfl rfl (fun _ => rfl)
        (fun hp => va_runV (As := [.int (nI d), .int (bI kd)]) (rest := []) F.1 (kX2_reasonAgainst l g nw na nb σ d kd H.size (by omega)) (cwV 2 hts gX5_whyNot_X2_reasonAgainst rfl rfl rfl ⟨rfl, hd_X2_reasonAgainst⟩ ⟨Nat.le_of_ble_eq_true rfl, Nat.le_of_ble_eq_true rfl⟩) ⟨hp.1, va_recv F.2.2.2.1.1 w.1 (q0 := 1) (ci := 2) rfl rfl, hp.2⟩ rfl rfl hl.1 rfl (lv_room (Nat.le_of_ble_eq_true rfl)) dX5_whyNot_30 ⟨Nat.le_of_ble_eq_true rfl, Nat.le_of_ble_eq_true rfl⟩)
        (fun r_7 _ H locs h_8 w => ?_)
      subst h_8
      subst hA
      subst hQ
      exact kreti F w () [0, 1, 2, 3] rfl rfl (rfl) (Nat.le_of_ble_eq_true rfl) (Nat.le_of_ble_eq_true rfl) dX5_whyNot_33
    · have h_6 : true = false := bI_z.mp h_6
      exact absurd h_6 (by simp)
theorem in_X5_thingAt_X2 : ∀ w ∈ wsX20, w ∈ wsX5_thingAt := by decide +kernel
theorem in_X5_thingAt_X5 : ∀ w ∈ wsX50, w ∈ wsX5_thingAt := by decide +kernel
theorem hd_X2_kindAt : yX2_kindAt.cls ≠ "java/lang/invoke/MethodHandle" ∧ yX2_kindAt.cls ≠ "java/lang/invoke/VarHandle" ∧ (parseMethodDescriptor yX2_kindAt.desc).map (fun d => d.parameters.length) = some 1 := by decide +kernel
abbrev rmX5_thingAt_k : Room := { frames := 2, cells := 0, slots := 0, locals := 43 }
set_option maxHeartbeats 4000000 in
set_option maxRecDepth 100000 in
theorem kX5_thingAt_k (l : Launch) (g : GG) (x : Nat) (nw : Nat) (sn : Nat) (tk : Bool) (hs : Nat) (tx : Nat) (tr : Nat) (na : Nat) (nb : Nat) (σ : Sg) (d : Nat) (sz : Nat) (hd : 1 ≤ d ∧ d ≤ 48) (hf9 : zF σ d = true) : Met l yX5_thingAt wsX5_thingAt rmX5_thingAt_k (va_Pc [.ref x, .int (nI d)] (kPre g [cX x nw sn tk hs tx tr, cR nw na nb σ, xI g na 49 (zT σ), xI g nb 49 (zI σ)] sz)) (va_Qi (fun (r : Int32) (u : Unit) => r = bI (zH σ d)) (kB g (va_A [cX x nw sn tk hs tx tr, cR nw na nb σ, xI g na 49 (zT σ), xI g nb 49 (zI σ)] sz) (fun u => [cX x nw sn tk hs tx tr, cR nw na nb σ, xI g na 49 (zT σ), xI g nb 49 (zI σ)])) (va_A [cX x nw sn tk hs tx tr, cR nw na nb σ, xI g na 49 (zT σ), xI g nb 49 (zI σ)] sz)) 0 0 (va_A [cX x nw sn tk hs tx tr, cR nw na nb σ, xI g na 49 (zT σ), xI g nb 49 (zI σ)] sz) := by
  refine kMet (cc := cX5_thingAt) (maxL := 2) (ret := (some .int)) (own := RX5) (by decide) rfl rfl (Nat.le_of_ble_eq_true rfl) ?_
  intro p e s m args below meth c ls Q H locs A F w hl hnm hA hQ
  have hx := F.1.1
  have hb := F.1.2.1
  have hts := F.1.2.2.2.2
  have hl : lv_has ls 2 [(0, .ref x), (1, .int (nI d))] := hl
  refine lv_iload_n hx hb dX5_thingAt_0 rfl (lv_at hl 1 rfl) ?_
  refine kcalli (wc := []) (wr := [cX x nw sn tk hs tx tr, cR nw na nb σ, xI g na 49 (zT σ), xI g nb 49 (zI σ)]) (wn := fun (u : Unit) => [cX x nw sn tk hs tx tr, cR nw na nb σ, xI g na 49 (zT σ), xI g nb 49 (zI σ)]) F w [] [0, 1, 2, 3] [0, 1, 2, 3] rfl rfl rfl (fun _ => rfl)
    (fun hp => va_runS (As := [.int (nI d)]) (rest := []) F.1 (kX5_isInRow l g (nI d) H.size ) (va_cwS 1 hts gX5_thingAt_X5_isInRow rfl rfl rfl hd_X5_isInRow ⟨Nat.le_of_ble_eq_true rfl, Nat.le_of_ble_eq_true rfl⟩) hp rfl rfl hl.1 rfl (lv_room (Nat.le_of_ble_eq_true rfl)) dX5_thingAt_1 ⟨Nat.le_of_ble_eq_true rfl, Nat.le_of_ble_eq_true rfl⟩)
    (fun r_1 _ H locs h_2 w => ?_)
  subst h_2
  refine ktopi (y := bI true) (congrArg bI (door_t hd)) ?_
  refine lv_if_ne (tgt := 17) hx hb dX5_thingAt_4 (by decide) (fun h_3 => ?_) (fun h_3 => ?_)
  · have h_3 : true = true := bI_o.mp h_3
    refine lv_aload_n hx hb dX5_thingAt_17 rfl (lv_at hl 0 rfl) ?_
    refine kget (fs := [.ref nw, .ref sn, .int (bI tk), .ref hs, .ref tx, .ref tr]) F w in_X5_thingAt_X5 0 rfl rfl 0 (by decide) (by decide +kernel) rfl rfl dX5_thingAt_18 ?_
    refine kgetN (host := RX5) (fs := [.long (zB (zO σ)), .long (zB (zL σ)), .long (zB (zS σ)), .long (zB (zF σ)), .long (zB (zV σ)), .ref na, .ref nb]) F w in_X5_thingAt_X2 1 rfl rfl 3 (by decide) (by decide +kernel) rfl rfl dX5_thingAt_21 ?_
    refine lv_iload_n hx hb dX5_thingAt_24 rfl (lv_at hl 1 rfl) ?_
    refine kcalli (wc := []) (wr := [cX x nw sn tk hs tx tr, cR nw na nb σ, xI g na 49 (zT σ), xI g nb 49 (zI σ)]) (wn := fun (u : Unit) => [cX x nw sn tk hs tx tr, cR nw na nb σ, xI g na 49 (zT σ), xI g nb 49 (zI σ)]) F w [] [0, 1, 2, 3] [0, 1, 2, 3] rfl rfl rfl (fun _ => rfl)
      (fun hp => va_runS (As := [.long (zB (zF σ)), .int (nI d)]) (rest := []) F.1 (kX5_contains l g (zB (zF σ)) d H.size (by omega)) (va_cwS 2 hts gX5_thingAt_X5_contains rfl rfl rfl hd_X5_contains ⟨Nat.le_of_ble_eq_true rfl, Nat.le_of_ble_eq_true rfl⟩) hp rfl rfl hl.1 rfl (lv_room (Nat.le_of_ble_eq_true rfl)) dX5_thingAt_25 ⟨Nat.le_of_ble_eq_true rfl, Nat.le_of_ble_eq_true rfl⟩)
      (fun r_4 _ H locs h_5 w => ?_)
    subst h_5
    refine ktopi (y := bI (zF σ d)) (congrArg bI (zG_in (by omega) (by omega))) ?_
    refine lv_if_ne (tgt := 41) hx hb dX5_thingAt_28 (by decide) (fun h_6 => ?_) (fun h_6 => ?_)
    · have h_6 : (zF σ d) = true := bI_o.mp h_6
      refine lv_aload_n hx hb dX5_thingAt_41 rfl (lv_at hl 0 rfl) ?_
      refine kget (fs := [.ref nw, .ref sn, .int (bI tk), .ref hs, .ref tx, .ref tr]) F w in_X5_thingAt_X5 0 rfl rfl 0 (by decide) (by decide +kernel) rfl rfl dX5_thingAt_42 ?_
      refine lv_iload_n hx hb dX5_thingAt_45 rfl (lv_at hl 1 rfl) ?_
      refine kcalli (wc := [cR nw na nb σ, xI g na 49 (zT σ), xI g nb 49 (zI σ)]) (wr := [cX x nw sn tk hs tx tr]) (wn := fun (u : Unit) => [cX x nw sn tk hs tx tr, cR nw na nb σ, xI g na 49 (zT σ), xI g nb 49 (zI σ)]) F w [1, 2, 3] [0] [0, 1, 2, 3] rfl rfl rfl (fun _ => rfl)
        (fun hp => va_runV (As := [.int (nI d)]) (rest := []) F.1 (kX2_kindAt l g nw na nb σ d H.size (by omega)) (cwV 1 hts gX5_thingAt_X2_kindAt rfl rfl rfl ⟨rfl, hd_X2_kindAt⟩ ⟨Nat.le_of_ble_eq_true rfl, Nat.le_of_ble_eq_true rfl⟩) ⟨hp.1, va_recv F.2.2.2.1.1 w.1 (q0 := 1) (ci := 2) rfl rfl, hp.2⟩ rfl rfl hl.1 rfl (lv_room (Nat.le_of_ble_eq_true rfl)) dX5_thingAt_46 ⟨Nat.le_of_ble_eq_true rfl, Nat.le_of_ble_eq_true rfl⟩)
        (fun r_7 _ H locs h_8 w => ?_)
      subst h_8
      refine ktopi (y := bI (zH σ d)) (by unfold zV; rw [hf9]; rfl) ?_
      subst hA
      subst hQ
      exact kreti F w () [0, 1, 2, 3] rfl rfl (rfl) (Nat.le_of_ble_eq_true rfl) (Nat.le_of_ble_eq_true rfl) dX5_thingAt_49
    · have h_6 : (zF σ d) = false := bI_z.mp h_6
      rw [hf9] at h_6; cases h_6
  · have h_3 : true = false := bI_z.mp h_3
    exact absurd h_3 (by simp)
theorem in_X5_thingsOf_X5 : ∀ w ∈ wsX50, w ∈ wsX5_thingsOf := by decide +kernel
theorem hd_X2_doorsWith : yX2_doorsWith.cls ≠ "java/lang/invoke/MethodHandle" ∧ yX2_doorsWith.cls ≠ "java/lang/invoke/VarHandle" ∧ (parseMethodDescriptor yX2_doorsWith.desc).map (fun d => d.parameters.length) = some 1 := by decide +kernel
abbrev rmX5_thingsOf_k : Room := { frames := 1, cells := 0, slots := 0, locals := 21 }
set_option maxHeartbeats 4000000 in
set_option maxRecDepth 100000 in
theorem kX5_thingsOf_k (l : Launch) (g : GG) (x : Nat) (nw : Nat) (sn : Nat) (tk : Bool) (hs : Nat) (tx : Nat) (tr : Nat) (na : Nat) (nb : Nat) (σ : Sg) (kd : Bool) (sz : Nat)  : Met l yX5_thingsOf wsX5_thingsOf rmX5_thingsOf_k (va_Pc [.ref x, .int (bI kd)] (kPre g [cX x nw sn tk hs tx tr, cR nw na nb σ, xI g na 49 (zT σ), xI g nb 49 (zI σ)] sz)) (va_Qi (fun (r : Int32) (u : Unit) => r = nI (zcnt (kindP σ kd) 48)) (kB g (va_A [cX x nw sn tk hs tx tr, cR nw na nb σ, xI g na 49 (zT σ), xI g nb 49 (zI σ)] sz) (fun u => [cX x nw sn tk hs tx tr, cR nw na nb σ, xI g na 49 (zT σ), xI g nb 49 (zI σ)])) (va_A [cX x nw sn tk hs tx tr, cR nw na nb σ, xI g na 49 (zT σ), xI g nb 49 (zI σ)] sz)) 0 0 (va_A [cX x nw sn tk hs tx tr, cR nw na nb σ, xI g na 49 (zT σ), xI g nb 49 (zI σ)] sz) := by
  refine kMet (cc := cX5_thingsOf) (maxL := 2) (ret := (some .int)) (own := RX5) (by decide) rfl rfl (Nat.le_of_ble_eq_true rfl) ?_
  intro p e s m args below meth c ls Q H locs A F w hl hnm hA hQ
  have hx := F.1.1
  have hb := F.1.2.1
  have hts := F.1.2.2.2.2
  have hl : lv_has ls 2 [(0, .ref x), (1, .int (bI kd))] := hl
  refine lv_iload_n hx hb dX5_thingsOf_0 rfl (lv_at hl 1 rfl) ?_
  refine kcalli (wc := []) (wr := [cX x nw sn tk hs tx tr, cR nw na nb σ, xI g na 49 (zT σ), xI g nb 49 (zI σ)]) (wn := fun (u : Unit) => [cX x nw sn tk hs tx tr, cR nw na nb σ, xI g na 49 (zT σ), xI g nb 49 (zI σ)]) F w [] [0, 1, 2, 3] [0, 1, 2, 3] rfl rfl rfl (fun _ => rfl)
    (fun hp => va_runS (As := [.int (bI kd)]) (rest := []) F.1 (kX5_isKind l g (bI kd) H.size ) (va_cwS 1 hts gX5_thingsOf_X5_isKind rfl rfl rfl hd_X5_isKind ⟨Nat.le_of_ble_eq_true rfl, Nat.le_of_ble_eq_true rfl⟩) hp rfl rfl hl.1 rfl (lv_room (Nat.le_of_ble_eq_true rfl)) dX5_thingsOf_1 ⟨Nat.le_of_ble_eq_true rfl, Nat.le_of_ble_eq_true rfl⟩)
    (fun r_1 _ H locs h_2 w => ?_)
  subst h_2
  refine ktopi (y := bI true) (congrArg bI (kind_b kd)) ?_
  refine lv_if_ne (tgt := 17) hx hb dX5_thingsOf_4 (by decide) (fun h_3 => ?_) (fun h_3 => ?_)
  · have h_3 : true = true := bI_o.mp h_3
    refine lv_aload_n hx hb dX5_thingsOf_17 rfl (lv_at hl 0 rfl) ?_
    refine kget (fs := [.ref nw, .ref sn, .int (bI tk), .ref hs, .ref tx, .ref tr]) F w in_X5_thingsOf_X5 0 rfl rfl 0 (by decide) (by decide +kernel) rfl rfl dX5_thingsOf_18 ?_
    refine lv_iload_n hx hb dX5_thingsOf_21 rfl (lv_at hl 1 rfl) ?_
    refine kcalll (wc := [cR nw na nb σ, xI g na 49 (zT σ), xI g nb 49 (zI σ)]) (wr := [cX x nw sn tk hs tx tr]) (wn := fun (u : Unit) => [cX x nw sn tk hs tx tr, cR nw na nb σ, xI g na 49 (zT σ), xI g nb 49 (zI σ)]) F w [1, 2, 3] [0] [0, 1, 2, 3] rfl rfl rfl (fun _ => rfl)
      (fun hp => va_runV (As := [.int (bI kd)]) (rest := []) F.1 (kX2_doorsWith l g nw na nb σ kd H.size ) (cwV 1 hts gX5_thingsOf_X2_doorsWith rfl rfl rfl ⟨rfl, hd_X2_doorsWith⟩ ⟨Nat.le_of_ble_eq_true rfl, Nat.le_of_ble_eq_true rfl⟩) ⟨hp.1, va_recv F.2.2.2.1.1 w.1 (q0 := 1) (ci := 2) rfl rfl, hp.2⟩ rfl rfl hl.1 rfl (lv_room (Nat.le_of_ble_eq_true rfl)) dX5_thingsOf_22 ⟨Nat.le_of_ble_eq_true rfl, Nat.le_of_ble_eq_true rfl⟩)
      (fun r_4 _ H locs h_5 w => ?_)
    subst h_5
    refine kcalli (wc := []) (wr := [cX x nw sn tk hs tx tr, cR nw na nb σ, xI g na 49 (zT σ), xI g nb 49 (zI σ)]) (wn := fun (u : Unit) => [cX x nw sn tk hs tx tr, cR nw na nb σ, xI g na 49 (zT σ), xI g nb 49 (zI σ)]) F w [] [0, 1, 2, 3] [0, 1, 2, 3] rfl rfl rfl (fun _ => rfl)
      (fun hp => va_runS (As := [.long (zB (kindP σ kd))]) (rest := []) F.1 (kJ13_bitCount_95d88 l g (zB (kindP σ kd)) H.size ) (va_cwS 1 hts gX5_thingsOf_J13_bitCount_95d88 rfl rfl rfl hd_J13_bitCount_95d88 ⟨Nat.le_of_ble_eq_true rfl, Nat.le_of_ble_eq_true rfl⟩) hp rfl rfl hl.1 rfl (lv_room (Nat.le_of_ble_eq_true rfl)) dX5_thingsOf_25 ⟨Nat.le_of_ble_eq_true rfl, Nat.le_of_ble_eq_true rfl⟩)
      (fun r_6 _ H locs h_7 w => ?_)
    subst h_7
    refine ktopi (y := nI (zcnt (kindP σ kd) 48)) (zpop_B _) ?_
    subst hA
    subst hQ
    exact kreti F w () [0, 1, 2, 3] rfl rfl (rfl) (Nat.le_of_ble_eq_true rfl) (Nat.le_of_ble_eq_true rfl) dX5_thingsOf_28
  · have h_3 : true = false := bI_z.mp h_3
    exact absurd h_3 (by simp)
theorem in_X5_shutAway_X2 : ∀ w ∈ wsX20, w ∈ wsX5_shutAway := by decide +kernel
theorem in_X5_shutAway_X5 : ∀ w ∈ wsX50, w ∈ wsX5_shutAway := by decide +kernel
abbrev rmX5_shutAway : Room := { frames := 1, cells := 0, slots := 0, locals := 21 }
set_option maxHeartbeats 4000000 in
set_option maxRecDepth 100000 in
theorem kX5_shutAway (l : Launch) (g : GG) (x : Nat) (nw : Nat) (sn : Nat) (tk : Bool) (hs : Nat) (tx : Nat) (tr : Nat) (na : Nat) (nb : Nat) (σ : Sg) (sz : Nat)  : Met l yX5_shutAway wsX5_shutAway rmX5_shutAway (va_Pc [.ref x] (kPre g [cX x nw sn tk hs tx tr, cR nw na nb σ, xI g na 49 (zT σ), xI g nb 49 (zI σ)] sz)) (va_Qi (fun (r : Int32) (u : Unit) => r = nI (zcnt (shutP σ) 48)) (kB g (va_A [cX x nw sn tk hs tx tr, cR nw na nb σ, xI g na 49 (zT σ), xI g nb 49 (zI σ)] sz) (fun u => [cX x nw sn tk hs tx tr, cR nw na nb σ, xI g na 49 (zT σ), xI g nb 49 (zI σ)])) (va_A [cX x nw sn tk hs tx tr, cR nw na nb σ, xI g na 49 (zT σ), xI g nb 49 (zI σ)] sz)) 0 0 (va_A [cX x nw sn tk hs tx tr, cR nw na nb σ, xI g na 49 (zT σ), xI g nb 49 (zI σ)] sz) := by
  refine kMet (cc := cX5_shutAway) (maxL := 1) (ret := (some .int)) (own := RX5) (by decide) rfl rfl (Nat.le_of_ble_eq_true rfl) ?_
  intro p e s m args below meth c ls Q H locs A F w hl hnm hA hQ
  have hx := F.1.1
  have hb := F.1.2.1
  have hts := F.1.2.2.2.2
  have hl : lv_has ls 1 [(0, .ref x)] := hl
  refine lv_aload_n hx hb dX5_shutAway_0 rfl (lv_at hl 0 rfl) ?_
  refine kget (fs := [.ref nw, .ref sn, .int (bI tk), .ref hs, .ref tx, .ref tr]) F w in_X5_shutAway_X5 0 rfl rfl 0 (by decide) (by decide +kernel) rfl rfl dX5_shutAway_1 ?_
  refine kgetN (host := RX5) (fs := [.long (zB (zO σ)), .long (zB (zL σ)), .long (zB (zS σ)), .long (zB (zF σ)), .long (zB (zV σ)), .ref na, .ref nb]) F w in_X5_shutAway_X2 1 rfl rfl 3 (by decide) (by decide +kernel) rfl rfl dX5_shutAway_4 ?_
  refine lv_aload_n hx hb dX5_shutAway_7 rfl (lv_at hl 0 rfl) ?_
  refine kget (fs := [.ref nw, .ref sn, .int (bI tk), .ref hs, .ref tx, .ref tr]) F w in_X5_shutAway_X5 0 rfl rfl 0 (by decide) (by decide +kernel) rfl rfl dX5_shutAway_8 ?_
  refine kgetN (host := RX5) (fs := [.long (zB (zO σ)), .long (zB (zL σ)), .long (zB (zS σ)), .long (zB (zF σ)), .long (zB (zV σ)), .ref na, .ref nb]) F w in_X5_shutAway_X2 1 rfl rfl 0 (by decide) (by decide +kernel) rfl rfl dX5_shutAway_11 ?_
  refine lv_ldc2 (v := (-1)) hx hb F.1.2.2.2.1 (hts (.constantLong RX5 177 (-1)) (by decide +kernel)) dX5_shutAway_14 ?_
  refine lv_lxor hx hb dX5_shutAway_17 ?_
  refine lv_land hx hb dX5_shutAway_18 ?_
  refine ktopl (y := zB (shutP σ)) (shutP_b σ) ?_
  refine kcalli (wc := []) (wr := [cX x nw sn tk hs tx tr, cR nw na nb σ, xI g na 49 (zT σ), xI g nb 49 (zI σ)]) (wn := fun (u : Unit) => [cX x nw sn tk hs tx tr, cR nw na nb σ, xI g na 49 (zT σ), xI g nb 49 (zI σ)]) F w [] [0, 1, 2, 3] [0, 1, 2, 3] rfl rfl rfl (fun _ => rfl)
    (fun hp => va_runS (As := [.long (zB (shutP σ))]) (rest := []) F.1 (kJ13_bitCount_95d88 l g (zB (shutP σ)) H.size ) (va_cwS 1 hts gX5_shutAway_J13_bitCount_95d88 rfl rfl rfl hd_J13_bitCount_95d88 ⟨Nat.le_of_ble_eq_true rfl, Nat.le_of_ble_eq_true rfl⟩) hp rfl rfl hl.1 rfl (lv_room (Nat.le_of_ble_eq_true rfl)) dX5_shutAway_19 ⟨Nat.le_of_ble_eq_true rfl, Nat.le_of_ble_eq_true rfl⟩)
    (fun r_1 _ H locs h_2 w => ?_)
  subst h_2
  refine ktopi (y := nI (zcnt (shutP σ) 48)) (zpop_B _) ?_
  subst hA
  subst hQ
  exact kreti F w () [0, 1, 2, 3] rfl rfl (rfl) (Nat.le_of_ble_eq_true rfl) (Nat.le_of_ble_eq_true rfl) dX5_shutAway_22
