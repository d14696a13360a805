/-- the multiples of k among the first -/
def mulP (k i d : Nat) : Bool := decide (k ∣ d) && decide (d / k < i)
def mulA (k d : Nat) : Bool := decide (k ∣ d)
theorem mulP_1 {k : Nat} (hk : 1 ≤ k) : zB (mulP k 1) = 0 := by
  rw [← zB_0]
  refine zB_cong fun d h1 _ => ?_
  unfold mulP
  cases hd : decide (k ∣ d)
  · rfl
  · have h2 : k ≤ d := Nat.le_of_dvd h1 (of_decide_eq_true hd)
    have h3 : 1 ≤ d / k := (Nat.le_div_iff_mul_le hk).mpr (by omega)
    rw [Bool.true_and, decide_eq_false_iff_not]
    omega
theorem mul_in {k i : Nat} (hk : 1 ≤ k) (h : i ≤ 48 / k) : i * k ≤ 48 := (Nat.le_div_iff_mul_le hk).mp h
theorem mulP_s {k i : Nat} (hk : 1 ≤ k) (hi : 1 ≤ i) (h : i * k ≤ 48) : zB (mulP k i) ||| zbit (i * k) = zB (mulP k (i + 1)) := by
  have hd : i * k / k = i := Nat.mul_div_cancel i hk
  refine zB_set (Nat.mul_pos hi hk) h ?_ ?_
  · unfold mulP; rw [hd]; simp [Nat.dvd_mul_left]
  · intro j hj
    unfold mulP
    cases hdv : decide (k ∣ j)
    · rfl
    · have h1 : j / k * k = j := Nat.div_mul_cancel (of_decide_eq_true hdv)
      have h2 : j / k ≠ i := fun e => hj (by rw [← e, h1])
      rw [Bool.true_and, Bool.true_and, decide_eq_decide]
      omega
theorem mulP_end {k : Nat} (hk : 1 ≤ k) : zB (mulP k (48 / k + 1)) = zB (mulA k) := by
  refine zB_cong fun d _ h2 => ?_
  unfold mulP mulA
  have h3 : d / k ≤ 48 / k := Nat.div_le_div_right h2
  have h4 : decide (d / k < 48 / k + 1) = true := by rw [decide_eq_true_iff]; omega
  rw [h4, Bool.and_true]
/-- no square above 1 (of a number to 48) divides it -/
def zsq (n : Nat) : Bool := (List.range 5).all (fun j => !decide ((j + 2) * (j + 2) ∣ n))
theorem zsq_t {n : Nat} (h : ∀ r, 2 ≤ r → r < 7 → ¬ r * r ∣ n) : zsq n = true := by
  unfold zsq
  rw [List.all_eq_true]
  intro j hj
  have := List.mem_range.mp hj
  simpa using h (j + 2) (by omega) (by omega)
theorem zsq_f {n i : Nat} (h1 : 2 ≤ i) (h2 : i < 7) (h : i * i ∣ n) : zsq n = false := by
  cases hz : zsq n
  · rfl
  · unfold zsq at hz
    rw [List.all_eq_true] at hz
    have h3 := hz (i - 2) (List.mem_range.mpr (by omega))
    have e : i - 2 + 2 = i := by omega
    rw [e] at h3
    simp [h] at h3
abbrev rmX5_contains : Room := { frames := 0, cells := 0, slots := 0, locals := 0 }
set_option maxHeartbeats 4000000 in
set_option maxRecDepth 100000 in
theorem kX5_contains (l : Launch) (g : GG) (x : Int64) (d : Nat) (sz : Nat) (hd : d < 64) : Met l yX5_contains wsX5_contains rmX5_contains (va_Pc [.long x, .int (nI d)] (kPre g [] sz)) (va_Qi (fun (r : Int32) (u : Unit) => r = bI (zG x d)) (kB g (va_A [] sz) (fun u => [])) (va_A [] sz)) 0 0 (va_A [] sz) := by
  refine kMet (cc := cX5_contains) (maxL := 3) (ret := (some .boolean)) (own := RX5) (by decide) rfl rfl (Nat.le_of_ble_eq_true rfl) ?_
  intro p e s m args below meth c ls Q H locs A F w hl hnm hA hQ
  have hx := F.1.1
  have hb := F.1.2.1
  have hts := F.1.2.2.2.2
  have hl : lv_has ls 3 [(0, .long x), (2, .int (nI d))] := hl
  refine lv_lload_n hx hb dX5_contains_0 rfl (lv_at hl 0 rfl) ?_
  refine lv_iload_n hx hb dX5_contains_1 rfl (lv_at hl 1 rfl) ?_
  refine lv_lushr hx hb dX5_contains_2 rfl ?_
  refine lv_lconst (v := 1) hx hb dX5_contains_3 (by decide) ?_
  refine lv_land hx hb dX5_contains_4 ?_
  refine lv_lconst (v := 0) hx hb dX5_contains_5 (by decide) ?_
  refine W.lcmp hx hb dX5_contains_6 ?_
  refine lv_if_eq (tgt := 14) hx hb dX5_contains_7 (by decide) (fun h_1 => ?_) (fun h_1 => ?_)
  · have h_1 : zG x d = false := zm_has0 (by omega) h_1
    refine lv_iconst (v := nI 0) hx hb dX5_contains_14 (by decide) ?_
    subst hA
    subst hQ
    exact kretz F w () [] rfl rfl (by show nI 0 = bI (zG x d); rw [h_1]; rfl) (by decide +kernel) (Nat.le_of_ble_eq_true rfl) (Nat.le_of_ble_eq_true rfl) dX5_contains_15
  · have h_1 : zG x d = true := zm_has1 (by omega) h_1
    refine lv_iconst (v := nI 1) hx hb dX5_contains_10 (by decide) ?_
    refine lv_goto (tgt := 15) hx hb dX5_contains_11 (by decide) ?_
    subst hA
    subst hQ
    exact kretz F w () [] rfl rfl (by show nI 1 = bI (zG x d); rw [h_1]; rfl) (by decide +kernel) (Nat.le_of_ble_eq_true rfl) (Nat.le_of_ble_eq_true rfl) dX5_contains_15
abbrev rmX5_bit : Room := { frames := 0, cells := 0, slots := 0, locals := 0 }
set_option maxHeartbeats 4000000 in
set_option maxRecDepth 100000 in
theorem kX5_bit (l : Launch) (g : GG) (d : Nat) (sz : Nat) (hd : d < 64) : Met l yX5_bit wsX5_bit rmX5_bit (va_Pc [.int (nI d)] (kPre g [] sz)) (va_Ql (fun (r : Int64) (u : Unit) => r = zbit d) (kB g (va_A [] sz) (fun u => [])) (va_A [] sz)) 0 0 (va_A [] sz) := by
  refine kMet (cc := cX5_bit) (maxL := 1) (ret := (some .long)) (own := RX5) (by decide) rfl rfl (Nat.le_of_ble_eq_true rfl) ?_
  intro p e s m args below meth c ls Q H locs A F w hl hnm hA hQ
  have hx := F.1.1
  have hb := F.1.2.1
  have hts := F.1.2.2.2.2
  have hl : lv_has ls 1 [(0, .int (nI d))] := hl
  refine lv_lconst (v := 1) hx hb dX5_bit_0 (by decide) ?_
  refine lv_iload_n hx hb dX5_bit_1 rfl (lv_at hl 0 rfl) ?_
  refine lv_lshl hx hb dX5_bit_2 rfl ?_
  refine ktopl (y := zbit d) (zm_bit (by omega)) ?_
  subst hA
  subst hQ
  exact kretl F w () [] rfl rfl (rfl) (Nat.le_of_ble_eq_true rfl) (Nat.le_of_ble_eq_true rfl) dX5_bit_3
abbrev rmX5_isInRow : Room := { frames := 0, cells := 0, slots := 0, locals := 0 }
set_option maxHeartbeats 4000000 in
set_option maxRecDepth 100000 in
theorem kX5_isInRow (l : Launch) (g : GG) (n : Int32) (sz : Nat)  : Met l yX5_isInRow wsX5_isInRow rmX5_isInRow (va_Pc [.int n] (kPre g [] sz)) (va_Qi (fun (r : Int32) (u : Unit) => r = bI (decide (1 ≤ n.toInt ∧ n.toInt ≤ 48))) (kB g (va_A [] sz) (fun u => [])) (va_A [] sz)) 0 0 (va_A [] sz) := by
  refine kMet (cc := cX5_isInRow) (maxL := 1) (ret := (some .boolean)) (own := RX5) (by decide) rfl rfl (Nat.le_of_ble_eq_true rfl) ?_
  intro p e s m args below meth c ls Q H locs A F w hl hnm hA hQ
  have hx := F.1.1
  have hb := F.1.2.1
  have hts := F.1.2.2.2.2
  have hl : lv_has ls 1 [(0, .int n)] := hl
  refine lv_iload_n hx hb dX5_isInRow_0 rfl (lv_at hl 0 rfl) ?_
  refine lv_iconst (v := nI 1) hx hb dX5_isInRow_1 (by decide) ?_
  refine lv_icmp_lt (tgt := 15) hx hb dX5_isInRow_2 (by decide) (fun h_1 => ?_) (fun h_1 => ?_)
  · refine lv_iconst (v := nI 0) hx hb dX5_isInRow_15 (by decide) ?_
    have hz : decide (1 ≤ n.toInt ∧ n.toInt ≤ 48) = false := by
      rw [decide_eq_false_iff_not]
      simp only [ki_lt, ki_le, ki_n (show 1 < 2147483648 by omega), ki_n (show 48 < 2147483648 by omega)] at h_1 
      omega
    subst hA
    subst hQ
    exact kretz F w () [] rfl rfl (by show nI 0 = bI (decide (1 ≤ n.toInt ∧ n.toInt ≤ 48)); rw [hz]; rfl) (by decide +kernel) (Nat.le_of_ble_eq_true rfl) (Nat.le_of_ble_eq_true rfl) dX5_isInRow_16
  · refine lv_iload_n hx hb dX5_isInRow_5 rfl (lv_at hl 0 rfl) ?_
    refine lv_bipush (v := nI 48) hx hb dX5_isInRow_6 (by decide) ?_
    refine lv_icmp_gt (tgt := 15) hx hb dX5_isInRow_8 (by decide) (fun h_2 => ?_) (fun h_2 => ?_)
    · refine lv_iconst (v := nI 0) hx hb dX5_isInRow_15 (by decide) ?_
      have hz : decide (1 ≤ n.toInt ∧ n.toInt ≤ 48) = false := by
        rw [decide_eq_false_iff_not]
        simp only [ki_lt, ki_le, ki_n (show 1 < 2147483648 by omega), ki_n (show 48 < 2147483648 by omega)] at h_1 h_2
        omega
      subst hA
      subst hQ
      exact kretz F w () [] rfl rfl (by show nI 0 = bI (decide (1 ≤ n.toInt ∧ n.toInt ≤ 48)); rw [hz]; rfl) (by decide +kernel) (Nat.le_of_ble_eq_true rfl) (Nat.le_of_ble_eq_true rfl) dX5_isInRow_16
    · refine lv_iconst (v := nI 1) hx hb dX5_isInRow_11 (by decide) ?_
      refine lv_goto (tgt := 16) hx hb dX5_isInRow_12 (by decide) ?_
      have hz : decide (1 ≤ n.toInt ∧ n.toInt ≤ 48) = true := by
        rw [decide_eq_true_iff]
        simp only [ki_lt, ki_le, ki_n (show 1 < 2147483648 by omega), ki_n (show 48 < 2147483648 by omega)] at h_1 h_2
        omega
      subst hA
      subst hQ
      exact kretz F w () [] rfl rfl (by show nI 1 = bI (decide (1 ≤ n.toInt ∧ n.toInt ≤ 48)); rw [hz]; rfl) (by decide +kernel) (Nat.le_of_ble_eq_true rfl) (Nat.le_of_ble_eq_true rfl) dX5_isInRow_16
abbrev rmX5_isStretch : Room := { frames := 0, cells := 0, slots := 0, locals := 0 }
set_option maxHeartbeats 4000000 in
set_option maxRecDepth 100000 in
theorem kX5_isStretch (l : Launch) (g : GG) (n : Int32) (t : Int32) (sz : Nat)  : Met l yX5_isStretch wsX5_isStretch rmX5_isStretch (va_Pc [.int n, .int t] (kPre g [] sz)) (va_Qi (fun (r : Int32) (u : Unit) => r = bI (decide (1 ≤ n.toInt ∧ n.toInt ≤ t.toInt ∧ t.toInt ≤ 48))) (kB g (va_A [] sz) (fun u => [])) (va_A [] sz)) 0 0 (va_A [] sz) := by
  refine kMet (cc := cX5_isStretch) (maxL := 2) (ret := (some .boolean)) (own := RX5) (by decide) rfl rfl (Nat.le_of_ble_eq_true rfl) ?_
  intro p e s m args below meth c ls Q H locs A F w hl hnm hA hQ
  have hx := F.1.1
  have hb := F.1.2.1
  have hts := F.1.2.2.2.2
  have hl : lv_has ls 2 [(0, .int n), (1, .int t)] := hl
  refine lv_iload_n hx hb dX5_isStretch_0 rfl (lv_at hl 0 rfl) ?_
  refine lv_iconst (v := nI 1) hx hb dX5_isStretch_1 (by decide) ?_
  refine lv_icmp_lt (tgt := 20) hx hb dX5_isStretch_2 (by decide) (fun h_1 => ?_) (fun h_1 => ?_)
  · refine lv_iconst (v := nI 0) hx hb dX5_isStretch_20 (by decide) ?_
    have hz : decide (1 ≤ n.toInt ∧ n.toInt ≤ t.toInt ∧ t.toInt ≤ 48) = false := by
      rw [decide_eq_false_iff_not]
      simp only [ki_lt, ki_le, ki_n (show 1 < 2147483648 by omega), ki_n (show 48 < 2147483648 by omega)] at h_1
      omega
    subst hA
    subst hQ
    exact kretz F w () [] rfl rfl (by show nI 0 = bI (decide (1 ≤ n.toInt ∧ n.toInt ≤ t.toInt ∧ t.toInt ≤ 48)); rw [hz]; rfl) (by decide +kernel) (Nat.le_of_ble_eq_true rfl) (Nat.le_of_ble_eq_true rfl) dX5_isStretch_21
  · refine lv_iload_n hx hb dX5_isStretch_5 rfl (lv_at hl 0 rfl) ?_
    refine lv_iload_n hx hb dX5_isStretch_6 rfl (lv_at hl 1 rfl) ?_
    refine lv_icmp_gt (tgt := 20) hx hb dX5_isStretch_7 (by decide) (fun h_2 => ?_) (fun h_2 => ?_)
    · refine lv_iconst (v := nI 0) hx hb dX5_isStretch_20 (by decide) ?_
      have hz : decide (1 ≤ n.toInt ∧ n.toInt ≤ t.toInt ∧ t.toInt ≤ 48) = false := by
        rw [decide_eq_false_iff_not]
        simp only [ki_lt, ki_le, ki_n (show 1 < 2147483648 by omega), ki_n (show 48 < 2147483648 by omega)] at h_1 h_2
        omega
      subst hA
      subst hQ
      exact kretz F w () [] rfl rfl (by show nI 0 = bI (decide (1 ≤ n.toInt ∧ n.toInt ≤ t.toInt ∧ t.toInt ≤ 48)); rw [hz]; rfl) (by decide +kernel) (Nat.le_of_ble_eq_true rfl) (Nat.le_of_ble_eq_true rfl) dX5_isStretch_21
    · refine lv_iload_n hx hb dX5_isStretch_10 rfl (lv_at hl 1 rfl) ?_
      refine lv_bipush (v := nI 48) hx hb dX5_isStretch_11 (by decide) ?_
      refine lv_icmp_gt (tgt := 20) hx hb dX5_isStretch_13 (by decide) (fun h_3 => ?_) (fun h_3 => ?_)
      · refine lv_iconst (v := nI 0) hx hb dX5_isStretch_20 (by decide) ?_
        have hz : decide (1 ≤ n.toInt ∧ n.toInt ≤ t.toInt ∧ t.toInt ≤ 48) = false := by
          rw [decide_eq_false_iff_not]
          simp only [ki_lt, ki_le, ki_n (show 1 < 2147483648 by omega), ki_n (show 48 < 2147483648 by omega)] at h_1 h_2 h_3
          omega
        subst hA
        subst hQ
        exact kretz F w () [] rfl rfl (by show nI 0 = bI (decide (1 ≤ n.toInt ∧ n.toInt ≤ t.toInt ∧ t.toInt ≤ 48)); rw [hz]; rfl) (by decide +kernel) (Nat.le_of_ble_eq_true rfl) (Nat.le_of_ble_eq_true rfl) dX5_isStretch_21
      · refine lv_iconst (v := nI 1) hx hb dX5_isStretch_16 (by decide) ?_
        refine lv_goto (tgt := 21) hx hb dX5_isStretch_17 (by decide) ?_
        have hz : decide (1 ≤ n.toInt ∧ n.toInt ≤ t.toInt ∧ t.toInt ≤ 48) = true := by
          rw [decide_eq_true_iff]
          simp only [ki_lt, ki_le, ki_n (show 1 < 2147483648 by omega), ki_n (show 48 < 2147483648 by omega)] at h_1 h_2 h_3
          omega
        subst hA
        subst hQ
        exact kretz F w () [] rfl rfl (by show nI 1 = bI (decide (1 ≤ n.toInt ∧ n.toInt ≤ t.toInt ∧ t.toInt ≤ 48)); rw [hz]; rfl) (by decide +kernel) (Nat.le_of_ble_eq_true rfl) (Nat.le_of_ble_eq_true rfl) dX5_isStretch_21
abbrev rmX5_isKind : Room := { frames := 0, cells := 0, slots := 0, locals := 0 }
set_option maxHeartbeats 4000000 in
set_option maxRecDepth 100000 in
theorem kX5_isKind (l : Launch) (g : GG) (k : Int32) (sz : Nat)  : Met l yX5_isKind wsX5_isKind rmX5_isKind (va_Pc [.int k] (kPre g [] sz)) (va_Qi (fun (r : Int32) (u : Unit) => r = bI (decide (k = 0 ∨ k = 1))) (kB g (va_A [] sz) (fun u => [])) (va_A [] sz)) 0 0 (va_A [] sz) := by
  refine kMet (cc := cX5_isKind) (maxL := 1) (ret := (some .boolean)) (own := RX5) (by decide) rfl rfl (Nat.le_of_ble_eq_true rfl) ?_
  intro p e s m args below meth c ls Q H locs A F w hl hnm hA hQ
  have hx := F.1.1
  have hb := F.1.2.1
  have hts := F.1.2.2.2.2
  have hl : lv_has ls 1 [(0, .int k)] := hl
  refine lv_iload_n hx hb dX5_isKind_0 rfl (lv_at hl 0 rfl) ?_
  refine lv_if_eq (tgt := 9) hx hb dX5_isKind_1 (by decide) (fun h_1 => ?_) (fun h_1 => ?_)
  · refine lv_iconst (v := nI 1) hx hb dX5_isKind_9 (by decide) ?_
    refine lv_goto (tgt := 14) hx hb dX5_isKind_10 (by decide) ?_
    have hz : decide (k = 0 ∨ k = 1) = true := by
      rw [decide_eq_true_iff]
      exact Or.inl h_1
    subst hA
    subst hQ
    exact kretz F w () [] rfl rfl (by show nI 1 = bI (decide (k = 0 ∨ k = 1)); rw [hz]; rfl) (by decide +kernel) (Nat.le_of_ble_eq_true rfl) (Nat.le_of_ble_eq_true rfl) dX5_isKind_14
  · refine lv_iload_n hx hb dX5_isKind_4 rfl (lv_at hl 0 rfl) ?_
    refine lv_iconst (v := nI 1) hx hb dX5_isKind_5 (by decide) ?_
    refine lv_icmp_ne (tgt := 13) hx hb dX5_isKind_6 (by decide) (fun h_2 => ?_) (fun h_2 => ?_)
    · refine lv_iconst (v := nI 0) hx hb dX5_isKind_13 (by decide) ?_
      have hz : decide (k = 0 ∨ k = 1) = false := by
        rw [decide_eq_false_iff_not]
        exact fun hq => hq.elim (fun a => h_1 a) (fun a => h_2 a)
      subst hA
      subst hQ
      exact kretz F w () [] rfl rfl (by show nI 0 = bI (decide (k = 0 ∨ k = 1)); rw [hz]; rfl) (by decide +kernel) (Nat.le_of_ble_eq_true rfl) (Nat.le_of_ble_eq_true rfl) dX5_isKind_14
    · refine lv_iconst (v := nI 1) hx hb dX5_isKind_9 (by decide) ?_
      refine lv_goto (tgt := 14) hx hb dX5_isKind_10 (by decide) ?_
      have hz : decide (k = 0 ∨ k = 1) = true := by
        rw [decide_eq_true_iff]
        exact Or.inr (by first | exact h_2 | (have := h_2; simpa using this))
      subst hA
      subst hQ
      exact kretz F w () [] rfl rfl (by show nI 1 = bI (decide (k = 0 ∨ k = 1)); rw [hz]; rfl) (by decide +kernel) (Nat.le_of_ble_eq_true rfl) (Nat.le_of_ble_eq_true rfl) dX5_isKind_14
abbrev rmX5_countAt : Room := { frames := 0, cells := 0, slots := 0, locals := 0 }
set_option maxHeartbeats 4000000 in
set_option maxRecDepth 100000 in
theorem kX5_countAt (l : Launch) (g : GG) (a : Nat) (f : Nat → Int32) (d : Nat) (sz : Nat) (hd : d < 49) : Met l yX5_countAt wsX5_countAt rmX5_countAt (va_Pc [.ref a, .int (nI d)] (kPre g [xI g a 49 f] sz)) (va_Qi (fun (r : Int32) (u : Unit) => r = f d) (kB g (va_A [xI g a 49 f] sz) (fun u => [xI g a 49 f])) (va_A [xI g a 49 f] sz)) 0 0 (va_A [xI g a 49 f] sz) := by
  refine kMet (cc := cX5_countAt) (maxL := 2) (ret := (some .int)) (own := RX5) (by decide) rfl rfl (Nat.le_of_ble_eq_true rfl) ?_
  intro p e s m args below meth c ls Q H locs A F w hl hnm hA hQ
  have hx := F.1.1
  have hb := F.1.2.1
  have hts := F.1.2.2.2.2
  have hl : lv_has ls 2 [(0, .ref a), (1, .int (nI d))] := hl
  refine lv_iload_n hx hb dX5_countAt_0 rfl (lv_at hl 1 rfl) ?_
  refine lv_if_lt (tgt := 16) hx hb dX5_countAt_1 (by decide) (fun h_1 => ?_) (fun h_1 => ?_)
  · have h_1 : d < 0 := (kc0_lt_t (by omega)).mp h_1
    omega
  · have h_1 : d ≥ 0 := (kc0_lt_f (by omega)).mp h_1
    refine lv_iload_n hx hb dX5_countAt_4 rfl (lv_at hl 1 rfl) ?_
    refine lv_aload_n hx hb dX5_countAt_5 rfl (lv_at hl 0 rfl) ?_
    refine kalen (t0 := 0) (v := nI 49) F w 0 rfl rfl rfl dX5_countAt_6 ?_
    refine lv_icmp_ge (tgt := 16) hx hb dX5_countAt_7 (by decide) (fun h_2 => ?_) (fun h_2 => ?_)
    · have h_2 : d ≥ 49 := (kc_ge_t (by omega) (by omega)).mp h_2
      omega
    · have h_2 : d < 49 := (kc_ge_f (by omega) (by omega)).mp h_2
      refine lv_aload_n hx hb dX5_countAt_10 rfl (lv_at hl 0 rfl) ?_
      refine lv_iload_n hx hb dX5_countAt_11 rfl (lv_at hl 1 rfl) ?_
      refine kiald (v := f d) F w 0 rfl (vp_in_nI (by omega) (by omega)) (congrArg f (nI_clamp (n := d) (by omega))) dX5_countAt_12 ?_
      refine lv_goto (tgt := 17) hx hb dX5_countAt_13 (by decide) ?_
      subst hA
      subst hQ
      exact kreti F w () [0] rfl rfl (rfl) (Nat.le_of_ble_eq_true rfl) (Nat.le_of_ble_eq_true rfl) dX5_countAt_17
abbrev rmX5_countUp : Room := { frames := 0, cells := 0, slots := 0, locals := 0 }
set_option maxHeartbeats 4000000 in
set_option maxRecDepth 100000 in
theorem kX5_countUp (l : Launch) (g : GG) (a : Nat) (f : Nat → Int32) (d : Nat) (sz : Nat) (hd : d < 49) : Met l yX5_countUp wsX5_countUp rmX5_countUp (va_Pc [.ref a, .int (nI d)] (kPre g [xI g a 49 f] sz)) (va_Qv (fun (u : Unit) => True) (kB g (va_A [xI g a 49 f] sz) (fun u => [xI g a 49 (upd f d (f d + 1))])) (va_A [xI g a 49 f] sz)) 0 0 (va_A [xI g a 49 f] sz) := by
  refine kMet (cc := cX5_countUp) (maxL := 2) (ret := none) (own := RX5) (by decide) rfl rfl (Nat.le_of_ble_eq_true rfl) ?_
  intro p e s m args below meth c ls Q H locs A F w hl hnm hA hQ
  have hx := F.1.1
  have hb := F.1.2.1
  have hts := F.1.2.2.2.2
  have hl : lv_has ls 2 [(0, .ref a), (1, .int (nI d))] := hl
  refine lv_iload_n hx hb dX5_countUp_0 rfl (lv_at hl 1 rfl) ?_
  refine lv_if_lt (tgt := 17) hx hb dX5_countUp_1 (by decide) (fun h_1 => ?_) (fun h_1 => ?_)
  · have h_1 : d < 0 := (kc0_lt_t (by omega)).mp h_1
    omega
  · have h_1 : d ≥ 0 := (kc0_lt_f (by omega)).mp h_1
    refine lv_iload_n hx hb dX5_countUp_4 rfl (lv_at hl 1 rfl) ?_
    refine lv_aload_n hx hb dX5_countUp_5 rfl (lv_at hl 0 rfl) ?_
    refine kalen (t0 := 0) (v := nI 49) F w 0 rfl rfl rfl dX5_countUp_6 ?_
    refine lv_icmp_ge (tgt := 17) hx hb dX5_countUp_7 (by decide) (fun h_2 => ?_) (fun h_2 => ?_)
    · have h_2 : d ≥ 49 := (kc_ge_t (by omega) (by omega)).mp h_2
      omega
    · have h_2 : d < 49 := (kc_ge_f (by omega) (by omega)).mp h_2
      refine lv_aload_n hx hb dX5_countUp_10 rfl (lv_at hl 0 rfl) ?_
      refine lv_iload_n hx hb dX5_countUp_11 rfl (lv_at hl 1 rfl) ?_
      refine lv_dup2_11 hx hb dX5_countUp_12 rfl rfl ?_
      refine kiald (v := f d) F w 0 rfl (vp_in_nI (by omega) (by omega)) (congrArg f (nI_clamp (n := d) (by omega))) dX5_countUp_13 ?_
      refine lv_iconst (v := nI 1) hx hb dX5_countUp_14 (by decide) ?_
      refine lv_iadd hx hb dX5_countUp_15 ?_
      refine ktopi (y := f d + 1) (rfl) ?_
      refine kiast (f' := upd f d (f d + 1)) F w 0 rfl (vp_in_nI (by omega) (by omega)) (congrArg (fun z => upd f z (f d + 1)) (nI_clamp (n := d) (by omega))) (wn := [xI g a 49 (upd f d (f d + 1))]) rfl dX5_countUp_16 (fun H locs w => ?_)
      subst hA
      subst hQ
      exact kretv F w () [0] rfl rfl (trivial) (Nat.le_of_ble_eq_true rfl) (Nat.le_of_ble_eq_true rfl) dX5_countUp_17
abbrev rmX5_divides : Room := { frames := 0, cells := 0, slots := 0, locals := 0 }
set_option maxHeartbeats 4000000 in
set_option maxRecDepth 100000 in
theorem kX5_divides (l : Launch) (g : GG) (a : Nat) (b : Nat) (sz : Nat) (ha : 1 ≤ a ∧ a < 2147483648) (hb9 : b < 2147483648) : Met l yX5_divides wsX5_divides rmX5_divides (va_Pc [.int (nI a), .int (nI b)] (kPre g [] sz)) (va_Qi (fun (r : Int32) (u : Unit) => r = bI (decide (a ∣ b))) (kB g (va_A [] sz) (fun u => [])) (va_A [] sz)) 0 0 (va_A [] sz) := by
  refine kMet (cc := cX5_divides) (maxL := 2) (ret := (some .boolean)) (own := RX5) (by decide) rfl rfl (Nat.le_of_ble_eq_true rfl) ?_
  intro p e s m args below meth c ls Q H locs A F w hl hnm hA hQ
  have hx := F.1.1
  have hb := F.1.2.1
  have hts := F.1.2.2.2.2
  have hl : lv_has ls 2 [(0, .int (nI a)), (1, .int (nI b))] := hl
  refine lv_iload_n hx hb dX5_divides_0 rfl (lv_at hl 0 rfl) ?_
  refine lv_if_le (tgt := 14) hx hb dX5_divides_1 (by decide) (fun h_1 => ?_) (fun h_1 => ?_)
  · have h_1 : a ≤ 0 := (kc0_le_t (by omega)).mp h_1
    omega
  · have h_1 : a > 0 := (kc0_le_f (by omega)).mp h_1
    refine lv_iload_n hx hb dX5_divides_4 rfl (lv_at hl 1 rfl) ?_
    refine lv_iload_n hx hb dX5_divides_5 rfl (lv_at hl 0 rfl) ?_
    refine lv_irem hx hb dX5_divides_6 ((kc0_eq_f (by omega)).mpr (by omega)) ?_
    refine ktopi (y := nI (b % a)) (pk_rem (a := b) (d := a) (by omega) (by omega) (by omega)) ?_
    have hlt : b % a < a := Nat.mod_lt _ (by omega)
    refine lv_if_ne (tgt := 14) hx hb dX5_divides_7 (by decide) (fun h_2 => ?_) (fun h_2 => ?_)
    · have h_2 : b % a ≠ 0 := (kc0_ne_t (by omega)).mp h_2
      refine lv_iconst (v := nI 0) hx hb dX5_divides_14 (by decide) ?_
      have hz : decide (a ∣ b) = false := by rw [decide_eq_false_iff_not]; exact fun hq => h_2 (Nat.mod_eq_zero_of_dvd hq)
      subst hA
      subst hQ
      exact kretz F w () [] rfl rfl (by show nI 0 = bI (decide (a ∣ b)); rw [hz]; rfl) (by decide +kernel) (Nat.le_of_ble_eq_true rfl) (Nat.le_of_ble_eq_true rfl) dX5_divides_15
    · have h_2 : b % a = 0 := (kc0_ne_f (by omega)).mp h_2
      refine lv_iconst (v := nI 1) hx hb dX5_divides_10 (by decide) ?_
      refine lv_goto (tgt := 15) hx hb dX5_divides_11 (by decide) ?_
      have hz : decide (a ∣ b) = true := by rw [decide_eq_true_iff]; exact Nat.dvd_of_mod_eq_zero h_2
      subst hA
      subst hQ
      exact kretz F w () [] rfl rfl (by show nI 1 = bI (decide (a ∣ b)); rw [hz]; rfl) (by decide +kernel) (Nat.le_of_ble_eq_true rfl) (Nat.le_of_ble_eq_true rfl) dX5_divides_15
abbrev rmX5_timesInRow : Room := { frames := 0, cells := 0, slots := 0, locals := 0 }
set_option maxHeartbeats 4000000 in
set_option maxRecDepth 100000 in
theorem kX5_timesInRow (l : Launch) (g : GG) (k : Nat) (sz : Nat) (hk : 1 ≤ k ∧ k < 2147483648) : Met l yX5_timesInRow wsX5_timesInRow rmX5_timesInRow (va_Pc [.int (nI k)] (kPre g [] sz)) (va_Qi (fun (r : Int32) (u : Unit) => r = nI (48 / k)) (kB g (va_A [] sz) (fun u => [])) (va_A [] sz)) 0 0 (va_A [] sz) := by
  refine kMet (cc := cX5_timesInRow) (maxL := 1) (ret := (some .int)) (own := RX5) (by decide) rfl rfl (Nat.le_of_ble_eq_true rfl) ?_
  intro p e s m args below meth c ls Q H locs A F w hl hnm hA hQ
  have hx := F.1.1
  have hb := F.1.2.1
  have hts := F.1.2.2.2.2
  have hl : lv_has ls 1 [(0, .int (nI k))] := hl
  refine lv_iload_n hx hb dX5_timesInRow_0 rfl (lv_at hl 0 rfl) ?_
  refine lv_if_le (tgt := 11) hx hb dX5_timesInRow_1 (by decide) (fun h_1 => ?_) (fun h_1 => ?_)
  · have h_1 : k ≤ 0 := (kc0_le_t (by omega)).mp h_1
    omega
  · have h_1 : k > 0 := (kc0_le_f (by omega)).mp h_1
    refine lv_bipush (v := nI 48) hx hb dX5_timesInRow_4 (by decide) ?_
    refine lv_iload_n hx hb dX5_timesInRow_6 rfl (lv_at hl 0 rfl) ?_
    refine lv_idiv hx hb dX5_timesInRow_7 ((kc0_eq_f (by omega)).mpr (by omega)) ?_
    refine ktopi (y := nI (48 / k)) (pk_div (a := 48) (d := k) (by omega) (by omega) (by omega)) ?_
    refine lv_goto (tgt := 12) hx hb dX5_timesInRow_8 (by decide) ?_
    subst hA
    subst hQ
    exact kreti F w () [] rfl rfl (rfl) (Nat.le_of_ble_eq_true rfl) (Nat.le_of_ble_eq_true rfl) dX5_timesInRow_12
theorem hd_X5_bit : yX5_bit.cls ≠ "java/lang/invoke/MethodHandle" ∧ yX5_bit.cls ≠ "java/lang/invoke/VarHandle" ∧ (parseMethodDescriptor yX5_bit.desc).map (fun d => d.parameters.length) = some 1 := by decide +kernel
theorem hd_X5_timesInRow : yX5_timesInRow.cls ≠ "java/lang/invoke/MethodHandle" ∧ yX5_timesInRow.cls ≠ "java/lang/invoke/VarHandle" ∧ (parseMethodDescriptor yX5_timesInRow.desc).map (fun d => d.parameters.length) = some 1 := by decide +kernel
abbrev rmX5_multiplesOf : Room := { frames := 1, cells := 0, slots := 0, locals := 20 }
set_option maxHeartbeats 4000000 in
set_option maxRecDepth 100000 in
theorem kX5_multiplesOf (l : Launch) (g : GG) (k : Nat) (sz : Nat) (hk : 1 ≤ k ∧ k ≤ 48) : Met l yX5_multiplesOf wsX5_multiplesOf rmX5_multiplesOf (va_Pc [.int (nI k)] (kPre g [] sz)) (va_Ql (fun (r : Int64) (u : Unit) => r = zB (mulA k)) (kB g (va_A [] sz) (fun u => [])) (va_A [] sz)) 0 0 (va_A [] sz) := by
  refine kMet (cc := cX5_multiplesOf) (maxL := 5) (ret := (some .long)) (own := RX5) (by decide) rfl rfl (Nat.le_of_ble_eq_true rfl) ?_
  intro p e s m args below meth c ls Q H locs A F w hl hnm hA hQ
  have hx := F.1.1
  have hb := F.1.2.1
  have hts := F.1.2.2.2.2
  have hl : lv_has ls 5 [(0, .int (nI k))] := hl
  refine lv_lconst (v := 0) hx hb dX5_multiplesOf_0 (by decide) ?_
  refine ktopl (y := zB (mulP k 1)) ((mulP_1 hk.1).symm) ?_
  refine lv_lstore_n (lv' := [(1, .long (zB (mulP k 1))), (0, .int (nI k))]) hx hb dX5_multiplesOf_1 rfl hl (by decide) rfl (fun ls hl => ?_)
  refine lv_iload_n hx hb dX5_multiplesOf_2 rfl (lv_at hl 1 rfl) ?_
  refine kcalli (wc := []) (wr := []) (wn := fun (u : Unit) => []) F w [] [] [] rfl rfl rfl (fun _ => rfl)
    (fun hp => va_runS (As := [.int (nI k)]) (rest := []) F.1 (kX5_timesInRow l g k H.size (by omega)) (va_cwS 1 hts gX5_multiplesOf_X5_timesInRow rfl rfl rfl hd_X5_timesInRow ⟨Nat.le_of_ble_eq_true rfl, Nat.le_of_ble_eq_true rfl⟩) hp rfl rfl hl.1 rfl (lv_room (Nat.le_of_ble_eq_true rfl)) dX5_multiplesOf_3 ⟨Nat.le_of_ble_eq_true rfl, Nat.le_of_ble_eq_true rfl⟩)
    (fun r_1 _ H locs h_2 w => ?_)
  subst h_2
  refine lv_istore_n (lv' := [(3, .int (nI (48 / k))), (1, .long (zB (mulP k 1))), (0, .int (nI k))]) hx hb dX5_multiplesOf_6 rfl hl (by decide) rfl (fun ls hl => ?_)
  refine lv_iconst (v := nI 1) hx hb dX5_multiplesOf_7 (by decide) ?_
  refine lv_istore (lv' := [(4, .int (nI 1)), (3, .int (nI (48 / k))), (1, .long (zB (mulP k 1))), (0, .int (nI k))]) hx hb dX5_multiplesOf_8 hl (by decide) rfl (fun ls hl => ?_)
  have hq : 48 / k ≤ 48 := Nat.div_le_self _ _
  have LP_3 : ∀ (fu : Nat) (i : Nat) (h1 : 1 ≤ i) (h2 : i ≤ 48 / k + 1) (H : Heap) (locs : List Loc) (ls : Array Slot), 50 - i < fu → kW g A s [] H locs → lv_has ls 5 [(4, .int (nI i)), (3, .int (nI (48 / k))), (1, .long (zB (mulP k i))), (0, .int (nI k))] → W p l e rmX5_multiplesOf s m args below meth c H locs 0 0 Q (F0 m 10 ls []) := by
    intro fu
    induction fu with
    | zero => intro i h1 h2 H locs ls hlt; omega
    | succ fu ih_3 =>
      intro i h1 h2 H locs ls hlt w hl
      refine lv_iload hx hb dX5_multiplesOf_10 (lv_at hl 0 rfl) ?_
      refine lv_iload_n hx hb dX5_multiplesOf_12 rfl (lv_at hl 1 rfl) ?_
      refine lv_icmp_gt (tgt := 32) hx hb dX5_multiplesOf_13 (by decide) (fun h_4 => ?_) (fun h_4 => ?_)
      · have h_4 : i > 48 / k := (kc_gt_t (by omega) (by omega)).mp h_4
        have e_5 : i = 48 / k + 1 := by omega
        subst e_5
        refine lv_lload_n hx hb dX5_multiplesOf_32 rfl (lv_at hl 2 rfl) ?_
        refine ktopl (y := zB (mulA k)) (mulP_end hk.1) ?_
        subst hA
        subst hQ
        exact kretl F w () [] rfl rfl (rfl) (Nat.le_of_ble_eq_true rfl) (Nat.le_of_ble_eq_true rfl) dX5_multiplesOf_33
      · have h_4 : i ≤ 48 / k := (kc_gt_f (by omega) (by omega)).mp h_4
        have him : i * k ≤ 48 := mul_in hk.1 (by omega)
        refine lv_lload_n hx hb dX5_multiplesOf_16 rfl (lv_at hl 2 rfl) ?_
        refine lv_iload hx hb dX5_multiplesOf_17 (lv_at hl 0 rfl) ?_
        refine lv_iload_n hx hb dX5_multiplesOf_19 rfl (lv_at hl 3 rfl) ?_
        refine lv_imul hx hb dX5_multiplesOf_20 ?_
        refine ktopi (y := nI (i * k)) (pk_mul i k) ?_
        refine kcalll (wc := []) (wr := []) (wn := fun (u : Unit) => []) F w [] [] [] rfl rfl rfl (fun _ => rfl)
          (fun hp => va_runS (As := [.int (nI (i * k))]) (rest := [.long (zB (mulP k i))]) F.1 (kX5_bit l g (i * k) H.size (by omega)) (va_cwS 1 hts gX5_multiplesOf_X5_bit rfl rfl rfl hd_X5_bit ⟨Nat.le_of_ble_eq_true rfl, Nat.le_of_ble_eq_true rfl⟩) hp rfl rfl hl.1 rfl (lv_room (Nat.le_of_ble_eq_true rfl)) dX5_multiplesOf_21 ⟨Nat.le_of_ble_eq_true rfl, Nat.le_of_ble_eq_true rfl⟩)
          (fun r_6 _ H locs h_7 w => ?_)
        subst h_7
        refine lv_lor hx hb dX5_multiplesOf_24 ?_
        refine ktopl (y := zB (mulP k (i + 1))) (mulP_s hk.1 (by omega) him) ?_
        refine lv_lstore_n (lv' := [(1, .long (zB (mulP k (i + 1)))), (4, .int (nI i)), (3, .int (nI (48 / k))), (0, .int (nI k))]) hx hb dX5_multiplesOf_25 rfl hl (by decide) rfl (fun ls hl => ?_)
        refine lv_iinc (v := nI (i + 1)) (lv' := [(4, .int (nI (i + 1))), (1, .long (zB (mulP k (i + 1)))), (3, .int (nI (48 / k))), (0, .int (nI k))]) hx hb dX5_multiplesOf_26 hl (k := 1) rfl (nI_add i 1) (by decide) rfl (fun ls hl => ?_)
        refine lv_goto (tgt := 10) hx hb dX5_multiplesOf_29 (by decide) ?_
        exact ih_3 (i + 1) (by omega) (by omega) _ _ _ (by omega) (kW.perm w [] rfl rfl) (lv_sub hl [0, 2, 1, 3] rfl)
  exact LP_3 _ 1 (Nat.le_refl 1) (Nat.le_add_left 1 _) _ _ _ (Nat.lt_succ_self _) (kW.perm w [] rfl rfl) (lv_sub hl [0, 1, 2, 3] rfl)
theorem hd_X5_divides : yX5_divides.cls ≠ "java/lang/invoke/MethodHandle" ∧ yX5_divides.cls ≠ "java/lang/invoke/VarHandle" ∧ (parseMethodDescriptor yX5_divides.desc).map (fun d => d.parameters.length) = some 2 := by decide +kernel
abbrev rmX5_isSquareFree : Room := { frames := 1, cells := 0, slots := 0, locals := 21 }
set_option maxHeartbeats 4000000 in
set_option maxRecDepth 100000 in
theorem kX5_isSquareFree (l : Launch) (g : GG) (n : Nat) (sz : Nat) (hn9 : n < 2147483648) : Met l yX5_isSquareFree wsX5_isSquareFree rmX5_isSquareFree (va_Pc [.int (nI n)] (kPre g [] sz)) (va_Qi (fun (r : Int32) (u : Unit) => r = bI (zsq n)) (kB g (va_A [] sz) (fun u => [])) (va_A [] sz)) 0 0 (va_A [] sz) := by
  refine kMet (cc := cX5_isSquareFree) (maxL := 2) (ret := (some .boolean)) (own := RX5) (by decide) rfl rfl (Nat.le_of_ble_eq_true rfl) ?_
  intro p e s m args below meth c ls Q H locs A F w hl hnm hA hQ
  have hx := F.1.1
  have hb := F.1.2.1
  have hts := F.1.2.2.2.2
  have hl : lv_has ls 2 [(0, .int (nI n))] := hl
  refine lv_iconst (v := nI 2) hx hb dX5_isSquareFree_0 (by decide) ?_
  refine lv_istore_n (lv' := [(1, .int (nI 2)), (0, .int (nI n))]) hx hb dX5_isSquareFree_1 rfl hl (by decide) rfl (fun ls hl => ?_)
  have LP_1 : ∀ (fu : Nat) (i : Nat) (h1 : 2 ≤ i) (h2 : i ≤ 7) (hn : ∀ r, 2 ≤ r → r < i → ¬ r * r ∣ n) (H : Heap) (locs : List Loc) (ls : Array Slot), 8 - i < fu → kW g A s [] H locs → lv_has ls 2 [(1, .int (nI i)), (0, .int (nI n))] → W p l e rmX5_isSquareFree s m args below meth c H locs 0 0 Q (F0 m 2 ls []) := by
    intro fu
    induction fu with
    | zero => intro i h1 h2 hn H locs ls hlt; omega
    | succ fu ih_1 =>
      intro i h1 h2 hn H locs ls hlt w hl
      refine lv_iload_n hx hb dX5_isSquareFree_2 rfl (lv_at hl 0 rfl) ?_
      refine lv_bipush (v := nI 6) hx hb dX5_isSquareFree_3 (by decide) ?_
      refine lv_icmp_gt (tgt := 26) hx hb dX5_isSquareFree_5 (by decide) (fun h_2 => ?_) (fun h_2 => ?_)
      · have h_2 : i > 6 := (kc_gt_t (by omega) (by omega)).mp h_2
        have e_3 : i = 7 := by omega
        subst e_3
        refine lv_iconst (v := nI 1) hx hb dX5_isSquareFree_26 (by decide) ?_
        subst hA
        subst hQ
        exact kretz F w () [] rfl rfl (by show nI 1 = bI (zsq n); rw [zsq_t hn]; rfl) (by decide +kernel) (Nat.le_of_ble_eq_true rfl) (Nat.le_of_ble_eq_true rfl) dX5_isSquareFree_27
      · have h_2 : i ≤ 6 := (kc_gt_f (by omega) (by omega)).mp h_2
        have hsq : i * i < 2147483648 := by have : i * i ≤ 6 * 6 := Nat.mul_le_mul (by omega) (by omega); omega
        have hsq1 : 1 ≤ i * i := Nat.mul_pos (by omega) (by omega)
        refine lv_iload_n hx hb dX5_isSquareFree_8 rfl (lv_at hl 0 rfl) ?_
        refine lv_iload_n hx hb dX5_isSquareFree_9 rfl (lv_at hl 0 rfl) ?_
        refine lv_imul hx hb dX5_isSquareFree_10 ?_
        refine ktopi (y := nI (i * i)) (pk_mul i i) ?_
        refine lv_iload_n hx hb dX5_isSquareFree_11 rfl (lv_at hl 1 rfl) ?_
        refine kcalli (wc := []) (wr := []) (wn := fun (u : Unit) => []) F w [] [] [] rfl rfl rfl (fun _ => rfl)
          (fun hp => va_runS (As := [.int (nI (i * i)), .int (nI n)]) (rest := []) F.1 (kX5_divides l g (i * i) n H.size (by omega) (by omega)) (va_cwS 2 hts gX5_isSquareFree_X5_divides rfl rfl rfl hd_X5_divides ⟨Nat.le_of_ble_eq_true rfl, Nat.le_of_ble_eq_true rfl⟩) hp rfl rfl hl.1 rfl (lv_room (Nat.le_of_ble_eq_true rfl)) dX5_isSquareFree_12 ⟨Nat.le_of_ble_eq_true rfl, Nat.le_of_ble_eq_true rfl⟩)
          (fun r_4 _ H locs h_5 w => ?_)
        subst h_5
        refine lv_if_eq (tgt := 20) hx hb dX5_isSquareFree_15 (by decide) (fun h_6 => ?_) (fun h_6 => ?_)
        · have h_6 : (decide ((i * i) ∣ n)) = false := bI_z.mp h_6
          refine lv_iinc (v := nI (i + 1)) (lv' := [(1, .int (nI (i + 1))), (0, .int (nI n))]) hx hb dX5_isSquareFree_20 hl (k := 0) rfl (nI_add i 1) (by decide) rfl (fun ls hl => ?_)
          refine lv_goto (tgt := 2) hx hb dX5_isSquareFree_23 (by decide) ?_
          exact ih_1 (i + 1) (by omega) (by omega) (fun r a b => (Nat.lt_or_ge r i).elim (fun q => hn r a q) (fun q => by have e : r = i := (by omega);  subst e; exact of_decide_eq_false h_6)) _ _ _ (by omega) (kW.perm w [] rfl rfl) (lv_sub hl [0, 1] rfl)
        · have h_6 : (decide ((i * i) ∣ n)) = true := bI_o.mp h_6
          refine lv_iconst (v := nI 0) hx hb dX5_isSquareFree_18 (by decide) ?_
          subst hA
          subst hQ
          exact kretz F w () [] rfl rfl (by show nI 0 = bI (zsq n); rw [zsq_f (by omega) (by omega) (of_decide_eq_true h_6)]; rfl) (by decide +kernel) (Nat.le_of_ble_eq_true rfl) (Nat.le_of_ble_eq_true rfl) dX5_isSquareFree_19
  exact LP_1 _ 2 (by omega) (by omega) (fun r a b => by omega) _ _ _ (Nat.lt_succ_self _) (kW.perm w [] rfl rfl) (lv_sub hl [0, 1] rfl)
