/-! ===== floats: by their exponent and fraction ===== -/
def dET (x t : Nat) : UInt64 := UInt64.ofNat (x * 2 ^ 52 + t)
abbrev d2c : UInt64 := 4611686018427387904
theorem dET_n {x t : Nat} (hx : x ≤ 2046) (ht : t < 2 ^ 52) : (dET x t).toNat = x * 2 ^ 52 + t := by
  unfold dET
  rw [UInt64.toNat_ofNat', Nat.mod_eq_of_lt (by omega)]
theorem dET_v {x t : Nat} (h1 : 1 ≤ x) (hx : x ≤ 2046) (ht : t < 2 ^ 52) : FP.Core.val64 (dET x t) = .fin false (2 ^ 52 + t) ((x : Int) - 1075) := by
  have h := FP.Core.decode_assemble FP.Core.b64 false x t (by show x < 2048; omega) (by rw [FP.Core.tails_b64]; exact ht)
  have e1 : FP.Core.assemble FP.Core.b64 false x t = (dET x t).toNat := by
    rw [dET_n hx ht]
    unfold FP.Core.assemble
    rw [FP.Core.tails_b64]
    show (0 * _ + x) * 2 ^ 52 + t = _
    omega
  unfold FP.Core.val64
  rw [← e1, h, if_neg (by show ¬ x = 2047; omega), if_neg (by omega), FP.Core.tails_b64, FP.Core.qmin_b64]
  congr 1
  omega
theorem dET_ne {x t : Nat} (h1 : 1 ≤ x) (hx : x ≤ 2046) (ht : t < 2 ^ 52) : FP.Core.val64 (dET x t) ≠ .nan := by
  rw [dET_v h1 hx ht]; exact FP.Core.Datum.noConfusion
theorem d2c_v : FP.Core.val64 d2c = .fin false (2 ^ 52) (-51) := by decide +kernel
theorem d1c_v : FP.Core.val64 FP.dconst1 = .fin false (2 ^ 52) (-52) := by decide +kernel
theorem dET_1 : FP.dconst1 = dET 1023 0 := by decide +kernel
theorem dET_2 : d2c = dET 1024 0 := by decide +kernel
theorem d_dbl {x t : Nat} (h1 : 1 ≤ x) (hx : x ≤ 2045) (ht : t < 2 ^ 52) : FP.dmul (dET x t) d2c = dET (x + 1) t := by
  have hv := dET_v (x := x + 1) (by omega) (by omega) ht
  have hf := FP.Core.val64_fits (dET (x + 1) t)
  rw [hv] at hf
  refine (FP.Core.val64_inj (dET_ne (by omega) (by omega) ht) ?_).symm
  rw [hv, FP.Core.val64_dmul, dET_v h1 (by omega) ht, d2c_v]
  show _ = FP.Core.roundRatio FP.Core.b64 false ((2 ^ 52 + t) * 2 ^ 52) 1 (((x : Int) - 1075) + (-51))
  refine (FP.Core.roundRatio_exact FP.Core.good_b64 (by decide) hf ?_).symm
  rw [show ((((x : Int) - 1075) + (-51)) - (((x + 1 : Nat) : Int) - 1075)).toNat = 0 by omega, show ((((x + 1 : Nat) : Int) - 1075) - (((x : Int) - 1075) + (-51))).toNat = 52 by omega]
  omega
theorem quo_2 (c : Nat) (q r : Int) : FP.Core.quotient FP.Core.b64 (.fin false c q) (.fin false (2 ^ 52) r) = FP.Core.roundRatio FP.Core.b64 false c (2 ^ 52) (q - r) := by
  simp [FP.Core.quotient]
theorem d_half {x t : Nat} (h1 : 1 ≤ x) (hx : x ≤ 2045) (ht : t < 2 ^ 52) : FP.ddiv (dET (x + 1) t) d2c = dET x t := by
  have hv := dET_v (x := x) (by omega) (by omega) ht
  have hf := FP.Core.val64_fits (dET x t)
  rw [hv] at hf
  refine (FP.Core.val64_inj (dET_ne (by omega) (by omega) ht) ?_).symm
  rw [hv, FP.Core.val64_ddiv, dET_v (x := x + 1) (by omega) (by omega) ht, d2c_v]
  rw [quo_2]
  refine (FP.Core.roundRatio_exact FP.Core.good_b64 (by decide) hf ?_).symm
  rw [show (((((x + 1 : Nat) : Int) - 1075) - (-51)) - ((x : Int) - 1075)).toNat = 52 by omega, show (((x : Int) - 1075) - ((((x + 1 : Nat) : Int) - 1075) - (-51))).toNat = 0 by omega]
  omega
theorem d_of (v : UInt64) : v = dET (v.toNat / 2 ^ 52) (v.toNat % 2 ^ 52) := by
  apply UInt64.toNat_inj.mp
  have h := v.toNat_lt
  unfold dET
  rw [UInt64.toNat_ofNat', show v.toNat / 2 ^ 52 * 2 ^ 52 + v.toNat % 2 ^ 52 = v.toNat by omega, Nat.mod_eq_of_lt h]
/-! comparing -/
theorem dkey_pos {v : UInt64} (h : v.toNat < 2 ^ 63) : FP.Core.dkey v = (v.toNat : Int) := by
  unfold FP.Core.dkey; rw [if_neg (by omega)]
theorem d_cmp {a b : UInt64} (ha : FP.Core.val64 a ≠ .nan) (hb : FP.Core.val64 b ≠ .nan) (h1 : a.toNat < 2 ^ 63) (h2 : b.toNat < 2 ^ 63) : FP.dcmp a b = some (compare (a.toNat : Int) (b.toNat : Int)) := by
  rw [show FP.dcmp a b = FP.Core.dcmp a b from rfl, FP.Core.dcmp_key ha hb, dkey_pos h1, dkey_pos h2]
theorem d_lt {a b : UInt64} (op : CmpOp) (ha : FP.Core.val64 a ≠ .nan) (hb : FP.Core.val64 b ≠ .nan) (h1 : a.toNat < 2 ^ 63) (h2 : b.toNat < 2 ^ 63) (h : a.toNat < b.toNat) : Op.cmpValue (FP.dcmp a b) op = -1 := by
  rw [d_cmp ha hb h1 h2, (FP.Core.compare_lt_iff _ _).mpr (by omega)]; rfl
theorem d_gt {a b : UInt64} (op : CmpOp) (ha : FP.Core.val64 a ≠ .nan) (hb : FP.Core.val64 b ≠ .nan) (h1 : a.toNat < 2 ^ 63) (h2 : b.toNat < 2 ^ 63) (h : b.toNat < a.toNat) : Op.cmpValue (FP.dcmp a b) op = nI 1 := by
  rw [d_cmp ha hb h1 h2, (FP.Core.compare_gt_iff _ _).mpr (by omega)]; rfl
theorem d_eq {a b : UInt64} (op : CmpOp) (ha : FP.Core.val64 a ≠ .nan) (hb : FP.Core.val64 b ≠ .nan) (h1 : a.toNat < 2 ^ 63) (h2 : b.toNat < 2 ^ 63) (h : a.toNat = b.toNat) : Op.cmpValue (FP.dcmp a b) op = nI 0 := by
  rw [d_cmp ha hb h1 h2, (FP.Core.compare_eq_iff _ _).mpr (by omega)]; rfl
theorem d_self {a : UInt64} (op : CmpOp) (ha : FP.Core.val64 a ≠ .nan) : Op.cmpValue (FP.dcmp a a) op = nI 0 := by
  rw [show FP.dcmp a a = FP.Core.dcmp a a from rfl, FP.Core.dcmp_eq.mpr ⟨ha, ha, rfl⟩]; rfl
theorem f_self {a : UInt32} (op : CmpOp) (ha : FP.Core.val32 a ≠ .nan) : Op.cmpValue (FP.fcmp a a) op = nI 0 := by
  rw [show FP.fcmp a a = FP.Core.fcmp a a from rfl, FP.Core.fcmp_eq.mpr ⟨ha, ha, rfl⟩]; rfl
theorem vf64 {a : UInt64} (h : FP.Core.val64 a ≠ .nan) : vf_n64 a := by
  unfold vf_n64
  rw [UInt64.le_iff_toNat_le, FP.Core.mask_toNat]
  exact (FP.Core.ne_nan a).mp h
theorem vf32 {a : UInt32} (h : FP.Core.val32 a ≠ .nan) : vf_n32 a := by
  unfold vf_n32
  rw [UInt32.le_iff_toNat_le, FP.Core.mask_toNat32]
  exact (FP.Core.ne_nan32 a).mp h
/-! the fraction -/
theorem zb_v {fb : Nat} (h : fb = 23 ∨ fb = 52) : FP.Core.val64 (FP.l2d (zbit fb)) = .fin false (2 ^ 52) ((fb : Int) - 52) := by
  rcases h with rfl | rfl <;> decide +kernel
theorem toL_n {n : Nat} (h : n < 2 ^ 62) : Int64.ofInt (max (-2 ^ 63) (min (2 ^ 63 - 1) (n : Int))) = lN n := by
  rw [show max (-2 ^ 63) (min (2 ^ 63 - 1) (n : Int)) = (n : Int) by omega]
  rfl
set_option maxRecDepth 100000 in
set_option maxHeartbeats 1000000 in
theorem d_frac {t fb : Nat} (ht : t < 2 ^ 52) (h : fb = 23 ∨ fb = 52) : FP.Core.val64 (FP.dsub (dET 1023 t) FP.dconst1) ≠ .nan ∧ FP.Core.val64 (FP.dmul (FP.dsub (dET 1023 t) FP.dconst1) (FP.l2d (zbit fb))) ≠ .nan ∧ FP.d2l (FP.dmul (FP.dsub (dET 1023 t) FP.dconst1) (FP.l2d (zbit fb))) = lN (t * 2 ^ fb / 2 ^ 52) := by
  have hs : FP.Core.val64 (FP.dsub (dET 1023 t) FP.dconst1) = FP.Core.round FP.Core.b64 (.fin false t (-52)) := by
    rw [FP.Core.val64_dsub, dET_v (by decide) (by decide) ht, d1c_v]
    have e : FP.Core.exactSum (.fin false (2 ^ 52 + t) (((1023 : Nat) : Int) - 1075)) (FP.Core.negate (.fin false (2 ^ 52) (-52))) = .fin false t (-52) := by
      show FP.Core.Datum.fin (FP.Core.sumSign false true (FP.Core.sumUnits false (2 ^ 52 + t) (((1023 : Nat) : Int) - 1075) true (2 ^ 52) (-52) (min (((1023 : Nat) : Int) - 1075) (-52)))) (FP.Core.sumUnits false (2 ^ 52 + t) (((1023 : Nat) : Int) - 1075) true (2 ^ 52) (-52) (min (((1023 : Nat) : Int) - 1075) (-52))).natAbs (min (((1023 : Nat) : Int) - 1075) (-52)) = _
      have hu : FP.Core.sumUnits false (2 ^ 52 + t) (((1023 : Nat) : Int) - 1075) true (2 ^ 52) (-52) (min (((1023 : Nat) : Int) - 1075) (-52)) = (t : Int) := by
        rw [show min (((1023 : Nat) : Int) - 1075) (-52) = -52 by decide]
        unfold FP.Core.sumUnits FP.Core.inUnits FP.Core.signed
        rw [show ((((1023 : Nat) : Int) - 1075) - (-52)).toNat = 0 by decide, show ((-52 : Int) - (-52)).toNat = 0 by decide, if_neg (by decide), if_pos rfl]
        omega
      rw [hu, show min (((1023 : Nat) : Int) - 1075) (-52) = -52 by decide]
      unfold FP.Core.sumSign
      have : ((t : Int)).natAbs = t := Int.natAbs_natCast t
      rw [this]
      by_cases h0 : (t : Int) = 0
      · rw [if_pos h0]; rfl
      · rw [if_neg h0, decide_eq_false (by omega)]
    rw [e]
  obtain ⟨c1, q1, e1, e2⟩ := FP.Core.round_exact FP.Core.good_b64 false (c := t) (q := -52) (by show t < 2 ^ 53; omega) (by decide) (by decide)
  rw [e1] at hs
  have hfit := FP.Core.val64_fits (FP.dsub (dET 1023 t) FP.dconst1)
  rw [hs] at hfit
  obtain ⟨f1, f2, f3, f4⟩ := hfit
  have hq : FP.Core.b64.qmin = -1074 := FP.Core.qmin_b64
  have e3 : c1 * 2 ^ (q1 + 1074).toNat = t * 2 ^ 1022 := by
    have h9 := e2
    unfold FP.Core.inUnits at h9
    rw [hq, show (q1 - -1074).toNat = (q1 + 1074).toNat by omega, show ((-52 : Int) - -1074).toNat = 1022 by decide] at h9
    exact h9
  rw [hq] at f2
  have hx1 : FP.Core.val64 (FP.dmul (FP.dsub (dET 1023 t) FP.dconst1) (FP.l2d (zbit fb))) = FP.Core.round FP.Core.b64 (.fin false t ((fb : Int) - 52)) := by
    rw [FP.Core.val64_dmul, hs, zb_v h]
    show FP.Core.roundRatio FP.Core.b64 false (c1 * 2 ^ 52) 1 (q1 + ((fb : Int) - 52)) = FP.Core.roundRatio FP.Core.b64 false t 1 ((fb : Int) - 52)
    refine FP.Core.roundRatio_congr (by decide) (by decide) ?_
    rw [show (q1 + ((fb : Int) - 52) - ((fb : Int) - 52)).toNat = q1.toNat by omega, show (((fb : Int) - 52) - (q1 + ((fb : Int) - 52))).toNat = (-q1).toNat by omega, Nat.mul_one, Nat.mul_one]
    by_cases hc : q1 ≤ 0
    · rw [show q1.toNat = 0 by omega, Nat.pow_zero, Nat.mul_one]
      have hk : (q1 + 1074).toNat + (-q1).toNat = 1074 := by omega
      refine Nat.eq_of_mul_eq_mul_right (Nat.two_pow_pos (q1 + 1074).toNat) ?_
      calc c1 * 2 ^ 52 * 2 ^ (q1 + 1074).toNat = c1 * 2 ^ (q1 + 1074).toNat * 2 ^ 52 := by ac_rfl
        _ = t * (2 ^ 1022 * 2 ^ 52) := by rw [e3, Nat.mul_assoc]
        _ = t * 2 ^ 1074 := by rw [← Nat.pow_add]
        _ = t * (2 ^ (-q1).toNat * 2 ^ (q1 + 1074).toNat) := by rw [← Nat.pow_add, Nat.add_comm, hk]
        _ = t * 2 ^ (-q1).toNat * 2 ^ (q1 + 1074).toNat := by rw [Nat.mul_assoc]
    · rw [show (-q1).toNat = 0 by omega, Nat.pow_zero, Nat.mul_one]
      have hk : (q1 + 1074).toNat = 52 + q1.toNat + 1022 := by omega
      rw [hk, Nat.pow_add, ← Nat.mul_assoc] at e3
      have e4 := Nat.eq_of_mul_eq_mul_right (Nat.two_pow_pos 1022) e3
      rw [← e4, Nat.pow_add, Nat.mul_assoc]
  have hb1 : FP.Core.b64.qmin ≤ (fb : Int) - 52 := by rw [hq]; omega
  have hb2 : (fb : Int) - 52 ≤ FP.Core.b64.qmax := by
    rw [show FP.Core.b64.qmax = 971 by decide]; omega
  obtain ⟨c2, q2, g1, g2⟩ := FP.Core.round_exact FP.Core.good_b64 false (c := t) (q := (fb : Int) - 52) (by show t < 2 ^ 53; omega) hb1 hb2
  rw [g1] at hx1
  refine ⟨by rw [hs]; exact FP.Core.Datum.noConfusion, by rw [hx1]; exact FP.Core.Datum.noConfusion, ?_⟩
  have hfit2 := FP.Core.val64_fits (FP.dmul (FP.dsub (dET 1023 t) FP.dconst1) (FP.l2d (zbit fb)))
  have hz := FP.Core.toInt_zmag FP.Core.good_b64 (lo := -2 ^ 63) (hi := 2 ^ 63 - 1) hfit2 (by rw [hx1]; exact FP.Core.Datum.noConfusion) (by decide +kernel) (by decide +kernel) (by decide)
  show Int64.ofInt (FP.Core.toInt (-2 ^ 63) (2 ^ 63 - 1) (FP.Core.val64 (FP.dmul (FP.dsub (dET 1023 t) FP.dconst1) (FP.l2d (zbit fb))))) = _
  rw [hz, hx1]
  show Int64.ofInt (max (-2 ^ 63) (min (2 ^ 63 - 1) (FP.Core.signed false (FP.Core.inUnits c2 q2 FP.Core.b64.qmin / 2 ^ (-FP.Core.b64.qmin).toNat)))) = _
  rw [g2]
  have hd : FP.Core.inUnits t ((fb : Int) - 52) FP.Core.b64.qmin / 2 ^ (-FP.Core.b64.qmin).toNat = t * 2 ^ fb / 2 ^ 52 := by
    unfold FP.Core.inUnits
    rw [hq, show ((fb : Int) - 52 - -1074).toNat = fb + 1022 by omega, show (-(-1074 : Int)).toNat = 52 + 1022 by decide, Nat.pow_add, Nat.pow_add, ← Nat.mul_assoc, Nat.mul_div_mul_right _ _ (Nat.two_pow_pos 1022)]
  rw [hd]
  have hlt : t * 2 ^ fb / 2 ^ 52 < 2 ^ 62 := by
    rcases h with rfl | rfl <;> omega
  show Int64.ofInt (max (-2 ^ 63) (min (2 ^ 63 - 1) ((t * 2 ^ fb / 2 ^ 52 : Nat) : Int))) = _
  exact toL_n hlt
/-! sums of parts -/
theorem k52 (j : Nat) : (1024 + 2 * j) * 2 ^ 52 = 4611686018427387904 + 9007199254740992 * j := by
  rw [Nat.add_mul, Nat.mul_right_comm]
theorem k23 (j : Nat) : (128 + 2 * j) * 2 ^ 23 = 1073741824 + 16777216 * j := by
  rw [Nat.add_mul, Nat.mul_right_comm]
def pos64 (j : Nat) (v : UInt64) : Prop := v = 0 ∨ (1017 * 2 ^ 52 ≤ v.toNat ∧ v.toNat < 4611686018427387904 + 9007199254740992 * j)
theorem pos64_i {j : Nat} {v : UInt64} (h1 : 1017 * 2 ^ 52 ≤ v.toNat) (h2 : v.toNat < 4611686018427387904 + 9007199254740992 * j) : pos64 j v := Or.inr ⟨h1, h2⟩
theorem ne_of64 {v : UInt64} (h : v.toNat < 2047 * 2 ^ 52) : FP.Core.val64 v ≠ .nan := by
  rw [FP.Core.ne_nan]
  have : v.toNat % 2 ^ 63 ≤ v.toNat := Nat.mod_le _ _
  omega
theorem key_le {a b : UInt64} (ha : FP.Core.val64 a ≠ .nan) (hb : FP.Core.val64 b ≠ .nan) : FP.Core.zval FP.Core.b64 (FP.Core.val64 a) ≤ FP.Core.zval FP.Core.b64 (FP.Core.val64 b) ↔ FP.Core.dkey a ≤ FP.Core.dkey b := by
  have h := FP.Core.dcmp_ge (a := b) (b := a)
  rw [FP.Core.dcmp_key hb ha] at h
  constructor
  · intro hz
    rcases h.mpr ⟨hb, ha, hz⟩ with h1 | h1
    · have := (FP.Core.compare_gt_iff _ _).mp (Option.some.inj h1); omega
    · have := (FP.Core.compare_eq_iff _ _).mp (Option.some.inj h1); omega
  · intro hk
    by_cases he : FP.Core.dkey b = FP.Core.dkey a
    · exact (h.mp (Or.inr (congrArg some ((FP.Core.compare_eq_iff _ _).mpr he)))).2.2
    · exact (h.mp (Or.inl (congrArg some ((FP.Core.compare_gt_iff _ _).mpr (by omega))))).2.2
theorem dkey_big {v : UInt64} {k : Nat} (h0 : 0 < k) (h : (k : Int) ≤ FP.Core.dkey v) : k ≤ v.toNat ∧ v.toNat < 2 ^ 63 := by
  unfold FP.Core.dkey at h
  have := v.toNat_lt
  split at h <;> omega
set_option maxRecDepth 100000 in
set_option maxHeartbeats 1000000 in
theorem pos64_add {j : Nat} {v w : UInt64} (hj : j ≤ 48) (hv : pos64 j v) (h1 : 1017 * 2 ^ 52 ≤ w.toNat) (h2 : w.toNat < 1024 * 2 ^ 52) : pos64 (j + 1) (FP.dadd v w) ∧ FP.dadd v w ≠ 0 := by
  have hwn := ne_of64 (v := w) (by omega)
  have hw0 : w ≠ 0 := fun h => by rw [h] at h1; exact absurd h1 (by decide)
  rcases hv with rfl | ⟨a1, a2⟩
  · have e : FP.dadd 0 w = w := by
      rw [show FP.dadd 0 w = FP.Core.dadd 0 w from rfl, FP.Core.dadd_comm]
      exact FP.Core.dadd_zero hwn (fun h => by rw [h] at h2; exact absurd h2 (by decide))
    rw [e]
    exact ⟨pos64_i h1 (Nat.lt_of_lt_of_le h2 (Nat.le_trans (show 1024 * 2 ^ 52 ≤ 4611686018427387904 from by decide) (Nat.le_add_right _ _))), hw0⟩
  · have hvn := ne_of64 (v := v) (by omega)
    have mv : v.toNat % 2 ^ 63 = v.toNat := Nat.mod_eq_of_lt (by omega)
    have mw : w.toNat % 2 ^ 63 = w.toNat := Nat.mod_eq_of_lt (by omega)
    have hm := FP.Core.dadd_mag (a := v) (b := w) (K := 1024 + 2 * j) (by rw [mv, k52]; exact a2) (by rw [mw, k52]; omega) (by omega)
    rw [show 1024 + 2 * j + 2 = 1024 + 2 * (j + 1) by omega, k52] at hm
    have hxn : FP.Core.val64 (FP.Core.dadd v w) ≠ .nan := by rw [FP.Core.ne_nan]; omega
    obtain ⟨s1, c1, q1, ev⟩ := FP.Core.fin_of_lt (a := v) (K := 1024 + 2 * j) (by rw [mv, k52]; exact a2) (by omega)
    obtain ⟨s2, c2, q2, ew⟩ := FP.Core.fin_of_lt (a := w) (K := 1024) (by rw [mw]; exact h2) (by omega)
    have fv := FP.Core.val64_fits v
    have fw := FP.Core.val64_fits w
    have kv : FP.Core.dkey v = (v.toNat : Int) := dkey_pos (by omega)
    have kw : FP.Core.dkey w = (w.toNat : Int) := dkey_pos (by omega)
    have kV : FP.Core.dkey (dET 1017 0) = ((1017 * 2 ^ 52 : Nat) : Int) := by decide +kernel
    have nV : FP.Core.val64 (dET 1017 0) ≠ .nan := dET_ne (by decide) (by decide) (by decide)
    have zv := (key_le nV hvn).mpr (by rw [kv, kV]; omega)
    have z0 : FP.Core.zval FP.Core.b64 (FP.Core.val64 (0 : UInt64)) = 0 := FP.Core.zval64_zero
    have zw := (key_le (a := 0) (by decide +kernel) hwn).mpr (by rw [kw, show FP.Core.dkey 0 = 0 by decide]; omega)
    rw [z0] at zw
    rw [ev] at fv zv
    rw [ew] at fw zw
    obtain ⟨sg, n, e, p1, p2, p3⟩ := FP.Core.sum_units fv fw
    have hge := FP.Core.zval_round_ge FP.Core.good_b64 (s := sg) (c := n) (q := e) (e0 := FP.Core.b64.qmin) (FP.Core.val64_fits (dET 1017 0)) nV (Int.le_refl _) p2 (by
      rw [p3, Int.sub_self, show ((2 ^ (0 : Int).toNat : Nat) : Int) = 1 by decide, Int.mul_one]; omega)
    have ex : FP.Core.val64 (FP.Core.dadd v w) = FP.Core.round FP.Core.b64 (.fin sg n e) := by rw [FP.Core.val64_dadd, ev, ew, p1]
    rw [← ex] at hge
    have hk := (key_le nV hxn).mp hge
    rw [kV] at hk
    obtain ⟨b1, b2⟩ := dkey_big (by decide) hk
    have mx : (FP.Core.dadd v w).toNat % 2 ^ 63 = (FP.Core.dadd v w).toNat := Nat.mod_eq_of_lt b2
    rw [mx] at hm
    exact ⟨pos64_i (v := FP.Core.dadd v w) b1 hm, fun h => by rw [show FP.Core.dadd v w = 0 from h] at b1; exact absurd b1 (by decide)⟩
def pos32 (j : Nat) (v : UInt32) : Prop := v = 0 ∨ (121 * 2 ^ 23 ≤ v.toNat ∧ v.toNat < 1073741824 + 16777216 * j)
theorem pos32_i {j : Nat} {v : UInt32} (h1 : 121 * 2 ^ 23 ≤ v.toNat) (h2 : v.toNat < 1073741824 + 16777216 * j) : pos32 j v := Or.inr ⟨h1, h2⟩
theorem ne_of32 {v : UInt32} (h : v.toNat < 255 * 2 ^ 23) : FP.Core.val32 v ≠ .nan := by
  rw [FP.Core.ne_nan32]
  have : v.toNat % 2 ^ 31 ≤ v.toNat := Nat.mod_le _ _
  omega
theorem key_le32 {a b : UInt32} (ha : FP.Core.val32 a ≠ .nan) (hb : FP.Core.val32 b ≠ .nan) : FP.Core.zval FP.Core.b32 (FP.Core.val32 a) ≤ FP.Core.zval FP.Core.b32 (FP.Core.val32 b) ↔ FP.Core.fkey a ≤ FP.Core.fkey b := by
  have h := FP.Core.fcmp_ge (a := b) (b := a)
  rw [FP.Core.fcmp_key hb ha] at h
  constructor
  · intro hz
    rcases h.mpr ⟨hb, ha, hz⟩ with h1 | h1
    · have := (FP.Core.compare_gt_iff _ _).mp (Option.some.inj h1); omega
    · have := (FP.Core.compare_eq_iff _ _).mp (Option.some.inj h1); omega
  · intro hk
    by_cases he : FP.Core.fkey b = FP.Core.fkey a
    · exact (h.mp (Or.inr (congrArg some ((FP.Core.compare_eq_iff _ _).mpr he)))).2.2
    · exact (h.mp (Or.inl (congrArg some ((FP.Core.compare_gt_iff _ _).mpr (by omega))))).2.2
theorem fkey_pos {v : UInt32} (h : v.toNat < 2 ^ 31) : FP.Core.fkey v = (v.toNat : Int) := by
  unfold FP.Core.fkey; rw [if_neg (by omega)]
theorem fkey_big {v : UInt32} {k : Nat} (h0 : 0 < k) (h : (k : Int) ≤ FP.Core.fkey v) : k ≤ v.toNat ∧ v.toNat < 2 ^ 31 := by
  unfold FP.Core.fkey at h
  have := v.toNat_lt
  split at h <;> omega
abbrev f121 : UInt32 := 1015021568
set_option maxRecDepth 100000 in
set_option maxHeartbeats 1000000 in
theorem pos32_add {j : Nat} {v w : UInt32} (hj : j ≤ 48) (hv : pos32 j v) (h1 : 121 * 2 ^ 23 ≤ w.toNat) (h2 : w.toNat < 128 * 2 ^ 23) : pos32 (j + 1) (FP.fadd v w) ∧ FP.fadd v w ≠ 0 := by
  have hwn := ne_of32 (v := w) (by omega)
  have hw0 : w ≠ 0 := fun h => by rw [h] at h1; exact absurd h1 (by decide)
  rcases hv with rfl | ⟨a1, a2⟩
  · have e : FP.fadd 0 w = w := by
      rw [show FP.fadd 0 w = FP.Core.fadd 0 w from rfl, FP.Core.fadd_comm]
      exact FP.Core.fadd_zero hwn (fun h => by rw [h] at h2; exact absurd h2 (by decide))
    rw [e]
    exact ⟨pos32_i h1 (Nat.lt_of_lt_of_le h2 (Nat.le_trans (show 128 * 2 ^ 23 ≤ 1073741824 from by decide) (Nat.le_add_right _ _))), hw0⟩
  · have hvn := ne_of32 (v := v) (by omega)
    have mv : v.toNat % 2 ^ 31 = v.toNat := Nat.mod_eq_of_lt (by omega)
    have mw : w.toNat % 2 ^ 31 = w.toNat := Nat.mod_eq_of_lt (by omega)
    have hm := FP.Core.fadd_mag (a := v) (b := w) (K := 128 + 2 * j) (by rw [mv, k23]; exact a2) (by rw [mw, k23]; omega) (by omega)
    rw [show 128 + 2 * j + 2 = 128 + 2 * (j + 1) by omega, k23] at hm
    have hxn : FP.Core.val32 (FP.Core.fadd v w) ≠ .nan := by rw [FP.Core.ne_nan32]; omega
    obtain ⟨s1, c1, q1, ev⟩ := FP.Core.fin_of_lt32 (a := v) (K := 128 + 2 * j) (by rw [mv, k23]; exact a2) (by omega)
    obtain ⟨s2, c2, q2, ew⟩ := FP.Core.fin_of_lt32 (a := w) (K := 128) (by rw [mw]; exact h2) (by omega)
    have fv := FP.Core.val32_fits v
    have fw := FP.Core.val32_fits w
    have kv : FP.Core.fkey v = (v.toNat : Int) := fkey_pos (by omega)
    have kw : FP.Core.fkey w = (w.toNat : Int) := fkey_pos (by omega)
    have kV : FP.Core.fkey f121 = ((121 * 2 ^ 23 : Nat) : Int) := by decide +kernel
    have nV : FP.Core.val32 f121 ≠ .nan := by decide +kernel
    have zv := (key_le32 nV hvn).mpr (by rw [kv, kV]; omega)
    have z0 : FP.Core.zval FP.Core.b32 (FP.Core.val32 (0 : UInt32)) = 0 := FP.Core.zval32_zero
    have zw := (key_le32 (a := 0) (by decide +kernel) hwn).mpr (by rw [kw, show FP.Core.fkey 0 = 0 by decide]; omega)
    rw [z0] at zw
    rw [ev] at fv zv
    rw [ew] at fw zw
    obtain ⟨sg, n, e, p1, p2, p3⟩ := FP.Core.sum_units fv fw
    have hge := FP.Core.zval_round_ge FP.Core.good_b32 (s := sg) (c := n) (q := e) (e0 := FP.Core.b32.qmin) (FP.Core.val32_fits f121) nV (Int.le_refl _) p2 (by
      rw [p3, Int.sub_self, show ((2 ^ (0 : Int).toNat : Nat) : Int) = 1 by decide, Int.mul_one]; omega)
    have ex : FP.Core.val32 (FP.Core.fadd v w) = FP.Core.round FP.Core.b32 (.fin sg n e) := by rw [FP.Core.val32_fadd, ev, ew, p1]
    rw [← ex] at hge
    have hk := (key_le32 nV hxn).mp hge
    rw [kV] at hk
    obtain ⟨b1, b2⟩ := fkey_big (by decide) hk
    have mx : (FP.Core.fadd v w).toNat % 2 ^ 31 = (FP.Core.fadd v w).toNat := Nat.mod_eq_of_lt b2
    rw [mx] at hm
    exact ⟨pos32_i (v := FP.Core.fadd v w) b1 hm, fun h => by rw [show FP.Core.fadd v w = 0 from h] at b1; exact absurd b1 (by decide)⟩
