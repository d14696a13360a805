/-! ===== the law's own sum of parts, in whole numbers: it is the sum of doubles ===== -/
/-- a double by its 53 bits and the place of its last one: m * 2 ^ (t - 58) -/
def dM (m t : Nat) : UInt64 := dET (1017 + t) (m - 2 ^ 52)
theorem dM_v {m t : Nat} (h1 : 2 ^ 52 ≤ m) (h2 : m < 2 ^ 53) (ht : t ≤ 1000) : FP.Core.val64 (dM m t) = .fin false m ((t : Int) - 58) := by
  unfold dM
  rw [dET_v (by omega) (by omega) (by omega)]
  rw [show 2 ^ 52 + (m - 2 ^ 52) = m by omega, show (((1017 + t : Nat) : Int)) - 1075 = (t : Int) - 58 by omega]
theorem dM_ne {m t : Nat} (h1 : 2 ^ 52 ≤ m) (h2 : m < 2 ^ 53) (ht : t ≤ 1000) : FP.Core.val64 (dM m t) ≠ .nan := by
  rw [dM_v h1 h2 ht]; exact FP.Core.Datum.noConfusion
/-- the exact sum in units of 2 ^ (t - 67) -/
def bothZ (m t q u : Nat) : Nat := m * 2 ^ 9 + q * 2 ^ (9 - (t - u))
def byZ (b : Nat) : Nat := if b < 2 ^ 62 then 9 else 10
def rndZ (b : Nat) : Nat := b / 2 ^ byZ b + (if 2 ^ (byZ b - 1) < b % 2 ^ byZ b ∨ (b % 2 ^ byZ b = 2 ^ (byZ b - 1) ∧ b / 2 ^ byZ b % 2 = 1) then 1 else 0)
def addM (m t q u : Nat) : Nat := if rndZ (bothZ m t q u) = 2 ^ 53 then 2 ^ 52 else rndZ (bothZ m t q u)
def addT (m t q u : Nat) : Nat := t + (byZ (bothZ m t q u) - 9) + (if rndZ (bothZ m t q u) = 2 ^ 53 then 1 else 0)
theorem byZ_c (b : Nat) : (byZ b = 9 ∧ b < 2 ^ 62) ∨ (byZ b = 10 ∧ 2 ^ 62 ≤ b) := by
  unfold byZ
  by_cases h : b < 2 ^ 62
  · rw [if_pos h]; exact Or.inl ⟨rfl, h⟩
  · rw [if_neg h]; exact Or.inr ⟨rfl, by omega⟩
theorem bothZ_b {m t q u : Nat} (h1 : 2 ^ 52 ≤ m) (h2 : m < 2 ^ 53) (h4 : q < 2 ^ 53) : 2 ^ 61 ≤ bothZ m t q u ∧ bothZ m t q u < 2 ^ 63 := by
  unfold bothZ
  have h5 : 2 ^ (9 - (t - u)) ≤ 2 ^ 9 := Nat.pow_le_pow_right (by decide) (by omega)
  have h6 : q * 2 ^ (9 - (t - u)) ≤ q * 2 ^ 9 := Nat.mul_le_mul_left _ h5
  constructor <;> omega
theorem near_rnd (b : Nat) : FP.Core.nearest b (2 ^ byZ b) = rndZ b := by
  unfold FP.Core.nearest rndZ
  rcases byZ_c b with ⟨e, -⟩ | ⟨e, -⟩ <;> rw [e] <;> (repeat' split) <;> omega
theorem rndZ_b {b : Nat} (h1 : 2 ^ 61 ≤ b) (h2 : b < 2 ^ 63) : 2 ^ 52 ≤ rndZ b ∧ rndZ b ≤ 2 ^ 53 ∧ rndZ b * 2 ^ byZ b ≤ b + 2 ^ byZ b := by
  unfold rndZ
  rcases byZ_c b with ⟨e, h⟩ | ⟨e, h⟩ <;> rw [e] <;> split <;> refine ⟨?_, ?_, ?_⟩ <;> omega
set_option maxRecDepth 100000 in
set_option maxHeartbeats 1000000 in
theorem round_rnd {b t : Nat} (h1 : 2 ^ 61 ≤ b) (h2 : b < 2 ^ 63) (ht : t ≤ 100) :
    FP.Core.roundRatio FP.Core.b64 false b 1 ((t : Int) - 67) = .fin false (if rndZ b = 2 ^ 53 then 2 ^ 52 else rndZ b) (((t + (byZ b - 9) + (if rndZ b = 2 ^ 53 then 1 else 0) : Nat) : Int) - 58) := by
  obtain ⟨r1, r2, -⟩ := rndZ_b h1 h2
  have hb : byZ b = 9 ∨ byZ b = 10 := by rcases byZ_c b with h | h <;> omega
  have hq : FP.Core.quantum FP.Core.b64 b 1 ((t : Int) - 67) = (t : Int) - 67 + (byZ b : Int) := by
    refine FP.Core.quantum_eq (by omega) (by decide) (by rw [FP.Core.qmin_b64]; omega) ?_ (Or.inr ?_)
    · rw [← FP.Core.units_below]
      unfold FP.Core.unitsNum FP.Core.unitsDen
      rw [show ((t : Int) - 67 - ((t : Int) - 67 + (byZ b : Int))).toNat = 0 by omega, show ((t : Int) - 67 + (byZ b : Int) - ((t : Int) - 67)).toNat = byZ b by omega]
      show b * 2 ^ 0 < 2 ^ 53 * (1 * 2 ^ byZ b)
      rcases byZ_c b with ⟨e, h⟩ | ⟨e, h⟩ <;> rw [e] <;> omega
    · rw [show ((FP.Core.b64.p : Int) - 1) = ((52 : Nat) : Int) by decide, ← FP.Core.units_below]
      unfold FP.Core.unitsNum FP.Core.unitsDen
      rw [show ((t : Int) - 67 - ((t : Int) - 67 + (byZ b : Int))).toNat = 0 by omega, show ((t : Int) - 67 + (byZ b : Int) - ((t : Int) - 67)).toNat = byZ b by omega]
      rcases byZ_c b with ⟨e, h⟩ | ⟨e, h⟩ <;> rw [e] <;> omega
  unfold FP.Core.roundRatio
  rw [if_neg (by omega), hq]
  unfold FP.Core.roundAt FP.Core.unitsNum FP.Core.unitsDen
  rw [show ((t : Int) - 67 - ((t : Int) - 67 + (byZ b : Int))).toNat = 0 by omega, show ((t : Int) - 67 + (byZ b : Int) - ((t : Int) - 67)).toNat = byZ b by omega, Nat.pow_zero, Nat.mul_one, Nat.one_mul, near_rnd]
  unfold FP.Core.settle FP.Core.bound
  have hqm : FP.Core.b64.qmax = 971 := by decide
  rw [hqm]
  by_cases h53 : rndZ b = 2 ^ 53
  · rw [if_neg (by rw [h53]; decide), if_pos (by omega), if_pos h53, if_pos h53]
    congr 1
    omega
  · rw [if_pos (by show rndZ b < 2 ^ 53; omega), if_pos (by omega), if_neg h53, if_neg h53]
    congr 1
    omega
set_option maxRecDepth 100000 in
set_option maxHeartbeats 1000000 in
theorem dadd_M {m t q u : Nat} (h1 : 2 ^ 52 ≤ m) (h2 : m < 2 ^ 53) (h3 : 2 ^ 52 ≤ q) (h4 : q < 2 ^ 53) (hu : u ≤ t) (htu : t ≤ u + 9) (ht : t ≤ 100) :
    FP.dadd (dM m t) (dM q u) = dM (addM m t q u) (addT m t q u) := by
  obtain ⟨b1, b2⟩ := bothZ_b (t := t) (u := u) h1 h2 h4
  obtain ⟨r1, r2, -⟩ := rndZ_b b1 b2
  have hby : byZ (bothZ m t q u) ≤ 10 := by rcases byZ_c (bothZ m t q u) with h | h <;> omega
  have m1 : 2 ^ 52 ≤ addM m t q u ∧ addM m t q u < 2 ^ 53 := by unfold addM; split <;> omega
  have t1 : addT m t q u ≤ 1000 := by unfold addT; split <;> omega
  refine FP.Core.val64_inj (?_ : FP.Core.val64 (FP.dadd (dM m t) (dM q u)) ≠ .nan) ?_ <;> rw [FP.Core.val64_dadd, dM_v h1 h2 (by omega), dM_v h3 h4 (by omega)]
  all_goals
    have e : FP.Core.exactSum (.fin false m ((t : Int) - 58)) (.fin false q ((u : Int) - 58)) = .fin false (m * 2 ^ (t - u) + q) ((u : Int) - 58) := by
      show FP.Core.Datum.fin (FP.Core.sumSign false false (FP.Core.sumUnits false m ((t : Int) - 58) false q ((u : Int) - 58) (min ((t : Int) - 58) ((u : Int) - 58)))) (FP.Core.sumUnits false m ((t : Int) - 58) false q ((u : Int) - 58) (min ((t : Int) - 58) ((u : Int) - 58))).natAbs (min ((t : Int) - 58) ((u : Int) - 58)) = _
      have hmin : min ((t : Int) - 58) ((u : Int) - 58) = (u : Int) - 58 := by omega
      have hs : FP.Core.sumUnits false m ((t : Int) - 58) false q ((u : Int) - 58) ((u : Int) - 58) = ((m * 2 ^ (t - u) + q : Nat) : Int) := by
        unfold FP.Core.sumUnits FP.Core.inUnits FP.Core.signed
        rw [show ((t : Int) - 58 - ((u : Int) - 58)).toNat = t - u by omega, show ((u : Int) - 58 - ((u : Int) - 58)).toNat = 0 by omega, if_neg (by decide), if_neg (by decide), Nat.pow_zero, Nat.mul_one]
        omega
      rw [hmin, hs, Int.natAbs_natCast]
      congr 1
      unfold FP.Core.sumSign
      split
      · rfl
      · exact decide_eq_false (by omega)
    rw [e]
    have c : FP.Core.round FP.Core.b64 (.fin false (m * 2 ^ (t - u) + q) ((u : Int) - 58)) = FP.Core.roundRatio FP.Core.b64 false (bothZ m t q u) 1 ((t : Int) - 67) := by
      show FP.Core.roundRatio FP.Core.b64 false (m * 2 ^ (t - u) + q) 1 ((u : Int) - 58) = _
      refine FP.Core.roundRatio_congr (by decide) (by decide) ?_
      rw [show ((u : Int) - 58 - ((t : Int) - 67)).toNat = 9 - (t - u) by omega, show ((t : Int) - 67 - ((u : Int) - 58)).toNat = 0 by omega, Nat.pow_zero, Nat.mul_one, Nat.mul_one, Nat.mul_one]
      unfold bothZ
      rw [Nat.add_mul, Nat.mul_assoc, ← Nat.pow_add, show t - u + (9 - (t - u)) = 9 by omega]
    rw [c, round_rnd b1 b2 ht]
  · exact FP.Core.Datum.noConfusion
  · rw [dM_v m1.1 m1.2 t1]; rfl
/-- a bound of the sum, in units of 2 ^ (-58) -/
theorem addM_W {r b y : Nat} (hb : y = 9 ∨ y = 10) (r3 : r * 2 ^ y ≤ b + 2 ^ y) : r * 2 ^ (y - 9) * 2 ^ 9 ≤ b + 2 ^ 10 := by
  rcases hb with h | h <;> subst h
  · rw [Nat.sub_self, Nat.pow_zero, Nat.mul_one]; exact Nat.le_trans r3 (Nat.add_le_add_left (by decide) _)
  · rw [Nat.mul_assoc, ← Nat.pow_add]; exact r3
theorem addM_V {m t q u : Nat} (h1 : 2 ^ 52 ≤ m) (h2 : m < 2 ^ 53) (h4 : q < 2 ^ 53) (hu : u ≤ t) (htu : t ≤ u + 9) :
    addM m t q u * 2 ^ addT m t q u ≤ m * 2 ^ t + q * 2 ^ u + 2 ^ (t + 1) := by
  obtain ⟨b1, b2⟩ := bothZ_b (t := t) (u := u) h1 h2 h4
  obtain ⟨r1, r2, r3⟩ := rndZ_b b1 b2
  have hb : byZ (bothZ m t q u) = 9 ∨ byZ (bothZ m t q u) = 10 := by rcases byZ_c (bothZ m t q u) with h | h <;> omega
  have e1 : addM m t q u * 2 ^ addT m t q u = rndZ (bothZ m t q u) * 2 ^ (byZ (bothZ m t q u) - 9) * 2 ^ t := by
    unfold addM addT
    by_cases h : rndZ (bothZ m t q u) = 2 ^ 53
    · rw [if_pos h, if_pos h, h, show t + (byZ (bothZ m t q u) - 9) + 1 = 1 + (byZ (bothZ m t q u) - 9) + t by omega, Nat.pow_add, Nat.pow_add, ← Nat.mul_assoc, ← Nat.mul_assoc, show 2 ^ 52 * 2 ^ 1 = 2 ^ 53 from rfl]
    · rw [if_neg h, if_neg h, Nat.add_zero, Nat.add_comm t, Nat.pow_add]
      ac_rfl
  rw [e1]
  have e2 : bothZ m t q u * 2 ^ t = 2 ^ 9 * (m * 2 ^ t + q * 2 ^ u) := by
    unfold bothZ
    rw [Nat.add_mul, Nat.mul_add]
    congr 1
    · ac_rfl
    · rw [Nat.mul_assoc, ← Nat.pow_add, show 9 - (t - u) + t = 9 + u by omega, Nat.pow_add]; ac_rfl
  have e3 : rndZ (bothZ m t q u) * 2 ^ (byZ (bothZ m t q u) - 9) * 2 ^ 9 ≤ bothZ m t q u + 2 ^ 10 := addM_W hb r3
  have e4 := Nat.mul_le_mul_right (2 ^ t) e3
  rw [Nat.add_mul, e2] at e4
  have e5 : rndZ (bothZ m t q u) * 2 ^ (byZ (bothZ m t q u) - 9) * 2 ^ 9 * 2 ^ t = 2 ^ 9 * (rndZ (bothZ m t q u) * 2 ^ (byZ (bothZ m t q u) - 9) * 2 ^ t) := by ac_rfl
  have e6 : 2 ^ 10 * 2 ^ t = 2 ^ 9 * 2 ^ (t + 1) := by rw [Nat.pow_succ 2 t]; omega
  rw [e5, e6, ← Nat.mul_add] at e4
  exact Nat.le_of_mul_le_mul_left e4 (by decide)
theorem addM_b {m t q u : Nat} (h1 : 2 ^ 52 ≤ m) (h2 : m < 2 ^ 53) (h4 : q < 2 ^ 53) : 2 ^ 52 ≤ addM m t q u ∧ addM m t q u < 2 ^ 53 ∧ t ≤ addT m t q u := by
  obtain ⟨b1, b2⟩ := bothZ_b (t := t) (u := u) h1 h2 h4
  obtain ⟨r1, r2, -⟩ := rndZ_b b1 b2
  refine ⟨?_, ?_, ?_⟩
  · unfold addM; split <;> omega
  · unfold addM; split <;> omega
  · unfold addT; omega
/-! one part: 1 / d -/
def ceZ (d : Nat) : Nat := if d ≤ 1 then 0 else if d ≤ 2 then 1 else if d ≤ 4 then 2 else if d ≤ 8 then 3 else if d ≤ 16 then 4 else if d ≤ 32 then 5 else 6
def ptZ (d : Nat) : Nat := 2 ^ (52 + ceZ d) / d + (if d < 2 * (2 ^ (52 + ceZ d) % d) then 1 else 0)
theorem ceZ_le (d : Nat) : ceZ d ≤ 6 := by unfold ceZ; (repeat' split) <;> omega
theorem ceZ_mono {a b : Nat} (h : a ≤ b) : ceZ a ≤ ceZ b := by unfold ceZ; (repeat' split) <;> omega
theorem ceZ_lt : ∀ d, d < 49 → ∀ j, j < 7 → (2 ^ j < d ↔ j < ceZ d) := by decide +kernel
theorem ptZ_b : ∀ d, d < 49 → 1 ≤ d → 2 ^ 52 ≤ ptZ d ∧ ptZ d < 2 ^ 53 := by decide +kernel
theorem dq_pt : ∀ d, d < 49 → 1 ≤ d → dq d = dM (ptZ d) (6 - ceZ d) := by decide +kernel
/-- the law's sum behind the first doors: its bits, and the place of the last one -/
def pS (p : Nat → Bool) : Nat → Nat × Nat
  | 0 => (0, 6)
  | j + 1 => if p (j + 1) = true then (if (pS p j).1 = 0 then (ptZ (j + 1), 6 - ceZ (j + 1)) else (addM (pS p j).1 (pS p j).2 (ptZ (j + 1)) (6 - ceZ (j + 1)), addT (pS p j).1 (pS p j).2 (ptZ (j + 1)) (6 - ceZ (j + 1)))) else pS p j
theorem pS_f {p : Nat → Bool} {j : Nat} (h : p (j + 1) = false) : pS p (j + 1) = pS p j := if_neg (by rw [h]; decide)
theorem pS_0 {p : Nat → Bool} {j : Nat} (h : p (j + 1) = true) (h2 : (pS p j).1 = 0) : pS p (j + 1) = (ptZ (j + 1), 6 - ceZ (j + 1)) := (if_pos h).trans (if_pos h2)
theorem pS_n {p : Nat → Bool} {j : Nat} (h : p (j + 1) = true) (h2 : (pS p j).1 ≠ 0) : pS p (j + 1) = (addM (pS p j).1 (pS p j).2 (ptZ (j + 1)) (6 - ceZ (j + 1)), addT (pS p j).1 (pS p j).2 (ptZ (j + 1)) (6 - ceZ (j + 1))) := (if_pos h).trans (if_neg h2)
def HB : Nat → Nat
  | 0 => 0
  | j + 1 => HB j + ptZ (j + 1) * 2 ^ (6 - ceZ (j + 1)) + 512
theorem HB_48 : ∀ j, j < 49 → HB j < 2 ^ 61 := by decide +kernel
def pInv (p : Nat → Bool) (j : Nat) : Prop := ((pS p j).1 = 0 ∧ dS p j = 0) ∨ (2 ^ 52 ≤ (pS p j).1 ∧ (pS p j).1 < 2 ^ 53 ∧ 6 - ceZ j ≤ (pS p j).2 ∧ (pS p j).1 * 2 ^ (pS p j).2 ≤ HB j ∧ dS p j = dM (pS p j).1 (pS p j).2)
theorem place_le {m t : Nat} (h1 : 2 ^ 52 ≤ m) (h : m * 2 ^ t < 2 ^ 61) : t ≤ 8 := by
  refine Nat.le_of_not_lt fun hc => ?_
  have h2 : 2 ^ 9 ≤ 2 ^ t := Nat.pow_le_pow_right (by decide) hc
  have h3 : 2 ^ 52 * 2 ^ 9 ≤ m * 2 ^ t := Nat.mul_le_mul h1 h2
  omega
set_option maxRecDepth 100000 in
theorem pS_inv (p : Nat → Bool) : ∀ j, j ≤ 48 → pInv p j
  | 0, _ => Or.inl ⟨rfl, by show FP.dconst0 = 0; decide +kernel⟩
  | j + 1, h => by
    have ih := pS_inv p j (by omega)
    have hp := ptZ_b (j + 1) (by omega) (by omega)
    have hd := dq_pt (j + 1) (by omega) (by omega)
    have hc := ceZ_mono (show j ≤ j + 1 by omega)
    have hce := ceZ_le (j + 1)
    have hHB : HB (j + 1) = HB j + ptZ (j + 1) * 2 ^ (6 - ceZ (j + 1)) + 512 := rfl
    cases hz : p (j + 1)
    · unfold pInv
      rw [pS_f hz, dS_f hz]
      rcases ih with ih | ⟨a1, a2, a3, a4, a5⟩
      · exact Or.inl ih
      · exact Or.inr ⟨a1, a2, by omega, by omega, a5⟩
    · unfold pInv
      rw [dS_t hz, hd]
      rcases ih with ⟨i1, i2⟩ | ⟨a1, a2, a3, a4, a5⟩
      · rw [pS_0 hz i1, i2]
        refine Or.inr ⟨hp.1, hp.2, Nat.le_refl _, by rw [hHB]; show ptZ (j + 1) * 2 ^ (6 - ceZ (j + 1)) ≤ _; omega, ?_⟩
        show FP.Core.dadd 0 _ = _
        rw [FP.Core.dadd_comm]
        refine FP.Core.dadd_zero (dM_ne hp.1 hp.2 (by omega)) (fun he => ?_)
        have h1 : FP.Core.val64 (dM (ptZ (j + 1)) (6 - ceZ (j + 1))) = FP.Core.val64 FP.Core.dzeroNeg := congrArg _ he
        rw [dM_v hp.1 hp.2 (by omega)] at h1
        have h2 : FP.Core.val64 FP.Core.dzeroNeg = .fin true 0 (-1074) := by decide +kernel
        rw [h2] at h1
        cases h1
      · have h61 := HB_48 j (by omega)
        have ht8 := place_le a1 (Nat.lt_of_le_of_lt a4 h61)
        rw [pS_n hz (by omega), a5, dadd_M a1 a2 hp.1 hp.2 (by omega) (by omega) (by omega)]
        obtain ⟨b1, b2, b3⟩ := addM_b (t := (pS p j).2) (u := 6 - ceZ (j + 1)) a1 a2 hp.2
        have hV := addM_V (t := (pS p j).2) (u := 6 - ceZ (j + 1)) a1 a2 hp.2 (by omega) (by omega)
        have h512 : 2 ^ ((pS p j).2 + 1) ≤ 2 ^ 9 := Nat.pow_le_pow_right (by decide) (by omega)
        exact Or.inr ⟨b1, b2, by show _ ≤ addT _ _ _ _; omega, by rw [hHB]; show addM _ _ _ _ * 2 ^ addT _ _ _ _ ≤ _; omega, rfl⟩
/-- what stands behind the first j doors, before the next part is added -/
theorem pS_use (p : Nat → Bool) {j : Nat} (h : j ≤ 48) : (pS p j).1 = 0 ∨ (2 ^ 52 ≤ (pS p j).1 ∧ (pS p j).1 < 2 ^ 53 ∧ 6 - ceZ j ≤ (pS p j).2 ∧ (pS p j).2 ≤ 8) := by
  rcases pS_inv p j h with ⟨i1, -⟩ | ⟨a1, a2, a3, a4, -⟩
  · exact Or.inl i1
  · exact Or.inr ⟨a1, a2, a3, place_le a1 (Nat.lt_of_le_of_lt a4 (HB_48 j (by omega)))⟩
theorem pS_end (p : Nat → Bool) : (dS p 48).toInt64 = if (pS p 48).1 = 0 then 0 else lN ((1017 + (pS p 48).2) * 2 ^ 52 + ((pS p 48).1 - 2 ^ 52)) := by
  rcases pS_inv p 48 (Nat.le_refl _) with ⟨i1, i2⟩ | ⟨a1, a2, a3, a4, a5⟩
  · rw [if_pos i1, i2]; rfl
  · rw [if_neg (by omega), a5]; rfl
