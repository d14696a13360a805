/-! ===== the law's own numbers ===== -/
def bT (x : Int32) : Nat := x.toBitVec.toNat
theorem bT_nI (x : Int32) : x = nI (bT x) := by
  apply Int32.toBitVec_inj.mp
  show _ = BitVec.ofNat 32 x.toBitVec.toNat
  simp
theorem bT_lt (x : Int32) : bT x < 4294967296 := x.toBitVec.isLt
theorem bT_inc (x : Int32) : bT (x + 1) ≤ bT x + 1 := by
  unfold bT
  rw [Int32.toBitVec_add, BitVec.toNat_add]
  exact Nat.le_trans (Nat.mod_le _ _) (by show _ + 1 ≤ _; omega)
theorem bT_0 : bT 0 = 0 := by decide
/-- the law's 'low' -/
def lowN (v : Int32) (n : Nat) : Nat := bT v % 2147483648 % n
theorem lowN_lt (v : Int32) {n : Nat} (h : 1 ≤ n) : lowN v n < n := Nat.mod_lt _ h
theorem low_and (v : Int32) : v &&& 2147483647 = nI (bT v % 2147483648) := by
  apply Int32.toBitVec_inj.mp
  rw [Int32.toBitVec_and]
  show v.toBitVec &&& BitVec.ofNat 32 2147483647 = BitVec.ofNat 32 (bT v % 2147483648)
  apply BitVec.eq_of_toNat_eq
  rw [BitVec.toNat_and, BitVec.toNat_ofNat, BitVec.toNat_ofNat, show 2147483647 % 2 ^ 32 = 2 ^ 31 - 1 from by decide, Nat.and_two_pow_sub_one_eq_mod]
  unfold bT
  omega
/-! the bits of a set, one by one -/
theorem zB_nat (q : Nat → Bool) : ∀ j, (zB q).toBitVec.toNat.testBit j = (decide (1 ≤ j) && decide (j ≤ 48) && q j) := fun j => by
  rw [BitVec.testBit_toNat]
  exact zG_B q j
theorem kern_nat {n d : Nat} (h1 : n.testBit d = true) (h2 : ∀ j, j < d → n.testBit j = false) (j : Nat) : (n &&& (n - 1)).testBit j = (n.testBit j && !decide (j = d)) := by
  have e : n = 2 ^ (d + 1) * (n / 2 ^ (d + 1)) + 2 ^ d := by
    have hm : n % 2 ^ (d + 1) = 2 ^ d := by
      apply Nat.eq_of_testBit_eq
      intro i
      rw [Nat.testBit_mod_two_pow, Nat.testBit_two_pow]
      rcases Nat.lt_trichotomy i d with h | h | h
      · rw [h2 i h, Bool.and_false, decide_eq_false (by omega)]
      · subst h; rw [h1, decide_eq_true (by omega), decide_eq_true rfl]; rfl
      · rw [decide_eq_false (by omega), decide_eq_false (by omega), Bool.false_and]
    have := Nat.div_add_mod n (2 ^ (d + 1))
    omega
  have hp : 0 < 2 ^ d := Nat.two_pow_pos d
  have e1 : n - 1 = 2 ^ (d + 1) * (n / 2 ^ (d + 1)) + (2 ^ d - 1) := by omega
  have hlt : 2 ^ d - 1 < 2 ^ (d + 1) := by rw [Nat.pow_succ]; omega
  rw [Nat.testBit_and]
  have t1 : (n - 1).testBit j = if j < d + 1 then (2 ^ d - 1).testBit j else (n / 2 ^ (d + 1)).testBit (j - (d + 1)) := by
    rw [e1, Nat.testBit_two_pow_mul_add _ hlt]
  have t2 : n.testBit j = if j < d + 1 then (2 ^ d).testBit j else (n / 2 ^ (d + 1)).testBit (j - (d + 1)) := by
    rw [e, Nat.testBit_two_pow_mul_add _ (by rw [Nat.pow_succ]; omega)]
    have hq : (2 ^ (d + 1) * (n / 2 ^ (d + 1)) + 2 ^ d) / 2 ^ (d + 1) = n / 2 ^ (d + 1) := by rw [← e]
    rw [hq]
  rw [t1]
  by_cases hj : j < d + 1
  · rw [if_pos hj, Nat.testBit_two_pow_sub_one]
    rcases Nat.lt_or_ge j d with h | h
    · rw [h2 j h]; rfl
    · have : j = d := by omega
      subst this
      rw [decide_eq_false (Nat.lt_irrefl j), decide_eq_true rfl, Bool.and_false, Bool.not_true, Bool.and_false]
  · rw [if_neg hj, decide_eq_false (show ¬ j = d by omega)]
    rw [if_neg hj] at t2
    rw [← t2, Bool.and_self, Bool.not_false, Bool.and_true]
theorem low_ex {q : Nat → Bool} : ∀ n, (∃ d, d < n ∧ q d = true ∧ ∀ j, j < d → q j = false) ∨ ∀ j, j < n → q j = false
  | 0 => Or.inr fun j h => absurd h (Nat.not_lt_zero j)
  | n + 1 => by
    rcases low_ex (q := q) n with ⟨d, h1, h2, h3⟩ | h
    · exact Or.inl ⟨d, by omega, h2, h3⟩
    · cases hq : q n
      · refine Or.inr fun j hj => ?_
        rcases Nat.lt_or_ge j n with h4 | h4
        · exact h j h4
        · rw [show j = n by omega]; exact hq
      · exact Or.inl ⟨n, by omega, hq, h⟩
theorem zB_zero {q : Nat → Bool} (h : zB q = 0) {d : Nat} (h1 : 1 ≤ d) (h2 : d ≤ 48) : q d = false := by
  have e := zG_in (p := q) h1 h2
  rw [h, zG_0] at e
  exact e.symm
theorem zcnt_0 {q : Nat → Bool} : ∀ n, (∀ d, 1 ≤ d → d ≤ n → q d = false) → zcnt q n = 0
  | 0, _ => rfl
  | n + 1, h => by rw [zcnt_f (h (n + 1) (by omega) (Nat.le_refl _)), zcnt_0 n (fun d a b => h d a (by omega))]
/-- one bit less -/
theorem kern_zB {q : Nat → Bool} (h : ¬ zB q = 0) : ∃ d, 1 ≤ d ∧ d ≤ 48 ∧ q d = true ∧ zB q &&& (zB q - 1) = zB (bup q d false) ∧ zcnt q 48 = zcnt (bup q d false) 48 + 1 := by
  rcases low_ex (q := fun j => decide (1 ≤ j) && decide (j ≤ 48) && q j) 49 with ⟨d, h1, h2, h3⟩ | h1
  · have hd : 1 ≤ d ∧ q d = true := by
      simp only [Bool.and_eq_true, decide_eq_true_eq] at h2
      exact ⟨h2.1.1, h2.2⟩
    refine ⟨d, hd.1, by omega, hd.2, ?_, ?_⟩
    · have hn1 : (zB q).toBitVec.toNat.testBit d = true := by rw [zB_nat]; exact h2
      have hn2 : ∀ j, j < d → (zB q).toBitVec.toNat.testBit j = false := fun j hj => by rw [zB_nat]; exact h3 j hj
      have hpos : 1 ≤ (zB q).toBitVec.toNat := by
        rcases Nat.eq_zero_or_pos (zB q).toBitVec.toNat with h0 | h0
        · rw [h0, Nat.zero_testBit] at hn1; cases hn1
        · exact h0
      have hlt := (zB q).toBitVec.isLt
      refine zG_ext fun j hj => ?_
      have hk := kern_nat hn1 hn2 j
      rw [zG_B]
      have hsub : (zB q - 1).toBitVec.toNat = (zB q).toBitVec.toNat - 1 := by
        rw [Int64.toBitVec_sub, BitVec.toNat_sub]
        show (2 ^ 64 - 1 + _) % 2 ^ 64 = _
        omega
      show (zB q &&& (zB q - 1)).toBitVec.getLsbD j = _
      rw [Int64.toBitVec_and, ← BitVec.testBit_toNat, BitVec.toNat_and, hsub, hk, zB_nat]
      by_cases e : j = d
      · subst e; rw [decide_eq_true rfl, bup_s]; simp
      · rw [decide_eq_false e, bup_n e]; simp
    · exact zcnt_bump (p := bup q d false) (q := q) hd.1 bup_s hd.2 (fun j hj => (bup_n hj).symm) 48 (by omega)
  · exact absurd (zG_ext fun j _ => by rw [zG_B, zG_0]; by_cases hj : j < 49; exact h1 j hj; rw [show decide (j ≤ 48) = false from decide_eq_false (by omega)]; simp) h
theorem kern_end {q : Nat → Bool} (h : zB q = 0) : zcnt q 48 = 0 := zcnt_0 48 fun d h1 h2 => zB_zero h h1 h2
theorem lgc_eq {x y : Int64} : lg_cmp x y = 0 ↔ x = y := lg_cmp_eq x y
theorem lgc_self (x : Int64) : lg_cmp x x = 0 := lgc_eq.mpr rfl
/-! the set as a number -/
theorem zB_toInt (q : Nat → Bool) : 0 ≤ (zB q).toInt ∧ (zB q).toInt < 562949953421312 := by
  have hlt : (zB q).toBitVec.toNat < 2 ^ 49 := by
    exact Nat.lt_pow_two_of_testBit _ (fun j hj => by rw [zB_nat, decide_eq_false (show ¬ j ≤ 48 by omega)]; simp)
  have e : (zB q).toInt = ((zB q).toBitVec.toNat : Int) := by
    show (zB q).toBitVec.toInt = _
    rw [BitVec.toInt_eq_toNat_of_lt (by omega)]
  rw [e]; omega
theorem zB_nn (q : Nat → Bool) : ¬ lg_cmp (zB q) 0 < 0 := by
  rw [Int32.not_lt]
  exact (lg_cmp_ge _ _).mpr (by rw [Int64.le_iff_toInt_le]; exact (zB_toInt q).1)
theorem zB_lt49 (q : Nat → Bool) : ¬ 0 ≤ lg_cmp (zB q) 562949953421312 := by
  rw [lg_cmp_ge, Int64.le_iff_toInt_le]
  have := (zB_toInt q).2
  show ¬ (562949953421312 : Int) ≤ _
  omega
theorem zB_odd (q : Nat → Bool) : zB q &&& 1 = 0 := by
  refine zG_ext fun j hj => ?_
  rw [zG_and, zG_0, zG_B]
  by_cases e : j = 0
  · subst e; simp
  · have e1 : (1 : Int64) = zbit 0 := by decide
    rw [e1, zG_bit 0 j hj, show decide (0 = j) = false from decide_eq_false (fun h => e h.symm), Bool.and_false]
/-! shifted -/
theorem zG_sshr (q : Nat → Bool) {d j : Nat} (hd : d < 64) (hj : j < 64) : zG (zB q >>> ((nI d).toInt64 &&& 63)) j = zG (zB q) (d + j) := by
  unfold zG
  rw [wb_c d hd, Int64.toBitVec_shiftRight, wb_tb, wb_sm d hd]
  unfold BitVec.sshiftRight'
  rw [BitVec.getLsbD_sshiftRight, BitVec.toNat_ofNat, Nat.mod_eq_of_lt (by omega)]
  have hm : (zB q).toBitVec.msb = false := by
    rw [BitVec.msb_eq_getLsbD_last]
    show zG (zB q) 63 = false
    rw [zG_B]; simp
  rw [hm]
  by_cases h : d + j < 64
  · simp [h, hj]
  · rw [if_neg h, BitVec.getLsbD_of_ge _ _ (by omega)]; simp
/-- the lowest open door from d on, or 49 -/
def nxQ (p : Nat → Bool) : Nat → Nat → Nat
  | 0, d => d
  | k + 1, d => if p d = true then d else nxQ p k (d + 1)
def nxN (p : Nat → Bool) (d : Nat) : Nat := nxQ p (49 - d) d
theorem nxQ_s (p : Nat → Bool) : ∀ k d, d ≤ nxQ p k d ∧ nxQ p k d ≤ d + k ∧ (∀ j, d ≤ j → j < nxQ p k d → p j = false) ∧ (nxQ p k d < d + k → p (nxQ p k d) = true)
  | 0, d => ⟨Nat.le_refl _, Nat.le_refl _, fun j h1 h2 => absurd (Nat.lt_of_le_of_lt h1 h2) (Nat.lt_irrefl _), fun h => absurd h (Nat.lt_irrefl _)⟩
  | k + 1, d => by
    rw [nxQ]
    cases hp : p d
    · rw [if_neg (by decide)]
      obtain ⟨a, b, c, e⟩ := nxQ_s p k (d + 1)
      refine ⟨by omega, by omega, fun j h1 h2 => ?_, fun h => e (by omega)⟩
      by_cases ej : j = d
      · rw [ej]; exact hp
      · exact c j (by omega) h2
    · rw [if_pos rfl]
      exact ⟨Nat.le_refl _, by omega, fun j h1 h2 => absurd (Nat.lt_of_le_of_lt h1 h2) (Nat.lt_irrefl _), fun _ => hp⟩
theorem nxN_s (p : Nat → Bool) {d : Nat} (h : d ≤ 48) : d ≤ nxN p d ∧ nxN p d ≤ 49 ∧ (∀ j, d ≤ j → j < nxN p d → p j = false) ∧ (nxN p d < 49 → p (nxN p d) = true) := by
  obtain ⟨a, b, c, e⟩ := nxQ_s p (49 - d) d
  unfold nxN
  exact ⟨a, by omega, c, fun h2 => e (by omega)⟩
/-- what the law's nextOpen answers -/
def nxV (p : Nat → Bool) (d : Nat) : Int32 := if nxN p d < 49 then nI (nxN p d) else (-104)
theorem nx_no {p : Nat → Bool} {d : Nat} (h1 : 1 ≤ d) (h : d ≤ 48) (hn : ¬ nxN p d < 49) : zB p >>> ((nI d).toInt64 &&& 63) = 0 := by
  obtain ⟨a, b, c, -⟩ := nxN_s p h
  refine zG_ext fun j hj => ?_
  rw [zG_sshr p (by omega) hj, zG_0, zG_B]
  by_cases hb : d + j ≤ 48
  · rw [c (d + j) (by omega) (by omega), Bool.and_false]
  · rw [decide_eq_false hb]; simp
theorem nx_yes {p : Nat → Bool} {d : Nat} (h1 : 1 ≤ d) (h : d ≤ 48) (hn : nxN p d < 49) : ¬ zB p >>> ((nI d).toInt64 &&& 63) = 0 := by
  obtain ⟨a, b, c, e⟩ := nxN_s p h
  intro h0
  have h2 := zG_sshr p (d := d) (j := nxN p d - d) (by omega) (by omega)
  rw [h0, zG_0, show d + (nxN p d - d) = nxN p d by omega, zG_in (by omega) (by omega), e hn] at h2
  cases h2
theorem zbit_m1 {k j : Nat} (hk : k < 63) (hj : j < 64) : zG (zbit k - 1) j = decide (j < k) := by
  have e : zbit k - 1 = lN (2 ^ k - 1) := by
    have h1 := zm_bit (d := k) (by omega)
    have h2 := wb_shl 1 (k := k) (by omega)
    rw [show lN 1 = (1 : Int64) by decide, h1, Nat.one_mul] at h2
    rw [h2, show (1 : Int64) = lN 1 by decide]
    exact lN_sub (Nat.two_pow_pos k)
  rw [e]
  unfold zG
  rw [wb_tb, BitVec.getLsbD_ofNat, Nat.testBit_two_pow_sub_one]
  simp [hj]
theorem nx_mask {p : Nat → Bool} {d : Nat} (h1 : 1 ≤ d) (h : d ≤ 48) (hn : nxN p d < 49) : (zB p >>> ((nI d).toInt64 &&& 63)) &&& (zbit (nxN p d - d) - 1) = 0 := by
  obtain ⟨a, b, c, e⟩ := nxN_s p h
  refine zG_ext fun j hj => ?_
  rw [zG_and, zG_0, zG_sshr p (by omega) hj, zbit_m1 (by omega) hj, zG_B]
  by_cases hb : j < nxN p d - d
  · rw [c (d + j) (by omega) (by omega)]; simp
  · rw [decide_eq_false hb, Bool.and_false]
/-! things -/
def thV (σ : Sg) (d : Nat) : Int32 := if zF σ d = true then bI (zH σ d) else (-104)
theorem thV_f {σ : Sg} {d : Nat} (h : zF σ d = false) : thV σ d = (-104) := if_neg (by rw [h]; decide)
theorem thV_t {σ : Sg} {d : Nat} (h : zF σ d = true) : thV σ d = bI (zH σ d) := if_pos h
/-! turns, all together -/
def tA (σ : Sg) : Int32 := sumZ (enc σ) 96 48
theorem sumZ_T (σ : Sg) : ∀ n, n ≤ 48 → sumZ (enc σ) 96 n = (List.range n).foldl (fun a j => a + zT σ (j + 1)) (nI 0)
  | 0, _ => rfl
  | n + 1, h => by
    rw [sumZ, sumZ_T σ n (by omega), List.range_succ, List.foldl_append, enc_T (by omega) h]
    rfl
theorem sumZ_cong {σ τ : Sg} : ∀ {n : Nat}, n ≤ 48 → (∀ d, 1 ≤ d → d ≤ n → zT σ d = zT τ d) → sumZ (enc σ) 96 n = sumZ (enc τ) 96 n
  | 0, _, _ => rfl
  | n + 1, h, e => by
    rw [sumZ, sumZ, sumZ_cong (by omega) (fun d a b => e d a (by omega)), enc_T (by omega) h, enc_T (by omega) h, e (n + 1) (by omega) (Nat.le_refl _)]
theorem sumZ_turn {σ : Sg} {d : Nat} (h1 : 1 ≤ d) : ∀ n, n ≤ 48 → sumZ (enc (turnS d σ)) 96 n = sumZ (enc σ) 96 n + (if d ≤ n then 1 else 0)
  | 0, _ => by rw [if_neg (by omega)]; rfl
  | n + 1, h => by
    rw [sumZ, sumZ, sumZ_turn h1 n (by omega), enc_T (by omega) h, enc_T (by omega) h]
    show _ + upd (zT σ) d (zT σ d + 1) (n + 1) = _
    by_cases e : d = n + 1
    · subst e
      rw [if_neg (by omega), if_pos (Nat.le_refl _), upd_s, Int32.add_zero, Int32.add_assoc]
    · rw [upd_n (fun h => e h.symm)]
      by_cases e2 : d ≤ n
      · rw [if_pos e2, if_pos (by omega), Int32.add_assoc, Int32.add_assoc, Int32.add_comm 1]
      · rw [if_neg e2, if_neg (by omega), Int32.add_zero, Int32.add_zero]
theorem tA_turn {σ : Sg} {d : Nat} (h1 : 1 ≤ d) (h2 : d ≤ 48) : tA (turnS d σ) = tA σ + 1 := by
  unfold tA; rw [sumZ_turn h1 48 (Nat.le_refl _), if_pos h2]
theorem tA_passN {σ : Sg} {k : Nat} (hk : 1 ≤ k) : ∀ j, j ≤ 48 / k → tA (passN k j σ) = tA σ + nI (zcnt (fun d => mulP k (j + 1) d && !zL σ d) 48)
  | 0, _ => by
    rw [passN, zcnt_0 48 (fun d h1 _ => by
      have e : mulP k (0 + 1) d = false := by
        unfold mulP
        cases hd : decide (k ∣ d)
        · rfl
        · have h2 : k ≤ d := Nat.le_of_dvd h1 (of_decide_eq_true hd)
          have h3 : 1 ≤ d / k := (Nat.le_div_iff_mul_le hk).mpr (by omega)
          rw [show decide (d / k < 0 + 1) = false from decide_eq_false (by omega), Bool.and_false]
      rw [e, Bool.false_and])]
    show _ = _ + 0
    rw [Int32.add_zero]
  | j + 1, h => by
    have him : (j + 1) * k ≤ 48 := mul_in hk h
    have hi1 : 1 ≤ (j + 1) * k := Nat.mul_pos (by omega) hk
    rw [passN]
    cases hl : zL (passN k j σ) ((j + 1) * k)
    · rw [turnL_n hl, tA_turn hi1 him, tA_passN hk j (by omega), Int32.add_assoc, show (1 : Int32) = nI 1 from rfl, nI_add]
      congr 2
      rw [passN_L] at hl
      refine (zcnt_bump (a := (j + 1) * k) hi1 ?_ ?_ ?_ 48 him).symm
      · rw [mulP_no hk]; rfl
      · rw [mulP_at (j := j + 1) hk, decide_eq_true rfl, Bool.or_true, hl]; rfl
      · intro d hd; rw [mulP_at (j := j + 1) hk, decide_eq_false hd, Bool.or_false]
    · rw [turnL_t hl, tA_passN hk j (by omega)]
      congr 2
      rw [passN_L] at hl
      refine zcnt_cong fun d _ _ => ?_
      rw [mulP_at (j := j + 1) hk]
      by_cases e : d = (j + 1) * k
      · subst e; rw [hl]; simp
      · rw [decide_eq_false e, Bool.or_false]
theorem tA_time {σ : Sg} {k : Nat} : tA (timeS k σ) = tA σ := sumZ_cong (Nat.le_refl _) (fun _ _ _ => rfl)
theorem tA_pass {σ : Sg} {k : Nat} (hk : 1 ≤ k) (hk2 : k ≤ 48) : tA (passS k σ) = tA σ + nI (zcnt (turnP σ k) 48) := by
  rw [passS_time, tA_time, tA_passN hk _ (Nat.le_refl _)]
  congr 2
  refine zcnt_cong fun d h1 h2 => ?_
  unfold turnP mulP mulA
  have h3 : d / k ≤ 48 / k := Nat.div_le_div_right h2
  rw [show decide (d / k < 48 / k + 1) = true from decide_eq_true (by omega), Bool.and_true]
theorem turnP_row {σ : Sg} {n j k : Nat} : turnP (rowN n j σ) k = turnP σ k := by
  funext d; unfold turnP; rw [rowN_L]
theorem pass_set {σ : Sg} {k : Nat} (hk : 1 ≤ k) : zB (zO σ) ^^^ zB (turnP σ k) = zB (zO (passS k σ)) := by
  rw [zB_xor]
  exact zB_cong fun d p q => (passS_O hk p q).symm
theorem pass_diff {σ : Sg} {k : Nat} (hk : 1 ≤ k) : zB (zO σ) ^^^ zB (zO (passS k σ)) = zB (turnP σ k) := by
  rw [zB_xor]
  refine zB_cong fun d p q => ?_
  rw [passS_O hk p q]
  cases zO σ d <;> cases turnP σ k d <;> rfl
/-- how many turns the first passes of a row make -/
def rowM (σ : Sg) (n : Nat) : Nat → Int32
  | 0 => nI 0
  | j + 1 => if zS σ (n + j) = true then rowM σ n j else rowM σ n j + nI (zcnt (turnP σ (n + j)) 48)
theorem tA_row {σ : Sg} {n : Nat} (hn : 1 ≤ n) : ∀ j, n + j ≤ 49 → tA (rowN n j σ) = tA σ + rowM σ n j
  | 0, _ => by show tA σ = tA σ + 0; rw [Int32.add_zero]
  | j + 1, h => by
    have hs : zS (rowN n j σ) (n + j) = zS σ (n + j) := by rw [rowN_S]
    cases hz : zS σ (n + j)
    · rw [rowN_n (by rw [hs]; exact hz), tA_pass (by omega) (by omega), tA_row hn j (by omega), turnP_row, rowM, if_neg (by rw [hz]; decide), Int32.add_assoc]
    · rw [rowN_t (by rw [hs]; exact hz), tA_row hn j (by omega), rowM, if_pos hz]
/-! doors never turned too often -/
def gB (B : Nat) (σ : Sg) : Prop := ∀ d, bT (zT σ d) ≤ B
theorem gB.mono {A B : Nat} {σ : Sg} (h : gB A σ) (hab : A ≤ B) : gB B σ := fun d => Nat.le_trans (h d) hab
theorem gB_turnS {B : Nat} {σ : Sg} (h : gB B σ) (d : Nat) : gB (B + 1) (turnS d σ) := fun j => by
  show bT (upd (zT σ) d (zT σ d + 1) j) ≤ _
  by_cases e : j = d
  · subst e; rw [upd_s]; exact Nat.le_trans (bT_inc _) (Nat.succ_le_succ (h j))
  · rw [upd_n e]; exact Nat.le_succ_of_le (h j)
theorem gB_turnL {B : Nat} {σ : Sg} (h : gB B σ) (d : Nat) : gB (B + 1) (turnL d σ) := by
  unfold turnL
  split
  · exact h.mono (Nat.le_succ _)
  · exact gB_turnS h d
theorem gB_passN {B : Nat} {σ : Sg} (h : gB B σ) (k : Nat) : ∀ j, gB (B + j) (passN k j σ)
  | 0 => h
  | j + 1 => gB_turnL (gB_passN h k j) _
theorem gB_pass {B : Nat} {σ : Sg} (h : gB B σ) (k : Nat) : gB (B + 48) (passS k σ) :=
  (gB_passN (σ := timeS k σ) (fun d => h d) k (48 / k)).mono (Nat.add_le_add_left (Nat.div_le_self _ _) _)
theorem gB_row {B : Nat} {σ : Sg} (h : gB B σ) (n : Nat) : ∀ j, gB (B + 48 * j) (rowN n j σ)
  | 0 => h
  | j + 1 => by
    rw [rowN]
    split
    · exact (gB_row h n j).mono (by omega)
    · exact (gB_pass (gB_row h n j) _).mono (by omega)
theorem gB_row48 {B : Nat} {σ : Sg} (h : gB B σ) (n : Nat) {j : Nat} (hj : j ≤ 100) : gB (B + 4800) (rowN n j σ) := (gB_row h n j).mono (by omega)
theorem gB_act {B : Nat} {σ : Sg} (h : gB B σ) (vb : Int32) (n1 : Nat) {n2 : Nat} (h2 : n2 ≤ 99) : gB (B + 4800) (actZ vb n1 n2 σ) := by
  unfold actZ
  split
  · exact (gB_pass h _).mono (by omega)
  split
  · exact (gB_turnL h _).mono (by omega)
  split
  · exact h.mono (by omega)
  split
  · exact gB_row48 h _ (by omega)
  split
  · exact h.mono (by omega)
  · exact h.mono (by omega)
theorem gB_run (T : Nat → Int32) (L : Nat) : ∀ (f p : Nat) (σ : Sg) (n B : Nat), gB B σ → gB (B + 4800 * f) (runF T L f p σ n).2.2.2.2
  | 0, _, _, _, _, h => h
  | f + 1, p, σ, n, B, h => by
    rw [runF]
    split
    · exact h.mono (by omega)
    · split
      · split
        · exact (gB_run T L f _ _ _ _ (gB_act h _ _ (pN2x_le ‹_›))).mono (by omega)
        · exact h.mono (by omega)
      · exact h.mono (by omega)
theorem gB_zSt {B : Nat} {σ : Sg} (h : gB B σ) (T : Nat → Int32) (L : Nat) : gB (B + 288000) (zSt T L σ) := gB_run T L 60 0 σ 0 B h
/-- a count that is small is a number -/
theorem gB_n {B : Nat} {σ : Sg} (h : gB B σ) (hB : B < 2147483648) (d : Nat) : ∃ k, k < 2147483648 ∧ zT σ d = nI k ∧ zO σ d = decide (k % 2 = 1) := by
  refine ⟨bT (zT σ d), Nat.lt_of_le_of_lt (h d) hB, bT_nI _, ?_⟩
  unfold zO zodd bT
  rw [← BitVec.testBit_toNat, Nat.testBit_zero]
