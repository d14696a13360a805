/-! ===== shares, sums of parts and their bits ===== -/
abbrev f48c : UInt32 := 1111490560
def fsh (n : Nat) : UInt32 := FP.fdiv (FP.i2f (nI n)) f48c
def dq (k : Nat) : UInt64 := FP.ddiv FP.dconst1 (FP.i2d (nI k))
def fq (k : Nat) : UInt32 := FP.fdiv FP.fconst1 (FP.i2f (nI k))
def dS (p : Nat → Bool) : Nat → UInt64
  | 0 => FP.dconst0
  | j + 1 => if p (j + 1) = true then FP.dadd (dS p j) (dq (j + 1)) else dS p j
def fS (p : Nat → Bool) : Nat → UInt32
  | 0 => FP.fconst0
  | j + 1 => if p (j + 1) = true then FP.fadd (fS p j) (fq (j + 1)) else fS p j
theorem dq_b : ∀ k, k < 49 → 1 ≤ k → 1017 * 2 ^ 52 ≤ (dq k).toNat ∧ (dq k).toNat < 1024 * 2 ^ 52 := by decide +kernel
theorem fq_b : ∀ k, k < 49 → 1 ≤ k → 121 * 2 ^ 23 ≤ (fq k).toNat ∧ (fq k).toNat < 128 * 2 ^ 23 := by decide +kernel
theorem dS_t {p : Nat → Bool} {j : Nat} (h : p (j + 1) = true) : dS p (j + 1) = FP.dadd (dS p j) (dq (j + 1)) := if_pos h
theorem dS_f {p : Nat → Bool} {j : Nat} (h : p (j + 1) = false) : dS p (j + 1) = dS p j := if_neg (by rw [h]; decide)
theorem fS_t {p : Nat → Bool} {j : Nat} (h : p (j + 1) = true) : fS p (j + 1) = FP.fadd (fS p j) (fq (j + 1)) := if_pos h
theorem fS_f {p : Nat → Bool} {j : Nat} (h : p (j + 1) = false) : fS p (j + 1) = fS p j := if_neg (by rw [h]; decide)
theorem dS_pos (p : Nat → Bool) : ∀ j, j ≤ 48 → pos64 j (dS p j)
  | 0, _ => Or.inl rfl
  | j + 1, h => by
    have ih := dS_pos p j (by omega)
    have hq := dq_b (j + 1) (by omega) (by omega)
    cases hp : p (j + 1)
    · rw [dS_f hp]
      rcases ih with ih | ih
      · exact Or.inl ih
      · exact pos64_i ih.1 (Nat.lt_of_lt_of_le ih.2 (Nat.add_le_add_left (Nat.mul_le_mul_left _ (Nat.le_succ j)) _))
    · rw [dS_t hp]
      exact (pos64_add (by omega) ih hq.1 hq.2).1
theorem fS_pos (p : Nat → Bool) : ∀ j, j ≤ 48 → pos32 j (fS p j)
  | 0, _ => Or.inl rfl
  | j + 1, h => by
    have ih := fS_pos p j (by omega)
    have hq := fq_b (j + 1) (by omega) (by omega)
    cases hp : p (j + 1)
    · rw [fS_f hp]
      rcases ih with ih | ih
      · exact Or.inl ih
      · exact pos32_i ih.1 (Nat.lt_of_lt_of_le ih.2 (Nat.add_le_add_left (Nat.mul_le_mul_left _ (Nat.le_succ j)) _))
    · rw [fS_t hp]
      exact (pos32_add (by omega) ih hq.1 hq.2).1
theorem pos64_ne {j : Nat} {v : UInt64} (hj : j ≤ 49) (h : pos64 j v) : FP.Core.val64 v ≠ .nan := by
  rcases h with rfl | h
  · decide +kernel
  · exact ne_of64 (by omega)
theorem pos32_ne {j : Nat} {v : UInt32} (hj : j ≤ 49) (h : pos32 j v) : FP.Core.val32 v ≠ .nan := by
  rcases h with rfl | h
  · decide +kernel
  · exact ne_of32 (by omega)
theorem dS_ne (p : Nat → Bool) {j : Nat} (h : j ≤ 48) : FP.Core.val64 (dS p j) ≠ .nan := pos64_ne (by omega) (dS_pos p j h)
theorem fS_ne (p : Nat → Bool) {j : Nat} (h : j ≤ 48) : FP.Core.val32 (fS p j) ≠ .nan := pos32_ne (by omega) (fS_pos p j h)
theorem dA_ne (p : Nat → Bool) {j : Nat} (h : j < 48) : FP.Core.val64 (FP.dadd (dS p j) (dq (j + 1))) ≠ .nan := by
  have hq := dq_b (j + 1) (by omega) (by omega)
  exact pos64_ne (j := j + 1) (by omega) (pos64_add (by omega) (dS_pos p j (by omega)) hq.1 hq.2).1
theorem fA_ne (p : Nat → Bool) {j : Nat} (h : j < 48) : FP.Core.val32 (FP.fadd (fS p j) (fq (j + 1))) ≠ .nan := by
  have hq := fq_b (j + 1) (by omega) (by omega)
  exact pos32_ne (j := j + 1) (by omega) (pos32_add (by omega) (fS_pos p j (by omega)) hq.1 hq.2).1
theorem dq_ne {j : Nat} (h : j < 48) : FP.Core.val64 (dq (j + 1)) ≠ .nan := ne_of64 (by have := dq_b (j + 1) (by omega) (by omega); omega)
theorem fq_ne {j : Nat} (h : j < 48) : FP.Core.val32 (fq (j + 1)) ≠ .nan := ne_of32 (by have := fq_b (j + 1) (by omega) (by omega); omega)
theorem dz_n : FP.Core.dzeroNeg.toNat = 2 ^ 63 := by decide +kernel
theorem fz_n : FP.Core.fzeroNeg.toNat = 2 ^ 31 := by decide +kernel
theorem dz_0 : ¬ FP.Core.dzeroNeg = 0 := by decide +kernel
theorem fz_0 : ¬ FP.Core.fzeroNeg = 0 := by decide +kernel
theorem dS_z (p : Nat → Bool) {j : Nat} (h : j ≤ 48) : dS p j ≠ FP.Core.dzeroNeg := fun e => by
  rcases dS_pos p j h with h1 | h1
  · rw [e] at h1; exact dz_0 h1
  · have h2 := h1.2
    rw [e, dz_n] at h2
    omega
theorem fS_z (p : Nat → Bool) {j : Nat} (h : j ≤ 48) : fS p j ≠ FP.Core.fzeroNeg := fun e => by
  rcases fS_pos p j h with h1 | h1
  · rw [e] at h1; exact fz_0 h1
  · have h2 := h1.2
    rw [e, fz_n] at h2
    omega
theorem dS_0 (p : Nat → Bool) {j : Nat} (h : j ≤ 48) : FP.dadd (dS p j) FP.dconst0 = dS p j := FP.Core.dadd_zero (dS_ne p h) (dS_z p h)
theorem fS_0 (p : Nat → Bool) {j : Nat} (h : j ≤ 48) : FP.fadd (fS p j) FP.fconst0 = fS p j := FP.Core.fadd_zero (fS_ne p h) (fS_z p h)
theorem fsh_ne : ∀ n, n < 49 → FP.Core.val32 (fsh n) ≠ .nan ∧ FP.Core.val64 (FP.f2d (fsh n)) ≠ .nan := by decide +kernel
theorem f2d_ne {v : UInt32} (h : FP.Core.val32 v ≠ .nan) : FP.Core.val64 (FP.f2d v) ≠ .nan := by
  have h1 : FP.Core.fIsNaN v = false := (FP.Core.notNaN_iff32 v).mpr h
  rw [show FP.f2d v = FP.Core.f2d v by unfold FP.f2d; rw [if_neg (by rw [h1]; decide)]]
  exact (FP.Core.notNaN_iff _).mp (FP.Core.f2d_out h1)
/-! what bitsOf answers -/
def shE (n : Nat) : Nat := (FP.f2d (fsh n)).toNat / 2 ^ 52
def shT (n : Nat) : Nat := (FP.f2d (fsh n)).toNat % 2 ^ 52
theorem sh_v (n : Nat) : FP.f2d (fsh n) = dET (shE n) (shT n) := d_of _
theorem sh_0 : FP.f2d (fsh 0) = 0 ∧ (fsh 0).toInt32 = 0 := by decide +kernel
theorem sh_b : ∀ n, n < 49 → 1 ≤ n → 1017 ≤ shE n ∧ shE n ≤ 1023 ∧ (lN ((shE n - 896) * 2 ^ 23 + shT n * 2 ^ 23 / 2 ^ 52)).toInt32 = (fsh n).toInt32 := by decide +kernel
theorem d_bits {x t : Nat} (hx : x ≤ 2046) (ht : t < 2 ^ 52) : (dET x t).toInt64 = lN (x * 2 ^ 52 + t) := rfl
theorem bits_or {a b t : Nat} (ha : a < 2048) (hb : b = 23 ∨ b = 52) (ht : t < 2 ^ b) : ((nI a).toInt64 <<< ((nI b).toInt64 &&& 63)) ||| lN t = lN (a * 2 ^ b + t) := by
  have e : (nI a).toInt64 = lN a := by
    apply Int64.toBitVec_inj.mp
    rw [Int32.toBitVec_toInt64, wb_tb]
    show BitVec.signExtend 64 (BitVec.ofNat 32 a) = BitVec.ofNat 64 a
    apply BitVec.eq_of_toNat_eq
    rw [BitVec.signExtend_eq_setWidth_of_msb_false (by rw [BitVec.msb_eq_decide]; simp; omega), BitVec.toNat_setWidth, BitVec.toNat_ofNat, BitVec.toNat_ofNat]
    omega
  rw [e, wb_shl a (by omega : b < 64)]
  have h2 : a * 2 ^ b < 2 ^ 63 := by rcases hb with rfl | rfl <;> omega
  have h3 : t < 2 ^ 64 := by rcases hb with rfl | rfl <;> omega
  rw [wb_or (by omega) h3]
  congr 1
  rw [Nat.mul_comm, Nat.two_pow_add_eq_or_of_lt ht]
def mI (j : Nat) : Int32 := Int32.ofInt (-(j : Int))
theorem mI_0 : (nI 0) = mI 0 := by decide
theorem mI_s (j : Nat) : mI j + (-1) = mI (j + 1) := by
  unfold mI
  rw [show (-1 : Int32) = Int32.ofInt (-1) from rfl, ← Int32.ofInt_add]
  congr 1
  omega
theorem mI_add {j b : Nat} (h : j ≤ b) : mI j + nI b = nI (b - j) := by
  unfold mI
  rw [show nI b = Int32.ofInt (b : Int) from Int32.ofInt_eq_ofNat.symm, ← Int32.ofInt_add, show (-(j : Int) + (b : Int)) = ((b - j : Nat) : Int) by omega]
  exact Int32.ofInt_eq_ofNat
