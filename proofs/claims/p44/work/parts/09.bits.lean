/-! ===== Int64 as a set of bits: test, set, clear ===== -/
theorem ts_nf {x : Bool} (h : ¬ x = false) : x = true := by cases x <;> first | rfl | exact absurd rfl h
theorem ts_nt {x : Bool} (h : ¬ x = true) : x = false := by cases x <;> first | rfl | exact absurd rfl h
theorem ts_bit {w : Int64} {s : UInt64} {j : Nat} (hj : j < 64) (hs : s.toNat = j) : ((w.toUInt64 >>> s).toInt64 &&& 1) = 0 ↔ w.toBitVec.getLsbD j = false := by
  have e : (w.toUInt64 >>> s).toInt64.toBitVec = w.toBitVec >>> j := by
    apply BitVec.eq_of_toNat_eq
    show (w.toUInt64 >>> s).toNat = _
    rw [UInt64.toNat_shiftRight, hs, Nat.mod_eq_of_lt hj, BitVec.toNat_ushiftRight]
    rfl
  rw [← Int64.toBitVec_inj, Int64.toBitVec_and, e]
  show w.toBitVec >>> j &&& 1#64 = 0#64 ↔ _
  constructor
  · intro h
    have t := congrArg (fun x => x.getLsbD 0) h
    simpa using t
  · intro h
    apply BitVec.eq_of_getLsbD_eq
    intro i hi
    cases i with
    | zero => simp [h]
    | succ i => simp
theorem ts_or {w m : Int64} {j : Nat} (hj : j < 64) (hm : m.toBitVec = BitVec.twoPow 64 j) : (w ||| m) = w ↔ w.toBitVec.getLsbD j = true := by
  rw [← Int64.toBitVec_inj, Int64.toBitVec_or, hm]
  constructor
  · intro h
    have t := congrArg (fun x => x.getLsbD j) h
    simp only [BitVec.getLsbD_or, BitVec.getLsbD_twoPow] at t
    simpa [hj] using t.symm
  · intro h
    apply BitVec.eq_of_getLsbD_eq
    intro i hi
    rw [BitVec.getLsbD_or, BitVec.getLsbD_twoPow]
    by_cases e : j = i
    · subst e; rw [h, Bool.true_or]
    · simp [e]
theorem ts_and {w m : Int64} {j : Nat} (hj : j < 64) (hm : m.toBitVec = BitVec.twoPow 64 j) : (w &&& (m ^^^ (-1))) = w ↔ w.toBitVec.getLsbD j = false := by
  have ha : (-1 : Int64).toBitVec = BitVec.allOnes 64 := by decide
  rw [← Int64.toBitVec_inj, Int64.toBitVec_and, Int64.toBitVec_xor, hm, ha]
  constructor
  · intro h
    have t := congrArg (fun x => x.getLsbD j) h
    simp only [BitVec.getLsbD_and, BitVec.getLsbD_xor, BitVec.getLsbD_twoPow, BitVec.getLsbD_allOnes] at t
    simpa [hj] using t.symm
  · intro h
    apply BitVec.eq_of_getLsbD_eq
    intro i hi
    rw [BitVec.getLsbD_and, BitVec.getLsbD_xor, BitVec.getLsbD_twoPow, BitVec.getLsbD_allOnes]
    by_cases e : j = i
    · subst e; rw [h, Bool.false_and]
    · simp [e, hi]
/-! ===== lN n to 2^64: shifts, and, or, masks, one bit ===== -/
theorem wb_tb (n : Nat) : (lN n).toBitVec = BitVec.ofNat 64 n := rfl
theorem wb_inj {a b : Int64} (h : a.toBitVec = b.toBitVec) : a = b := Int64.toBitVec_inj.mp h
theorem wb_tn {n : Nat} (h : n < 2 ^ 64) : (lN n).toBitVec.toNat = n := by rw [wb_tb, BitVec.toNat_ofNat, Nat.mod_eq_of_lt h]
theorem wb_of (x : Int64) : ∃ n, n < 2 ^ 64 ∧ x = lN n := ⟨x.toBitVec.toNat, x.toBitVec.isLt, wb_inj (by rw [wb_tb]; simp)⟩
theorem wb_of32 (x : Int32) : ∃ n, n < 2 ^ 32 ∧ x = nI n := ⟨x.toBitVec.toNat, x.toBitVec.isLt, Int32.toBitVec_inj.mp (by show _ = BitVec.ofNat 32 _; simp)⟩
theorem wb_c : ∀ k, k < 64 → ((nI k).toInt64 &&& 63) = lN k := by decide +kernel
theorem wb_cu : ∀ k, k < 64 → ((nI k).toInt64.toUInt64 &&& Int64.toUInt64 63) = UInt64.ofNat k := by decide +kernel
theorem wb_sm : ∀ k, k < 64 → (BitVec.ofNat 64 k).smod 64 = BitVec.ofNat 64 k := by decide +kernel
theorem wb_pw {a b : Nat} (h : a ≤ b) : 2 ^ b = 2 ^ a * 2 ^ (b - a) := by rw [← Nat.pow_add]; congr 1; omega
theorem wb_lt2 {a b : Nat} (h : a < b) : 2 ^ a < 2 ^ b := Nat.pow_lt_pow_right (by decide) h
theorem wb_mod (n : Nat) : lN n = lN (n % 2 ^ 64) := wb_inj (by rw [wb_tb, wb_tb]; apply BitVec.eq_of_toNat_eq; rw [BitVec.toNat_ofNat, BitVec.toNat_ofNat, Nat.mod_mod])
theorem wb_shr {n k : Nat} (hn : n < 2 ^ 64) (hk : k < 64) : ((lN n).toUInt64 >>> ((nI k).toInt64.toUInt64 &&& Int64.toUInt64 63)).toInt64 = lN (n / 2 ^ k) := by
  rw [wb_cu k hk]
  apply wb_inj
  apply BitVec.eq_of_toNat_eq
  show ((lN n).toUInt64 >>> UInt64.ofNat k).toNat = (BitVec.ofNat 64 _).toNat
  have h1 : (UInt64.ofNat k).toNat = k := by
    show (BitVec.ofNat 64 k).toNat = k
    rw [BitVec.toNat_ofNat, Nat.mod_eq_of_lt (by omega)]
  have h2 : (lN n).toUInt64.toNat = n := wb_tn hn
  rw [UInt64.toNat_shiftRight, h1, h2, Nat.mod_eq_of_lt hk, Nat.shiftRight_eq_div_pow, BitVec.toNat_ofNat, Nat.mod_eq_of_lt (Nat.lt_of_le_of_lt (Nat.div_le_self _ _) hn)]
theorem wb_shl (n : Nat) {k : Nat} (hk : k < 64) : lN n <<< ((nI k).toInt64 &&& 63) = lN (n * 2 ^ k) := by
  rw [wb_c k hk]
  apply wb_inj
  rw [Int64.toBitVec_shiftLeft, wb_tb, wb_tb, wb_tb, wb_sm k hk]
  apply BitVec.eq_of_toNat_eq
  rw [BitVec.shiftLeft_eq', BitVec.toNat_shiftLeft, BitVec.toNat_ofNat, BitVec.toNat_ofNat, BitVec.toNat_ofNat, Nat.mod_eq_of_lt (show k < 2 ^ 64 by omega), Nat.shiftLeft_eq, Nat.mul_mod, Nat.mod_mod, ← Nat.mul_mod]
theorem wb_and {a b : Nat} (ha : a < 2 ^ 64) (hb : b < 2 ^ 64) : lN a &&& lN b = lN (a &&& b) := by
  apply wb_inj
  rw [Int64.toBitVec_and, wb_tb, wb_tb, wb_tb]
  apply BitVec.eq_of_toNat_eq
  rw [BitVec.toNat_and, BitVec.toNat_ofNat, BitVec.toNat_ofNat, BitVec.toNat_ofNat, Nat.mod_eq_of_lt ha, Nat.mod_eq_of_lt hb, Nat.mod_eq_of_lt (Nat.and_lt_two_pow _ hb)]
theorem wb_or {a b : Nat} (ha : a < 2 ^ 64) (hb : b < 2 ^ 64) : lN a ||| lN b = lN (a ||| b) := by
  apply wb_inj
  rw [Int64.toBitVec_or, wb_tb, wb_tb, wb_tb]
  apply BitVec.eq_of_toNat_eq
  rw [BitVec.toNat_or, BitVec.toNat_ofNat, BitVec.toNat_ofNat, BitVec.toNat_ofNat, Nat.mod_eq_of_lt ha, Nat.mod_eq_of_lt hb, Nat.mod_eq_of_lt (Nat.or_lt_two_pow ha hb)]
theorem wb_mask {n k : Nat} (hn : n < 2 ^ 64) (hk : k < 64) : lN n &&& lN (2 ^ k - 1) = lN (n % 2 ^ k) := by
  rw [wb_and hn (by have := wb_lt2 hk; omega), Nat.and_two_pow_sub_one_eq_mod]
theorem wb_a1 {n : Nat} (hn : n < 2 ^ 64) : lN n &&& 1 = lN (n % 2) := wb_mask (k := 1) hn (by decide)
theorem wb_bit {n k : Nat} (hn : n < 2 ^ 64) (hk : k < 64) : ((lN n).toUInt64 >>> ((nI k).toInt64.toUInt64 &&& Int64.toUInt64 63)).toInt64 &&& 1 = lN (n / 2 ^ k % 2) := by
  rw [wb_shr hn hk, wb_a1 (Nat.lt_of_le_of_lt (Nat.div_le_self _ _) hn)]
theorem wb_xor {q k : Nat} (hk : k < 63) (h : 2 ^ k ≤ q) (h2 : q < 2 ^ (k + 1)) : lN q ^^^ lN (2 ^ k) = lN (q - 2 ^ k) := by
  obtain ⟨r, rfl⟩ : ∃ r, q = 2 ^ k + r := ⟨q - 2 ^ k, by omega⟩
  have hr : r < 2 ^ k := by rw [Nat.pow_succ] at h2; omega
  have hx : (2 ^ k + r) ^^^ 2 ^ k = r := by
    apply Nat.eq_of_testBit_eq
    intro i
    rw [Nat.testBit_xor, Nat.testBit_two_pow]
    rcases Nat.lt_trichotomy i k with h | h | h
    · rw [Nat.testBit_two_pow_add_gt h]
      simp [show ¬ k = i by omega]
    · subst h
      rw [Nat.testBit_two_pow_add_eq]
      simp
    · have a1 : 2 ^ (k + 1) ≤ 2 ^ i := Nat.pow_le_pow_right (by decide) h
      rw [Nat.testBit_lt_two_pow (show 2 ^ k + r < 2 ^ i by omega), Nat.testBit_lt_two_pow (show r < 2 ^ i by omega)]
      simp [show ¬ k = i by omega]
  have b1 := wb_lt2 (show k + 1 < 64 by omega)
  have b2 := wb_lt2 (show k < 64 by omega)
  apply wb_inj
  rw [Int64.toBitVec_xor, wb_tb, wb_tb, wb_tb]
  apply BitVec.eq_of_toNat_eq
  rw [BitVec.toNat_xor, BitVec.toNat_ofNat, BitVec.toNat_ofNat, BitVec.toNat_ofNat, Nat.mod_eq_of_lt (by omega : 2 ^ k + r < 2 ^ 64), Nat.mod_eq_of_lt b2, hx, Nat.add_sub_cancel_left, Nat.mod_eq_of_lt (by omega)]
/-! ===== lN: masks, 'or' of parts that don't overlap is a sum ===== -/
/-! ===== the state: who is locked, skipped, filled, a hat; how often turned, how often made ===== -/
abbrev Sg : Type := (Nat → Bool) × (Nat → Bool) × (Nat → Bool) × (Nat → Bool) × (Nat → Int32) × (Nat → Int32)
def zL (σ : Sg) : Nat → Bool := σ.1
def zS (σ : Sg) : Nat → Bool := σ.2.1
def zF (σ : Sg) : Nat → Bool := σ.2.2.1
def zH (σ : Sg) : Nat → Bool := σ.2.2.2.1
def zT (σ : Sg) : Nat → Int32 := σ.2.2.2.2.1
def zI (σ : Sg) : Nat → Int32 := σ.2.2.2.2.2
def zodd (x : Int32) : Bool := x.toBitVec.getLsbD 0
/-- open: turned an odd number of times -/
def zO (σ : Sg) (d : Nat) : Bool := zodd (zT σ d)
def bup (f : Nat → Bool) (k : Nat) (b : Bool) : Nat → Bool := fun j => if j = k then b else f j
theorem bup_s {f : Nat → Bool} {k : Nat} {b : Bool} : bup f k b k = b := by simp [bup]
theorem bup_n {f : Nat → Bool} {k j : Nat} {b : Bool} (h : j ≠ k) : bup f k b j = f j := by simp [bup, h]
theorem upd_s {f : Nat → Int32} {k : Nat} {x : Int32} : upd f k x k = x := by simp [upd]
theorem upd_n {f : Nat → Int32} {k j : Nat} {x : Int32} (h : j ≠ k) : upd f k x j = f j := by simp [upd, h]
/-! sets of numbers 1 to 48 as bits -/
def bvN (p : Nat → Bool) : Nat → BitVec 64
  | 0 => 0#64
  | n + 1 => bvN p n ||| (if p n = true then BitVec.twoPow 64 n else 0#64)
theorem bvN_get (p : Nat → Bool) : ∀ (n j : Nat), j < 64 → (bvN p n).getLsbD j = (decide (j < n) && p j)
  | 0, j, _ => by simp [bvN]
  | n + 1, j, hj => by
    rw [bvN, BitVec.getLsbD_or, bvN_get p n j hj]
    by_cases hp : p n = true
    · rw [if_pos hp, BitVec.getLsbD_twoPow]
      by_cases e : n = j
      · subst e; simp [hp, hj]
      · have e2 : decide (j < n + 1) = decide (j < n) := by simp only [decide_eq_decide]; omega
        simp [e, e2]
    · rw [if_neg hp]
      by_cases e : n = j
      · subst e; simp [hp]
      · have e2 : decide (j < n + 1) = decide (j < n) := by simp only [decide_eq_decide]; omega
        simp [e2]
def zB (p : Nat → Bool) : Int64 := Int64.ofBitVec (bvN (fun d => decide (1 ≤ d) && p d) 49)
def zbit (d : Nat) : Int64 := Int64.ofBitVec (BitVec.twoPow 64 d)
/-- bit d of a set -/
def zG (x : Int64) (d : Nat) : Bool := x.toBitVec.getLsbD d
theorem zG_B (p : Nat → Bool) (j : Nat) : zG (zB p) j = (decide (1 ≤ j) && decide (j ≤ 48) && p j) := by
  unfold zG zB
  rw [Int64.toBitVec_ofBitVec]
  by_cases hj : j < 64
  · rw [bvN_get _ _ _ hj]
    have e : decide (j < 49) = decide (j ≤ 48) := by simp only [decide_eq_decide]; omega
    rw [e]
    cases decide (j ≤ 48) <;> cases decide (1 ≤ j) <;> simp
  · rw [BitVec.getLsbD_of_ge _ _ (by omega)]
    have e : decide (j ≤ 48) = false := by simp only [decide_eq_false_iff_not]; omega
    simp [e]
theorem zG_in {p : Nat → Bool} {j : Nat} (h1 : 1 ≤ j) (h2 : j ≤ 48) : zG (zB p) j = p j := by rw [zG_B]; simp [h1, h2]
theorem zG_ext {x y : Int64} (h : ∀ j, j < 64 → zG x j = zG y j) : x = y := by
  apply Int64.toBitVec_inj.mp
  exact BitVec.eq_of_getLsbD_eq (fun j hj => h j hj)
theorem zG_bit (d j : Nat) (hj : j < 64) : zG (zbit d) j = decide (d = j) := by
  unfold zG zbit
  rw [Int64.toBitVec_ofBitVec, BitVec.getLsbD_twoPow]
  by_cases e : d = j
  · subst e; simp [hj]
  · simp [e]
theorem zG_xor (x y : Int64) (j : Nat) : zG (x ^^^ y) j = (zG x j ^^ zG y j) := by unfold zG; rw [Int64.toBitVec_xor, BitVec.getLsbD_xor]
theorem zG_and (x y : Int64) (j : Nat) : zG (x &&& y) j = (zG x j && zG y j) := by unfold zG; rw [Int64.toBitVec_and, BitVec.getLsbD_and]
theorem zG_or (x y : Int64) (j : Nat) : zG (x ||| y) j = (zG x j || zG y j) := by unfold zG; rw [Int64.toBitVec_or, BitVec.getLsbD_or]
theorem zG_not (x : Int64) (j : Nat) (hj : j < 64) : zG (x ^^^ (-1)) j = !zG x j := by
  rw [zG_xor]
  have e : zG (-1) j = true := by
    unfold zG
    have e1 : ((-1 : Int64)).toBitVec = BitVec.allOnes 64 := by decide
    rw [e1, BitVec.getLsbD_allOnes]
    simp [hj]
  rw [e, Bool.xor_true]
theorem zB_cong {p q : Nat → Bool} (h : ∀ d, 1 ≤ d → d ≤ 48 → p d = q d) : zB p = zB q := by
  refine zG_ext fun j _ => ?_
  rw [zG_B, zG_B]
  by_cases h1 : 1 ≤ j
  · by_cases h2 : j ≤ 48
    · rw [h j h1 h2]
    · simp [h2]
  · simp [h1]
theorem zB_0 : zB (fun _ => false) = 0 := by decide +kernel
theorem zB_flip {p q : Nat → Bool} {d : Nat} (h1 : 1 ≤ d) (h2 : d ≤ 48) (hd : q d = !p d) (hn : ∀ j, j ≠ d → q j = p j) : zB p ^^^ zbit d = zB q := by
  refine zG_ext fun j hj => ?_
  rw [zG_xor, zG_B, zG_B, zG_bit _ _ hj]
  by_cases e : d = j
  · subst e; simp [h1, h2, hd]
  · rw [hn j (fun h => e h.symm)]; simp [e]
theorem zB_set {p q : Nat → Bool} {d : Nat} (h1 : 1 ≤ d) (h2 : d ≤ 48) (hd : q d = true) (hn : ∀ j, j ≠ d → q j = p j) : zB p ||| zbit d = zB q := by
  refine zG_ext fun j hj => ?_
  rw [zG_or, zG_B, zG_B, zG_bit _ _ hj]
  by_cases e : d = j
  · subst e; simp [h1, h2, hd]
  · rw [hn j (fun h => e h.symm)]; simp [e]
theorem zB_clr {p q : Nat → Bool} {d : Nat} (h1 : 1 ≤ d) (h2 : d ≤ 48) (hd : q d = false) (hn : ∀ j, j ≠ d → q j = p j) : zB p &&& (zbit d ^^^ (-1)) = zB q := by
  refine zG_ext fun j hj => ?_
  rw [zG_and, zG_not _ _ hj, zG_B, zG_B, zG_bit _ _ hj]
  by_cases e : d = j
  · subst e; simp [hd]
  · rw [hn j (fun h => e h.symm)]; simp [e]
/-! bits as the machine reads them -/
theorem zm_bit {d : Nat} (h : d < 64) : (1 : Int64) <<< ((nI d).toInt64 &&& 63) = zbit d := by
  have h1 := wb_shl 1 h
  have e1 : lN 1 = (1 : Int64) := by decide
  rw [e1] at h1
  rw [h1]
  apply Int64.toBitVec_inj.mp
  unfold zbit
  rw [wb_tb, Int64.toBitVec_ofBitVec, Nat.one_mul]
  exact BitVec.eq_of_toNat_eq (by rw [BitVec.toNat_ofNat, BitVec.toNat_twoPow])
theorem zm_has (x : Int64) {d : Nat} (h : d < 64) : lg_cmp ((x.toUInt64 >>> ((nI d).toInt64.toUInt64 &&& Int64.toUInt64 63)).toInt64 &&& 1) 0 = bI (zG x d) ∨ lg_cmp ((x.toUInt64 >>> ((nI d).toInt64.toUInt64 &&& Int64.toUInt64 63)).toInt64 &&& 1) 0 ≠ 0 ∧ zG x d = true := by
  have h0 := ts_bit (w := x) (s := (nI d).toInt64.toUInt64 &&& Int64.toUInt64 63) (j := d) h (by rw [wb_cu d h]; simp; omega)
  cases hz : zG x d
  · left
    have h1 := h0.mpr hz
    rw [h1]
    decide
  · right
    refine ⟨fun hc => ?_, rfl⟩
    have hne : ¬ ((x.toUInt64 >>> ((nI d).toInt64.toUInt64 &&& Int64.toUInt64 63)).toInt64 &&& 1) = 0 := fun h1 => by have h2 : zG x d = false := h0.mp h1; rw [hz] at h2; cases h2
    unfold lg_cmp at hc
    split at hc
    · exact absurd hc (by decide)
    · first | exact absurd ‹_› hne | exact absurd hc (by decide) | (split at hc; exact absurd ‹_› hne; exact absurd hc (by decide))
theorem zm_has0 {x : Int64} {d : Nat} (h : d < 64) (hc : lg_cmp ((x.toUInt64 >>> ((nI d).toInt64.toUInt64 &&& Int64.toUInt64 63)).toInt64 &&& 1) 0 = 0) : zG x d = false := by
  rcases zm_has x h with h1 | h1
  · rw [hc] at h1
    cases hz : zG x d
    · rfl
    · rw [hz] at h1; exact absurd h1 (by decide)
  · exact absurd hc h1.1
theorem zm_has1 {x : Int64} {d : Nat} (h : d < 64) (hc : ¬ lg_cmp ((x.toUInt64 >>> ((nI d).toInt64.toUInt64 &&& Int64.toUInt64 63)).toInt64 &&& 1) 0 = 0) : zG x d = true := by
  rcases zm_has x h with h1 | h1
  · rw [h1] at hc
    exact bI_o.mp hc
  · exact h1.2
