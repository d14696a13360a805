/-! ===== the passes that close all doors: going up, and by divisors without squares ===== -/
def sx (f : Nat → Bool) : Nat → Bool
  | 0 => false
  | j + 1 => (sx f j ^^ f (j + 1))
theorem sx_cong {f h : Nat → Bool} : ∀ {n : Nat}, (∀ d, 1 ≤ d → d ≤ n → f d = h d) → sx f n = sx h n
  | 0, _ => rfl
  | n + 1, e => by rw [sx, sx, sx_cong (fun d a b => e d a (by omega)), e (n + 1) (by omega) (by omega)]
theorem sx_xor (f h : Nat → Bool) : ∀ n, sx (fun d => (f d ^^ h d)) n = (sx f n ^^ sx h n)
  | 0 => rfl
  | n + 1 => by
    rw [sx, sx, sx, sx_xor f h n]
    cases sx f n <;> cases sx h n <;> cases f (n + 1) <;> cases h (n + 1) <;> rfl
theorem sx_and (c : Bool) (f : Nat → Bool) : ∀ n, sx (fun d => c && f d) n = (c && sx f n)
  | 0 => by cases c <;> rfl
  | n + 1 => by
    rw [sx, sx, sx_and c f n]
    cases c <;> cases sx f n <;> cases f (n + 1) <;> rfl
theorem sx_and2 (c : Bool) (f : Nat → Bool) (n : Nat) : (sx f n && c) = sx (fun d => f d && c) n := by
  rw [Bool.and_comm, ← sx_and]
  exact sx_cong fun d _ _ => Bool.and_comm _ _
theorem sx_0 : ∀ n, sx (fun _ => false) n = false
  | 0 => rfl
  | n + 1 => by rw [sx, sx_0 n]; rfl
theorem sx_swap (f : Nat → Nat → Bool) (m : Nat) : ∀ n, sx (fun i => sx (fun j => f i j) m) n = sx (fun j => sx (fun i => f i j) n) m
  | 0 => (sx_0 m).symm
  | n + 1 => by
    rw [sx, sx_swap f m n, ← sx_xor]
    rfl
theorem sx_one (f : Nat → Bool) (k : Nat) : ∀ n, sx (fun i => f i && decide (i = k)) n = (decide (1 ≤ k) && (decide (k ≤ n) && f k))
  | 0 => by
    by_cases h : 1 ≤ k
    · rw [show decide (k ≤ 0) = false from decide_eq_false (by omega), Bool.false_and, Bool.and_false]; rfl
    · rw [decide_eq_false h, Bool.false_and]; rfl
  | n + 1 => by
    rw [sx, sx_one f k n]
    by_cases h : n + 1 = k
    · subst h
      rw [decide_eq_true rfl, show decide (n + 1 ≤ n) = false from decide_eq_false (by omega), show decide (1 ≤ n + 1) = true from decide_eq_true (by omega), show decide (n + 1 ≤ n + 1) = true from decide_eq_true (by omega)]
      cases f (n + 1) <;> rfl
    · rw [decide_eq_false h, Bool.and_false, Bool.xor_false, show decide (k ≤ n + 1) = decide (k ≤ n) from by simp only [decide_eq_decide]; omega]
/-- the passes, going up -/
def upX (p : Nat → Bool) (k : Nat) : Bool := clO p (k - 1) k
theorem clP_up (p : Nat → Bool) (k : Nat) : ∀ j, clP p j k = (decide (1 ≤ k) && (decide (k ≤ j) && upX p k))
  | 0 => by
    show false = _
    by_cases h : 1 ≤ k
    · rw [show decide (k ≤ 0) = false from decide_eq_false (by omega), Bool.false_and, Bool.and_false]
    · rw [decide_eq_false h, Bool.false_and]
  | j + 1 => by
    rw [clP_at, clP_up p k j]
    by_cases h : k = j + 1
    · subst h
      rw [decide_eq_true rfl, show decide (j + 1 ≤ j) = false from decide_eq_false (by omega), show decide (1 ≤ j + 1) = true from decide_eq_true (by omega), show decide (j + 1 ≤ j + 1) = true from decide_eq_true (by omega)]
      show (_ || (true && clO p j (j + 1))) = (true && (true && clO p j (j + 1)))
      cases clO p j (j + 1) <;> rfl
    · rw [decide_eq_false h, Bool.false_and, Bool.or_false, show decide (k ≤ j + 1) = decide (k ≤ j) from by simp only [decide_eq_decide]; omega]
theorem clO_sx (p : Nat → Bool) (d : Nat) : ∀ j, clO p j d = (p d ^^ sx (fun k => upX p k && mulA k d) j)
  | 0 => by show p d = _; rw [sx, Bool.xor_false]
  | j + 1 => by
    rw [clO_at, clO_sx p d j, sx]
    show _ = (p d ^^ (sx (fun k => upX p k && mulA k d) j ^^ (clO p j (j + 1) && mulA (j + 1) d)))
    rw [Bool.xor_assoc]
theorem clO_done (p : Nat → Bool) {d : Nat} (h : 1 ≤ d) : ∀ j, clO p (d + j) d = false
  | 0 => by
    obtain ⟨k, rfl⟩ : ∃ k, d = k + 1 := ⟨d - 1, by omega⟩
    show clO p (k + 1) (k + 1) = false
    rw [clO_at, show mulA (k + 1) (k + 1) = true from decide_eq_true (Nat.dvd_refl _), Bool.and_true, Bool.xor_self]
  | j + 1 => by
    show clO p (d + j + 1) d = false
    rw [clO_at, clO_done p h j, show mulA (d + j + 1) d = false from decide_eq_false (fun hc => absurd (Nat.le_of_dvd h hc) (by omega)), Bool.and_false]
    rfl
theorem p_sx (p : Nat → Bool) {d : Nat} (h1 : 1 ≤ d) (h2 : d ≤ 48) : p d = sx (fun k => upX p k && mulA k d) 48 := by
  have h := clO_done p h1 (48 - d)
  rw [show d + (48 - d) = 48 by omega, clO_sx] at h
  cases hp : p d <;> cases hs : sx (fun k => upX p k && mulA k d) 48 <;> rw [hp, hs] at h <;> first | rfl | exact absurd h (by decide)
theorem moeb : ∀ i, i < 48 → ∀ k, k < 48 → sx (fun d => mulA (i + 1) d && (decide (d ∣ k + 1) && zsq ((k + 1) / d))) 48 = decide (i + 1 = k + 1) := by decide +kernel
theorem cdN_sx (p : Nat → Bool) (k : Nat) : ∀ j, cdN p k j = sx (fun d => p d && (decide (d ∣ k) && zsq (k / d))) j
  | 0 => rfl
  | j + 1 => by rw [cdN, sx, cdN_sx p k j]
theorem cdP_at (p : Nat → Bool) {k : Nat} (h1 : 1 ≤ k) (h2 : k ≤ 48) : cdP p k = clP p 48 k := by
  have e1 : cdP p k = sx (fun d => sx (fun i => upX p i && (mulA i d && (decide (d ∣ k) && zsq (k / d)))) 48) 48 := by
    unfold cdP
    rw [cdN_sx]
    refine sx_cong fun d a b => ?_
    rw [p_sx p a b, sx_and2]
    exact sx_cong fun i _ _ => Bool.and_assoc _ _ _
  rw [e1, sx_swap (fun d i => upX p i && (mulA i d && (decide (d ∣ k) && zsq (k / d)))) 48 48]
  have e2 : sx (fun i => sx (fun d => upX p i && (mulA i d && (decide (d ∣ k) && zsq (k / d)))) 48) 48 = sx (fun i => upX p i && decide (i = k)) 48 := by
    refine sx_cong fun i a b => ?_
    rw [sx_and]
    have h := moeb (i - 1) (by omega) (k - 1) (by omega)
    rw [show i - 1 + 1 = i by omega, show k - 1 + 1 = k by omega] at h
    rw [h]
  rw [e2, sx_one, clP_up]
