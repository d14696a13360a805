/-! ===== the reference's reading of texts ===== -/
def hrZ (T : Nat → Int32) (L p : Nat) : Int32 := if p < L then T p else nI 0
theorem hr_eq {T : Nat → Int32} {L p : Nat} {c : Int32} (h0 : nI 0 ≠ c) (h1 : (-1) ≠ c) : hrZ T L p = c ↔ chZ T L p = c := by
  unfold hrZ chZ
  by_cases h : p < L
  · rw [if_pos h, if_pos h]
  · rw [if_neg h, if_neg h]; exact ⟨fun e => absurd e h0, fun e => absurd e h1⟩
theorem hr_dg {T : Nat → Int32} {L p : Nat} : decide ((nI 48).toInt ≤ (hrZ T L p).toInt ∧ (hrZ T L p).toInt ≤ (nI 57).toInt) = dgZ (chZ T L p) := by
  rw [ki_n (show 48 < 2147483648 by omega), ki_n (show 57 < 2147483648 by omega)]
  unfold hrZ chZ dgZ
  by_cases h : p < L
  · rw [if_pos h, if_pos h]; rfl
  · rw [if_neg h, if_neg h]; decide
theorem hr_ch {T : Nat → Int32} {L p : Nat} (h : dgZ (chZ T L p) = true) : hrZ T L p = chZ T L p := by
  unfold hrZ chZ at *
  by_cases hp : p < L
  · rw [if_pos hp, if_pos hp]
  · rw [if_neg hp] at h; exact absurd h (by decide)
theorem dv_first {T : Nat → Int32} {L p : Nat} (h : dgZ (chZ T L p) = true) : nI (10 * 0) + hrZ T L p - nI 48 = nI (dvZ (chZ T L p)) := by
  rw [hr_ch h]
  have := dvZ_acc h 0
  rw [show nI (0 * 10) = nI (10 * 0) from rfl, show 0 * 10 + dvZ (chZ T L p) = dvZ (chZ T L p) by omega] at this
  exact this
theorem dv_second {T : Nat → Int32} {L p v : Nat} (h : dgZ (chZ T L p) = true) : nI (10 * v) + hrZ T L p - nI 48 = nI (v * 10 + dvZ (chZ T L p)) := by
  rw [hr_ch h, Nat.mul_comm 10 v]
  exact dvZ_acc h v
theorem nI_nn {n : Nat} (h : n < 2147483648) : ¬ nI n < 0 := (kc0_lt_f h).mpr (by omega)
theorem bI_nn (b : Bool) : ¬ bI b < 0 := by cases b <;> decide
theorem cau_in {vb : Int32} {n1 n2 : Nat} {σ : Sg} (hv : vb ≠ nI 114) (h : cauZ vb n1 n2 σ = 0 ∨ cauZ vb n1 n2 σ = 2) : 1 ≤ n1 ∧ n1 ≤ 48 := by
  unfold cauZ at h
  rw [if_neg hv] at h
  by_cases hc : 1 ≤ n1 ∧ n1 ≤ 48
  · exact hc
  · rw [if_pos hc] at h; omega
theorem kdz_of {n : Nat} (h : n < 2147483648) (hk : nI n = 0 ∨ nI n = 1) : n ≤ 1 := by
  rcases hk with q | q
  · have := (kc0_eq_t h).mp q; omega
  · have q2 : nI n = nI 1 := q
    have := (nI_eq h (by omega)).mp q2; omega
/-! ===== the reference: all orders of the text ===== -/
theorem pOK_tw {T : Nat → Int32} {L p : Nat} (h : pOK T L p = true) : vbZ (hrZ T L p) = true ∧ hrZ T L p = chZ T L p := by
  have hv := (pOK_d1 h).1
  have e : hrZ T L p = chZ T L p := by
    unfold hrZ chZ at *
    by_cases hp : p < L
    · rw [if_pos hp, if_pos hp]
    · rw [if_neg hp] at hv; exact absurd hv (by decide)
  exact ⟨by rw [e]; exact hv, e⟩
theorem cauZ_any {vb : Int32} (h : twZ vb = false) (n1 n2 m2 : Nat) (σ : Sg) : cauZ vb n1 n2 σ = cauZ vb n1 m2 σ := by
  unfold twZ at h
  simp only [Bool.or_eq_false_iff, decide_eq_false_iff_not] at h
  unfold cauZ
  rw [if_neg h.1, if_neg h.1, if_neg h.2, if_neg h.2]
theorem actZ_any {vb : Int32} (h : twZ vb = false) (n1 n2 m2 : Nat) (σ : Sg) : actZ vb n1 n2 σ = actZ vb n1 m2 σ := by
  unfold twZ at h
  simp only [Bool.or_eq_false_iff, decide_eq_false_iff_not] at h
  unfold actZ
  rw [if_neg h.1, if_neg h.1, if_neg h.2, if_neg h.2]
theorem cau_eq {T : Nat → Int32} {L p b : Nat} {σ : Sg} (h : twZ (chZ T L p) = true → b = pN2x T L p) (n : Nat) : cauZ (chZ T L p) n b σ = cauZ (chZ T L p) n (pN2x T L p) σ := by
  cases ht : twZ (chZ T L p)
  · exact cauZ_any ht _ _ _ _
  · rw [h ht]
theorem act_eq {T : Nat → Int32} {L p b : Nat} {σ : Sg} (h : twZ (chZ T L p) = true → b = pN2x T L p) (n : Nat) : actZ (chZ T L p) n b σ = actZ (chZ T L p) n (pN2x T L p) σ := by
  cases ht : twZ (chZ T L p)
  · exact actZ_any ht _ _ _ _
  · rw [h ht]
theorem ki_nn {r : Int32} (h : ¬ r < 0) : 0 ≤ r := by
  rw [ki_lt] at h; rw [ki_le]; omega
theorem runF_re (T : Nat → Int32) (L : Nat) : ∀ f p σ n, (runF T L f p σ n).1 ≤ 2
  | 0, _, _, _ => by rw [runF]; exact Nat.zero_le _
  | f + 1, p, σ, n => by
    rw [runF]
    split
    · exact Nat.zero_le _
    · split
      · split
        · exact runF_re T L f _ _ _
        · exact Nat.le_refl 2
      · exact (by decide : 1 ≤ 2)
theorem zRe_le (T : Nat → Int32) (L : Nat) (σ : Sg) : zRe T L σ ≤ 2 := runF_re T L 60 0 σ 0
theorem typ_f {n : Int32} (h : ¬ (32 ≤ n.toInt ∧ n.toInt ≤ 126)) : decide ((nI 32).toInt ≤ n.toInt ∧ n.toInt ≤ (nI 126).toInt) = false := by
  rw [ki_n (show 32 < 2147483648 by omega), ki_n (show 126 < 2147483648 by omega)]
  exact decide_eq_false h

