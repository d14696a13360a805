/-! ===== the reference: its 288 ints, of the same state ===== -/
def thZ (σ : Sg) (d : Nat) : Int32 := if zF σ d = true then (if zH σ d = true then 2 else 1) else 0
def enc (σ : Sg) (i : Nat) : Int32 :=
  if i < 48 then bI (zO σ (i + 1)) else if i < 96 then bI (zL σ (i - 47)) else if i < 144 then zT σ (i - 95) else if i < 192 then bI (zS σ (i - 143)) else if i < 240 then zI σ (i - 191) else if i < 288 then thZ σ (i - 239) else 0
abbrev cM (μ : Nat → Nat) (iK : Bool) (kn ln th sp bg : Nat) (fm : Bool) (le : Int32) (fi se re ca : Nat) : Nat × va_E :=
  xO (μ 0) 6 [.ref (μ 1), .ref (μ 2), .ref (μ 3), .ref (μ 4), .int (bI iK), .ref (μ 5), .int (nI kn), .ref (μ 6), .int (nI ln), .int (nI th), .int (nI sp), .int (nI bg), .int (bI fm), .int le, .int (nI fi), .int (nI se), .int (nI re), .int (nI ca)]
section ENC
variable {σ : Sg} {d : Nat}
theorem enc_O (h1 : 1 ≤ d) (h2 : d ≤ 48) : enc σ (0 + d - 1) = bI (zO σ d) := by
  unfold enc; rw [if_pos (by omega)]; rw [show 0 + d - 1 + 1 = d by omega]
theorem enc_L (h1 : 1 ≤ d) (h2 : d ≤ 48) : enc σ (48 + d - 1) = bI (zL σ d) := by
  unfold enc; rw [if_neg (by omega), if_pos (by omega)]; rw [show 48 + d - 1 - 47 = d by omega]
theorem enc_T (h1 : 1 ≤ d) (h2 : d ≤ 48) : enc σ (96 + d - 1) = zT σ d := by
  unfold enc; rw [if_neg (by omega), if_neg (by omega), if_pos (by omega)]; rw [show 96 + d - 1 - 95 = d by omega]
theorem enc_S (h1 : 1 ≤ d) (h2 : d ≤ 48) : enc σ (144 + d - 1) = bI (zS σ d) := by
  unfold enc; rw [if_neg (by omega), if_neg (by omega), if_neg (by omega), if_pos (by omega)]; rw [show 144 + d - 1 - 143 = d by omega]
theorem enc_I (h1 : 1 ≤ d) (h2 : d ≤ 48) : enc σ (192 + d - 1) = zI σ d := by
  unfold enc; rw [if_neg (by omega), if_neg (by omega), if_neg (by omega), if_neg (by omega), if_pos (by omega)]; rw [show 192 + d - 1 - 191 = d by omega]
theorem enc_H (h1 : 1 ≤ d) (h2 : d ≤ 48) : enc σ (240 + d - 1) = thZ σ d := by
  unfold enc; rw [if_neg (by omega), if_neg (by omega), if_neg (by omega), if_neg (by omega), if_neg (by omega), if_pos (by omega)]; rw [show 240 + d - 1 - 239 = d by omega]
end ENC
/-- two states whose ints are one but for the place of d -/
theorem enc_ext {σ : Sg} {f : Nat → Int32} (h0 : ∀ j, 288 ≤ j → f j = 0) (hO : ∀ d, 1 ≤ d → d ≤ 48 → f (0 + d - 1) = bI (zO σ d)) (hL : ∀ d, 1 ≤ d → d ≤ 48 → f (48 + d - 1) = bI (zL σ d)) (hT : ∀ d, 1 ≤ d → d ≤ 48 → f (96 + d - 1) = zT σ d)
    (hS : ∀ d, 1 ≤ d → d ≤ 48 → f (144 + d - 1) = bI (zS σ d)) (hI : ∀ d, 1 ≤ d → d ≤ 48 → f (192 + d - 1) = zI σ d) (hH : ∀ d, 1 ≤ d → d ≤ 48 → f (240 + d - 1) = thZ σ d) : f = enc σ := by
  funext i
  by_cases h1 : i < 48
  · have a := hO (i + 1) (by omega) (by omega); have b := enc_O (σ := σ) (d := i + 1) (by omega) (by omega)
    rw [show 0 + (i + 1) - 1 = i by omega] at a b; rw [a, b]
  by_cases h2 : i < 96
  · have a := hL (i - 47) (by omega) (by omega); have b := enc_L (σ := σ) (d := i - 47) (by omega) (by omega)
    rw [show 48 + (i - 47) - 1 = i by omega] at a b; rw [a, b]
  by_cases h3 : i < 144
  · have a := hT (i - 95) (by omega) (by omega); have b := enc_T (σ := σ) (d := i - 95) (by omega) (by omega)
    rw [show 96 + (i - 95) - 1 = i by omega] at a b; rw [a, b]
  by_cases h4 : i < 192
  · have a := hS (i - 143) (by omega) (by omega); have b := enc_S (σ := σ) (d := i - 143) (by omega) (by omega)
    rw [show 144 + (i - 143) - 1 = i by omega] at a b; rw [a, b]
  by_cases h5 : i < 240
  · have a := hI (i - 191) (by omega) (by omega); have b := enc_I (σ := σ) (d := i - 191) (by omega) (by omega)
    rw [show 192 + (i - 191) - 1 = i by omega] at a b; rw [a, b]
  by_cases h6 : i < 288
  · have a := hH (i - 239) (by omega) (by omega); have b := enc_H (σ := σ) (d := i - 239) (by omega) (by omega)
    rw [show 240 + (i - 239) - 1 = i by omega] at a b; rw [a, b]
  · rw [h0 i (by omega)]; unfold enc; rw [if_neg h1, if_neg h2, if_neg h3, if_neg h4, if_neg h5, if_neg h6]
theorem enc_out {σ : Sg} {j : Nat} (h : 288 ≤ j) : enc σ j = 0 := by
  unfold enc; rw [if_neg (by omega), if_neg (by omega), if_neg (by omega), if_neg (by omega), if_neg (by omega), if_neg (by omega)]
theorem enc_turn {σ : Sg} {d : Nat} (h1 : 1 ≤ d) (h2 : d ≤ 48) : upd (upd (enc σ) (0 + d - 1) (bI (!zO σ d))) (96 + d - 1) (zT σ d + 1) = enc (turnS d σ) := by
  refine enc_ext (fun j hj => by rw [upd_n (by omega), upd_n (by omega), enc_out hj]) (fun a p q => ?_) (fun a p q => ?_) (fun a p q => ?_) (fun a p q => ?_) (fun a p q => ?_) (fun a p q => ?_)
  · rw [upd_n (by omega)]
    by_cases e : a = d
    · subst e; rw [upd_s]; show bI (!zO σ a) = bI (zodd (upd (zT σ) a (zT σ a + 1) a)); rw [upd_s, zodd_1]; rfl
    · rw [upd_n (by omega), enc_O p q]; show bI (zodd (zT σ a)) = bI (zodd (upd (zT σ) d (zT σ d + 1) a)); rw [upd_n e]
  · rw [upd_n (by omega), upd_n (by omega), enc_L p q]; rfl
  · by_cases e : a = d
    · subst e; rw [upd_s]; show zT σ a + 1 = upd (zT σ) a (zT σ a + 1) a; rw [upd_s]
    · rw [upd_n (by omega), upd_n (by omega), enc_T p q]; show zT σ a = upd (zT σ) d (zT σ d + 1) a; rw [upd_n e]
  · rw [upd_n (by omega), upd_n (by omega), enc_S p q]; rfl
  · rw [upd_n (by omega), upd_n (by omega), enc_I p q]; rfl
  · rw [upd_n (by omega), upd_n (by omega), enc_H p q]; rfl
theorem enc_time {σ : Sg} {k : Nat} (h1 : 1 ≤ k) (h2 : k ≤ 48) : upd (enc σ) (192 + k - 1) (zI σ k + 1) = enc (timeS k σ) := by
  refine enc_ext (fun j hj => by rw [upd_n (by omega), enc_out hj]) (fun a p q => ?_) (fun a p q => ?_) (fun a p q => ?_) (fun a p q => ?_) (fun a p q => ?_) (fun a p q => ?_)
  · rw [upd_n (by omega), enc_O p q]; rfl
  · rw [upd_n (by omega), enc_L p q]; rfl
  · rw [upd_n (by omega), enc_T p q]; rfl
  · rw [upd_n (by omega), enc_S p q]; rfl
  · by_cases e : a = k
    · subst e; rw [upd_s]; show zI σ a + 1 = upd (zI σ) a (zI σ a + 1) a; rw [upd_s]
    · rw [upd_n (by omega), enc_I p q]; show zI σ a = upd (zI σ) k (zI σ k + 1) a; rw [upd_n e]
  · rw [upd_n (by omega), enc_H p q]; rfl
theorem turnL_time (k d : Nat) (σ : Sg) : turnL d (timeS k σ) = timeS k (turnL d σ) := by
  unfold turnL
  show (if zL σ d = true then timeS k σ else turnS d (timeS k σ)) = timeS k (if zL σ d = true then σ else turnS d σ)
  by_cases h : zL σ d = true
  · rw [if_pos h, if_pos h]
  · rw [if_neg h, if_neg h]; rfl
theorem passN_time (k : Nat) (σ : Sg) : ∀ j, passN k j (timeS k σ) = timeS k (passN k j σ)
  | 0 => rfl
  | j + 1 => by rw [passN, passN_time k σ j, turnL_time, passN]
theorem passS_time {k : Nat} {σ : Sg} : passS k σ = timeS k (passN k (48 / k) σ) := passN_time k σ _
theorem in_door (n : Int32) : decide ((nI 1).toInt ≤ n.toInt ∧ n.toInt ≤ (nI 48).toInt) = decide (1 ≤ n.toInt ∧ n.toInt ≤ 48) := by
  rw [ki_n (show 1 < 2147483648 by omega), ki_n (show 48 < 2147483648 by omega)]; rfl
def cpyU (f : Nat → Int32) (x : Nat) (h : Nat → Int32) (y i j : Nat) : Int32 := if y ≤ j ∧ j < y + i then f (x + (j - y)) else h j
theorem cpyU_0 {f : Nat → Int32} {x : Nat} {h : Nat → Int32} {y : Nat} : cpyU f x h y 0 = h := by funext j; unfold cpyU; rw [if_neg (by omega)]
theorem cpyU_s {f : Nat → Int32} {x : Nat} {h : Nat → Int32} {y i : Nat} : upd (cpyU f x h y i) (y + i) (f (x + i)) = cpyU f x h y (i + 1) := by
  funext j
  unfold upd cpyU
  by_cases e : j = y + i
  · subst e; rw [if_pos rfl, if_pos (by omega), show y + i - y = i by omega]
  · rw [if_neg e]
    by_cases e2 : y ≤ j ∧ j < y + i
    · rw [if_pos e2, if_pos (by omega)]
    · rw [if_neg e2, if_neg (by omega)]
theorem cpyU_in {f : Nat → Int32} {x : Nat} {h : Nat → Int32} {y i j : Nat} (h1 : y ≤ j) (h2 : j < y + i) : cpyU f x h y i j = f (x + (j - y)) := if_pos ⟨h1, h2⟩
theorem cpyU_out {f : Nat → Int32} {x : Nat} {h : Nat → Int32} {y i j : Nat} (h1 : ¬ (y ≤ j ∧ j < y + i)) : cpyU f x h y i j = h j := if_neg h1
def sumZ (f : Nat → Int32) (v : Nat) : Nat → Int32
  | 0 => nI 0
  | j + 1 => sumZ f v j + f (v + (j + 1) - 1)
def zcnt (p : Nat → Bool) : Nat → Nat
  | 0 => 0
  | j + 1 => zcnt p j + (if p (j + 1) = true then 1 else 0)
theorem zcnt_t {p : Nat → Bool} {j : Nat} (h : p (j + 1) = true) : zcnt p (j + 1) = zcnt p j + 1 := by rw [zcnt, if_pos h]
theorem zcnt_f {p : Nat → Bool} {j : Nat} (h : p (j + 1) = false) : zcnt p (j + 1) = zcnt p j := by rw [zcnt, if_neg (by rw [h]; decide)]; rfl
theorem zcnt_le (p : Nat → Bool) : ∀ n, zcnt p n ≤ n
  | 0 => Nat.le_refl 0
  | n + 1 => by have := zcnt_le p n; rw [zcnt]; split <;> omega
theorem zcnt_cong {p q : Nat → Bool} : ∀ {n : Nat}, (∀ d, 1 ≤ d → d ≤ n → p d = q d) → zcnt p n = zcnt q n
  | 0, _ => rfl
  | n + 1, h => by rw [zcnt, zcnt, zcnt_cong (fun d a b => h d a (by omega)), h (n + 1) (by omega) (Nat.le_refl _)]
theorem sumZ_O (σ : Sg) : ∀ n, n ≤ 48 → sumZ (enc σ) 0 n = nI (zcnt (zO σ) n)
  | 0, _ => rfl
  | n + 1, h => by
    rw [sumZ, sumZ_O σ n (by omega), enc_O (by omega) h]
    cases hz : zO σ (n + 1)
    · rw [zcnt_f hz]; show nI _ + nI 0 = _; rw [nI_add]; rfl
    · rw [zcnt_t hz]; show nI _ + nI 1 = _; rw [nI_add]
theorem th_12 {σ : Sg} {d : Nat} (hz : zF σ d = true) : thZ σ d = 1 ∨ thZ σ d = 2 := by
  unfold thZ
  rw [if_pos hz]
  cases zH σ d
  · exact Or.inl rfl
  · exact Or.inr rfl
theorem th_zero {σ : Sg} {d : Nat} (h : thZ σ d ≤ 0) : zF σ d = false := by
  cases hz : zF σ d
  · rfl
  · rcases th_12 hz with h2 | h2 <;> rw [h2] at h <;> exact absurd h (by decide)
theorem th_pos {σ : Sg} {d : Nat} (h : ¬ thZ σ d ≤ 0) : zF σ d = true := by
  cases hz : zF σ d
  · exact absurd (by unfold thZ; rw [if_neg (by rw [hz]; decide)]; decide) h
  · rfl
theorem kind_t {σ : Sg} {kd : Bool} {d : Nat} (h : thZ σ d = bI kd + nI 1) : kindP σ kd d = true := by
  unfold thZ at h; unfold kindP
  cases hz : zF σ d <;> cases hh : zH σ d <;> cases kd <;> rw [hz, hh] at h <;> first | rfl | exact absurd h (by decide)
theorem kind_f {σ : Sg} {kd : Bool} {d : Nat} (h : ¬ thZ σ d = bI kd + nI 1) : kindP σ kd d = false := by
  unfold thZ at h; unfold kindP
  cases hz : zF σ d <;> cases hh : zH σ d <;> cases kd <;> rw [hz, hh] at h <;> first | rfl | exact absurd (by decide) h
/-! ===== the reference's history: 4 states, one behind the other ===== -/
theorem door_t {k : Nat} (h : 1 ≤ k ∧ k ≤ 48) : decide (1 ≤ (nI k).toInt ∧ (nI k).toInt ≤ 48) = true := by
  rw [ki_n (by omega), decide_eq_true_iff]; omega
theorem door_f {n : Int32} (h : ¬ (1 ≤ n.toInt ∧ n.toInt ≤ 48)) : decide (1 ≤ n.toInt ∧ n.toInt ≤ 48) = false := decide_eq_false h
theorem in_t {n t b : Nat} (h1 : n ≤ t) (h2 : t ≤ b) (h3 : b < 2147483648) : decide ((nI n).toInt ≤ (nI t).toInt ∧ (nI t).toInt ≤ (nI b).toInt) = true := by
  rw [ki_n (by omega), ki_n (by omega), ki_n h3, decide_eq_true_iff]; omega
theorem in_f {n t : Int32} (h : ¬ (1 ≤ n.toInt ∧ n.toInt ≤ t.toInt ∧ t.toInt ≤ 48)) (h2 : decide (1 ≤ n.toInt ∧ n.toInt ≤ 48) = true) : decide (n.toInt ≤ t.toInt ∧ t.toInt ≤ (nI 48).toInt) = false := by
  rw [ki_n (show 48 < 2147483648 by omega)]
  have h3 := of_decide_eq_true h2
  refine decide_eq_false fun hc => h ?_
  omega
theorem kind_b (kd : Bool) : decide (bI kd = 0 ∨ bI kd = 1) = true := by cases kd <;> decide
theorem kind_o {n k : Int32} (h : ¬ ((1 ≤ n.toInt ∧ n.toInt ≤ 48) ∧ (k = 0 ∨ k = 1))) (h2 : decide (1 ≤ n.toInt ∧ n.toInt ≤ 48) = true) : decide (k = 0 ∨ k = 1) = false := decide_eq_false fun hc => h ⟨of_decide_eq_true h2, hc⟩
theorem reasZ_le (σ : Sg) (d : Nat) (kd : Bool) : reasZ σ d kd ≤ 3 := by
  unfold reasZ
  by_cases h1 : zO σ d = false
  · rw [if_pos h1]; omega
  · rw [if_neg h1]
    by_cases h2 : zF σ d = true
    · rw [if_pos h2]; omega
    · rw [if_neg h2]
      by_cases h3 : fitZ d kd = true
      · rw [if_pos h3]; omega
      · rw [if_neg h3]; omega
def sup (γ : Nat → Sg) (n : Nat) (σ : Sg) : Nat → Sg := fun j => if j = n then σ else γ j
theorem sup_s {γ : Nat → Sg} {n : Nat} {σ : Sg} : sup γ n σ n = σ := if_pos rfl
theorem sup_n {γ : Nat → Sg} {n j : Nat} {σ : Sg} (h : j ≠ n) : sup γ n σ j = γ j := if_neg h
def shG (γ : Nat → Sg) : Nat → Sg := fun j => if j < 3 then γ (j + 1) else γ j
def pushG (γ : Nat → Sg) (n : Nat) (σ : Sg) : Nat → Sg := if n < 4 then sup γ n σ else sup (shG γ) 3 σ
def pushN (n : Nat) : Nat := if n < 4 then n + 1 else 4
theorem pushG_l {γ : Nat → Sg} {n : Nat} {σ : Sg} (h : n < 4) : pushG γ n σ = sup γ n σ := if_pos h
theorem pushN_l {n : Nat} (h : n < 4) : pushN n = n + 1 := if_pos h
theorem pushN_le {n : Nat} : pushN n ≤ 4 := by unfold pushN; split <;> omega
def pst (γ : Nat → Sg) (i : Nat) : Int32 := enc (γ (i / 288)) (i % 288)
def shf (γ : Nat → Sg) (i j : Nat) : Int32 := if j < i then pst γ (j + 288) else pst γ j
theorem shf_0 {γ : Nat → Sg} : shf γ 0 = pst γ := by funext j; unfold shf; rw [if_neg (by omega)]
theorem shf_g {γ : Nat → Sg} {i : Nat} : shf γ i (i + 288) = pst γ (i + 288) := by unfold shf; rw [if_neg (by omega)]
theorem shf_s {γ : Nat → Sg} {i : Nat} : upd (shf γ i) i (pst γ (i + 288)) = shf γ (i + 1) := by
  funext j
  unfold upd shf
  by_cases e : j = i
  · subst e; rw [if_pos rfl, if_pos (by omega)]
  · rw [if_neg e]
    by_cases e2 : j < i
    · rw [if_pos e2, if_pos (by omega)]
    · rw [if_neg e2, if_neg (by omega)]
theorem shf_e {γ : Nat → Sg} {j : Nat} (hj : j < 1152) : shf γ 864 j = pst (shG γ) j := by
  unfold shf pst shG
  by_cases e : j < 864
  · rw [if_pos e, if_pos (by omega), show (j + 288) / 288 = j / 288 + 1 by omega, show (j + 288) % 288 = j % 288 by omega]
  · rw [if_neg e, if_neg (by omega)]
theorem pst_sup {γ : Nat → Sg} {n : Nat} {σ : Sg} (hn : n < 4) {j : Nat} (hj : j < 1152) : cpyU (enc σ) 0 (pst γ) (288 * n) 288 j = pst (sup γ n σ) j := by
  by_cases e : 288 * n ≤ j ∧ j < 288 * n + 288
  · rw [cpyU_in e.1 e.2]; unfold pst; rw [show j / 288 = n by omega, sup_s]; congr 1; omega
  · rw [cpyU_out e]; unfold pst; rw [sup_n (by omega)]
theorem pst_blk {γ : Nat → Sg} {n : Nat} {h : Nat → Int32} {j : Nat} (hj : j < 288) : cpyU (pst γ) (288 * n) h 0 288 j = enc (γ n) j := by
  rw [cpyU_in (by omega) (by omega)]; unfold pst
  rw [show (288 * n + (j - 0)) / 288 = n by omega, show (288 * n + (j - 0)) % 288 = j by omega]
theorem nI_ne11 {n : Nat} (h : n < 2147483648) : nI n ≠ (-11) := fun e => by
  have h1 := ki_n h; rw [e] at h1; have h2 : ((-11 : Int32)).toInt = -11 := by decide
  omega
theorem nI_ne12 {n : Nat} (h : n < 2147483648) : nI n ≠ (-12) := fun e => by
  have h1 := ki_n h; rw [e] at h1; have h2 : ((-12 : Int32)).toInt = -12 := by decide
  omega
theorem cnt_ne (p : Nat → Bool) : nI (zcnt p 48) ≠ (-11) ∧ nI (zcnt p 48) ≠ (-12) := by
  have := zcnt_le p 48
  exact ⟨nI_ne11 (by omega), nI_ne12 (by omega)⟩
theorem rowC_le (n : Nat) (σ : Sg) : ∀ j, rowC n j σ ≤ j
  | 0 => Nat.le_refl 0
  | j + 1 => by have := rowC_le n σ j; rw [rowC]; split <;> omega
theorem rowC_ne {n j : Nat} {σ : Sg} (h : j ≤ 48) : nI (rowC n j σ) ≠ (-11) ∧ nI (rowC n j σ) ≠ (-12) := by
  have := rowC_le n σ j
  exact ⟨nI_ne11 (by omega), nI_ne12 (by omega)⟩
theorem bI_ne (b : Bool) : bI b ≠ (-11) ∧ bI b ≠ (-12) := by cases b <;> decide
theorem bI_ge (b : Bool) : 0 ≤ bI b := by cases b <;> decide
section ENC2
variable {σ : Sg} {d : Nat} {kd : Bool}
theorem enc_lock (h1 : 1 ≤ d) (h2 : d ≤ 48) : upd (enc σ) (48 + d - 1) (bI (!zL σ d)) = enc (lockS d σ) := by
  refine enc_ext (fun j hj => by rw [upd_n (by omega), enc_out hj]) (fun a p q => ?_) (fun a p q => ?_) (fun a p q => ?_) (fun a p q => ?_) (fun a p q => ?_) (fun a p q => ?_)
  · rw [upd_n (by omega), enc_O p q]; rfl
  · by_cases e : a = d
    · subst e; rw [upd_s]; show bI (!zL σ a) = bI (bup (zL σ) a (!zL σ a) a); rw [bup_s]
    · rw [upd_n (by omega), enc_L p q]; show bI (zL σ a) = bI (bup (zL σ) d (!zL σ d) a); rw [bup_n e]
  · rw [upd_n (by omega), enc_T p q]; rfl
  · rw [upd_n (by omega), enc_S p q]; rfl
  · rw [upd_n (by omega), enc_I p q]; rfl
  · rw [upd_n (by omega), enc_H p q]; rfl
theorem enc_skip (h1 : 1 ≤ d) (h2 : d ≤ 48) : upd (enc σ) (144 + d - 1) (bI (!zS σ d)) = enc (skipS d σ) := by
  refine enc_ext (fun j hj => by rw [upd_n (by omega), enc_out hj]) (fun a p q => ?_) (fun a p q => ?_) (fun a p q => ?_) (fun a p q => ?_) (fun a p q => ?_) (fun a p q => ?_)
  · rw [upd_n (by omega), enc_O p q]; rfl
  · rw [upd_n (by omega), enc_L p q]; rfl
  · rw [upd_n (by omega), enc_T p q]; rfl
  · by_cases e : a = d
    · subst e; rw [upd_s]; show bI (!zS σ a) = bI (bup (zS σ) a (!zS σ a) a); rw [bup_s]
    · rw [upd_n (by omega), enc_S p q]; show bI (zS σ a) = bI (bup (zS σ) d (!zS σ d) a); rw [bup_n e]
  · rw [upd_n (by omega), enc_I p q]; rfl
  · rw [upd_n (by omega), enc_H p q]; rfl
theorem enc_put (h1 : 1 ≤ d) (h2 : d ≤ 48) : upd (enc σ) (240 + d - 1) (bI kd + nI 1) = enc (putS d kd σ) := by
  refine enc_ext (fun j hj => by rw [upd_n (by omega), enc_out hj]) (fun a p q => ?_) (fun a p q => ?_) (fun a p q => ?_) (fun a p q => ?_) (fun a p q => ?_) (fun a p q => ?_)
  · rw [upd_n (by omega), enc_O p q]; rfl
  · rw [upd_n (by omega), enc_L p q]; rfl
  · rw [upd_n (by omega), enc_T p q]; rfl
  · rw [upd_n (by omega), enc_S p q]; rfl
  · rw [upd_n (by omega), enc_I p q]; rfl
  · by_cases e : a = d
    · subst e; rw [upd_s]; show _ = (if bup (zF σ) a true a = true then (if bup (zH σ) a kd a = true then (2 : Int32) else 1) else 0)
      rw [bup_s, bup_s]; cases kd <;> rfl
    · rw [upd_n (by omega), enc_H p q]; show _ = (if bup (zF σ) d true a = true then (if bup (zH σ) d kd a = true then (2 : Int32) else 1) else 0)
      rw [bup_n e, bup_n e]; rfl
theorem enc_clr (h1 : 1 ≤ d) (h2 : d ≤ 48) : upd (enc σ) (240 + d - 1) (nI 0) = enc (clrS d σ) := by
  refine enc_ext (fun j hj => by rw [upd_n (by omega), enc_out hj]) (fun a p q => ?_) (fun a p q => ?_) (fun a p q => ?_) (fun a p q => ?_) (fun a p q => ?_) (fun a p q => ?_)
  · rw [upd_n (by omega), enc_O p q]; rfl
  · rw [upd_n (by omega), enc_L p q]; rfl
  · rw [upd_n (by omega), enc_T p q]; rfl
  · rw [upd_n (by omega), enc_S p q]; rfl
  · rw [upd_n (by omega), enc_I p q]; rfl
  · by_cases e : a = d
    · subst e; rw [upd_s]; show _ = (if bup (zF σ) a false a = true then (if zH σ a = true then (2 : Int32) else 1) else 0)
      rw [bup_s]; rfl
    · rw [upd_n (by omega), enc_H p q]; show _ = (if bup (zF σ) d false a = true then (if zH σ a = true then (2 : Int32) else 1) else 0)
      rw [bup_n e]; rfl
end ENC2
def thM (σ : Sg) (d : Nat) : Int32 := thZ σ d - nI 1
theorem thM_n {σ : Sg} {d : Nat} (h : zF σ d = false) : ¬ thM σ d ≥ 0 := by
  have e : thZ σ d = 0 := by unfold thZ; rw [if_neg (by rw [h]; decide)]
  unfold thM; rw [e]; decide
theorem thM_p {σ : Sg} {d : Nat} (h : zF σ d = true) : thM σ d = bI (zH σ d) := by
  unfold thM thZ; rw [if_pos h]; cases zH σ d <;> rfl
/-! ===== reading: divisors, open doors, passes that would close all ===== -/
def dvP (d k : Nat) : Bool := decide (k ∣ d)
theorem dvP_t {d k : Nat} (h : d % k = 0) : dvP d k = true := decide_eq_true (Nat.dvd_of_mod_eq_zero h)
theorem dvP_f {d k : Nat} (h : d % k ≠ 0) : dvP d k = false := decide_eq_false fun hc => h (Nat.mod_eq_zero_of_dvd hc)
theorem zcnt_more {p : Nat → Bool} {a : Nat} : ∀ {n : Nat}, a ≤ n → (∀ d, a < d → d ≤ n → p d = false) → zcnt p n = zcnt p a
  | 0, h, _ => by have : a = 0 := by omega
                  subst this; rfl
  | n + 1, h, hf => by
    by_cases e : a = n + 1
    · subst e; rfl
    · rw [zcnt_f (hf (n + 1) (by omega) (Nat.le_refl _)), zcnt_more (by omega) (fun d h1 h2 => hf d h1 (by omega))]
theorem dvP_48 {d : Nat} (h1 : 1 ≤ d) (h2 : d ≤ 48) : zcnt (dvP d) 48 = zcnt (dvP d) d :=
  zcnt_more h2 fun k h3 _ => decide_eq_false fun hc => by have := Nat.le_of_dvd (by omega) hc; omega
def zBu (p : Nat → Bool) (n : Nat) : Int64 := zB (fun j => p j && decide (j ≤ n))
theorem zBu_0 {p : Nat → Bool} : zBu p 0 = 0 := by
  rw [← zB_0]
  refine zB_cong fun d h1 _ => ?_
  rw [show decide (d ≤ 0) = false from decide_eq_false (by omega), Bool.and_false]
theorem zBu_e {p : Nat → Bool} : zBu p 48 = zB p := zB_cong fun d _ h2 => by rw [decide_eq_true h2, Bool.and_true]
theorem zBu_f {p : Nat → Bool} {j : Nat} (h : p (j + 1) = false) : zBu p j ||| 0 = zBu p (j + 1) := by
  have e : zBu p j ||| 0 = zBu p j := zG_ext fun i _ => by rw [zG_or, ← zB_0, zG_B]; simp
  rw [e]
  refine zB_cong fun d _ _ => ?_
  by_cases hd : d = j + 1
  · subst hd; rw [h]; rfl
  · rw [show decide (d ≤ j + 1) = decide (d ≤ j) by simp only [decide_eq_decide]; omega]
theorem zBu_t {p : Nat → Bool} {j : Nat} (hj : j + 1 ≤ 48) (h : p (j + 1) = true) : zBu p j ||| zbit (j + 1) = zBu p (j + 1) := by
  refine zB_set (by omega) hj ?_ ?_
  · rw [h, decide_eq_true (Nat.le_refl _)]; rfl
  · intro d hd; rw [show decide (d ≤ j + 1) = decide (d ≤ j) by simp only [decide_eq_decide]; omega]
theorem zm_sbit (x : Int64) {d : Nat} (h : d < 64) : (x >>> ((nI d).toInt64 &&& 63)) &&& 1 = (if zG x d = true then 1 else 0) := by
  have e1 : (1 : Int64) = zbit 0 := by decide
  have e0 : zG (x >>> ((nI d).toInt64 &&& 63)) 0 = zG x d := by
    unfold zG
    rw [wb_c d h, Int64.toBitVec_shiftRight, wb_tb, wb_sm d h]
    unfold BitVec.sshiftRight'
    rw [BitVec.getLsbD_sshiftRight, BitVec.toNat_ofNat, Nat.mod_eq_of_lt (by omega)]
    simp [h]
  refine zG_ext fun j hj => ?_
  rw [zG_and]
  by_cases j0 : j = 0
  · subst j0
    rw [e0, e1, zG_bit 0 0 (by omega)]
    cases hz : zG x d
    · rw [if_neg (by decide)]; decide
    · rw [if_pos rfl, zG_bit 0 0 (by omega)]; rfl
  · have e2 : zG 1 j = false := by rw [e1, zG_bit 0 j hj]; exact decide_eq_false (fun hc => j0 hc.symm)
    have e3 : zG 0 j = false := by rw [← zB_0, zG_B]; simp
    rw [e2, Bool.and_false]
    cases hz : zG x d
    · rw [if_neg (by decide), e3]
    · rw [if_pos rfl, e2]
theorem zm_hasL1 {x : Int64} {d : Nat} (h : d < 64) (hc : lg_cmp ((x >>> ((nI d).toInt64 &&& 63)) &&& 1) 1 = 0) : zG x d = true := by
  rw [zm_sbit x h] at hc
  cases hz : zG x d
  · rw [hz] at hc; exact absurd hc (by decide)
  · rfl
theorem zm_hasL0 {x : Int64} {d : Nat} (h : d < 64) (hc : ¬ lg_cmp ((x >>> ((nI d).toInt64 &&& 63)) &&& 1) 1 = 0) : zG x d = false := by
  rw [zm_sbit x h] at hc
  cases hz : zG x d
  · rfl
  · rw [hz] at hc; exact absurd (by decide) hc
/-- going up the row: what is open, and which passes are taken, behind the pass j -/
def clO (p : Nat → Bool) : Nat → Nat → Bool
  | 0 => p
  | j + 1 => fun d => (clO p j d ^^ (clO p j (j + 1) && mulA (j + 1) d))
def clP (p : Nat → Bool) : Nat → Nat → Bool
  | 0 => fun _ => false
  | j + 1 => fun d => clP p j d || (decide (d = j + 1) && clO p j (j + 1))
theorem clO_at (p : Nat → Bool) (j d : Nat) : clO p (j + 1) d = (clO p j d ^^ (clO p j (j + 1) && mulA (j + 1) d)) := rfl
theorem clP_at (p : Nat → Bool) (j d : Nat) : clP p (j + 1) d = (clP p j d || (decide (d = j + 1) && clO p j (j + 1))) := rfl
theorem zG_0 (j : Nat) : zG 0 j = false := by rw [← zB_0, zG_B]; simp
theorem clO_f {p : Nat → Bool} {j : Nat} (h : clO p j (j + 1) = false) : zB (clO p j) ^^^ 0 = zB (clO p (j + 1)) := by
  have e : zB (clO p j) ^^^ 0 = zB (clO p j) := zG_ext fun i _ => by rw [zG_xor, zG_0, Bool.xor_false]
  rw [e]
  exact zB_cong fun d _ _ => by rw [clO_at, h, Bool.false_and, Bool.xor_false]
theorem clO_t {p : Nat → Bool} {j : Nat} (h : clO p j (j + 1) = true) : zB (clO p j) ^^^ zB (mulA (j + 1)) = zB (clO p (j + 1)) := by
  refine zG_ext fun i _ => ?_
  rw [zG_xor, zG_B, zG_B, zG_B, clO_at, h, Bool.true_and]
  cases decide (1 ≤ i) <;> cases decide (i ≤ 48) <;> simp
theorem clP_f {p : Nat → Bool} {j : Nat} (h : clO p j (j + 1) = false) : zB (clP p j) ||| 0 = zB (clP p (j + 1)) := by
  have e : zB (clP p j) ||| 0 = zB (clP p j) := zG_ext fun i _ => by rw [zG_or, zG_0, Bool.or_false]
  rw [e]
  exact zB_cong fun d _ _ => by rw [clP_at, h, Bool.and_false, Bool.or_false]
theorem clP_t {p : Nat → Bool} {j : Nat} (hj : j + 1 ≤ 48) (h : clO p j (j + 1) = true) : zB (clP p j) ||| zbit (j + 1) = zB (clP p (j + 1)) := by
  refine zB_set (by omega) hj ?_ ?_
  · rw [clP_at, h, Bool.and_true, decide_eq_true rfl, Bool.or_true]
  · intro d hd; rw [clP_at, decide_eq_false hd, Bool.false_and, Bool.or_false]
def shutP (σ : Sg) (d : Nat) : Bool := zF σ d && !zO σ d
/-! the best pass -/
def flipP (σ : Sg) (k j d : Nat) : Bool := (zO σ d ^^ (mulP k j d && !zL σ d))
def opF (σ : Sg) (k : Nat) : Nat := zcnt (fun d => (zO σ d ^^ turnP σ k d)) 48
theorem flipP_0 {σ : Sg} {k : Nat} (hk : 1 ≤ k) : zcnt (flipP σ k (0 + 1)) 48 = zcnt (zO σ) 48 := by
  refine zcnt_cong fun d h1 _ => ?_
  unfold flipP mulP
  cases hd : decide (k ∣ d)
  · rw [Bool.false_and, Bool.false_and, Bool.xor_false]
  · have h2 : k ≤ d := Nat.le_of_dvd h1 (of_decide_eq_true hd)
    have h3 : 1 ≤ d / k := (Nat.le_div_iff_mul_le hk).mpr (by omega)
    rw [show decide (d / k < 0 + 1) = false from decide_eq_false (by omega), Bool.and_false, Bool.false_and, Bool.xor_false]
theorem flipP_e {σ : Sg} {k : Nat} (hk : 1 ≤ k) : zcnt (flipP σ k (48 / k + 1)) 48 = opF σ k := by
  refine zcnt_cong fun d _ h2 => ?_
  unfold flipP turnP mulP mulA
  have h3 : d / k ≤ 48 / k := Nat.div_le_div_right h2
  rw [show decide (d / k < 48 / k + 1) = true from decide_eq_true (by omega), Bool.and_true]
theorem mulP_at {k j d : Nat} (hk : 1 ≤ k) : mulP k (j + 1) d = (mulP k j d || decide (d = j * k)) := by
  unfold mulP
  cases hdv : decide (k ∣ d)
  · have h1 : ¬ d = j * k := fun e => absurd (of_decide_eq_false hdv) (fun h => h (by rw [e]; exact Nat.dvd_mul_left k j))
    rw [decide_eq_false h1]; rfl
  · have h1 : d / k * k = d := Nat.div_mul_cancel (of_decide_eq_true hdv)
    have h2 : d = j * k ↔ d / k = j := ⟨fun e => by rw [e]; exact Nat.mul_div_cancel j hk, fun e => by rw [← e, h1]⟩
    rw [Bool.true_and, Bool.true_and, show decide (d = j * k) = decide (d / k = j) from by simp only [decide_eq_decide]; exact h2]
    by_cases e : d / k = j
    · rw [decide_eq_true e, decide_eq_true (by omega), Bool.or_true]
    · rw [decide_eq_false e, Bool.or_false, decide_eq_decide]; omega
theorem mulP_no {k j : Nat} (hk : 1 ≤ k) : mulP k j (j * k) = false := by
  unfold mulP
  rw [Nat.mul_div_cancel j hk, decide_eq_false (Nat.lt_irrefl j), Bool.and_false]
/-- one place turned -/
theorem zcnt_bump {p q : Nat → Bool} {a : Nat} (h1 : 1 ≤ a) (hp : p a = false) (hq : q a = true) (hn : ∀ d, d ≠ a → q d = p d) : ∀ n, a ≤ n → zcnt q n = zcnt p n + 1
  | 0, h => by omega
  | n + 1, h => by
    by_cases e : a = n + 1
    · rw [zcnt_t (by rw [← e]; exact hq), zcnt_f (p := p) (by rw [← e]; exact hp), zcnt_cong (fun d _ h3 => hn d (by omega))]
    · rw [zcnt, zcnt, zcnt_bump h1 hp hq hn n (by omega), hn (n + 1) (by omega)]; omega
section FLIP
variable {σ : Sg} {k j : Nat}
theorem flipP_l (hk : 1 ≤ k) (hj : j + 1 ≤ 48 / k) (hj1 : 1 ≤ (j + 1) * k) (h : (j + 1) * k ≤ 48) (hl : zL σ ((j + 1) * k) = true) : zcnt (flipP σ k (j + 1 + 1)) 48 = zcnt (flipP σ k (j + 1)) 48 := by
  refine zcnt_cong fun d _ _ => ?_
  unfold flipP
  rw [mulP_at hk]
  by_cases e : d = (j + 1) * k
  · subst e; rw [hl]; simp
  · rw [decide_eq_false e, Bool.or_false]
theorem flipP_c (hk : 1 ≤ k) (hj : j + 1 ≤ 48 / k) (hj1 : 1 ≤ (j + 1) * k) (h : (j + 1) * k ≤ 48) (hl : zL σ ((j + 1) * k) = false) (ho : zO σ ((j + 1) * k) = false) : nI (zcnt (flipP σ k (j + 1)) 48) + nI 1 = nI (zcnt (flipP σ k (j + 1 + 1)) 48) := by
  rw [nI_add, zcnt_bump (p := flipP σ k (j + 1)) (q := flipP σ k (j + 1 + 1)) hj1 ?_ ?_ ?_ 48 h]
  · unfold flipP; rw [mulP_no hk, ho]; rfl
  · unfold flipP; rw [mulP_at hk, mulP_no hk, ho, hl, decide_eq_true rfl]; rfl
  · intro d hd; unfold flipP; rw [mulP_at (j := j + 1) hk, decide_eq_false hd, Bool.or_false]
theorem flipP_o (hk : 1 ≤ k) (hj : j + 1 ≤ 48 / k) (hj1 : 1 ≤ (j + 1) * k) (h : (j + 1) * k ≤ 48) (hl : zL σ ((j + 1) * k) = false) (ho : zO σ ((j + 1) * k) = true) : nI (zcnt (flipP σ k (j + 1)) 48) + (-1) = nI (zcnt (flipP σ k (j + 1 + 1)) 48) := by
  rw [zcnt_bump (p := flipP σ k (j + 1 + 1)) (q := flipP σ k (j + 1)) hj1 ?_ ?_ ?_ 48 h, pk_m1]
  · unfold flipP; rw [mulP_at hk, mulP_no hk, ho, hl, decide_eq_true rfl]; rfl
  · unfold flipP; rw [mulP_no hk, ho]; rfl
  · intro d hd; unfold flipP; rw [mulP_at (j := j + 1) hk, decide_eq_false hd, Bool.or_false]
end FLIP
/-- the least of f 1 .. f n, below 49; and where it is found first (a, if nowhere) -/
def bstV (f : Nat → Nat) : Nat → Nat
  | 0 => 49
  | k + 1 => if f (k + 1) < bstV f k then f (k + 1) else bstV f k
def bstN (f : Nat → Nat) (a : Nat) : Nat → Nat
  | 0 => a
  | k + 1 => if f (k + 1) < bstV f k then k + 1 else bstN f a k
theorem bstV_t {f : Nat → Nat} {k : Nat} (h : f (k + 1) < bstV f k) : bstV f (k + 1) = f (k + 1) := if_pos h
theorem bstV_f {f : Nat → Nat} {k : Nat} (h : ¬ f (k + 1) < bstV f k) : bstV f (k + 1) = bstV f k := if_neg h
theorem bstN_t {f : Nat → Nat} {a k : Nat} (h : f (k + 1) < bstV f k) : bstN f a (k + 1) = k + 1 := if_pos h
theorem bstN_f {f : Nat → Nat} {a k : Nat} (h : ¬ f (k + 1) < bstV f k) : bstN f a (k + 1) = bstN f a k := if_neg h
theorem bstV_le (f : Nat → Nat) : ∀ k, bstV f k ≤ 49
  | 0 => Nat.le_refl _
  | k + 1 => by have := bstV_le f k; rw [bstV]; split <;> omega
theorem bstN_le (f : Nat → Nat) : ∀ k, bstN f 0 k ≤ k
  | 0 => Nat.le_refl _
  | k + 1 => by have := bstN_le f k; rw [bstN]; split <;> omega
/-- with a first number below 49 the start does not matter -/
theorem bstN_any {f : Nat → Nat} (h : f 1 < 49) (a b : Nat) : ∀ k, bstN f a (k + 1) = bstN f b (k + 1)
  | 0 => by rw [bstN_t h, bstN_t h]
  | k + 1 => by
    by_cases hc : f (k + 1 + 1) < bstV f (k + 1)
    · rw [bstN_t hc, bstN_t hc]
    · rw [bstN_f hc, bstN_f hc, bstN_any h a b k]
theorem opF_le (σ : Sg) (k : Nat) : opF σ k ≤ 48 := zcnt_le _ _

