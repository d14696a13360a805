/-! ===== the law: passes that close, the best pass, things, texts ===== -/
def alP (p : Nat → Bool) (j d : Nat) : Bool := (p d ^^ sx (fun k => clP p 48 k && mulA k d) j)
theorem alP_0 (p : Nat → Bool) : zB (alP p 0) = zB p := zB_cong fun d _ _ => by unfold alP; rw [sx, Bool.xor_false]
theorem alP_t {p : Nat → Bool} {j : Nat} (h : clP p 48 (j + 1) = true) : zB (alP p j) ^^^ zB (mulA (j + 1)) = zB (alP p (j + 1)) := by
  rw [zB_xor]
  refine zB_cong fun d _ _ => ?_
  unfold alP
  rw [sx, h, Bool.true_and, Bool.xor_assoc]
theorem alP_f {p : Nat → Bool} {j : Nat} (h : clP p 48 (j + 1) = false) : zB (alP p j) ^^^ 0 = zB (alP p (j + 1)) := by
  rw [xor_0]
  refine zB_cong fun d _ _ => ?_
  unfold alP
  rw [sx, h, Bool.false_and, Bool.xor_false]
theorem alP_e (p : Nat → Bool) : zB (alP p 48) = 0 := by
  rw [← zB_0]
  refine zB_cong fun d h1 h2 => ?_
  unfold alP
  have e := p_sx p h1 h2
  have e2 : sx (fun k => clP p 48 k && mulA k d) 48 = sx (fun k => upX p k && mulA k d) 48 := by
    refine sx_cong fun k a b => ?_
    rw [clP_up, decide_eq_true a, decide_eq_true b, Bool.true_and, Bool.true_and]
  rw [e2, ← e, Bool.xor_self]
theorem cdP_clP (σ : Sg) : zB (cdP (zO σ)) = zB (clP (zO σ) 48) := zB_cong fun k h1 h2 => cdP_at (zO σ) h1 h2
theorem bst_s {f : Nat → Nat} (hf : ∀ k, f k ≤ 48) : ∀ n, bstV f (n + 1) = f (bstN f 1 (n + 1)) ∧ 1 ≤ bstN f 1 (n + 1) ∧ bstN f 1 (n + 1) ≤ n + 1 ∧ (∀ k, 1 ≤ k → k ≤ n + 1 → f (bstN f 1 (n + 1)) ≤ f k) ∧ (∀ k, 1 ≤ k → k < bstN f 1 (n + 1) → f (bstN f 1 (n + 1)) < f k)
  | 0 => by
    have h1 : f (0 + 1) < bstV f 0 := by have := hf (0 + 1); show _ < 49; omega
    rw [bstV_t h1, bstN_t h1]
    exact ⟨rfl, by omega, by omega, fun k a b => by rw [show k = 0 + 1 by omega]; exact Nat.le_refl _, fun k a b => by omega⟩
  | n + 1 => by
    obtain ⟨i1, i2, i3, i4, i5⟩ := bst_s hf n
    by_cases h : f (n + 1 + 1) < bstV f (n + 1)
    · rw [bstV_t h, bstN_t h]
      refine ⟨rfl, by omega, by omega, fun k a b => ?_, fun k a b => ?_⟩
      · by_cases e : k = n + 1 + 1
        · rw [e]; exact Nat.le_refl _
        · have := i4 k a (by omega); rw [i1] at h; omega
      · have := i4 k a (by omega); rw [i1] at h; omega
    · rw [bstV_f h, bstN_f h]
      refine ⟨i1, i2, by omega, fun k a b => ?_, i5⟩
      by_cases e : k = n + 1 + 1
      · rw [e]; rw [i1] at h; omega
      · exact i4 k a (by omega)
/-- the best pass -/
def bsN (σ : Sg) : Nat := bstN (opF σ) 1 48
theorem bsN_b (σ : Sg) : 1 ≤ bsN σ ∧ bsN σ ≤ 48 := by
  obtain ⟨-, a, b, -, -⟩ := bst_s (f := opF σ) (opF_le σ) 47
  exact ⟨a, b⟩
theorem bsN_le (σ : Sg) {k : Nat} (h1 : 1 ≤ k) (h2 : k ≤ 48) : opF σ (bsN σ) ≤ opF σ k := by
  obtain ⟨-, -, -, a, -⟩ := bst_s (f := opF σ) (opF_le σ) 47
  exact a k h1 h2
theorem bsN_lt (σ : Sg) {k : Nat} (h1 : 1 ≤ k) (h2 : k < bsN σ) : opF σ (bsN σ) < opF σ k := by
  obtain ⟨-, -, -, -, a⟩ := bst_s (f := opF σ) (opF_le σ) 47
  exact a k h1 h2
/-! things -/
theorem kind_put {σ : Sg} {d : Nat} {kd : Bool} (h1 : 1 ≤ d) (h2 : d ≤ 48) (hf : zF σ d = false) : zcnt (kindP (putS d kd σ) kd) 48 = zcnt (kindP σ kd) 48 + 1 := by
  refine zcnt_bump (a := d) h1 ?_ ?_ ?_ 48 h2
  · unfold kindP; rw [hf]; rfl
  · show (bup (zF σ) d true d && (bup (zH σ) d kd d == kd)) = true
    rw [bup_s, bup_s]; cases kd <;> rfl
  · intro j hj
    show (bup (zF σ) d true j && (bup (zH σ) d kd j == kd)) = _
    rw [bup_n hj, bup_n hj]; rfl
theorem kind_put2 {σ : Sg} {d : Nat} {kd ko : Bool} (hk : ko ≠ kd) (hf : zF σ d = false) : zcnt (kindP (putS d kd σ) ko) 48 = zcnt (kindP σ ko) 48 := by
  refine zcnt_cong fun j _ _ => ?_
  show (bup (zF σ) d true j && (bup (zH σ) d kd j == ko)) = (zF σ j && (zH σ j == ko))
  by_cases e : j = d
  · subst e; rw [bup_s, bup_s, hf]; cases kd <;> cases ko <;> first | rfl | exact absurd rfl hk
  · rw [bup_n e, bup_n e]
theorem kind_clr {σ : Sg} {d : Nat} {kd : Bool} (h1 : 1 ≤ d) (h2 : d ≤ 48) (hf : zF σ d = true) (hh : zH σ d = kd) : zcnt (kindP σ kd) 48 = zcnt (kindP (clrS d σ) kd) 48 + 1 := by
  refine zcnt_bump (a := d) h1 ?_ ?_ ?_ 48 h2
  · show (bup (zF σ) d false d && _) = false
    rw [bup_s]; rfl
  · unfold kindP; rw [hf, hh]; cases kd <;> rfl
  · intro j hj
    show (zF σ j && (zH σ j == kd)) = (bup (zF σ) d false j && (zH σ j == kd))
    rw [bup_n hj]
theorem kind_clr2 {σ : Sg} {d : Nat} {kd : Bool} (hh : zH σ d ≠ kd) : zcnt (kindP (clrS d σ) kd) 48 = zcnt (kindP σ kd) 48 := by
  refine zcnt_cong fun j _ _ => ?_
  show (bup (zF σ) d false j && (zH σ j == kd)) = (zF σ j && (zH σ j == kd))
  by_cases e : j = d
  · subst e; rw [bup_s]
    have : (zH σ j == kd) = false := by cases h : zH σ j <;> cases kd <;> first | rfl | exact absurd h hh
    rw [this]; simp
  · rw [bup_n e]
/-! the digest of a state -/
def lkN (σ : Sg) : Nat → Int64
  | 0 => 25451 + zB (zO σ)
  | j + 1 => 4 * (31 * (31 * (31 * lkN σ j + (zT σ (j + 1)).toInt64) + (zI σ (j + 1)).toInt64) + (thV σ (j + 1)).toInt64) + (bI (zL σ (j + 1))).toInt64 + (if zS σ (j + 1) = true then nI 2 else nI 0).toInt64
def LK (σ : Sg) : Int64 := lkN σ 48
/-! texts as they are typed -/
def tyL : (Nat → Int32) → Nat → List Nat → (Nat → Int32)
  | T, _, [] => T
  | T, L, c :: r => tyL (upd T L (nI c)) (L + 1) r
theorem tyL_app : ∀ (a b : List Nat) (T : Nat → Int32) (L : Nat), tyL T L (a ++ b) = tyL (tyL T L a) (L + a.length) b
  | [], _, _, _ => rfl
  | c :: a, b, T, L => by
    show tyL (upd T L (nI c)) (L + 1) (a ++ b) = tyL (tyL (upd T L (nI c)) (L + 1) a) (L + (a.length + 1)) b
    rw [tyL_app a b, show L + 1 + a.length = L + (a.length + 1) by omega]
theorem tyL_low : ∀ (cs : List Nat) (T : Nat → Int32) (L i : Nat), i < L → tyL T L cs i = T i
  | [], _, _, _, _ => rfl
  | c :: r, T, L, i, h => by
    show tyL (upd T L (nI c)) (L + 1) r i = _
    rw [tyL_low r _ _ _ (by omega), upd_n (by omega)]
theorem tyL_get : ∀ (cs : List Nat) (T : Nat → Int32) (L i : Nat), i < cs.length → tyL T L cs (L + i) = nI (cs.getD i 0)
  | [], _, _, _, h => absurd h (Nat.not_lt_zero _)
  | c :: r, T, L, 0, _ => by
    show tyL (upd T L (nI c)) (L + 1) r L = _
    rw [tyL_low r _ _ _ (by omega), upd_s]; rfl
  | c :: r, T, L, i + 1, h => by
    show tyL (upd T L (nI c)) (L + 1) r (L + (i + 1)) = _
    rw [show L + (i + 1) = L + 1 + i by omega, tyL_get r _ _ _ (by simpa using h)]; rfl
def dgs (v : Nat) : List Nat := if v < 10 then [48 + v] else [48 + v / 10, 48 + v % 10]
def isOrd (o : List Nat) : Prop := (∃ vb a e, (vb = 112 ∨ vb = 100 ∨ vb = 108) ∧ a ≤ 99 ∧ (e = 59 ∨ e = 46) ∧ o = vb :: (dgs a ++ [e])) ∨ (∃ vb a sp b e, (vb = 114 ∨ vb = 116) ∧ a ≤ 99 ∧ (sp = 44 ∨ sp = 46) ∧ b ≤ 99 ∧ (e = 59 ∨ e = 46) ∧ o = vb :: (dgs a ++ (sp :: (dgs b ++ [e]))))
theorem dgs_l (v : Nat) : (v < 10 ∧ dgs v = [48 + v] ∧ (dgs v).length = 1) ∨ (10 ≤ v ∧ dgs v = [48 + v / 10, 48 + v % 10] ∧ (dgs v).length = 2) := by
  unfold dgs
  by_cases h : v < 10
  · rw [if_pos h]; exact Or.inl ⟨h, rfl, rfl⟩
  · rw [if_neg h]; exact Or.inr ⟨by omega, rfl, rfl⟩
theorem isOrd_l {o : List Nat} (h : isOrd o) : 3 ≤ o.length ∧ o.length ≤ 7 := by
  rcases h with ⟨vb, a, e, -, -, -, rfl⟩ | ⟨vb, a, sp, b, e, -, -, -, -, -, rfl⟩
  · rcases dgs_l a with h | h <;> simp [h.2.2]
  · rcases dgs_l a with h | h <;> rcases dgs_l b with h2 | h2 <;> simp [h.2.2, h2.2.2]
def Ords (k : Nat) (cs : List Nat) : Prop := ∃ os : List (List Nat), os.length = k ∧ (∀ o ∈ os, isOrd o) ∧ cs = os.flatten
theorem Ords_0 : Ords 0 [] := by
  refine ⟨[], rfl, ?_, rfl⟩
  intro o h
  cases h
theorem Ords_s {k : Nat} {cs o : List Nat} (h : Ords k cs) (ho : isOrd o) : Ords (k + 1) (cs ++ o) := by
  obtain ⟨os, h1, h2, h3⟩ := h
  refine ⟨os ++ [o], by simp [h1], fun x hx => ?_, by simp [h3]⟩
  rcases List.mem_append.mp hx with hx | hx
  · exact h2 x hx
  · rw [List.mem_singleton.mp hx]; exact ho
theorem flat_l : ∀ (os : List (List Nat)), (∀ o ∈ os, isOrd o) → os.flatten.length ≤ 7 * os.length
  | [], _ => Nat.le_refl _
  | o :: os, h => by
    have h1 := (isOrd_l (h o List.mem_cons_self)).2
    have h2 := flat_l os (fun x hx => h x (List.mem_cons_of_mem _ hx))
    simp only [List.flatten_cons, List.length_append, List.length_cons]
    omega
theorem Ords_l {k : Nat} {cs : List Nat} (h : Ords k cs) : cs.length ≤ 7 * k := by
  obtain ⟨os, h1, h2, h3⟩ := h
  have := flat_l os h2
  rw [h3, ← h1]; exact this
theorem dgZ_n {c : Nat} (h : c < 1000) : dgZ (nI c) = decide (48 ≤ c ∧ c ≤ 57) := by
  unfold dgZ
  rw [nI_toInt (by omega), decide_eq_decide]
  omega
section PARSE
variable {T : Nat → Int32} {L : Nat}
/-- the characters from p on are these -/
def chs (T : Nat → Int32) (L p : Nat) (cs : List Nat) : Prop := ∀ i, i < cs.length → chZ T L (p + i) = nI (cs.getD i 0)
theorem chs_h {p c : Nat} {r : List Nat} (h : chs T L p (c :: r)) : chZ T L p = nI c ∧ chs T L (p + 1) r := by
  refine ⟨h 0 (by simp), fun i hi => ?_⟩
  have := h (i + 1) (by simpa using hi)
  rw [show p + 1 + i = p + (i + 1) by omega, this]; rfl
theorem chs_app {p : Nat} : ∀ {a b : List Nat}, chs T L p (a ++ b) → chs T L p a ∧ chs T L (p + a.length) b := by
  intro a b h
  refine ⟨fun i hi => ?_, fun i hi => ?_⟩
  · have := h i (by rw [List.length_append]; omega)
    rw [this]
    simp only [List.getD_eq_getElem?_getD, List.getElem?_append_left hi]
  · have := h (a.length + i) (by rw [List.length_append]; omega)
    rw [Nat.add_assoc, this]
    simp only [List.getD_eq_getElem?_getD, List.getElem?_append_right (Nat.le_add_right _ _), Nat.add_sub_cancel_left]
/-- a number and what follows it -/
theorem num_end {p v c : Nat} {r : List Nat} (hv : v ≤ 99) (hc : c = 59 ∨ c = 46 ∨ c = 44) (h : chs T L p (dgs v ++ (c :: r))) :
    dgZ (chZ T L p) = true ∧ nEz T L p = p + (dgs v).length ∧ chs T L (p + (dgs v).length) (c :: r) := by
  obtain ⟨ha, hb⟩ := chs_app h
  have hcd : dgZ (nI c) = false := by rw [dgZ_n (by omega)]; exact decide_eq_false (by omega)
  rcases dgs_l v with ⟨h1, h2, h3⟩ | ⟨h1, h2, h3⟩
  · rw [h2] at ha
    have e0 := (chs_h ha).1
    have e1 := (chs_h hb).1
    rw [h3] at e1 hb ⊢
    refine ⟨by rw [e0, dgZ_n (by omega)]; exact decide_eq_true (by omega), ?_, hb⟩
    unfold nEz
    rw [e1, hcd, if_neg (by decide)]
  · rw [h2] at ha
    have e0 := (chs_h ha).1
    have e1 := (chs_h (chs_h ha).2).1
    rw [h3] at hb ⊢
    refine ⟨by rw [e0, dgZ_n (by omega)]; exact decide_eq_true (by omega), ?_, hb⟩
    unfold nEz
    rw [e1, dgZ_n (by omega), decide_eq_true (by omega), if_pos rfl]
/-- an order that is read, is read to its end -/
theorem ord_end {p : Nat} {o : List Nat} (ho : isOrd o) (h : chs T L p o) (hok : pOK T L p = true) : pE T L p = p + o.length := by
  have hv := (pOK_d1 hok).1
  have hd := (pOK_d1 hok).2
  rcases ho with ⟨vb, a, e, hvb, ha, he, rfl⟩ | ⟨vb, a, sp, b, e, hvb, ha, hsp, hb, he, rfl⟩
  · obtain ⟨e0, h1⟩ := chs_h h
    obtain ⟨-, n1, h2⟩ := num_end ha (by omega) h1
    have ht : twZ (chZ T L p) = false := by rw [e0]; rcases hvb with rfl | rfl | rfl <;> decide
    unfold pOK at hok
    rw [ht, if_neg (by decide)] at hok
    simp only [Bool.and_eq_true, decide_eq_true_eq] at hok
    unfold pE
    rw [if_pos hv, if_pos hd, if_neg (by rw [ht]; decide), if_pos hok.2.2, n1]
    simp only [List.length_cons, List.length_append, List.length_nil]
    omega
  · obtain ⟨e0, h1⟩ := chs_h h
    obtain ⟨-, n1, h2⟩ := num_end ha (by omega) h1
    obtain ⟨-, h3⟩ := chs_h h2
    obtain ⟨-, n2, h4⟩ := num_end hb (by omega) h3
    have ht : twZ (chZ T L p) = true := by rw [e0]; rcases hvb with rfl | rfl <;> decide
    unfold pOK at hok
    rw [ht, if_pos rfl] at hok
    simp only [Bool.and_eq_true, decide_eq_true_eq] at hok
    unfold pE
    rw [if_pos hv, if_pos hd, if_pos ht, if_pos hok.2.2.1, if_pos hok.2.2.2.1, if_pos hok.2.2.2.2, n1, n2]
    simp only [List.length_cons, List.length_append, List.length_nil]
    omega
/-- all orders are read one by one -/
theorem run_cnt : ∀ (os : List (List Nat)) (f p : Nat) (σ : Sg) (n : Nat), (∀ o ∈ os, isOrd o) → chs T L p os.flatten → p + os.flatten.length = L → os.length ≤ f → (runF T L f p σ n).1 = 0 → (runF T L f p σ n).2.2.2.1 = n + os.length
  | [], f, p, σ, n, _, _, hL, _, _ => by
    rw [runF_end (by simp at hL; omega)]; rfl
  | o :: os, f, p, σ, n, ho, hc, hL, hf, h0 => by
    obtain ⟨f, rfl⟩ : ∃ g, f = g + 1 := ⟨f - 1, by simp at hf; omega⟩
    have hl := isOrd_l (ho o List.mem_cons_self)
    simp only [List.flatten_cons, List.length_append] at hL
    have hp : ¬ L ≤ p := by omega
    obtain ⟨c1, c2⟩ := chs_app (a := o) (b := os.flatten) (by simpa using hc)
    cases hok : pOK T L p
    · rw [runF_bad hp hok] at h0; cases h0
    · by_cases hz : cauZ (chZ T L p) (pN1 T L p) (pN2x T L p) σ = 0
      · rw [runF_go hp hok hz] at h0 ⊢
        rw [ord_end (ho o List.mem_cons_self) c1 hok] at h0 ⊢
        rw [run_cnt os f _ _ _ (fun x hx => ho x (List.mem_cons_of_mem _ hx)) c2 (by omega) (by simp at hf; omega) h0]
        simp only [List.length_cons]; omega
      · rw [runF_no hp hok hz] at h0; cases h0
theorem nEz_L {p : Nat} (h : dgZ (chZ T L p) = true) : nEz T L p ≤ L := by
  have hp : p < L := by
    refine Nat.lt_of_not_le fun hc => ?_
    rw [chZ_o hc] at h; exact absurd h (by decide)
  unfold nEz
  by_cases h2 : dgZ (chZ T L (p + 1)) = true
  · rw [if_pos h2]
    have : p + 1 < L := by
      refine Nat.lt_of_not_le fun hc => ?_
      rw [chZ_o hc] at h2; exact absurd h2 (by decide)
    omega
  · rw [if_neg h2]; omega
theorem ch_L {p c : Nat} (hc : c < 1000) (h : chZ T L p = nI c) : p < L := by
  refine Nat.lt_of_not_le fun hp => ?_
  rw [chZ_o hp] at h
  have h1 := congrArg Int32.toInt h
  rw [nI_toInt (by omega), show ((-1 : Int32)).toInt = -1 by decide] at h1
  omega
theorem pE_L {p : Nat} (h : p < L) : pE T L p ≤ L := by
  unfold pE
  split
  · split
    · have h1 := nEz_L (T := T) (L := L) (p := p + 1) ‹_›
      split
      · split
        · have h2 := ch_L (by decide) ‹chZ T L (nEz T L (p + 1)) = nI 44›
          split
          · have h3 := nEz_L (T := T) (L := L) (p := nEz T L (p + 1) + 1) ‹_›
            split
            · have h4 := ch_L (by decide) ‹chZ T L (nEz T L (nEz T L (p + 1) + 1)) = nI 59›; omega
            · omega
          · omega
        · omega
      · split
        · have h2 := ch_L (by decide) ‹chZ T L (nEz T L (p + 1)) = nI 59›; omega
        · omega
    · omega
  · omega
theorem pE_p (p : Nat) : p ≤ pE T L p := (pE_le T L p).1
/-- the fault's place, reason and cause -/
theorem run_flt : ∀ (f p : Nat) (σ : Sg) (n : Nat), (runF T L f p σ n).1 = 0 ∨ ((runF T L f p σ n).2.2.1 < L ∧ (((runF T L f p σ n).1 = 1 ∧ (runF T L f p σ n).2.2.1 + (runF T L f p σ n).2.1 ≤ L) ∨ ((runF T L f p σ n).1 = 2 ∧ ((runF T L f p σ n).2.1 = 1 ∨ (runF T L f p σ n).2.1 = 2))))
  | 0, _, _, _ => Or.inl rfl
  | f + 1, p, σ, n => by
    by_cases hp : L ≤ p
    · rw [runF_end hp]; exact Or.inl rfl
    · cases hok : pOK T L p
      · rw [runF_bad hp hok]
        have h1 := pE_L (T := T) (L := L) (p := p) (by omega)
        have h2 := pE_p (T := T) (L := L) p
        exact Or.inr ⟨by show p < L; omega, Or.inl ⟨rfl, by show p + (pE T L p - p) ≤ L; omega⟩⟩
      · by_cases hz : cauZ (chZ T L p) (pN1 T L p) (pN2x T L p) σ = 0
        · rw [runF_go hp hok hz]; exact run_flt f _ _ _
        · rw [runF_no hp hok hz]
          have h1 := cauZ_le (chZ T L p) (pN1 T L p) (pN2x T L p) σ
          exact Or.inr ⟨by show p < L; omega, Or.inr ⟨rfl, by show cauZ _ _ _ _ = 1 ∨ cauZ _ _ _ _ = 2; omega⟩⟩
end PARSE
/-- what the law types, done -/
theorem told_n {T0 : Nat → Int32} {k : Nat} {cs : List Nat} (h : Ords k cs) (hk : k ≤ 60) (σ : Sg) (h0 : zRe (tyL T0 0 cs) cs.length σ = 0) : zOs (tyL T0 0 cs) cs.length σ = k := by
  obtain ⟨os, h1, h2, h3⟩ := h
  have hc : chs (tyL T0 0 cs) cs.length 0 cs := fun i hi => by
    rw [chZ_i (by omega)]
    exact tyL_get cs T0 0 i hi
  unfold zOs zRe at *
  have := run_cnt (T := tyL T0 0 cs) (L := cs.length) os 60 0 σ 0 h2 (by rw [← h3]; exact hc) (by rw [← h3]; omega) (by omega) h0
  rw [this, h1]; omega
theorem flt_f (T : Nat → Int32) (L : Nat) (σ : Sg) (h : zRe T L σ ≠ 0) : zPo T L σ < L ∧ ((zRe T L σ = 1 ∧ zPo T L σ + zCa T L σ ≤ L) ∨ (zRe T L σ = 2 ∧ (zCa T L σ = 1 ∨ zCa T L σ = 2))) := by
  rcases run_flt (T := T) (L := L) 60 0 σ 0 with h1 | h1
  · exact absurd h1 h
  · exact h1
