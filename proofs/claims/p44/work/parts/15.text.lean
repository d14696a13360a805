/-! ===== texts: characters, numbers, orders ===== -/
abbrev cT (t ch L : Nat) : Nat × va_E := xO t 3 [.ref ch, .int (nI L)]
abbrev cO (o : Nat) (vb : Int32) (n1 n2 nm en : Nat) : Nat × va_E := xO o 1 [.int vb, .int (nI n1), .int (nI n2), .int (nI nm), .int (nI en)]
abbrev cTr (tr rw od os po re ca : Nat) : Nat × va_E := xO tr 4 [.ref rw, .ref od, .int (nI os), .int (nI po), .int (nI re), .int (nI ca)]
def chZ (T : Nat → Int32) (L p : Nat) : Int32 := if p < L then T p else (-1)
theorem chZ_i {T : Nat → Int32} {L p : Nat} (h : p < L) : chZ T L p = T p := if_pos h
theorem chZ_o {T : Nat → Int32} {L p : Nat} (h : L ≤ p) : chZ T L p = (-1) := if_neg (by omega)
def vbZ (c : Int32) : Bool := decide (c = nI 112) || (decide (c = nI 100) || (decide (c = nI 108) || (decide (c = nI 114) || decide (c = nI 116))))
def twZ (c : Int32) : Bool := decide (c = nI 114) || decide (c = nI 116)
def dgZ (c : Int32) : Bool := decide (48 ≤ c.toInt ∧ c.toInt ≤ 57)
def dvZ (c : Int32) : Nat := c.toInt.toNat - 48
theorem dvZ_le {c : Int32} (h : dgZ c = true) : dvZ c ≤ 9 := by have := of_decide_eq_true h; unfold dvZ; omega
theorem dvZ_eq {c : Int32} (h : dgZ c = true) : c = nI (48 + dvZ c) := by
  have h1 := of_decide_eq_true h
  rw [← Int32.toInt_inj, ki_n (by unfold dvZ; omega)]
  unfold dvZ; omega
theorem dvZ_sub {c : Int32} (h : dgZ c = true) : c - nI 48 = nI (dvZ c) := by
  have e := dvZ_eq h
  have e2 : nI (48 + dvZ c) - nI 48 = nI (48 + dvZ c - 48) := pk_sub (by omega)
  rw [show 48 + dvZ c - 48 = dvZ c by omega, ← e] at e2
  exact e2
theorem dvZ_acc {c : Int32} (h : dgZ c = true) (n : Nat) : nI (n * 10) + c - nI 48 = nI (n * 10 + dvZ c) := by
  have e := dvZ_eq h
  have e2 : nI (n * 10) + nI (48 + dvZ c) - nI 48 = nI (n * 10 + (48 + dvZ c) - 48) := by rw [nI_add]; exact pk_sub (by omega)
  rw [show n * 10 + (48 + dvZ c) - 48 = n * 10 + dvZ c by omega, ← e] at e2
  exact e2
/-- the end of a number that begins at p, and what it is -/
def nEz (T : Nat → Int32) (L p : Nat) : Nat := if dgZ (chZ T L (p + 1)) = true then p + 2 else p + 1
def nVz (T : Nat → Int32) (L p : Nat) : Nat := if dgZ (chZ T L (p + 1)) = true then dvZ (chZ T L p) * 10 + dvZ (chZ T L (p + 1)) else dvZ (chZ T L p)
def nEd (T : Nat → Int32) (L p : Nat) : Nat := if dgZ (chZ T L p) = true then nEz T L p else p
def nVd (T : Nat → Int32) (L p nm : Nat) : Nat := if dgZ (chZ T L p) = true then nVz T L p else nm
def sgE (T : Nat → Int32) (L p sg : Nat) : Nat := if chZ T L p = nI sg then p + 1 else p
theorem nEz_le {T : Nat → Int32} {L p : Nat} : p + 1 ≤ nEz T L p ∧ nEz T L p ≤ p + 2 := by unfold nEz; split <;> omega
theorem nEd_le {T : Nat → Int32} {L p : Nat} : p ≤ nEd T L p ∧ nEd T L p ≤ p + 2 := by have := nEz_le (T := T) (L := L) (p := p); unfold nEd; split <;> omega
theorem sgE_le {T : Nat → Int32} {L p sg : Nat} : p ≤ sgE T L p sg ∧ sgE T L p sg ≤ p + 1 := by unfold sgE; split <;> omega
theorem nVz_le {T : Nat → Int32} {L p : Nat} (h : dgZ (chZ T L p) = true) : nVz T L p ≤ 99 := by
  have h1 := dvZ_le h
  unfold nVz
  split
  · have h2 := dvZ_le ‹_›; omega
  · omega
/-- whether an order stands at p, where it ends or breaks off, and its numbers -/
def pOK (T : Nat → Int32) (L p : Nat) : Bool :=
  vbZ (chZ T L p) && (dgZ (chZ T L (p + 1)) && (if twZ (chZ T L p) = true then (decide (chZ T L (nEz T L (p + 1)) = nI 44) && (dgZ (chZ T L (nEz T L (p + 1) + 1)) && decide (chZ T L (nEz T L (nEz T L (p + 1) + 1)) = nI 59))) else decide (chZ T L (nEz T L (p + 1)) = nI 59)))
def pE (T : Nat → Int32) (L p : Nat) : Nat :=
  if vbZ (chZ T L p) = true then (if dgZ (chZ T L (p + 1)) = true then (if twZ (chZ T L p) = true then (if chZ T L (nEz T L (p + 1)) = nI 44 then (if dgZ (chZ T L (nEz T L (p + 1) + 1)) = true then (if chZ T L (nEz T L (nEz T L (p + 1) + 1)) = nI 59 then nEz T L (nEz T L (p + 1) + 1) + 1 else nEz T L (nEz T L (p + 1) + 1)) else nEz T L (p + 1) + 1) else nEz T L (p + 1)) else (if chZ T L (nEz T L (p + 1)) = nI 59 then nEz T L (p + 1) + 1 else nEz T L (p + 1))) else p + 1) else p
def pN1 (T : Nat → Int32) (L p : Nat) : Nat := nVz T L (p + 1)
def pN2 (T : Nat → Int32) (L p : Nat) : Nat := nVz T L (nEz T L (p + 1) + 1)
theorem pE_le (T : Nat → Int32) (L p : Nat) : p ≤ pE T L p ∧ pE T L p ≤ p + 8 := by
  have h1 := nEz_le (T := T) (L := L) (p := p + 1)
  have h2 := nEz_le (T := T) (L := L) (p := nEz T L (p + 1) + 1)
  unfold pE
  repeat' split
  all_goals omega
theorem pE_gt {T : Nat → Int32} {L p : Nat} (h : pOK T L p = true) : p < pE T L p := by
  have h1 := nEz_le (T := T) (L := L) (p := p + 1)
  have h2 := nEz_le (T := T) (L := L) (p := nEz T L (p + 1) + 1)
  unfold pOK at h
  have hv : vbZ (chZ T L p) = true := by cases hc : vbZ (chZ T L p) <;> rw [hc] at h <;> first | rfl | exact absurd h (by simp)
  unfold pE
  rw [if_pos hv]
  repeat' split
  all_goals omega
theorem pOK_d1 {T : Nat → Int32} {L p : Nat} (h : pOK T L p = true) : vbZ (chZ T L p) = true ∧ dgZ (chZ T L (p + 1)) = true := by
  unfold pOK at h
  simp only [Bool.and_eq_true] at h
  exact ⟨h.1, h.2.1⟩
theorem pOK_d2 {T : Nat → Int32} {L p : Nat} (h : pOK T L p = true) (ht : twZ (chZ T L p) = true) : dgZ (chZ T L (nEz T L (p + 1) + 1)) = true := by
  unfold pOK at h
  rw [if_pos ht] at h
  simp only [Bool.and_eq_true] at h
  exact h.2.2.2.1
theorem pN1_le {T : Nat → Int32} {L p : Nat} (h : pOK T L p = true) : pN1 T L p ≤ 99 := nVz_le (pOK_d1 h).2
theorem pN2_le {T : Nat → Int32} {L p : Nat} (h : pOK T L p = true) (ht : twZ (chZ T L p) = true) : pN2 T L p ≤ 99 := nVz_le (pOK_d2 h ht)
def pN2x (T : Nat → Int32) (L p : Nat) : Nat := if twZ (chZ T L p) = true then pN2 T L p else 0
theorem pN2x_le {T : Nat → Int32} {L p : Nat} (h : pOK T L p = true) : pN2x T L p ≤ 99 := by
  unfold pN2x
  split
  · exact pN2_le h ‹_›
  · omega
def kdz (n : Nat) : Bool := decide (n = 1)
theorem kdz_b {n : Nat} (h : n ≤ 1) : nI n = bI (kdz n) := by
  rcases (show n = 0 ∨ n = 1 by omega) with e | e <;> subst e <;> rfl
/-- which exception an order's call would throw (1, 2), or 0; and what it does -/
def cauZ (vb : Int32) (n1 n2 : Nat) (σ : Sg) : Nat :=
  if vb = nI 114 then (if 1 ≤ n1 ∧ n1 ≤ n2 ∧ n2 ≤ 48 then 0 else 1) else if ¬ (1 ≤ n1 ∧ n1 ≤ 48) then 1 else if vb = nI 100 then (if zL σ n1 = true then 2 else 0)
  else if vb = nI 116 then (if ¬ n2 ≤ 1 then 1 else if reasZ σ n1 (kdz n2) = 0 then 0 else 2) else 0
def actZ (vb : Int32) (n1 n2 : Nat) (σ : Sg) : Sg :=
  if vb = nI 112 then passS n1 σ else if vb = nI 100 then turnL n1 σ else if vb = nI 108 then lockS n1 σ else if vb = nI 114 then rowN n1 (n2 + 1 - n1) σ else if vb = nI 116 then putS n1 (kdz n2) σ else σ
theorem cauZ_le (vb : Int32) (n1 n2 : Nat) (σ : Sg) : cauZ vb n1 n2 σ ≤ 2 := by
  unfold cauZ
  repeat' split
  all_goals omega
/-- the orders one by one: reason, cause, position, how many, state -/
def runF (T : Nat → Int32) (L : Nat) : Nat → Nat → Sg → Nat → Nat × Nat × Nat × Nat × Sg
  | 0, p, σ, n => (0, 0, p, n, σ)
  | f + 1, p, σ, n => if L ≤ p then (0, 0, p, n, σ) else if pOK T L p = true then
      (if cauZ (chZ T L p) (pN1 T L p) (pN2x T L p) σ = 0 then runF T L f (pE T L p) (actZ (chZ T L p) (pN1 T L p) (pN2x T L p) σ) (n + 1) else (2, cauZ (chZ T L p) (pN1 T L p) (pN2x T L p) σ, p, n, σ))
    else (1, pE T L p - p, p, n, σ)
theorem runF_end {T : Nat → Int32} {L f p n : Nat} {σ : Sg} (h : L ≤ p) : runF T L f p σ n = (0, 0, p, n, σ) := by
  cases f with
  | zero => rfl
  | succ f => exact if_pos h
theorem runF_bad {T : Nat → Int32} {L f p n : Nat} {σ : Sg} (h : ¬ L ≤ p) (h2 : pOK T L p = false) : runF T L (f + 1) p σ n = (1, pE T L p - p, p, n, σ) := by
  rw [runF, if_neg h, if_neg (by rw [h2]; decide)]
theorem runF_no {T : Nat → Int32} {L f p n : Nat} {σ : Sg} (h : ¬ L ≤ p) (h2 : pOK T L p = true) (h3 : cauZ (chZ T L p) (pN1 T L p) (pN2x T L p) σ ≠ 0) : runF T L (f + 1) p σ n = (2, cauZ (chZ T L p) (pN1 T L p) (pN2x T L p) σ, p, n, σ) := by
  rw [runF, if_neg h, if_pos h2, if_neg h3]
theorem runF_go {T : Nat → Int32} {L f p n : Nat} {σ : Sg} (h : ¬ L ≤ p) (h2 : pOK T L p = true) (h3 : cauZ (chZ T L p) (pN1 T L p) (pN2x T L p) σ = 0) : runF T L (f + 1) p σ n = runF T L f (pE T L p) (actZ (chZ T L p) (pN1 T L p) (pN2x T L p) σ) (n + 1) := by
  rw [runF, if_neg h, if_pos h2, if_pos h3]
theorem vbZ_cases {c : Int32} (h : vbZ c = true) : c = nI 112 ∨ c = nI 100 ∨ c = nI 108 ∨ c = nI 114 ∨ c = nI 116 := by
  unfold vbZ at h
  simp only [Bool.or_eq_true, decide_eq_true_eq] at h
  exact h
theorem char_k : ∀ k, k < 127 → vp_nar .char (nI k) = nI k ∧ ((nI k).toUInt32 % 65536).toInt32 = nI k := by decide +kernel
def zRe (T : Nat → Int32) (L : Nat) (σ : Sg) : Nat := (runF T L 60 0 σ 0).1
def zCa (T : Nat → Int32) (L : Nat) (σ : Sg) : Nat := (runF T L 60 0 σ 0).2.1
def zPo (T : Nat → Int32) (L : Nat) (σ : Sg) : Nat := (runF T L 60 0 σ 0).2.2.1
def zOs (T : Nat → Int32) (L : Nat) (σ : Sg) : Nat := (runF T L 60 0 σ 0).2.2.2.1
def zSt (T : Nat → Int32) (L : Nat) (σ : Sg) : Sg := (runF T L 60 0 σ 0).2.2.2.2
theorem reasZ_free {σ : Sg} {d : Nat} {kd : Bool} (h : reasZ σ d kd = 0) : zF σ d = false := by
  cases hz : zF σ d
  · rfl
  · unfold reasZ at h
    by_cases h1 : zO σ d = false
    · rw [if_pos h1] at h; cases h
    · rw [if_neg h1, if_pos hz] at h; cases h
theorem in_X3_append_X3 : ∀ w ∈ wsX30, w ∈ wsX3_append := by decide +kernel
abbrev rmX3_append : Room := { frames := 0, cells := 0, slots := 0, locals := 0 }
set_option maxHeartbeats 4000000 in
set_option maxRecDepth 100000 in
theorem kX3_append (l : Launch) (g : GG) (t : Nat) (ch : Nat) (L : Nat) (T : Nat → Int32) (k : Nat) (sz : Nat) (hL : L < 60) (hk : k < 127) : Met l yX3_append wsX3_append rmX3_append (va_Pc [.ref t, .int (nI k)] (kPre g [cT t ch L, xC g ch 60 T] sz)) (va_Qv (fun (u : Unit) => True) (kB g (va_A [cT t ch L, xC g ch 60 T] sz) (fun u => [cT t ch (L + 1), xC g ch 60 (upd T L (nI k))])) (va_A [cT t ch L, xC g ch 60 T] sz)) 0 0 (va_A [cT t ch L, xC g ch 60 T] sz) := by
  refine kMet (cc := cX3_append) (maxL := 2) (ret := none) (own := RX3) (by decide) rfl rfl (Nat.le_of_ble_eq_true rfl) ?_
  intro p e s m args below meth c ls Q H locs A F w hl hnm hA hQ
  have hx := F.1.1
  have hb := F.1.2.1
  have hts := F.1.2.2.2.2
  have hl : lv_has ls 2 [(0, .ref t), (1, .int (nI k))] := hl
  refine lv_aload_n hx hb dX3_append_0 rfl (lv_at hl 0 rfl) ?_
  refine kget (fs := [.ref ch, .int (nI L)]) F w in_X3_append_X3 0 rfl rfl 1 (by decide) (by decide +kernel) rfl rfl dX3_append_1 ?_
  refine lv_if_lt (tgt := 39) hx hb dX3_append_4 (by decide) (fun h_1 => ?_) (fun h_1 => ?_)
  · have h_1 : L < 0 := (kc0_lt_t (by omega)).mp h_1
    omega
  · have h_1 : L ≥ 0 := (kc0_lt_f (by omega)).mp h_1
    refine lv_aload_n hx hb dX3_append_7 rfl (lv_at hl 0 rfl) ?_
    refine kget (fs := [.ref ch, .int (nI L)]) F w in_X3_append_X3 0 rfl rfl 1 (by decide) (by decide +kernel) rfl rfl dX3_append_8 ?_
    refine lv_aload_n hx hb dX3_append_11 rfl (lv_at hl 0 rfl) ?_
    refine kget (fs := [.ref ch, .int (nI L)]) F w in_X3_append_X3 0 rfl rfl 0 (by decide) (by decide +kernel) rfl rfl dX3_append_12 ?_
    refine kalen (t0 := 1) (v := nI 60) F w 1 rfl rfl rfl dX3_append_15 ?_
    refine lv_icmp_ge (tgt := 39) hx hb dX3_append_16 (by decide) (fun h_2 => ?_) (fun h_2 => ?_)
    · have h_2 : L ≥ 60 := (kc_ge_t (by omega) (by omega)).mp h_2
      omega
    · have h_2 : L < 60 := (kc_ge_f (by omega) (by omega)).mp h_2
      refine lv_aload_n hx hb dX3_append_19 rfl (lv_at hl 0 rfl) ?_
      refine kget (fs := [.ref ch, .int (nI L)]) F w in_X3_append_X3 0 rfl rfl 0 (by decide) (by decide +kernel) rfl rfl dX3_append_20 ?_
      refine lv_aload_n hx hb dX3_append_23 rfl (lv_at hl 0 rfl) ?_
      refine kget (fs := [.ref ch, .int (nI L)]) F w in_X3_append_X3 0 rfl rfl 1 (by decide) (by decide +kernel) rfl rfl dX3_append_24 ?_
      refine lv_iload_n hx hb dX3_append_27 rfl (lv_at hl 1 rfl) ?_
      refine kcast (f' := upd T L (nI k)) F w 1 rfl (vp_in_nI (by omega) (by omega)) (by rw [nI_clamp (n := L) (by omega), (char_k k (by omega)).1]) (wn := [cT t ch L, xC g ch 60 (upd T L (nI k))]) rfl dX3_append_28 (fun H locs w => ?_)
      refine lv_aload_n hx hb dX3_append_29 rfl (lv_at hl 0 rfl) ?_
      refine lv_dup hx hb dX3_append_30 rfl ?_
      refine kget (fs := [.ref ch, .int (nI L)]) F w in_X3_append_X3 0 rfl rfl 1 (by decide) (by decide +kernel) rfl rfl dX3_append_31 ?_
      refine lv_iconst (v := nI 1) hx hb dX3_append_34 (by decide) ?_
      refine lv_iadd hx hb dX3_append_35 ?_
      refine ktopi (y := nI (L + 1)) (nI_add L 1) ?_
      refine kput (fs := [.ref ch, .int (nI L)]) F w in_X3_append_X3 tyX3_ok nmX3 0 rfl rfl 1 (by decide) (by decide +kernel) rfl rfl (rfl) (rfl) (Nat.le_of_ble_eq_true rfl) (wn := [cT t ch (L + 1), xC g ch 60 (upd T L (nI k))]) rfl dX3_append_36 (fun H locs w => ?_)
      subst hA
      subst hQ
      exact kretv F w () [0, 1] rfl rfl (trivial) (Nat.le_of_ble_eq_true rfl) (Nat.le_of_ble_eq_true rfl) dX3_append_39
theorem in_X3_codeAt_X3 : ∀ w ∈ wsX30, w ∈ wsX3_codeAt := by decide +kernel
abbrev rmX3_codeAt : Room := { frames := 0, cells := 0, slots := 0, locals := 0 }
set_option maxHeartbeats 4000000 in
set_option maxRecDepth 100000 in
theorem kX3_codeAt (l : Launch) (g : GG) (t : Nat) (ch : Nat) (L : Nat) (T : Nat → Int32) (q : Nat) (sz : Nat) (hL : L ≤ 60) (hq : q < 2147483648) : Met l yX3_codeAt wsX3_codeAt rmX3_codeAt (va_Pc [.ref t, .int (nI q)] (kPre g [cT t ch L, xC g ch 60 T] sz)) (va_Qi (fun (r : Int32) (u : Unit) => r = chZ T L q) (kB g (va_A [cT t ch L, xC g ch 60 T] sz) (fun u => [cT t ch L, xC g ch 60 T])) (va_A [cT t ch L, xC g ch 60 T] sz)) 0 0 (va_A [cT t ch L, xC g ch 60 T] sz) := by
  refine kMet (cc := cX3_codeAt) (maxL := 2) (ret := (some .int)) (own := RX3) (by decide) rfl rfl (Nat.le_of_ble_eq_true rfl) ?_
  intro p e s m args below meth c ls Q H locs A F w hl hnm hA hQ
  have hx := F.1.1
  have hb := F.1.2.1
  have hts := F.1.2.2.2.2
  have hl : lv_has ls 2 [(0, .ref t), (1, .int (nI q))] := hl
  refine lv_iload_n hx hb dX3_codeAt_0 rfl (lv_at hl 1 rfl) ?_
  refine lv_if_lt (tgt := 21) hx hb dX3_codeAt_1 (by decide) (fun h_1 => ?_) (fun h_1 => ?_)
  · have h_1 : q < 0 := (kc0_lt_t (by omega)).mp h_1
    omega
  · have h_1 : q ≥ 0 := (kc0_lt_f (by omega)).mp h_1
    refine lv_iload_n hx hb dX3_codeAt_4 rfl (lv_at hl 1 rfl) ?_
    refine lv_aload_n hx hb dX3_codeAt_5 rfl (lv_at hl 0 rfl) ?_
    refine kget (fs := [.ref ch, .int (nI L)]) F w in_X3_codeAt_X3 0 rfl rfl 1 (by decide) (by decide +kernel) rfl rfl dX3_codeAt_6 ?_
    refine lv_icmp_ge (tgt := 21) hx hb dX3_codeAt_9 (by decide) (fun h_2 => ?_) (fun h_2 => ?_)
    · have h_2 : q ≥ L := (kc_ge_t (by omega) (by omega)).mp h_2
      refine lv_iconst (v := (-1)) hx hb dX3_codeAt_21 (by decide) ?_
      refine ktopi (y := chZ T L q) ((chZ_o (by omega)).symm) ?_
      subst hA
      subst hQ
      exact kreti F w () [0, 1] rfl rfl (rfl) (Nat.le_of_ble_eq_true rfl) (Nat.le_of_ble_eq_true rfl) dX3_codeAt_22
    · have h_2 : q < L := (kc_ge_f (by omega) (by omega)).mp h_2
      refine lv_iload_n hx hb dX3_codeAt_12 rfl (lv_at hl 1 rfl) ?_
      refine lv_aload_n hx hb dX3_codeAt_13 rfl (lv_at hl 0 rfl) ?_
      refine kget (fs := [.ref ch, .int (nI L)]) F w in_X3_codeAt_X3 0 rfl rfl 0 (by decide) (by decide +kernel) rfl rfl dX3_codeAt_14 ?_
      refine kalen (t0 := 1) (v := nI 60) F w 1 rfl rfl rfl dX3_codeAt_17 ?_
      refine lv_icmp_lt (tgt := 23) hx hb dX3_codeAt_18 (by decide) (fun h_3 => ?_) (fun h_3 => ?_)
      · have h_3 : q < 60 := (kc_lt_t (by omega) (by omega)).mp h_3
        refine lv_aload_n hx hb dX3_codeAt_23 rfl (lv_at hl 0 rfl) ?_
        refine kget (fs := [.ref ch, .int (nI L)]) F w in_X3_codeAt_X3 0 rfl rfl 0 (by decide) (by decide +kernel) rfl rfl dX3_codeAt_24 ?_
        refine lv_iload_n hx hb dX3_codeAt_27 rfl (lv_at hl 1 rfl) ?_
        refine kcald (v := T q) F w 1 rfl (vp_in_nI (by omega) (by omega)) (congrArg T (nI_clamp (n := q) (by omega))) dX3_codeAt_28 ?_
        refine ktopi (y := chZ T L q) ((chZ_i (by omega)).symm) ?_
        subst hA
        subst hQ
        exact kreti F w () [0, 1] rfl rfl (rfl) (Nat.le_of_ble_eq_true rfl) (Nat.le_of_ble_eq_true rfl) dX3_codeAt_29
      · have h_3 : q ≥ 60 := (kc_lt_f (by omega) (by omega)).mp h_3
        refine lv_iconst (v := (-1)) hx hb dX3_codeAt_21 (by decide) ?_
        refine ktopi (y := chZ T L q) ((chZ_o (by omega)).symm) ?_
        subst hA
        subst hQ
        exact kreti F w () [0, 1] rfl rfl (rfl) (Nat.le_of_ble_eq_true rfl) (Nat.le_of_ble_eq_true rfl) dX3_codeAt_22
abbrev rmX1_takesTwoNumbers : Room := { frames := 0, cells := 0, slots := 0, locals := 0 }
set_option maxHeartbeats 4000000 in
set_option maxRecDepth 100000 in
theorem kX1_takesTwoNumbers (l : Launch) (g : GG) (k : Int32) (sz : Nat)  : Met l yX1_takesTwoNumbers wsX1_takesTwoNumbers rmX1_takesTwoNumbers (va_Pc [.int k] (kPre g [] sz)) (va_Qi (fun (r : Int32) (u : Unit) => r = bI (twZ k)) (kB g (va_A [] sz) (fun u => [])) (va_A [] sz)) 0 0 (va_A [] sz) := by
  refine kMet (cc := cX1_takesTwoNumbers) (maxL := 1) (ret := (some .boolean)) (own := RX1) (by decide) rfl rfl (Nat.le_of_ble_eq_true rfl) ?_
  intro p e s m args below meth c ls Q H locs A F w hl hnm hA hQ
  have hx := F.1.1
  have hb := F.1.2.1
  have hts := F.1.2.2.2.2
  have hl : lv_has ls 1 [(0, .int k)] := hl
  refine lv_iload_n hx hb dX1_takesTwoNumbers_0 rfl (lv_at hl 0 rfl) ?_
  refine lv_bipush (v := nI 114) hx hb dX1_takesTwoNumbers_1 (by decide) ?_
  refine lv_icmp_eq (tgt := 12) hx hb dX1_takesTwoNumbers_3 (by decide) (fun h_1 => ?_) (fun h_1 => ?_)
  · refine lv_iconst (v := nI 1) hx hb dX1_takesTwoNumbers_12 (by decide) ?_
    refine lv_goto (tgt := 17) hx hb dX1_takesTwoNumbers_13 (by decide) ?_
    have hz : twZ k = true := by unfold twZ; rw [decide_eq_true h_1]; rfl
    subst hA
    subst hQ
    exact kretz F w () [] rfl rfl (by show nI 1 = bI (twZ k); rw [hz]; rfl) (by decide +kernel) (Nat.le_of_ble_eq_true rfl) (Nat.le_of_ble_eq_true rfl) dX1_takesTwoNumbers_17
  · refine lv_iload_n hx hb dX1_takesTwoNumbers_6 rfl (lv_at hl 0 rfl) ?_
    refine lv_bipush (v := nI 116) hx hb dX1_takesTwoNumbers_7 (by decide) ?_
    refine lv_icmp_ne (tgt := 16) hx hb dX1_takesTwoNumbers_9 (by decide) (fun h_2 => ?_) (fun h_2 => ?_)
    · refine lv_iconst (v := nI 0) hx hb dX1_takesTwoNumbers_16 (by decide) ?_
      have hz : twZ k = false := by unfold twZ; rw [decide_eq_false h_1, decide_eq_false h_2]; rfl
      subst hA
      subst hQ
      exact kretz F w () [] rfl rfl (by show nI 0 = bI (twZ k); rw [hz]; rfl) (by decide +kernel) (Nat.le_of_ble_eq_true rfl) (Nat.le_of_ble_eq_true rfl) dX1_takesTwoNumbers_17
    · refine lv_iconst (v := nI 1) hx hb dX1_takesTwoNumbers_12 (by decide) ?_
      refine lv_goto (tgt := 17) hx hb dX1_takesTwoNumbers_13 (by decide) ?_
      have hz : twZ k = true := by unfold twZ; rw [decide_eq_true h_2, Bool.or_true]
      subst hA
      subst hQ
      exact kretz F w () [] rfl rfl (by show nI 1 = bI (twZ k); rw [hz]; rfl) (by decide +kernel) (Nat.le_of_ble_eq_true rfl) (Nat.le_of_ble_eq_true rfl) dX1_takesTwoNumbers_17
abbrev rmX1_isDigit : Room := { frames := 0, cells := 0, slots := 0, locals := 0 }
set_option maxHeartbeats 4000000 in
set_option maxRecDepth 100000 in
theorem kX1_isDigit (l : Launch) (g : GG) (k : Int32) (sz : Nat)  : Met l yX1_isDigit wsX1_isDigit rmX1_isDigit (va_Pc [.int k] (kPre g [] sz)) (va_Qi (fun (r : Int32) (u : Unit) => r = bI (dgZ k)) (kB g (va_A [] sz) (fun u => [])) (va_A [] sz)) 0 0 (va_A [] sz) := by
  refine kMet (cc := cX1_isDigit) (maxL := 1) (ret := (some .boolean)) (own := RX1) (by decide) rfl rfl (Nat.le_of_ble_eq_true rfl) ?_
  intro p e s m args below meth c ls Q H locs A F w hl hnm hA hQ
  have hx := F.1.1
  have hb := F.1.2.1
  have hts := F.1.2.2.2.2
  have hl : lv_has ls 1 [(0, .int k)] := hl
  refine lv_iload_n hx hb dX1_isDigit_0 rfl (lv_at hl 0 rfl) ?_
  refine lv_bipush (v := nI 48) hx hb dX1_isDigit_1 (by decide) ?_
  refine lv_icmp_lt (tgt := 16) hx hb dX1_isDigit_3 (by decide) (fun h_1 => ?_) (fun h_1 => ?_)
  · refine lv_iconst (v := nI 0) hx hb dX1_isDigit_16 (by decide) ?_
    have hz : dgZ k = false := by
      unfold dgZ
      rw [decide_eq_false_iff_not]
      simp only [ki_lt, ki_le, ki_n (show 48 < 2147483648 by omega), ki_n (show 57 < 2147483648 by omega)] at h_1
      omega
    subst hA
    subst hQ
    exact kretz F w () [] rfl rfl (by show nI 0 = bI (dgZ k); rw [hz]; rfl) (by decide +kernel) (Nat.le_of_ble_eq_true rfl) (Nat.le_of_ble_eq_true rfl) dX1_isDigit_17
  · refine lv_iload_n hx hb dX1_isDigit_6 rfl (lv_at hl 0 rfl) ?_
    refine lv_bipush (v := nI 57) hx hb dX1_isDigit_7 (by decide) ?_
    refine lv_icmp_gt (tgt := 16) hx hb dX1_isDigit_9 (by decide) (fun h_2 => ?_) (fun h_2 => ?_)
    · refine lv_iconst (v := nI 0) hx hb dX1_isDigit_16 (by decide) ?_
      have hz : dgZ k = false := by
        unfold dgZ
        rw [decide_eq_false_iff_not]
        simp only [ki_lt, ki_le, ki_n (show 48 < 2147483648 by omega), ki_n (show 57 < 2147483648 by omega)] at h_1 h_2
        omega
      subst hA
      subst hQ
      exact kretz F w () [] rfl rfl (by show nI 0 = bI (dgZ k); rw [hz]; rfl) (by decide +kernel) (Nat.le_of_ble_eq_true rfl) (Nat.le_of_ble_eq_true rfl) dX1_isDigit_17
    · refine lv_iconst (v := nI 1) hx hb dX1_isDigit_12 (by decide) ?_
      refine lv_goto (tgt := 17) hx hb dX1_isDigit_13 (by decide) ?_
      have hz : dgZ k = true := by
        unfold dgZ
        rw [decide_eq_true_iff]
        simp only [ki_lt, ki_le, ki_n (show 48 < 2147483648 by omega), ki_n (show 57 < 2147483648 by omega)] at h_1 h_2
        omega
      subst hA
      subst hQ
      exact kretz F w () [] rfl rfl (by show nI 1 = bI (dgZ k); rw [hz]; rfl) (by decide +kernel) (Nat.le_of_ble_eq_true rfl) (Nat.le_of_ble_eq_true rfl) dX1_isDigit_17
theorem hd_X1_takesTwoNumbers : yX1_takesTwoNumbers.cls ≠ "java/lang/invoke/MethodHandle" ∧ yX1_takesTwoNumbers.cls ≠ "java/lang/invoke/VarHandle" ∧ (parseMethodDescriptor yX1_takesTwoNumbers.desc).map (fun d => d.parameters.length) = some 1 := by decide +kernel
abbrev rmX1_isVerb : Room := { frames := 1, cells := 0, slots := 0, locals := 20 }
set_option maxHeartbeats 4000000 in
set_option maxRecDepth 100000 in
theorem kX1_isVerb (l : Launch) (g : GG) (k : Int32) (sz : Nat)  : Met l yX1_isVerb wsX1_isVerb rmX1_isVerb (va_Pc [.int k] (kPre g [] sz)) (va_Qi (fun (r : Int32) (u : Unit) => r = bI (vbZ k)) (kB g (va_A [] sz) (fun u => [])) (va_A [] sz)) 0 0 (va_A [] sz) := by
  refine kMet (cc := cX1_isVerb) (maxL := 1) (ret := (some .boolean)) (own := RX1) (by decide) rfl rfl (Nat.le_of_ble_eq_true rfl) ?_
  intro p e s m args below meth c ls Q H locs A F w hl hnm hA hQ
  have hx := F.1.1
  have hb := F.1.2.1
  have hts := F.1.2.2.2.2
  have hl : lv_has ls 1 [(0, .int k)] := hl
  refine lv_iload_n hx hb dX1_isVerb_0 rfl (lv_at hl 0 rfl) ?_
  refine lv_bipush (v := nI 112) hx hb dX1_isVerb_1 (by decide) ?_
  refine lv_icmp_eq (tgt := 25) hx hb dX1_isVerb_3 (by decide) (fun h_1 => ?_) (fun h_1 => ?_)
  · refine lv_iconst (v := nI 1) hx hb dX1_isVerb_25 (by decide) ?_
    refine lv_goto (tgt := 30) hx hb dX1_isVerb_26 (by decide) ?_
    have hz : vbZ k = true := by
      unfold vbZ
      rw [decide_eq_true h_1]
      simp
    subst hA
    subst hQ
    exact kretz F w () [] rfl rfl (by show nI 1 = bI (vbZ k); rw [hz]; rfl) (by decide +kernel) (Nat.le_of_ble_eq_true rfl) (Nat.le_of_ble_eq_true rfl) dX1_isVerb_30
  · refine lv_iload_n hx hb dX1_isVerb_6 rfl (lv_at hl 0 rfl) ?_
    refine lv_bipush (v := nI 100) hx hb dX1_isVerb_7 (by decide) ?_
    refine lv_icmp_eq (tgt := 25) hx hb dX1_isVerb_9 (by decide) (fun h_2 => ?_) (fun h_2 => ?_)
    · refine lv_iconst (v := nI 1) hx hb dX1_isVerb_25 (by decide) ?_
      refine lv_goto (tgt := 30) hx hb dX1_isVerb_26 (by decide) ?_
      have hz : vbZ k = true := by
        unfold vbZ
        rw [decide_eq_true h_2]
        simp
      subst hA
      subst hQ
      exact kretz F w () [] rfl rfl (by show nI 1 = bI (vbZ k); rw [hz]; rfl) (by decide +kernel) (Nat.le_of_ble_eq_true rfl) (Nat.le_of_ble_eq_true rfl) dX1_isVerb_30
    · refine lv_iload_n hx hb dX1_isVerb_12 rfl (lv_at hl 0 rfl) ?_
      refine lv_bipush (v := nI 108) hx hb dX1_isVerb_13 (by decide) ?_
      refine lv_icmp_eq (tgt := 25) hx hb dX1_isVerb_15 (by decide) (fun h_3 => ?_) (fun h_3 => ?_)
      · refine lv_iconst (v := nI 1) hx hb dX1_isVerb_25 (by decide) ?_
        refine lv_goto (tgt := 30) hx hb dX1_isVerb_26 (by decide) ?_
        have hz : vbZ k = true := by
          unfold vbZ
          rw [decide_eq_true h_3]
          simp
        subst hA
        subst hQ
        exact kretz F w () [] rfl rfl (by show nI 1 = bI (vbZ k); rw [hz]; rfl) (by decide +kernel) (Nat.le_of_ble_eq_true rfl) (Nat.le_of_ble_eq_true rfl) dX1_isVerb_30
      · refine lv_iload_n hx hb dX1_isVerb_18 rfl (lv_at hl 0 rfl) ?_
        refine kcalli (wc := []) (wr := []) (wn := fun (u : Unit) => []) F w [] [] [] rfl rfl rfl (fun _ => rfl)
          (fun hp => va_runS (As := [.int k]) (rest := []) F.1 (kX1_takesTwoNumbers l g k H.size ) (va_cwS 1 hts gX1_isVerb_X1_takesTwoNumbers rfl rfl rfl hd_X1_takesTwoNumbers ⟨Nat.le_of_ble_eq_true rfl, Nat.le_of_ble_eq_true rfl⟩) hp rfl rfl hl.1 rfl (lv_room (Nat.le_of_ble_eq_true rfl)) dX1_isVerb_19 ⟨Nat.le_of_ble_eq_true rfl, Nat.le_of_ble_eq_true rfl⟩)
          (fun r_4 _ H locs h_5 w => ?_)
        subst h_5
        refine lv_if_eq (tgt := 29) hx hb dX1_isVerb_22 (by decide) (fun h_6 => ?_) (fun h_6 => ?_)
        · have h_6 : (twZ k) = false := bI_z.mp h_6
          refine lv_iconst (v := nI 0) hx hb dX1_isVerb_29 (by decide) ?_
          have hz : vbZ k = false := by
            unfold vbZ
            have hw : (decide (k = nI 114) || decide (k = nI 116)) = false := h_6
            rw [decide_eq_false h_1, decide_eq_false h_2, decide_eq_false h_3, hw]
            rfl
          subst hA
          subst hQ
          exact kretz F w () [] rfl rfl (by show nI 0 = bI (vbZ k); rw [hz]; rfl) (by decide +kernel) (Nat.le_of_ble_eq_true rfl) (Nat.le_of_ble_eq_true rfl) dX1_isVerb_30
        · have h_6 : (twZ k) = true := bI_o.mp h_6
          refine lv_iconst (v := nI 1) hx hb dX1_isVerb_25 (by decide) ?_
          refine lv_goto (tgt := 30) hx hb dX1_isVerb_26 (by decide) ?_
          have hz : vbZ k = true := by
            unfold vbZ
            have hw : (decide (k = nI 114) || decide (k = nI 116)) = true := h_6
            rw [hw]
            simp
          subst hA
          subst hQ
          exact kretz F w () [] rfl rfl (by show nI 1 = bI (vbZ k); rw [hz]; rfl) (by decide +kernel) (Nat.le_of_ble_eq_true rfl) (Nat.le_of_ble_eq_true rfl) dX1_isVerb_30
theorem in_X1_readSign_X1 : ∀ w ∈ wsX10, w ∈ wsX1_readSign := by decide +kernel
theorem hd_X3_codeAt : yX3_codeAt.cls ≠ "java/lang/invoke/MethodHandle" ∧ yX3_codeAt.cls ≠ "java/lang/invoke/VarHandle" ∧ (parseMethodDescriptor yX3_codeAt.desc).map (fun d => d.parameters.length) = some 1 := by decide +kernel
abbrev rmX1_readSign : Room := { frames := 1, cells := 0, slots := 0, locals := 21 }
set_option maxHeartbeats 4000000 in
set_option maxRecDepth 100000 in
theorem kX1_readSign (l : Launch) (g : GG) (o : Nat) (vb : Int32) (n1 : Nat) (n2 : Nat) (nm : Nat) (en : Nat) (t : Nat) (ch : Nat) (L : Nat) (T : Nat → Int32) (sg : Nat) (sz : Nat) (hL : L ≤ 60) (hen : en < 2000) : Met l yX1_readSign wsX1_readSign rmX1_readSign (va_Pc [.ref o, .ref t, .int (nI sg)] (kPre g [cO o vb n1 n2 nm en, cT t ch L, xC g ch 60 T] sz)) (va_Qi (fun (r : Int32) (u : Unit) => r = bI (decide (chZ T L en = nI sg))) (kB g (va_A [cO o vb n1 n2 nm en, cT t ch L, xC g ch 60 T] sz) (fun u => [cO o vb n1 n2 nm (sgE T L en sg), cT t ch L, xC g ch 60 T])) (va_A [cO o vb n1 n2 nm en, cT t ch L, xC g ch 60 T] sz)) 0 0 (va_A [cO o vb n1 n2 nm en, cT t ch L, xC g ch 60 T] sz) := by
  refine kMet (cc := cX1_readSign) (maxL := 3) (ret := (some .boolean)) (own := RX1) (by decide) rfl rfl (Nat.le_of_ble_eq_true rfl) ?_
  intro p e s m args below meth c ls Q H locs A F w hl hnm hA hQ
  have hx := F.1.1
  have hb := F.1.2.1
  have hts := F.1.2.2.2.2
  have hl : lv_has ls 3 [(0, .ref o), (1, .ref t), (2, .int (nI sg))] := hl
  refine lv_aload_n hx hb dX1_readSign_0 rfl (lv_at hl 1 rfl) ?_
  refine lv_aload_n hx hb dX1_readSign_1 rfl (lv_at hl 0 rfl) ?_
  refine kget (fs := [.int vb, .int (nI n1), .int (nI n2), .int (nI nm), .int (nI en)]) F w in_X1_readSign_X1 0 rfl rfl 4 (by decide) (by decide +kernel) rfl rfl dX1_readSign_2 ?_
  refine kcalli (wc := [cT t ch L, xC g ch 60 T]) (wr := [cO o vb n1 n2 nm en]) (wn := fun (u : Unit) => [cO o vb n1 n2 nm en, cT t ch L, xC g ch 60 T]) F w [1, 2] [0] [0, 1, 2] rfl rfl rfl (fun _ => rfl)
    (fun hp => va_runV (As := [.int (nI en)]) (rest := []) F.1 (kX3_codeAt l g t ch L T en H.size (by omega) (by omega)) (cwV 1 hts gX1_readSign_X3_codeAt rfl rfl rfl ⟨rfl, hd_X3_codeAt⟩ ⟨Nat.le_of_ble_eq_true rfl, Nat.le_of_ble_eq_true rfl⟩) ⟨hp.1, va_recv F.2.2.2.1.1 w.1 (q0 := 1) (ci := 3) rfl rfl, hp.2⟩ rfl rfl hl.1 rfl (lv_room (Nat.le_of_ble_eq_true rfl)) dX1_readSign_5 ⟨Nat.le_of_ble_eq_true rfl, Nat.le_of_ble_eq_true rfl⟩)
    (fun r_1 _ H locs h_2 w => ?_)
  subst h_2
  refine lv_iload_n hx hb dX1_readSign_8 rfl (lv_at hl 2 rfl) ?_
  refine lv_icmp_eq (tgt := 14) hx hb dX1_readSign_9 (by decide) (fun h_3 => ?_) (fun h_3 => ?_)
  · have hs9 : sgE T L en sg = en + 1 := if_pos h_3
    refine lv_aload_n hx hb dX1_readSign_14 rfl (lv_at hl 0 rfl) ?_
    refine lv_dup hx hb dX1_readSign_15 rfl ?_
    refine kget (fs := [.int vb, .int (nI n1), .int (nI n2), .int (nI nm), .int (nI en)]) F w in_X1_readSign_X1 0 rfl rfl 4 (by decide) (by decide +kernel) rfl rfl dX1_readSign_16 ?_
    refine lv_iconst (v := nI 1) hx hb dX1_readSign_19 (by decide) ?_
    refine lv_iadd hx hb dX1_readSign_20 ?_
    refine ktopi (y := nI (en + 1)) (nI_add en 1) ?_
    refine kput (fs := [.int vb, .int (nI n1), .int (nI n2), .int (nI nm), .int (nI en)]) F w in_X1_readSign_X1 tyX1_ok nmX1 0 rfl rfl 4 (by decide) (by decide +kernel) rfl rfl (rfl) (rfl) (Nat.le_of_ble_eq_true rfl) (wn := [cO o vb n1 n2 nm (en + 1), cT t ch L, xC g ch 60 T]) rfl dX1_readSign_21 (fun H locs w => ?_)
    refine lv_iconst (v := nI 1) hx hb dX1_readSign_24 (by decide) ?_
    have w : kW g A s [cO o vb n1 n2 nm (sgE T L en sg), cT t ch L, xC g ch 60 T] H locs := by
      have w := w
      rw [hs9]; exact w
    subst hA
    subst hQ
    exact kretz F w () [0, 1, 2] rfl rfl (by show nI 1 = bI (decide (chZ T L en = nI sg)); rw [decide_eq_true h_3]; rfl) (by decide +kernel) (Nat.le_of_ble_eq_true rfl) (Nat.le_of_ble_eq_true rfl) dX1_readSign_25
  · have hs9 : sgE T L en sg = en := if_neg h_3
    refine lv_iconst (v := nI 0) hx hb dX1_readSign_12 (by decide) ?_
    have w : kW g A s [cO o vb n1 n2 nm (sgE T L en sg), cT t ch L, xC g ch 60 T] H locs := by
      have w := w
      rw [hs9]; exact w
    subst hA
    subst hQ
    exact kretz F w () [0, 1, 2] rfl rfl (by show nI 0 = bI (decide (chZ T L en = nI sg)); rw [decide_eq_false h_3]; rfl) (by decide +kernel) (Nat.le_of_ble_eq_true rfl) (Nat.le_of_ble_eq_true rfl) dX1_readSign_13
theorem in_X1_readNumber_X1 : ∀ w ∈ wsX10, w ∈ wsX1_readNumber := by decide +kernel
theorem hd_X1_isDigit : yX1_isDigit.cls ≠ "java/lang/invoke/MethodHandle" ∧ yX1_isDigit.cls ≠ "java/lang/invoke/VarHandle" ∧ (parseMethodDescriptor yX1_isDigit.desc).map (fun d => d.parameters.length) = some 1 := by decide +kernel
abbrev rmX1_readNumber : Room := { frames := 1, cells := 0, slots := 0, locals := 21 }
set_option maxHeartbeats 4000000 in
set_option maxRecDepth 100000 in
theorem kX1_readNumber (l : Launch) (g : GG) (o : Nat) (vb : Int32) (n1 : Nat) (n2 : Nat) (nm : Nat) (en : Nat) (t : Nat) (ch : Nat) (L : Nat) (T : Nat → Int32) (sz : Nat) (hL : L ≤ 60) (hen : en < 2000) : Met l yX1_readNumber wsX1_readNumber rmX1_readNumber (va_Pc [.ref o, .ref t] (kPre g [cO o vb n1 n2 nm en, cT t ch L, xC g ch 60 T] sz)) (va_Qi (fun (r : Int32) (u : Unit) => r = bI (dgZ (chZ T L en))) (kB g (va_A [cO o vb n1 n2 nm en, cT t ch L, xC g ch 60 T] sz) (fun u => [cO o vb n1 n2 (nVd T L en nm) (nEd T L en), cT t ch L, xC g ch 60 T])) (va_A [cO o vb n1 n2 nm en, cT t ch L, xC g ch 60 T] sz)) 0 0 (va_A [cO o vb n1 n2 nm en, cT t ch L, xC g ch 60 T] sz) := by
  refine kMet (cc := cX1_readNumber) (maxL := 2) (ret := (some .boolean)) (own := RX1) (by decide) rfl rfl (Nat.le_of_ble_eq_true rfl) ?_
  intro p e s m args below meth c ls Q H locs A F w hl hnm hA hQ
  have hx := F.1.1
  have hb := F.1.2.1
  have hts := F.1.2.2.2.2
  have hl : lv_has ls 2 [(0, .ref o), (1, .ref t)] := hl
  refine lv_aload_n hx hb dX1_readNumber_0 rfl (lv_at hl 1 rfl) ?_
  refine lv_aload_n hx hb dX1_readNumber_1 rfl (lv_at hl 0 rfl) ?_
  refine kget (fs := [.int vb, .int (nI n1), .int (nI n2), .int (nI nm), .int (nI en)]) F w in_X1_readNumber_X1 0 rfl rfl 4 (by decide) (by decide +kernel) rfl rfl dX1_readNumber_2 ?_
  refine kcalli (wc := [cT t ch L, xC g ch 60 T]) (wr := [cO o vb n1 n2 nm en]) (wn := fun (u : Unit) => [cO o vb n1 n2 nm en, cT t ch L, xC g ch 60 T]) F w [1, 2] [0] [0, 1, 2] rfl rfl rfl (fun _ => rfl)
    (fun hp => va_runV (As := [.int (nI en)]) (rest := []) F.1 (kX3_codeAt l g t ch L T en H.size (by omega) (by omega)) (cwV 1 hts gX1_readNumber_X3_codeAt rfl rfl rfl ⟨rfl, hd_X3_codeAt⟩ ⟨Nat.le_of_ble_eq_true rfl, Nat.le_of_ble_eq_true rfl⟩) ⟨hp.1, va_recv F.2.2.2.1.1 w.1 (q0 := 1) (ci := 3) rfl rfl, hp.2⟩ rfl rfl hl.1 rfl (lv_room (Nat.le_of_ble_eq_true rfl)) dX1_readNumber_5 ⟨Nat.le_of_ble_eq_true rfl, Nat.le_of_ble_eq_true rfl⟩)
    (fun r_1 _ H locs h_2 w => ?_)
  subst h_2
  refine kcalli (wc := []) (wr := [cO o vb n1 n2 nm en, cT t ch L, xC g ch 60 T]) (wn := fun (u : Unit) => [cO o vb n1 n2 nm en, cT t ch L, xC g ch 60 T]) F w [] [0, 1, 2] [0, 1, 2] rfl rfl rfl (fun _ => rfl)
    (fun hp => va_runS (As := [.int (chZ T L en)]) (rest := []) F.1 (kX1_isDigit l g (chZ T L en) H.size ) (va_cwS 1 hts gX1_readNumber_X1_isDigit rfl rfl rfl hd_X1_isDigit ⟨Nat.le_of_ble_eq_true rfl, Nat.le_of_ble_eq_true rfl⟩) hp rfl rfl hl.1 rfl (lv_room (Nat.le_of_ble_eq_true rfl)) dX1_readNumber_8 ⟨Nat.le_of_ble_eq_true rfl, Nat.le_of_ble_eq_true rfl⟩)
    (fun r_3 _ H locs h_4 w => ?_)
  subst h_4
  refine lv_if_ne (tgt := 16) hx hb dX1_readNumber_11 (by decide) (fun h_5 => ?_) (fun h_5 => ?_)
  · have h_5 : (dgZ (chZ T L en)) = true := bI_o.mp h_5
    refine lv_aload_n hx hb dX1_readNumber_16 rfl (lv_at hl 0 rfl) ?_
    refine lv_aload_n hx hb dX1_readNumber_17 rfl (lv_at hl 1 rfl) ?_
    refine lv_aload_n hx hb dX1_readNumber_18 rfl (lv_at hl 0 rfl) ?_
    refine kget (fs := [.int vb, .int (nI n1), .int (nI n2), .int (nI nm), .int (nI en)]) F w in_X1_readNumber_X1 0 rfl rfl 4 (by decide) (by decide +kernel) rfl rfl dX1_readNumber_19 ?_
    refine kcalli (wc := [cT t ch L, xC g ch 60 T]) (wr := [cO o vb n1 n2 nm en]) (wn := fun (u : Unit) => [cO o vb n1 n2 nm en, cT t ch L, xC g ch 60 T]) F w [1, 2] [0] [0, 1, 2] rfl rfl rfl (fun _ => rfl)
      (fun hp => va_runV (As := [.int (nI en)]) (rest := [.ref o]) F.1 (kX3_codeAt l g t ch L T en H.size (by omega) (by omega)) (cwV 1 hts gX1_readNumber_X3_codeAt rfl rfl rfl ⟨rfl, hd_X3_codeAt⟩ ⟨Nat.le_of_ble_eq_true rfl, Nat.le_of_ble_eq_true rfl⟩) ⟨hp.1, va_recv F.2.2.2.1.1 w.1 (q0 := 1) (ci := 3) rfl rfl, hp.2⟩ rfl rfl hl.1 rfl (lv_room (Nat.le_of_ble_eq_true rfl)) dX1_readNumber_22 ⟨Nat.le_of_ble_eq_true rfl, Nat.le_of_ble_eq_true rfl⟩)
      (fun r_6 _ H locs h_7 w => ?_)
    subst h_7
    refine lv_bipush (v := nI 48) hx hb dX1_readNumber_25 (by decide) ?_
    refine lv_isub hx hb dX1_readNumber_27 ?_
    refine ktopi (y := nI (dvZ (chZ T L en))) (dvZ_sub h_5) ?_
    have hdv := dvZ_le h_5
    refine kput (fs := [.int vb, .int (nI n1), .int (nI n2), .int (nI nm), .int (nI en)]) F w in_X1_readNumber_X1 tyX1_ok nmX1 0 rfl rfl 3 (by decide) (by decide +kernel) rfl rfl (rfl) (rfl) (Nat.le_of_ble_eq_true rfl) (wn := [cO o vb n1 n2 (dvZ (chZ T L en)) en, cT t ch L, xC g ch 60 T]) rfl dX1_readNumber_28 (fun H locs w => ?_)
    refine lv_aload_n hx hb dX1_readNumber_31 rfl (lv_at hl 0 rfl) ?_
    refine lv_dup hx hb dX1_readNumber_32 rfl ?_
    refine kget (fs := [.int vb, .int (nI n1), .int (nI n2), .int (nI (dvZ (chZ T L en))), .int (nI en)]) F w in_X1_readNumber_X1 0 rfl rfl 4 (by decide) (by decide +kernel) rfl rfl dX1_readNumber_33 ?_
    refine lv_iconst (v := nI 1) hx hb dX1_readNumber_36 (by decide) ?_
    refine lv_iadd hx hb dX1_readNumber_37 ?_
    refine ktopi (y := nI (en + 1)) (nI_add en 1) ?_
    refine kput (fs := [.int vb, .int (nI n1), .int (nI n2), .int (nI (dvZ (chZ T L en))), .int (nI en)]) F w in_X1_readNumber_X1 tyX1_ok nmX1 0 rfl rfl 4 (by decide) (by decide +kernel) rfl rfl (rfl) (rfl) (Nat.le_of_ble_eq_true rfl) (wn := [cO o vb n1 n2 (dvZ (chZ T L en)) (en + 1), cT t ch L, xC g ch 60 T]) rfl dX1_readNumber_38 (fun H locs w => ?_)
    refine lv_aload_n hx hb dX1_readNumber_41 rfl (lv_at hl 1 rfl) ?_
    refine lv_aload_n hx hb dX1_readNumber_42 rfl (lv_at hl 0 rfl) ?_
    refine kget (fs := [.int vb, .int (nI n1), .int (nI n2), .int (nI (dvZ (chZ T L en))), .int (nI (en + 1))]) F w in_X1_readNumber_X1 0 rfl rfl 4 (by decide) (by decide +kernel) rfl rfl dX1_readNumber_43 ?_
    refine kcalli (wc := [cT t ch L, xC g ch 60 T]) (wr := [cO o vb n1 n2 (dvZ (chZ T L en)) (en + 1)]) (wn := fun (u : Unit) => [cO o vb n1 n2 (dvZ (chZ T L en)) (en + 1), cT t ch L, xC g ch 60 T]) F w [1, 2] [0] [0, 1, 2] rfl rfl rfl (fun _ => rfl)
      (fun hp => va_runV (As := [.int (nI (en + 1))]) (rest := []) F.1 (kX3_codeAt l g t ch L T (en + 1) H.size (by omega) (by omega)) (cwV 1 hts gX1_readNumber_X3_codeAt rfl rfl rfl ⟨rfl, hd_X3_codeAt⟩ ⟨Nat.le_of_ble_eq_true rfl, Nat.le_of_ble_eq_true rfl⟩) ⟨hp.1, va_recv F.2.2.2.1.1 w.1 (q0 := 1) (ci := 3) rfl rfl, hp.2⟩ rfl rfl hl.1 rfl (lv_room (Nat.le_of_ble_eq_true rfl)) dX1_readNumber_46 ⟨Nat.le_of_ble_eq_true rfl, Nat.le_of_ble_eq_true rfl⟩)
      (fun r_8 _ H locs h_9 w => ?_)
    subst h_9
    refine kcalli (wc := []) (wr := [cO o vb n1 n2 (dvZ (chZ T L en)) (en + 1), cT t ch L, xC g ch 60 T]) (wn := fun (u : Unit) => [cO o vb n1 n2 (dvZ (chZ T L en)) (en + 1), cT t ch L, xC g ch 60 T]) F w [] [0, 1, 2] [0, 1, 2] rfl rfl rfl (fun _ => rfl)
      (fun hp => va_runS (As := [.int (chZ T L (en + 1))]) (rest := []) F.1 (kX1_isDigit l g (chZ T L (en + 1)) H.size ) (va_cwS 1 hts gX1_readNumber_X1_isDigit rfl rfl rfl hd_X1_isDigit ⟨Nat.le_of_ble_eq_true rfl, Nat.le_of_ble_eq_true rfl⟩) hp rfl rfl hl.1 rfl (lv_room (Nat.le_of_ble_eq_true rfl)) dX1_readNumber_49 ⟨Nat.le_of_ble_eq_true rfl, Nat.le_of_ble_eq_true rfl⟩)
      (fun r_10 _ H locs h_11 w => ?_)
    subst h_11
    refine lv_if_eq (tgt := 88) hx hb dX1_readNumber_52 (by decide) (fun h_12 => ?_) (fun h_12 => ?_)
    · have h_12 : (dgZ (chZ T L (en + 1))) = false := bI_z.mp h_12
      have e1 : nVd T L en nm = dvZ (chZ T L en) := (if_pos h_5).trans (if_neg (by rw [h_12]; decide))
      have e2 : nEd T L en = en + 1 := (if_pos h_5).trans (if_neg (by rw [h_12]; decide))
      refine lv_iconst (v := nI 1) hx hb dX1_readNumber_88 (by decide) ?_
      have w : kW g A s [cO o vb n1 n2 (nVd T L en nm) (nEd T L en), cT t ch L, xC g ch 60 T] H locs := by
        have w := w
        rw [e1, e2]; exact w
      subst hA
      subst hQ
      exact kretz F w () [0, 1, 2] rfl rfl (by show nI 1 = bI (dgZ (chZ T L en)); rw [h_5]; rfl) (by decide +kernel) (Nat.le_of_ble_eq_true rfl) (Nat.le_of_ble_eq_true rfl) dX1_readNumber_89
    · have h_12 : (dgZ (chZ T L (en + 1))) = true := bI_o.mp h_12
      have e1 : nVd T L en nm = dvZ (chZ T L en) * 10 + dvZ (chZ T L (en + 1)) := (if_pos h_5).trans (if_pos h_12)
      have e2 : nEd T L en = en + 2 := (if_pos h_5).trans (if_pos h_12)
      refine lv_aload_n hx hb dX1_readNumber_55 rfl (lv_at hl 0 rfl) ?_
      refine lv_aload_n hx hb dX1_readNumber_56 rfl (lv_at hl 0 rfl) ?_
      refine kget (fs := [.int vb, .int (nI n1), .int (nI n2), .int (nI (dvZ (chZ T L en))), .int (nI (en + 1))]) F w in_X1_readNumber_X1 0 rfl rfl 3 (by decide) (by decide +kernel) rfl rfl dX1_readNumber_57 ?_
      refine lv_bipush (v := nI 10) hx hb dX1_readNumber_60 (by decide) ?_
      refine lv_imul hx hb dX1_readNumber_62 ?_
      refine ktopi (y := nI ((dvZ (chZ T L en)) * 10)) (pk_mul (dvZ (chZ T L en)) 10) ?_
      refine lv_aload_n hx hb dX1_readNumber_63 rfl (lv_at hl 1 rfl) ?_
      refine lv_aload_n hx hb dX1_readNumber_64 rfl (lv_at hl 0 rfl) ?_
      refine kget (fs := [.int vb, .int (nI n1), .int (nI n2), .int (nI (dvZ (chZ T L en))), .int (nI (en + 1))]) F w in_X1_readNumber_X1 0 rfl rfl 4 (by decide) (by decide +kernel) rfl rfl dX1_readNumber_65 ?_
      refine kcalli (wc := [cT t ch L, xC g ch 60 T]) (wr := [cO o vb n1 n2 (dvZ (chZ T L en)) (en + 1)]) (wn := fun (u : Unit) => [cO o vb n1 n2 (dvZ (chZ T L en)) (en + 1), cT t ch L, xC g ch 60 T]) F w [1, 2] [0] [0, 1, 2] rfl rfl rfl (fun _ => rfl)
        (fun hp => va_runV (As := [.int (nI (en + 1))]) (rest := [.int (nI ((dvZ (chZ T L en)) * 10)), .ref o]) F.1 (kX3_codeAt l g t ch L T (en + 1) H.size (by omega) (by omega)) (cwV 1 hts gX1_readNumber_X3_codeAt rfl rfl rfl ⟨rfl, hd_X3_codeAt⟩ ⟨Nat.le_of_ble_eq_true rfl, Nat.le_of_ble_eq_true rfl⟩) ⟨hp.1, va_recv F.2.2.2.1.1 w.1 (q0 := 1) (ci := 3) rfl rfl, hp.2⟩ rfl rfl hl.1 rfl (lv_room (Nat.le_of_ble_eq_true rfl)) dX1_readNumber_68 ⟨Nat.le_of_ble_eq_true rfl, Nat.le_of_ble_eq_true rfl⟩)
        (fun r_13 _ H locs h_14 w => ?_)
      subst h_14
      refine lv_iadd hx hb dX1_readNumber_71 ?_
      refine lv_bipush (v := nI 48) hx hb dX1_readNumber_72 (by decide) ?_
      refine lv_isub hx hb dX1_readNumber_74 ?_
      refine ktopi (y := nI (dvZ (chZ T L en) * 10 + dvZ (chZ T L (en + 1)))) (dvZ_acc h_12 _) ?_
      refine kput (fs := [.int vb, .int (nI n1), .int (nI n2), .int (nI (dvZ (chZ T L en))), .int (nI (en + 1))]) F w in_X1_readNumber_X1 tyX1_ok nmX1 0 rfl rfl 3 (by decide) (by decide +kernel) rfl rfl (rfl) (rfl) (Nat.le_of_ble_eq_true rfl) (wn := [cO o vb n1 n2 (dvZ (chZ T L en) * 10 + dvZ (chZ T L (en + 1))) (en + 1), cT t ch L, xC g ch 60 T]) rfl dX1_readNumber_75 (fun H locs w => ?_)
      refine lv_aload_n hx hb dX1_readNumber_78 rfl (lv_at hl 0 rfl) ?_
      refine lv_dup hx hb dX1_readNumber_79 rfl ?_
      refine kget (fs := [.int vb, .int (nI n1), .int (nI n2), .int (nI (dvZ (chZ T L en) * 10 + dvZ (chZ T L (en + 1)))), .int (nI (en + 1))]) F w in_X1_readNumber_X1 0 rfl rfl 4 (by decide) (by decide +kernel) rfl rfl dX1_readNumber_80 ?_
      refine lv_iconst (v := nI 1) hx hb dX1_readNumber_83 (by decide) ?_
      refine lv_iadd hx hb dX1_readNumber_84 ?_
      refine ktopi (y := nI (en + 1 + 1)) (nI_add (en + 1) 1) ?_
      refine kput (fs := [.int vb, .int (nI n1), .int (nI n2), .int (nI (dvZ (chZ T L en) * 10 + dvZ (chZ T L (en + 1)))), .int (nI (en + 1))]) F w in_X1_readNumber_X1 tyX1_ok nmX1 0 rfl rfl 4 (by decide) (by decide +kernel) rfl rfl (rfl) (rfl) (Nat.le_of_ble_eq_true rfl) (wn := [cO o vb n1 n2 (dvZ (chZ T L en) * 10 + dvZ (chZ T L (en + 1))) (en + 1 + 1), cT t ch L, xC g ch 60 T]) rfl dX1_readNumber_85 (fun H locs w => ?_)
      refine lv_iconst (v := nI 1) hx hb dX1_readNumber_88 (by decide) ?_
      have w : kW g A s [cO o vb n1 n2 (nVd T L en nm) (nEd T L en), cT t ch L, xC g ch 60 T] H locs := by
        have w := w
        rw [e1, e2]; exact w
      subst hA
      subst hQ
      exact kretz F w () [0, 1, 2] rfl rfl (by show nI 1 = bI (dgZ (chZ T L en)); rw [h_5]; rfl) (by decide +kernel) (Nat.le_of_ble_eq_true rfl) (Nat.le_of_ble_eq_true rfl) dX1_readNumber_89
  · have h_5 : (dgZ (chZ T L en)) = false := bI_z.mp h_5
    have e1 : nVd T L en nm = nm := if_neg (by rw [h_5]; decide)
    have e2 : nEd T L en = en := if_neg (by rw [h_5]; decide)
    refine lv_iconst (v := nI 0) hx hb dX1_readNumber_14 (by decide) ?_
    have w : kW g A s [cO o vb n1 n2 (nVd T L en nm) (nEd T L en), cT t ch L, xC g ch 60 T] H locs := by
      have w := w
      rw [e1, e2]; exact w
    subst hA
    subst hQ
    exact kretz F w () [0, 1, 2] rfl rfl (by show nI 0 = bI (dgZ (chZ T L en)); rw [h_5]; rfl) (by decide +kernel) (Nat.le_of_ble_eq_true rfl) (Nat.le_of_ble_eq_true rfl) dX1_readNumber_15
theorem in_X1_readFrom_X1 : ∀ w ∈ wsX10, w ∈ wsX1_readFrom := by decide +kernel
theorem hd_X1_isVerb : yX1_isVerb.cls ≠ "java/lang/invoke/MethodHandle" ∧ yX1_isVerb.cls ≠ "java/lang/invoke/VarHandle" ∧ (parseMethodDescriptor yX1_isVerb.desc).map (fun d => d.parameters.length) = some 1 := by decide +kernel
theorem hd_X1_readNumber : yX1_readNumber.cls ≠ "java/lang/invoke/MethodHandle" ∧ yX1_readNumber.cls ≠ "java/lang/invoke/VarHandle" ∧ (parseMethodDescriptor yX1_readNumber.desc).map (fun d => d.parameters.length) = some 1 := by decide +kernel
theorem hd_X1_readSign : yX1_readSign.cls ≠ "java/lang/invoke/MethodHandle" ∧ yX1_readSign.cls ≠ "java/lang/invoke/VarHandle" ∧ (parseMethodDescriptor yX1_readSign.desc).map (fun d => d.parameters.length) = some 2 := by decide +kernel
abbrev rmX1_readFrom : Room := { frames := 2, cells := 0, slots := 0, locals := 43 }
set_option maxHeartbeats 4000000 in
set_option maxRecDepth 100000 in
theorem kX1_readFrom (l : Launch) (g : GG) (o : Nat) (vb : Int32) (n1 : Nat) (n2 : Nat) (nm : Nat) (en : Nat) (t : Nat) (ch : Nat) (L : Nat) (T : Nat → Int32) (q : Nat) (sz : Nat) (hL : L ≤ 60) (hq : q < 1000) : Met l yX1_readFrom wsX1_readFrom rmX1_readFrom (va_Pc [.ref o, .ref t, .int (nI q)] (kPre g [cO o vb n1 n2 nm en, cT t ch L, xC g ch 60 T] sz)) (va_Qi (fun (r : Int32) (u : Nat × Nat × Nat) => r = bI (pOK T L q) ∧ (pOK T L q = true → u.1 = pN1 T L q ∧ u.2.1 = pN2x T L q)) (kB g (va_A [cO o vb n1 n2 nm en, cT t ch L, xC g ch 60 T] sz) (fun u => [cO o (chZ T L q) u.1 u.2.1 u.2.2 (pE T L q), cT t ch L, xC g ch 60 T])) (va_A [cO o vb n1 n2 nm en, cT t ch L, xC g ch 60 T] sz)) 0 0 (va_A [cO o vb n1 n2 nm en, cT t ch L, xC g ch 60 T] sz) := by
  refine kMet (cc := cX1_readFrom) (maxL := 3) (ret := (some .boolean)) (own := RX1) (by decide) rfl rfl (Nat.le_of_ble_eq_true rfl) ?_
  intro p e s m args below meth c ls Q H locs A F w hl hnm hA hQ
  have hx := F.1.1
  have hb := F.1.2.1
  have hts := F.1.2.2.2.2
  have hl : lv_has ls 3 [(0, .ref o), (1, .ref t), (2, .int (nI q))] := hl
  refine lv_aload_n hx hb dX1_readFrom_0 rfl (lv_at hl 0 rfl) ?_
  refine lv_iload_n hx hb dX1_readFrom_1 rfl (lv_at hl 2 rfl) ?_
  refine kput (fs := [.int vb, .int (nI n1), .int (nI n2), .int (nI nm), .int (nI en)]) F w in_X1_readFrom_X1 tyX1_ok nmX1 0 rfl rfl 4 (by decide) (by decide +kernel) rfl rfl (rfl) (rfl) (Nat.le_of_ble_eq_true rfl) (wn := [cO o vb n1 n2 nm q, cT t ch L, xC g ch 60 T]) rfl dX1_readFrom_2 (fun H locs w => ?_)
  refine lv_aload_n hx hb dX1_readFrom_5 rfl (lv_at hl 0 rfl) ?_
  refine lv_aload_n hx hb dX1_readFrom_6 rfl (lv_at hl 1 rfl) ?_
  refine lv_iload_n hx hb dX1_readFrom_7 rfl (lv_at hl 2 rfl) ?_
  refine kcalli (wc := [cT t ch L, xC g ch 60 T]) (wr := [cO o vb n1 n2 nm q]) (wn := fun (u : Unit) => [cO o vb n1 n2 nm q, cT t ch L, xC g ch 60 T]) F w [1, 2] [0] [0, 1, 2] rfl rfl rfl (fun _ => rfl)
    (fun hp => va_runV (As := [.int (nI q)]) (rest := [.ref o]) F.1 (kX3_codeAt l g t ch L T q H.size (by omega) (by omega)) (cwV 1 hts gX1_readFrom_X3_codeAt rfl rfl rfl ⟨rfl, hd_X3_codeAt⟩ ⟨Nat.le_of_ble_eq_true rfl, Nat.le_of_ble_eq_true rfl⟩) ⟨hp.1, va_recv F.2.2.2.1.1 w.1 (q0 := 1) (ci := 3) rfl rfl, hp.2⟩ rfl rfl hl.1 rfl (lv_room (Nat.le_of_ble_eq_true rfl)) dX1_readFrom_8 ⟨Nat.le_of_ble_eq_true rfl, Nat.le_of_ble_eq_true rfl⟩)
    (fun r_1 _ H locs h_2 w => ?_)
  subst h_2
  refine kput (fs := [.int vb, .int (nI n1), .int (nI n2), .int (nI nm), .int (nI q)]) F w in_X1_readFrom_X1 tyX1_ok nmX1 0 rfl rfl 0 (by decide) (by decide +kernel) rfl rfl (rfl) (rfl) (Nat.le_of_ble_eq_true rfl) (wn := [cO o (chZ T L q) n1 n2 nm q, cT t ch L, xC g ch 60 T]) rfl dX1_readFrom_11 (fun H locs w => ?_)
  refine lv_aload_n hx hb dX1_readFrom_14 rfl (lv_at hl 0 rfl) ?_
  refine lv_iconst (v := nI 0) hx hb dX1_readFrom_15 (by decide) ?_
  refine kput (fs := [.int (chZ T L q), .int (nI n1), .int (nI n2), .int (nI nm), .int (nI q)]) F w in_X1_readFrom_X1 tyX1_ok nmX1 0 rfl rfl 1 (by decide) (by decide +kernel) rfl rfl (rfl) (rfl) (Nat.le_of_ble_eq_true rfl) (wn := [cO o (chZ T L q) 0 n2 nm q, cT t ch L, xC g ch 60 T]) rfl dX1_readFrom_16 (fun H locs w => ?_)
  refine lv_aload_n hx hb dX1_readFrom_19 rfl (lv_at hl 0 rfl) ?_
  refine lv_iconst (v := nI 0) hx hb dX1_readFrom_20 (by decide) ?_
  refine kput (fs := [.int (chZ T L q), .int (nI 0), .int (nI n2), .int (nI nm), .int (nI q)]) F w in_X1_readFrom_X1 tyX1_ok nmX1 0 rfl rfl 2 (by decide) (by decide +kernel) rfl rfl (rfl) (rfl) (Nat.le_of_ble_eq_true rfl) (wn := [cO o (chZ T L q) 0 0 nm q, cT t ch L, xC g ch 60 T]) rfl dX1_readFrom_21 (fun H locs w => ?_)
  refine lv_aload_n hx hb dX1_readFrom_24 rfl (lv_at hl 0 rfl) ?_
  refine kget (fs := [.int (chZ T L q), .int (nI 0), .int (nI 0), .int (nI nm), .int (nI q)]) F w in_X1_readFrom_X1 0 rfl rfl 0 (by decide) (by decide +kernel) rfl rfl dX1_readFrom_25 ?_
  refine kcalli (wc := []) (wr := [cO o (chZ T L q) 0 0 nm q, cT t ch L, xC g ch 60 T]) (wn := fun (u : Unit) => [cO o (chZ T L q) 0 0 nm q, cT t ch L, xC g ch 60 T]) F w [] [0, 1, 2] [0, 1, 2] rfl rfl rfl (fun _ => rfl)
    (fun hp => va_runS (As := [.int (chZ T L q)]) (rest := []) F.1 (kX1_isVerb l g (chZ T L q) H.size ) (va_cwS 1 hts gX1_readFrom_X1_isVerb rfl rfl rfl hd_X1_isVerb ⟨Nat.le_of_ble_eq_true rfl, Nat.le_of_ble_eq_true rfl⟩) hp rfl rfl hl.1 rfl (lv_room (Nat.le_of_ble_eq_true rfl)) dX1_readFrom_28 ⟨Nat.le_of_ble_eq_true rfl, Nat.le_of_ble_eq_true rfl⟩)
    (fun r_3 _ H locs h_4 w => ?_)
  subst h_4
  refine lv_if_ne (tgt := 36) hx hb dX1_readFrom_31 (by decide) (fun h_5 => ?_) (fun h_5 => ?_)
  · have h_5 : (vbZ (chZ T L q)) = true := bI_o.mp h_5
    refine lv_aload_n hx hb dX1_readFrom_36 rfl (lv_at hl 0 rfl) ?_
    refine lv_dup hx hb dX1_readFrom_37 rfl ?_
    refine kget (fs := [.int (chZ T L q), .int (nI 0), .int (nI 0), .int (nI nm), .int (nI q)]) F w in_X1_readFrom_X1 0 rfl rfl 4 (by decide) (by decide +kernel) rfl rfl dX1_readFrom_38 ?_
    refine lv_iconst (v := nI 1) hx hb dX1_readFrom_41 (by decide) ?_
    refine lv_iadd hx hb dX1_readFrom_42 ?_
    refine ktopi (y := nI (q + 1)) (nI_add q 1) ?_
    refine kput (fs := [.int (chZ T L q), .int (nI 0), .int (nI 0), .int (nI nm), .int (nI q)]) F w in_X1_readFrom_X1 tyX1_ok nmX1 0 rfl rfl 4 (by decide) (by decide +kernel) rfl rfl (rfl) (rfl) (Nat.le_of_ble_eq_true rfl) (wn := [cO o (chZ T L q) 0 0 nm (q + 1), cT t ch L, xC g ch 60 T]) rfl dX1_readFrom_43 (fun H locs w => ?_)
    refine lv_aload_n hx hb dX1_readFrom_46 rfl (lv_at hl 0 rfl) ?_
    refine lv_aload_n hx hb dX1_readFrom_47 rfl (lv_at hl 1 rfl) ?_
    refine kcalli (wc := [cO o (chZ T L q) 0 0 nm (q + 1), cT t ch L, xC g ch 60 T]) (wr := []) (wn := fun (u : Unit) => [cO o (chZ T L q) 0 0 (nVd T L (q + 1) nm) (nEd T L (q + 1)), cT t ch L, xC g ch 60 T]) F w [0, 1, 2] [] [0, 1, 2] rfl rfl rfl (fun _ => rfl)
      (fun hp => va_runV (As := [.ref t]) (rest := []) F.1 (kX1_readNumber l g o (chZ T L q) 0 0 nm (q + 1) t ch L T H.size (by omega) (by omega)) (cwV 1 hts gX1_readFrom_X1_readNumber rfl rfl rfl ⟨rfl, hd_X1_readNumber⟩ ⟨Nat.le_of_ble_eq_true rfl, Nat.le_of_ble_eq_true rfl⟩) ⟨hp.1, va_recv F.2.2.2.1.1 w.1 (q0 := 0) (ci := 1) rfl rfl, hp.2⟩ rfl rfl hl.1 rfl (lv_room (Nat.le_of_ble_eq_true rfl)) dX1_readFrom_48 ⟨Nat.le_of_ble_eq_true rfl, Nat.le_of_ble_eq_true rfl⟩)
      (fun r_6 _ H locs h_7 w => ?_)
    subst h_7
    refine lv_if_ne (tgt := 56) hx hb dX1_readFrom_51 (by decide) (fun h_8 => ?_) (fun h_8 => ?_)
    · have h_8 : (dgZ (chZ T L (q + 1))) = true := bI_o.mp h_8
      have w : kW g A s [cO o (chZ T L q) 0 0 (pN1 T L q) (nEz T L (q + 1)), cT t ch L, xC g ch 60 T] H locs := by
        have w := w
        rw [show nEd T L (q + 1) = nEz T L (q + 1) from if_pos h_8, show nVd T L (q + 1) nm = nVz T L (q + 1) from if_pos h_8] at w; exact w
      have hz1 := nEz_le (T := T) (L := L) (p := q + 1)
      refine lv_aload_n hx hb dX1_readFrom_56 rfl (lv_at hl 0 rfl) ?_
      refine lv_aload_n hx hb dX1_readFrom_57 rfl (lv_at hl 0 rfl) ?_
      refine kget (fs := [.int (chZ T L q), .int (nI 0), .int (nI 0), .int (nI (pN1 T L q)), .int (nI (nEz T L (q + 1)))]) F w in_X1_readFrom_X1 0 rfl rfl 3 (by decide) (by decide +kernel) rfl rfl dX1_readFrom_58 ?_
      refine kput (fs := [.int (chZ T L q), .int (nI 0), .int (nI 0), .int (nI (pN1 T L q)), .int (nI (nEz T L (q + 1)))]) F w in_X1_readFrom_X1 tyX1_ok nmX1 0 rfl rfl 1 (by decide) (by decide +kernel) rfl rfl (rfl) (rfl) (Nat.le_of_ble_eq_true rfl) (wn := [cO o (chZ T L q) (pN1 T L q) 0 (pN1 T L q) (nEz T L (q + 1)), cT t ch L, xC g ch 60 T]) rfl dX1_readFrom_61 (fun H locs w => ?_)
      refine lv_aload_n hx hb dX1_readFrom_64 rfl (lv_at hl 0 rfl) ?_
      refine kget (fs := [.int (chZ T L q), .int (nI (pN1 T L q)), .int (nI 0), .int (nI (pN1 T L q)), .int (nI (nEz T L (q + 1)))]) F w in_X1_readFrom_X1 0 rfl rfl 0 (by decide) (by decide +kernel) rfl rfl dX1_readFrom_65 ?_
      refine kcalli (wc := []) (wr := [cO o (chZ T L q) (pN1 T L q) 0 (pN1 T L q) (nEz T L (q + 1)), cT t ch L, xC g ch 60 T]) (wn := fun (u : Unit) => [cO o (chZ T L q) (pN1 T L q) 0 (pN1 T L q) (nEz T L (q + 1)), cT t ch L, xC g ch 60 T]) F w [] [0, 1, 2] [0, 1, 2] rfl rfl rfl (fun _ => rfl)
        (fun hp => va_runS (As := [.int (chZ T L q)]) (rest := []) F.1 (kX1_takesTwoNumbers l g (chZ T L q) H.size ) (va_cwS 1 hts gX1_readFrom_X1_takesTwoNumbers rfl rfl rfl hd_X1_takesTwoNumbers ⟨Nat.le_of_ble_eq_true rfl, Nat.le_of_ble_eq_true rfl⟩) hp rfl rfl hl.1 rfl (lv_room (Nat.le_of_ble_eq_true rfl)) dX1_readFrom_68 ⟨Nat.le_of_ble_eq_true rfl, Nat.le_of_ble_eq_true rfl⟩)
        (fun r_9 _ H locs h_10 w => ?_)
      subst h_10
      refine lv_if_eq (tgt := 102) hx hb dX1_readFrom_71 (by decide) (fun h_11 => ?_) (fun h_11 => ?_)
      · have h_11 : (twZ (chZ T L q)) = false := bI_z.mp h_11
        refine lv_aload_n hx hb dX1_readFrom_102 rfl (lv_at hl 0 rfl) ?_
        refine lv_aload_n hx hb dX1_readFrom_103 rfl (lv_at hl 1 rfl) ?_
        refine lv_bipush (v := nI 59) hx hb dX1_readFrom_104 (by decide) ?_
        refine kcalli (wc := [cO o (chZ T L q) (pN1 T L q) 0 (pN1 T L q) (nEz T L (q + 1)), cT t ch L, xC g ch 60 T]) (wr := []) (wn := fun (u : Unit) => [cO o (chZ T L q) (pN1 T L q) 0 (pN1 T L q) (sgE T L (nEz T L (q + 1)) 59), cT t ch L, xC g ch 60 T]) F w [0, 1, 2] [] [0, 1, 2] rfl rfl rfl (fun _ => rfl)
          (fun hp => va_runV (As := [.ref t, .int (nI 59)]) (rest := []) F.1 (kX1_readSign l g o (chZ T L q) (pN1 T L q) 0 (pN1 T L q) (nEz T L (q + 1)) t ch L T 59 H.size (by omega) (by omega)) (cwV 2 hts gX1_readFrom_X1_readSign rfl rfl rfl ⟨rfl, hd_X1_readSign⟩ ⟨Nat.le_of_ble_eq_true rfl, Nat.le_of_ble_eq_true rfl⟩) ⟨hp.1, va_recv F.2.2.2.1.1 w.1 (q0 := 0) (ci := 1) rfl rfl, hp.2⟩ rfl rfl hl.1 rfl (lv_room (Nat.le_of_ble_eq_true rfl)) dX1_readFrom_106 ⟨Nat.le_of_ble_eq_true rfl, Nat.le_of_ble_eq_true rfl⟩)
          (fun r_12 _ H locs h_13 w => ?_)
        subst h_13
        cases hd9 : decide (chZ T L (nEz T L (q + 1)) = nI 59)
        · have hs9 : ¬ chZ T L (nEz T L (q + 1)) = nI 59 := by simpa using hd9
          have w : kW g A s [cO o (chZ T L q) (pN1 T L q) 0 (pN1 T L q) (nEz T L (q + 1)), cT t ch L, xC g ch 60 T] H locs := by
            have w := w
            rw [show sgE T L (nEz T L (q + 1)) 59 = nEz T L (q + 1) from if_neg hs9] at w; exact w
          have hok : pOK T L q = false := by unfold pOK; simp [h_5, h_8, h_11, hs9]
          have hpe : pE T L q = nEz T L (q + 1) := by unfold pE; simp [h_5, h_8, h_11, hs9]
          have w : kW g A s [cO o (chZ T L q) (pN1 T L q) 0 (pN1 T L q) (pE T L q), cT t ch L, xC g ch 60 T] H locs := by
            have w := w
            rw [hpe]; exact w
          subst hA
          subst hQ
          exact kretz F w (pN1 T L q, 0, pN1 T L q) [0, 1, 2] rfl rfl (⟨(show bI false = bI false from by first | rfl | decide).trans (congrArg bI hok.symm), fun hc => absurd (hok.symm.trans hc) (by decide)⟩) (kz_n _) (Nat.le_of_ble_eq_true rfl) (Nat.le_of_ble_eq_true rfl) dX1_readFrom_109
        · have hs9 : chZ T L (nEz T L (q + 1)) = nI 59 := by simpa using hd9
          have w : kW g A s [cO o (chZ T L q) (pN1 T L q) 0 (pN1 T L q) (nEz T L (q + 1) + 1), cT t ch L, xC g ch 60 T] H locs := by
            have w := w
            rw [show sgE T L (nEz T L (q + 1)) 59 = nEz T L (q + 1) + 1 from if_pos hs9] at w; exact w
          have hok : pOK T L q = true := by unfold pOK; simp [h_5, h_8, h_11, hs9]
          have hpe : pE T L q = nEz T L (q + 1) + 1 := by unfold pE; simp [h_5, h_8, h_11, hs9]
          have w : kW g A s [cO o (chZ T L q) (pN1 T L q) 0 (pN1 T L q) (pE T L q), cT t ch L, xC g ch 60 T] H locs := by
            have w := w
            rw [hpe]; exact w
          subst hA
          subst hQ
          exact kretz F w (pN1 T L q, 0, pN1 T L q) [0, 1, 2] rfl rfl (⟨(show bI true = bI true from by first | rfl | decide).trans (congrArg bI hok.symm), fun _ => ⟨rfl, (if_neg (by rw [h_11]; decide)).symm⟩⟩) (kz_n _) (Nat.le_of_ble_eq_true rfl) (Nat.le_of_ble_eq_true rfl) dX1_readFrom_109
      · have h_11 : (twZ (chZ T L q)) = true := bI_o.mp h_11
        refine lv_aload_n hx hb dX1_readFrom_74 rfl (lv_at hl 0 rfl) ?_
        refine lv_aload_n hx hb dX1_readFrom_75 rfl (lv_at hl 1 rfl) ?_
        refine lv_bipush (v := nI 44) hx hb dX1_readFrom_76 (by decide) ?_
        refine kcalli (wc := [cO o (chZ T L q) (pN1 T L q) 0 (pN1 T L q) (nEz T L (q + 1)), cT t ch L, xC g ch 60 T]) (wr := []) (wn := fun (u : Unit) => [cO o (chZ T L q) (pN1 T L q) 0 (pN1 T L q) (sgE T L (nEz T L (q + 1)) 44), cT t ch L, xC g ch 60 T]) F w [0, 1, 2] [] [0, 1, 2] rfl rfl rfl (fun _ => rfl)
          (fun hp => va_runV (As := [.ref t, .int (nI 44)]) (rest := []) F.1 (kX1_readSign l g o (chZ T L q) (pN1 T L q) 0 (pN1 T L q) (nEz T L (q + 1)) t ch L T 44 H.size (by omega) (by omega)) (cwV 2 hts gX1_readFrom_X1_readSign rfl rfl rfl ⟨rfl, hd_X1_readSign⟩ ⟨Nat.le_of_ble_eq_true rfl, Nat.le_of_ble_eq_true rfl⟩) ⟨hp.1, va_recv F.2.2.2.1.1 w.1 (q0 := 0) (ci := 1) rfl rfl, hp.2⟩ rfl rfl hl.1 rfl (lv_room (Nat.le_of_ble_eq_true rfl)) dX1_readFrom_78 ⟨Nat.le_of_ble_eq_true rfl, Nat.le_of_ble_eq_true rfl⟩)
          (fun r_14 _ H locs h_15 w => ?_)
        subst h_15
        refine lv_if_eq (tgt := 92) hx hb dX1_readFrom_81 (by decide) (fun h_16 => ?_) (fun h_16 => ?_)
        · have h_16 : (decide (chZ T L (nEz T L (q + 1)) = nI 44)) = false := bI_z.mp h_16
          have hs4 : ¬ chZ T L (nEz T L (q + 1)) = nI 44 := of_decide_eq_false h_16
          have w : kW g A s [cO o (chZ T L q) (pN1 T L q) 0 (pN1 T L q) (nEz T L (q + 1)), cT t ch L, xC g ch 60 T] H locs := by
            have w := w
            rw [show sgE T L (nEz T L (q + 1)) 44 = nEz T L (q + 1) from if_neg hs4] at w; exact w
          refine lv_iconst (v := nI 0) hx hb dX1_readFrom_92 (by decide) ?_
          have hok : pOK T L q = false := by unfold pOK; simp [h_5, h_8, h_11, hs4]
          have hpe : pE T L q = nEz T L (q + 1) := by unfold pE; simp [h_5, h_8, h_11, hs4]
          have w : kW g A s [cO o (chZ T L q) (pN1 T L q) 0 (pN1 T L q) (pE T L q), cT t ch L, xC g ch 60 T] H locs := by
            have w := w
            rw [hpe]; exact w
          subst hA
          subst hQ
          exact kretz F w (pN1 T L q, 0, pN1 T L q) [0, 1, 2] rfl rfl (⟨(show nI 0 = bI false from by first | rfl | decide).trans (congrArg bI hok.symm), fun hc => absurd (hok.symm.trans hc) (by decide)⟩) (by decide +kernel) (Nat.le_of_ble_eq_true rfl) (Nat.le_of_ble_eq_true rfl) dX1_readFrom_93
        · have h_16 : (decide (chZ T L (nEz T L (q + 1)) = nI 44)) = true := bI_o.mp h_16
          have hs4 : chZ T L (nEz T L (q + 1)) = nI 44 := of_decide_eq_true h_16
          have w : kW g A s [cO o (chZ T L q) (pN1 T L q) 0 (pN1 T L q) (nEz T L (q + 1) + 1), cT t ch L, xC g ch 60 T] H locs := by
            have w := w
            rw [show sgE T L (nEz T L (q + 1)) 44 = nEz T L (q + 1) + 1 from if_pos hs4] at w; exact w
          refine lv_aload_n hx hb dX1_readFrom_84 rfl (lv_at hl 0 rfl) ?_
          refine lv_aload_n hx hb dX1_readFrom_85 rfl (lv_at hl 1 rfl) ?_
          refine kcalli (wc := [cO o (chZ T L q) (pN1 T L q) 0 (pN1 T L q) (nEz T L (q + 1) + 1), cT t ch L, xC g ch 60 T]) (wr := []) (wn := fun (u : Unit) => [cO o (chZ T L q) (pN1 T L q) 0 (nVd T L (nEz T L (q + 1) + 1) (pN1 T L q)) (nEd T L (nEz T L (q + 1) + 1)), cT t ch L, xC g ch 60 T]) F w [0, 1, 2] [] [0, 1, 2] rfl rfl rfl (fun _ => rfl)
            (fun hp => va_runV (As := [.ref t]) (rest := []) F.1 (kX1_readNumber l g o (chZ T L q) (pN1 T L q) 0 (pN1 T L q) (nEz T L (q + 1) + 1) t ch L T H.size (by omega) (by omega)) (cwV 1 hts gX1_readFrom_X1_readNumber rfl rfl rfl ⟨rfl, hd_X1_readNumber⟩ ⟨Nat.le_of_ble_eq_true rfl, Nat.le_of_ble_eq_true rfl⟩) ⟨hp.1, va_recv F.2.2.2.1.1 w.1 (q0 := 0) (ci := 1) rfl rfl, hp.2⟩ rfl rfl hl.1 rfl (lv_room (Nat.le_of_ble_eq_true rfl)) dX1_readFrom_86 ⟨Nat.le_of_ble_eq_true rfl, Nat.le_of_ble_eq_true rfl⟩)
            (fun r_17 _ H locs h_18 w => ?_)
          subst h_18
          refine lv_if_ne (tgt := 94) hx hb dX1_readFrom_89 (by decide) (fun h_19 => ?_) (fun h_19 => ?_)
          · have h_19 : (dgZ (chZ T L (nEz T L (q + 1) + 1))) = true := bI_o.mp h_19
            have w : kW g A s [cO o (chZ T L q) (pN1 T L q) 0 (pN2 T L q) (nEz T L (nEz T L (q + 1) + 1)), cT t ch L, xC g ch 60 T] H locs := by
              have w := w
              rw [show nEd T L (nEz T L (q + 1) + 1) = nEz T L (nEz T L (q + 1) + 1) from if_pos h_19, show nVd T L (nEz T L (q + 1) + 1) (pN1 T L q) = nVz T L (nEz T L (q + 1) + 1) from if_pos h_19] at w; exact w
            have hz2 := nEz_le (T := T) (L := L) (p := nEz T L (q + 1) + 1)
            refine lv_aload_n hx hb dX1_readFrom_94 rfl (lv_at hl 0 rfl) ?_
            refine lv_aload_n hx hb dX1_readFrom_95 rfl (lv_at hl 0 rfl) ?_
            refine kget (fs := [.int (chZ T L q), .int (nI (pN1 T L q)), .int (nI 0), .int (nI (pN2 T L q)), .int (nI (nEz T L (nEz T L (q + 1) + 1)))]) F w in_X1_readFrom_X1 0 rfl rfl 3 (by decide) (by decide +kernel) rfl rfl dX1_readFrom_96 ?_
            refine kput (fs := [.int (chZ T L q), .int (nI (pN1 T L q)), .int (nI 0), .int (nI (pN2 T L q)), .int (nI (nEz T L (nEz T L (q + 1) + 1)))]) F w in_X1_readFrom_X1 tyX1_ok nmX1 0 rfl rfl 2 (by decide) (by decide +kernel) rfl rfl (rfl) (rfl) (Nat.le_of_ble_eq_true rfl) (wn := [cO o (chZ T L q) (pN1 T L q) (pN2 T L q) (pN2 T L q) (nEz T L (nEz T L (q + 1) + 1)), cT t ch L, xC g ch 60 T]) rfl dX1_readFrom_99 (fun H locs w => ?_)
            refine lv_aload_n hx hb dX1_readFrom_102 rfl (lv_at hl 0 rfl) ?_
            refine lv_aload_n hx hb dX1_readFrom_103 rfl (lv_at hl 1 rfl) ?_
            refine lv_bipush (v := nI 59) hx hb dX1_readFrom_104 (by decide) ?_
            refine kcalli (wc := [cO o (chZ T L q) (pN1 T L q) (pN2 T L q) (pN2 T L q) (nEz T L (nEz T L (q + 1) + 1)), cT t ch L, xC g ch 60 T]) (wr := []) (wn := fun (u : Unit) => [cO o (chZ T L q) (pN1 T L q) (pN2 T L q) (pN2 T L q) (sgE T L (nEz T L (nEz T L (q + 1) + 1)) 59), cT t ch L, xC g ch 60 T]) F w [0, 1, 2] [] [0, 1, 2] rfl rfl rfl (fun _ => rfl)
              (fun hp => va_runV (As := [.ref t, .int (nI 59)]) (rest := []) F.1 (kX1_readSign l g o (chZ T L q) (pN1 T L q) (pN2 T L q) (pN2 T L q) (nEz T L (nEz T L (q + 1) + 1)) t ch L T 59 H.size (by omega) (by omega)) (cwV 2 hts gX1_readFrom_X1_readSign rfl rfl rfl ⟨rfl, hd_X1_readSign⟩ ⟨Nat.le_of_ble_eq_true rfl, Nat.le_of_ble_eq_true rfl⟩) ⟨hp.1, va_recv F.2.2.2.1.1 w.1 (q0 := 0) (ci := 1) rfl rfl, hp.2⟩ rfl rfl hl.1 rfl (lv_room (Nat.le_of_ble_eq_true rfl)) dX1_readFrom_106 ⟨Nat.le_of_ble_eq_true rfl, Nat.le_of_ble_eq_true rfl⟩)
              (fun r_20 _ H locs h_21 w => ?_)
            subst h_21
            cases hd9 : decide (chZ T L (nEz T L (nEz T L (q + 1) + 1)) = nI 59)
            · have hs9 : ¬ chZ T L (nEz T L (nEz T L (q + 1) + 1)) = nI 59 := by simpa using hd9
              have w : kW g A s [cO o (chZ T L q) (pN1 T L q) (pN2 T L q) (pN2 T L q) (nEz T L (nEz T L (q + 1) + 1)), cT t ch L, xC g ch 60 T] H locs := by
                have w := w
                rw [show sgE T L (nEz T L (nEz T L (q + 1) + 1)) 59 = nEz T L (nEz T L (q + 1) + 1) from if_neg hs9] at w; exact w
              have hok : pOK T L q = false := by unfold pOK; simp [h_5, h_8, h_11, hs4, h_19, hs9]
              have hpe : pE T L q = nEz T L (nEz T L (q + 1) + 1) := by unfold pE; simp [h_5, h_8, h_11, hs4, h_19, hs9]
              have w : kW g A s [cO o (chZ T L q) (pN1 T L q) (pN2 T L q) (pN2 T L q) (pE T L q), cT t ch L, xC g ch 60 T] H locs := by
                have w := w
                rw [hpe]; exact w
              subst hA
              subst hQ
              exact kretz F w (pN1 T L q, pN2 T L q, pN2 T L q) [0, 1, 2] rfl rfl (⟨(show bI false = bI false from by first | rfl | decide).trans (congrArg bI hok.symm), fun hc => absurd (hok.symm.trans hc) (by decide)⟩) (kz_n _) (Nat.le_of_ble_eq_true rfl) (Nat.le_of_ble_eq_true rfl) dX1_readFrom_109
            · have hs9 : chZ T L (nEz T L (nEz T L (q + 1) + 1)) = nI 59 := by simpa using hd9
              have w : kW g A s [cO o (chZ T L q) (pN1 T L q) (pN2 T L q) (pN2 T L q) (nEz T L (nEz T L (q + 1) + 1) + 1), cT t ch L, xC g ch 60 T] H locs := by
                have w := w
                rw [show sgE T L (nEz T L (nEz T L (q + 1) + 1)) 59 = nEz T L (nEz T L (q + 1) + 1) + 1 from if_pos hs9] at w; exact w
              have hok : pOK T L q = true := by unfold pOK; simp [h_5, h_8, h_11, hs4, h_19, hs9]
              have hpe : pE T L q = nEz T L (nEz T L (q + 1) + 1) + 1 := by unfold pE; simp [h_5, h_8, h_11, hs4, h_19, hs9]
              have w : kW g A s [cO o (chZ T L q) (pN1 T L q) (pN2 T L q) (pN2 T L q) (pE T L q), cT t ch L, xC g ch 60 T] H locs := by
                have w := w
                rw [hpe]; exact w
              subst hA
              subst hQ
              exact kretz F w (pN1 T L q, pN2 T L q, pN2 T L q) [0, 1, 2] rfl rfl (⟨(show bI true = bI true from by first | rfl | decide).trans (congrArg bI hok.symm), fun _ => ⟨rfl, (if_pos h_11).symm⟩⟩) (kz_n _) (Nat.le_of_ble_eq_true rfl) (Nat.le_of_ble_eq_true rfl) dX1_readFrom_109
          · have h_19 : (dgZ (chZ T L (nEz T L (q + 1) + 1))) = false := bI_z.mp h_19
            have w : kW g A s [cO o (chZ T L q) (pN1 T L q) 0 (pN1 T L q) (nEz T L (q + 1) + 1), cT t ch L, xC g ch 60 T] H locs := by
              have w := w
              rw [show nEd T L (nEz T L (q + 1) + 1) = nEz T L (q + 1) + 1 from if_neg (by rw [h_19]; decide), show nVd T L (nEz T L (q + 1) + 1) (pN1 T L q) = pN1 T L q from if_neg (by rw [h_19]; decide)] at w; exact w
            refine lv_iconst (v := nI 0) hx hb dX1_readFrom_92 (by decide) ?_
            have hok : pOK T L q = false := by unfold pOK; simp [h_5, h_8, h_11, hs4, h_19]
            have hpe : pE T L q = nEz T L (q + 1) + 1 := by unfold pE; simp [h_5, h_8, h_11, hs4, h_19]
            have w : kW g A s [cO o (chZ T L q) (pN1 T L q) 0 (pN1 T L q) (pE T L q), cT t ch L, xC g ch 60 T] H locs := by
              have w := w
              rw [hpe]; exact w
            subst hA
            subst hQ
            exact kretz F w (pN1 T L q, 0, pN1 T L q) [0, 1, 2] rfl rfl (⟨(show nI 0 = bI false from by first | rfl | decide).trans (congrArg bI hok.symm), fun hc => absurd (hok.symm.trans hc) (by decide)⟩) (by decide +kernel) (Nat.le_of_ble_eq_true rfl) (Nat.le_of_ble_eq_true rfl) dX1_readFrom_93
    · have h_8 : (dgZ (chZ T L (q + 1))) = false := bI_z.mp h_8
      have w : kW g A s [cO o (chZ T L q) 0 0 nm (q + 1), cT t ch L, xC g ch 60 T] H locs := by
        have w := w
        rw [show nEd T L (q + 1) = q + 1 from if_neg (by rw [h_8]; decide), show nVd T L (q + 1) nm = nm from if_neg (by rw [h_8]; decide)] at w; exact w
      refine lv_iconst (v := nI 0) hx hb dX1_readFrom_54 (by decide) ?_
      have hok : pOK T L q = false := by unfold pOK; simp [h_5, h_8]
      have hpe : pE T L q = q + 1 := by unfold pE; simp [h_5, h_8]
      have w : kW g A s [cO o (chZ T L q) 0 0 nm (pE T L q), cT t ch L, xC g ch 60 T] H locs := by
        have w := w
        rw [hpe]; exact w
      subst hA
      subst hQ
      exact kretz F w (0, 0, nm) [0, 1, 2] rfl rfl (⟨(show nI 0 = bI false from by first | rfl | decide).trans (congrArg bI hok.symm), fun hc => absurd (hok.symm.trans hc) (by decide)⟩) (by decide +kernel) (Nat.le_of_ble_eq_true rfl) (Nat.le_of_ble_eq_true rfl) dX1_readFrom_55
  · have h_5 : (vbZ (chZ T L q)) = false := bI_z.mp h_5
    refine lv_iconst (v := nI 0) hx hb dX1_readFrom_34 (by decide) ?_
    have hok : pOK T L q = false := by unfold pOK; simp [h_5]
    have hpe : pE T L q = q := by unfold pE; simp [h_5]
    have w : kW g A s [cO o (chZ T L q) 0 0 nm (pE T L q), cT t ch L, xC g ch 60 T] H locs := by
      have w := w
      rw [hpe]; exact w
    subst hA
    subst hQ
    exact kretz F w (0, 0, nm) [0, 1, 2] rfl rfl (⟨(show nI 0 = bI false from by first | rfl | decide).trans (congrArg bI hok.symm), fun hc => absurd (hok.symm.trans hc) (by decide)⟩) (by decide +kernel) (Nat.le_of_ble_eq_true rfl) (Nat.le_of_ble_eq_true rfl) dX1_readFrom_35
theorem in_X1_causeAgainst_X1 : ∀ w ∈ wsX10, w ∈ wsX1_causeAgainst := by decide +kernel
theorem in_X1_causeAgainst_X2 : ∀ w ∈ wsX20, w ∈ wsX1_causeAgainst := by decide +kernel
theorem hd_X2_reasonAgainst : yX2_reasonAgainst.cls ≠ "java/lang/invoke/MethodHandle" ∧ yX2_reasonAgainst.cls ≠ "java/lang/invoke/VarHandle" ∧ (parseMethodDescriptor yX2_reasonAgainst.desc).map (fun d => d.parameters.length) = some 2 := by decide +kernel
theorem hd_X5_isInRow : yX5_isInRow.cls ≠ "java/lang/invoke/MethodHandle" ∧ yX5_isInRow.cls ≠ "java/lang/invoke/VarHandle" ∧ (parseMethodDescriptor yX5_isInRow.desc).map (fun d => d.parameters.length) = some 1 := by decide +kernel
theorem hd_X5_isKind : yX5_isKind.cls ≠ "java/lang/invoke/MethodHandle" ∧ yX5_isKind.cls ≠ "java/lang/invoke/VarHandle" ∧ (parseMethodDescriptor yX5_isKind.desc).map (fun d => d.parameters.length) = some 1 := by decide +kernel
theorem hd_X5_isStretch : yX5_isStretch.cls ≠ "java/lang/invoke/MethodHandle" ∧ yX5_isStretch.cls ≠ "java/lang/invoke/VarHandle" ∧ (parseMethodDescriptor yX5_isStretch.desc).map (fun d => d.parameters.length) = some 2 := by decide +kernel
abbrev rmX1_causeAgainst : Room := { frames := 2, cells := 0, slots := 0, locals := 44 }
set_option maxHeartbeats 4000000 in
set_option maxRecDepth 100000 in
theorem kX1_causeAgainst (l : Launch) (g : GG) (o : Nat) (vb : Int32) (n1 : Nat) (n2 : Nat) (nm : Nat) (en : Nat) (r : Nat) (a : Nat) (b : Nat) (σ : Sg) (sz : Nat) (hn9 : n1 ≤ 99 ∧ n2 ≤ 99) : Met l yX1_causeAgainst wsX1_causeAgainst rmX1_causeAgainst (va_Pc [.ref o, .ref r] (kPre g [cO o vb n1 n2 nm en, cR r a b σ, xI g a 49 (zT σ), xI g b 49 (zI σ)] sz)) (va_Qi (fun (r : Int32) (u : Unit) => r = nI (cauZ vb n1 n2 σ)) (kB g (va_A [cO o vb n1 n2 nm en, cR r a b σ, xI g a 49 (zT σ), xI g b 49 (zI σ)] sz) (fun u => [cO o vb n1 n2 nm en, cR r a b σ, xI g a 49 (zT σ), xI g b 49 (zI σ)])) (va_A [cO o vb n1 n2 nm en, cR r a b σ, xI g a 49 (zT σ), xI g b 49 (zI σ)] sz)) 0 0 (va_A [cO o vb n1 n2 nm en, cR r a b σ, xI g a 49 (zT σ), xI g b 49 (zI σ)] sz) := by
  refine kMet (cc := cX1_causeAgainst) (maxL := 2) (ret := (some .int)) (own := RX1) (by decide) rfl rfl (Nat.le_of_ble_eq_true rfl) ?_
  intro p e s m args below meth c ls Q H locs A F w hl hnm hA hQ
  have hx := F.1.1
  have hb := F.1.2.1
  have hts := F.1.2.2.2.2
  have hl : lv_has ls 2 [(0, .ref o), (1, .ref r)] := hl
  refine lv_aload_n hx hb dX1_causeAgainst_0 rfl (lv_at hl 0 rfl) ?_
  refine kget (fs := [.int vb, .int (nI n1), .int (nI n2), .int (nI nm), .int (nI en)]) F w in_X1_causeAgainst_X1 0 rfl rfl 0 (by decide) (by decide +kernel) rfl rfl dX1_causeAgainst_1 ?_
  refine lv_bipush (v := nI 114) hx hb dX1_causeAgainst_4 (by decide) ?_
  refine lv_icmp_ne (tgt := 29) hx hb dX1_causeAgainst_6 (by decide) (fun h_1 => ?_) (fun h_1 => ?_)
  · refine lv_aload_n hx hb dX1_causeAgainst_29 rfl (lv_at hl 0 rfl) ?_
    refine kget (fs := [.int vb, .int (nI n1), .int (nI n2), .int (nI nm), .int (nI en)]) F w in_X1_causeAgainst_X1 0 rfl rfl 1 (by decide) (by decide +kernel) rfl rfl dX1_causeAgainst_30 ?_
    refine kcalli (wc := []) (wr := [cO o vb n1 n2 nm en, cR r a b σ, xI g a 49 (zT σ), xI g b 49 (zI σ)]) (wn := fun (u : Unit) => [cO o vb n1 n2 nm en, cR r a b σ, xI g a 49 (zT σ), xI g b 49 (zI σ)]) F w [] [0, 1, 2, 3] [0, 1, 2, 3] rfl rfl rfl (fun _ => rfl)
      (fun hp => va_runSN (As := [.int (nI n1)]) (rest := []) F.1 (kX5_isInRow l g (nI n1) H.size ) (⟨va_cnB (host := RX5) 1 hts gX1_causeAgainst_X5_isInRow_n55 rfl rfl rfl (F.2.2.2.1.2.1 _ (by decide +kernel)) (hts (.initialized RX5) (by decide +kernel)) hd_X5_isInRow ⟨Nat.le_of_ble_eq_true rfl, Nat.le_of_ble_eq_true rfl⟩, hts (.static yX5_isInRow) (by decide +kernel), trivial⟩) hp rfl rfl hl.1 rfl (lv_room (Nat.le_of_ble_eq_true rfl)) dX1_causeAgainst_33 ⟨Nat.le_of_ble_eq_true rfl, Nat.le_of_ble_eq_true rfl⟩)
      (fun r_2 _ H locs h_3 w => ?_)
    subst h_3
    refine lv_if_ne (tgt := 41) hx hb dX1_causeAgainst_36 (by decide) (fun h_4 => ?_) (fun h_4 => ?_)
    · have h_4 : (decide (1 ≤ (nI n1).toInt ∧ (nI n1).toInt ≤ 48)) = true := bI_o.mp h_4
      have hs9 : 1 ≤ n1 ∧ n1 ≤ 48 := by have := of_decide_eq_true h_4; rw [ki_n (by omega)] at this; omega
      refine lv_aload_n hx hb dX1_causeAgainst_41 rfl (lv_at hl 0 rfl) ?_
      refine kget (fs := [.int vb, .int (nI n1), .int (nI n2), .int (nI nm), .int (nI en)]) F w in_X1_causeAgainst_X1 0 rfl rfl 0 (by decide) (by decide +kernel) rfl rfl dX1_causeAgainst_42 ?_
      refine lv_bipush (v := nI 100) hx hb dX1_causeAgainst_45 (by decide) ?_
      refine lv_icmp_ne (tgt := 70) hx hb dX1_causeAgainst_47 (by decide) (fun h_5 => ?_) (fun h_5 => ?_)
      · refine lv_aload_n hx hb dX1_causeAgainst_70 rfl (lv_at hl 0 rfl) ?_
        refine kget (fs := [.int vb, .int (nI n1), .int (nI n2), .int (nI nm), .int (nI en)]) F w in_X1_causeAgainst_X1 0 rfl rfl 0 (by decide) (by decide +kernel) rfl rfl dX1_causeAgainst_71 ?_
        refine lv_bipush (v := nI 116) hx hb dX1_causeAgainst_74 (by decide) ?_
        refine lv_icmp_ne (tgt := 112) hx hb dX1_causeAgainst_76 (by decide) (fun h_6 => ?_) (fun h_6 => ?_)
        · refine lv_iconst (v := nI 0) hx hb dX1_causeAgainst_112 (by decide) ?_
          subst hA
          subst hQ
          exact kreti F w () [0, 1, 2, 3] rfl rfl (by show nI 0 = nI (cauZ vb n1 n2 σ); rw [show cauZ vb n1 n2 σ = 0 by unfold cauZ; simp [h_1, hs9, h_5, h_6]]) (Nat.le_of_ble_eq_true rfl) (Nat.le_of_ble_eq_true rfl) dX1_causeAgainst_113
        · refine lv_aload_n hx hb dX1_causeAgainst_79 rfl (lv_at hl 0 rfl) ?_
          refine kget (fs := [.int vb, .int (nI n1), .int (nI n2), .int (nI nm), .int (nI en)]) F w in_X1_causeAgainst_X1 0 rfl rfl 2 (by decide) (by decide +kernel) rfl rfl dX1_causeAgainst_80 ?_
          refine kcalli (wc := []) (wr := [cO o vb n1 n2 nm en, cR r a b σ, xI g a 49 (zT σ), xI g b 49 (zI σ)]) (wn := fun (u : Unit) => [cO o vb n1 n2 nm en, cR r a b σ, xI g a 49 (zT σ), xI g b 49 (zI σ)]) F w [] [0, 1, 2, 3] [0, 1, 2, 3] rfl rfl rfl (fun _ => rfl)
            (fun hp => va_runSN (As := [.int (nI n2)]) (rest := []) F.1 (kX5_isKind l g (nI n2) H.size ) (⟨va_cnB (host := RX5) 1 hts gX1_causeAgainst_X5_isKind_n68 rfl rfl rfl (F.2.2.2.1.2.1 _ (by decide +kernel)) (hts (.initialized RX5) (by decide +kernel)) hd_X5_isKind ⟨Nat.le_of_ble_eq_true rfl, Nat.le_of_ble_eq_true rfl⟩, hts (.static yX5_isKind) (by decide +kernel), trivial⟩) hp rfl rfl hl.1 rfl (lv_room (Nat.le_of_ble_eq_true rfl)) dX1_causeAgainst_83 ⟨Nat.le_of_ble_eq_true rfl, Nat.le_of_ble_eq_true rfl⟩)
            (fun r_7 _ H locs h_8 w => ?_)
          subst h_8
          refine lv_if_ne (tgt := 91) hx hb dX1_causeAgainst_86 (by decide) (fun h_9 => ?_) (fun h_9 => ?_)
          · have h_9 : (decide ((nI n2) = 0 ∨ (nI n2) = 1)) = true := bI_o.mp h_9
            have hk9 : n2 ≤ 1 := by
              rcases of_decide_eq_true h_9 with q | q
              · have := (kc0_eq_t (by omega)).mp q; omega
              · have q2 : nI n2 = nI 1 := q
                have := (nI_eq (by omega) (by omega)).mp q2; omega
            have hr4 := reasZ_le σ n1 (kdz n2)
            refine lv_aload_n hx hb dX1_causeAgainst_91 rfl (lv_at hl 1 rfl) ?_
            refine lv_aload_n hx hb dX1_causeAgainst_92 rfl (lv_at hl 0 rfl) ?_
            refine kget (fs := [.int vb, .int (nI n1), .int (nI n2), .int (nI nm), .int (nI en)]) F w in_X1_causeAgainst_X1 0 rfl rfl 1 (by decide) (by decide +kernel) rfl rfl dX1_causeAgainst_93 ?_
            refine lv_aload_n hx hb dX1_causeAgainst_96 rfl (lv_at hl 0 rfl) ?_
            refine kget (fs := [.int vb, .int (nI n1), .int (nI n2), .int (nI nm), .int (nI en)]) F w in_X1_causeAgainst_X1 0 rfl rfl 2 (by decide) (by decide +kernel) rfl rfl dX1_causeAgainst_97 ?_
            refine ktopi (y := bI (kdz n2)) (kdz_b hk9) ?_
            refine kcalli (wc := [cR r a b σ, xI g a 49 (zT σ), xI g b 49 (zI σ)]) (wr := [cO o vb n1 n2 nm en]) (wn := fun (u : Unit) => [cO o vb n1 n2 nm en, cR r a b σ, xI g a 49 (zT σ), xI g b 49 (zI σ)]) F w [1, 2, 3] [0] [0, 1, 2, 3] rfl rfl rfl (fun _ => rfl)
              (fun hp => va_runV (As := [.int (nI n1), .int (bI (kdz n2))]) (rest := []) F.1 (kX2_reasonAgainst l g r a b σ n1 (kdz n2) H.size (by omega)) (cwV 2 hts gX1_causeAgainst_X2_reasonAgainst rfl rfl rfl ⟨rfl, hd_X2_reasonAgainst⟩ ⟨Nat.le_of_ble_eq_true rfl, Nat.le_of_ble_eq_true rfl⟩) ⟨hp.1, va_recv F.2.2.2.1.1 w.1 (q0 := 1) (ci := 2) rfl rfl, hp.2⟩ rfl rfl hl.1 rfl (lv_room (Nat.le_of_ble_eq_true rfl)) dX1_causeAgainst_100 ⟨Nat.le_of_ble_eq_true rfl, Nat.le_of_ble_eq_true rfl⟩)
              (fun r_10 _ H locs h_11 w => ?_)
            subst h_11
            refine lv_if_ne (tgt := 110) hx hb dX1_causeAgainst_103 (by decide) (fun h_12 => ?_) (fun h_12 => ?_)
            · have h_12 : reasZ σ n1 (kdz n2) ≠ 0 := (kc0_ne_t (by omega)).mp h_12
              refine lv_iconst (v := nI 2) hx hb dX1_causeAgainst_110 (by decide) ?_
              subst hA
              subst hQ
              exact kreti F w () [0, 1, 2, 3] rfl rfl (by show nI 2 = nI (cauZ vb n1 n2 σ); rw [show cauZ vb n1 n2 σ = 2 by unfold cauZ; simp [h_1, hs9, h_5, h_6, hk9, h_12, show ¬ nI 116 = nI 114 by decide, show ¬ nI 116 = nI 100 by decide]]) (Nat.le_of_ble_eq_true rfl) (Nat.le_of_ble_eq_true rfl) dX1_causeAgainst_111
            · have h_12 : reasZ σ n1 (kdz n2) = 0 := (kc0_ne_f (by omega)).mp h_12
              refine lv_iconst (v := nI 0) hx hb dX1_causeAgainst_106 (by decide) ?_
              refine lv_goto (tgt := 111) hx hb dX1_causeAgainst_107 (by decide) ?_
              subst hA
              subst hQ
              exact kreti F w () [0, 1, 2, 3] rfl rfl (by show nI 0 = nI (cauZ vb n1 n2 σ); rw [show cauZ vb n1 n2 σ = 0 by unfold cauZ; simp [h_1, hs9, h_5, h_6, hk9, h_12, show ¬ nI 116 = nI 114 by decide, show ¬ nI 116 = nI 100 by decide]]) (Nat.le_of_ble_eq_true rfl) (Nat.le_of_ble_eq_true rfl) dX1_causeAgainst_111
          · have h_9 : (decide ((nI n2) = 0 ∨ (nI n2) = 1)) = false := bI_z.mp h_9
            have hk9 : ¬ n2 ≤ 1 := fun hc => of_decide_eq_false h_9 (by rw [kdz_b hc]; cases kdz n2; exact Or.inl rfl; exact Or.inr rfl)
            refine lv_iconst (v := nI 1) hx hb dX1_causeAgainst_89 (by decide) ?_
            subst hA
            subst hQ
            exact kreti F w () [0, 1, 2, 3] rfl rfl (by show nI 1 = nI (cauZ vb n1 n2 σ); rw [show cauZ vb n1 n2 σ = 1 by unfold cauZ; simp [h_1, hs9, h_5, h_6, hk9, show ¬ nI 116 = nI 114 by decide, show ¬ nI 116 = nI 100 by decide]]) (Nat.le_of_ble_eq_true rfl) (Nat.le_of_ble_eq_true rfl) dX1_causeAgainst_90
      · refine lv_aload_n hx hb dX1_causeAgainst_50 rfl (lv_at hl 1 rfl) ?_
        refine kgetN (host := RX5) (fs := [.long (zB (zO σ)), .long (zB (zL σ)), .long (zB (zS σ)), .long (zB (zF σ)), .long (zB (zV σ)), .ref a, .ref b]) F w in_X1_causeAgainst_X2 1 rfl rfl 1 (by decide) (by decide +kernel) rfl rfl dX1_causeAgainst_51 ?_
        refine lv_aload_n hx hb dX1_causeAgainst_54 rfl (lv_at hl 0 rfl) ?_
        refine kget (fs := [.int vb, .int (nI n1), .int (nI n2), .int (nI nm), .int (nI en)]) F w in_X1_causeAgainst_X1 0 rfl rfl 1 (by decide) (by decide +kernel) rfl rfl dX1_causeAgainst_55 ?_
        refine kcalli (wc := []) (wr := [cO o vb n1 n2 nm en, cR r a b σ, xI g a 49 (zT σ), xI g b 49 (zI σ)]) (wn := fun (u : Unit) => [cO o vb n1 n2 nm en, cR r a b σ, xI g a 49 (zT σ), xI g b 49 (zI σ)]) F w [] [0, 1, 2, 3] [0, 1, 2, 3] rfl rfl rfl (fun _ => rfl)
          (fun hp => va_runSN (As := [.long (zB (zL σ)), .int (nI n1)]) (rest := []) F.1 (kX5_contains l g (zB (zL σ)) n1 H.size (by omega)) (⟨va_cnB (host := RX5) 2 hts gX1_causeAgainst_X5_contains_n64 rfl rfl rfl (F.2.2.2.1.2.1 _ (by decide +kernel)) (hts (.initialized RX5) (by decide +kernel)) hd_X5_contains ⟨Nat.le_of_ble_eq_true rfl, Nat.le_of_ble_eq_true rfl⟩, hts (.static yX5_contains) (by decide +kernel), trivial⟩) hp rfl rfl hl.1 rfl (lv_room (Nat.le_of_ble_eq_true rfl)) dX1_causeAgainst_58 ⟨Nat.le_of_ble_eq_true rfl, Nat.le_of_ble_eq_true rfl⟩)
          (fun r_13 _ H locs h_14 w => ?_)
        subst h_14
        refine ktopi (y := bI (zL σ n1)) (congrArg bI (zG_in (by omega) (by omega))) ?_
        refine lv_if_eq (tgt := 68) hx hb dX1_causeAgainst_61 (by decide) (fun h_15 => ?_) (fun h_15 => ?_)
        · have h_15 : (zL σ n1) = false := bI_z.mp h_15
          refine lv_iconst (v := nI 0) hx hb dX1_causeAgainst_68 (by decide) ?_
          subst hA
          subst hQ
          exact kreti F w () [0, 1, 2, 3] rfl rfl (by show nI 0 = nI (cauZ vb n1 n2 σ); rw [show cauZ vb n1 n2 σ = 0 by unfold cauZ; simp [h_1, hs9, h_5, h_15, show ¬ nI 100 = nI 114 by decide]]) (Nat.le_of_ble_eq_true rfl) (Nat.le_of_ble_eq_true rfl) dX1_causeAgainst_69
        · have h_15 : (zL σ n1) = true := bI_o.mp h_15
          refine lv_iconst (v := nI 2) hx hb dX1_causeAgainst_64 (by decide) ?_
          refine lv_goto (tgt := 69) hx hb dX1_causeAgainst_65 (by decide) ?_
          subst hA
          subst hQ
          exact kreti F w () [0, 1, 2, 3] rfl rfl (by show nI 2 = nI (cauZ vb n1 n2 σ); rw [show cauZ vb n1 n2 σ = 2 by unfold cauZ; simp [h_1, hs9, h_5, h_15, show ¬ nI 100 = nI 114 by decide]]) (Nat.le_of_ble_eq_true rfl) (Nat.le_of_ble_eq_true rfl) dX1_causeAgainst_69
    · have h_4 : (decide (1 ≤ (nI n1).toInt ∧ (nI n1).toInt ≤ 48)) = false := bI_z.mp h_4
      have hs9 : ¬ (1 ≤ n1 ∧ n1 ≤ 48) := by have := of_decide_eq_false h_4; rw [ki_n (by omega)] at this; omega
      refine lv_iconst (v := nI 1) hx hb dX1_causeAgainst_39 (by decide) ?_
      subst hA
      subst hQ
      exact kreti F w () [0, 1, 2, 3] rfl rfl (by show nI 1 = nI (cauZ vb n1 n2 σ); rw [show cauZ vb n1 n2 σ = 1 by unfold cauZ; simp [h_1, hs9]]) (Nat.le_of_ble_eq_true rfl) (Nat.le_of_ble_eq_true rfl) dX1_causeAgainst_40
  · refine lv_aload_n hx hb dX1_causeAgainst_9 rfl (lv_at hl 0 rfl) ?_
    refine kget (fs := [.int vb, .int (nI n1), .int (nI n2), .int (nI nm), .int (nI en)]) F w in_X1_causeAgainst_X1 0 rfl rfl 1 (by decide) (by decide +kernel) rfl rfl dX1_causeAgainst_10 ?_
    refine lv_aload_n hx hb dX1_causeAgainst_13 rfl (lv_at hl 0 rfl) ?_
    refine kget (fs := [.int vb, .int (nI n1), .int (nI n2), .int (nI nm), .int (nI en)]) F w in_X1_causeAgainst_X1 0 rfl rfl 2 (by decide) (by decide +kernel) rfl rfl dX1_causeAgainst_14 ?_
    refine kcalli (wc := []) (wr := [cO o vb n1 n2 nm en, cR r a b σ, xI g a 49 (zT σ), xI g b 49 (zI σ)]) (wn := fun (u : Unit) => [cO o vb n1 n2 nm en, cR r a b σ, xI g a 49 (zT σ), xI g b 49 (zI σ)]) F w [] [0, 1, 2, 3] [0, 1, 2, 3] rfl rfl rfl (fun _ => rfl)
      (fun hp => va_runSN (As := [.int (nI n1), .int (nI n2)]) (rest := []) F.1 (kX5_isStretch l g (nI n1) (nI n2) H.size ) (⟨va_cnB (host := RX5) 2 hts gX1_causeAgainst_X5_isStretch_n51 rfl rfl rfl (F.2.2.2.1.2.1 _ (by decide +kernel)) (hts (.initialized RX5) (by decide +kernel)) hd_X5_isStretch ⟨Nat.le_of_ble_eq_true rfl, Nat.le_of_ble_eq_true rfl⟩, hts (.static yX5_isStretch) (by decide +kernel), trivial⟩) hp rfl rfl hl.1 rfl (lv_room (Nat.le_of_ble_eq_true rfl)) dX1_causeAgainst_17 ⟨Nat.le_of_ble_eq_true rfl, Nat.le_of_ble_eq_true rfl⟩)
      (fun r_16 _ H locs h_17 w => ?_)
    subst h_17
    refine lv_if_eq (tgt := 27) hx hb dX1_causeAgainst_20 (by decide) (fun h_18 => ?_) (fun h_18 => ?_)
    · have h_18 : (decide (1 ≤ (nI n1).toInt ∧ (nI n1).toInt ≤ (nI n2).toInt ∧ (nI n2).toInt ≤ 48)) = false := bI_z.mp h_18
      have hs9 : ¬ (1 ≤ n1 ∧ n1 ≤ n2 ∧ n2 ≤ 48) := by have := of_decide_eq_false h_18; rw [ki_n (by omega), ki_n (by omega)] at this; omega
      refine lv_iconst (v := nI 1) hx hb dX1_causeAgainst_27 (by decide) ?_
      subst hA
      subst hQ
      exact kreti F w () [0, 1, 2, 3] rfl rfl (by show nI 1 = nI (cauZ vb n1 n2 σ); rw [show cauZ vb n1 n2 σ = 1 by unfold cauZ; simp [h_1, hs9]]) (Nat.le_of_ble_eq_true rfl) (Nat.le_of_ble_eq_true rfl) dX1_causeAgainst_28
    · have h_18 : (decide (1 ≤ (nI n1).toInt ∧ (nI n1).toInt ≤ (nI n2).toInt ∧ (nI n2).toInt ≤ 48)) = true := bI_o.mp h_18
      have hs9 : 1 ≤ n1 ∧ n1 ≤ n2 ∧ n2 ≤ 48 := by have := of_decide_eq_true h_18; rw [ki_n (by omega), ki_n (by omega)] at this; omega
      refine lv_iconst (v := nI 0) hx hb dX1_causeAgainst_23 (by decide) ?_
      refine lv_goto (tgt := 28) hx hb dX1_causeAgainst_24 (by decide) ?_
      subst hA
      subst hQ
      exact kreti F w () [0, 1, 2, 3] rfl rfl (by show nI 0 = nI (cauZ vb n1 n2 σ); rw [show cauZ vb n1 n2 σ = 0 by unfold cauZ; simp [h_1, hs9]]) (Nat.le_of_ble_eq_true rfl) (Nat.le_of_ble_eq_true rfl) dX1_causeAgainst_28
theorem in_X1_carryOut_X1 : ∀ w ∈ wsX10, w ∈ wsX1_carryOut := by decide +kernel
abbrev rmX1_carryOut_112 : Room := { frames := 3, cells := 0, slots := 0, locals := 66 }
set_option maxHeartbeats 4000000 in
set_option maxRecDepth 100000 in
theorem kX1_carryOut_112 (l : Launch) (g : GG) (o : Nat) (n1 : Nat) (n2 : Nat) (nm : Nat) (en : Nat) (r : Nat) (a : Nat) (b : Nat) (σ : Sg) (sz : Nat) (hn9 : n1 ≤ 99 ∧ n2 ≤ 99) (hcau : cauZ (nI 112) n1 n2 σ = 0) : Met l yX1_carryOut wsX1_carryOut rmX1_carryOut_112 (va_Pc [.ref o, .ref r] (kPre g [cO o (nI 112) n1 n2 nm en, cR r a b σ, xI g a 49 (zT σ), xI g b 49 (zI σ)] sz)) (va_Qv (fun (u : Unit) => True) (kB g (va_A [cO o (nI 112) n1 n2 nm en, cR r a b σ, xI g a 49 (zT σ), xI g b 49 (zI σ)] sz) (fun u => [cO o (nI 112) n1 n2 nm en, cR r a b (actZ (nI 112) n1 n2 σ), xI g a 49 (zT (actZ (nI 112) n1 n2 σ)), xI g b 49 (zI (actZ (nI 112) n1 n2 σ))])) (va_A [cO o (nI 112) n1 n2 nm en, cR r a b σ, xI g a 49 (zT σ), xI g b 49 (zI σ)] sz)) 0 0 (va_A [cO o (nI 112) n1 n2 nm en, cR r a b σ, xI g a 49 (zT σ), xI g b 49 (zI σ)] sz) := by
  refine kMet (cc := cX1_carryOut) (maxL := 2) (ret := none) (own := RX1) (by decide) rfl rfl (Nat.le_of_ble_eq_true rfl) ?_
  intro p e s m args below meth c ls Q H locs A F w hl hnm hA hQ
  have hx := F.1.1
  have hb := F.1.2.1
  have hts := F.1.2.2.2.2
  have hl : lv_has ls 2 [(0, .ref o), (1, .ref r)] := hl
  refine lv_aload_n hx hb dX1_carryOut_0 rfl (lv_at hl 0 rfl) ?_
  refine kget (fs := [.int (nI 112), .int (nI n1), .int (nI n2), .int (nI nm), .int (nI en)]) F w in_X1_carryOut_X1 0 rfl rfl 0 (by decide) (by decide +kernel) rfl rfl dX1_carryOut_1 ?_
  refine lv_bipush (v := nI 112) hx hb dX1_carryOut_4 (by decide) ?_
  refine lv_icmp_ne (tgt := 20) hx hb dX1_carryOut_6 (by decide) (fun h_1 => ?_) (fun h_1 => ?_)
  · exact absurd rfl h_1
  · have hx9 := hcau
    unfold cauZ at hx9
    rw [if_neg (by decide)] at hx9
    have hs9 : 1 ≤ n1 ∧ n1 ≤ 48 := by by_cases hc : 1 ≤ n1 ∧ n1 ≤ 48; exact hc; rw [if_pos hc] at hx9; cases hx9
    refine lv_aload_n hx hb dX1_carryOut_9 rfl (lv_at hl 1 rfl) ?_
    refine lv_aload_n hx hb dX1_carryOut_10 rfl (lv_at hl 0 rfl) ?_
    refine kget (fs := [.int (nI 112), .int (nI n1), .int (nI n2), .int (nI nm), .int (nI en)]) F w in_X1_carryOut_X1 0 rfl rfl 1 (by decide) (by decide +kernel) rfl rfl dX1_carryOut_11 ?_
    refine kcallv (wc := [cR r a b σ, xI g a 49 (zT σ), xI g b 49 (zI σ)]) (wr := [cO o (nI 112) n1 n2 nm en]) (wn := fun (u : Unit) => [cO o (nI 112) n1 n2 nm en, cR r a b (passS n1 σ), xI g a 49 (zT (passS n1 σ)), xI g b 49 (zI (passS n1 σ))]) F w [1, 2, 3] [0] [0, 1, 2, 3] rfl rfl rfl (fun _ => rfl)
      (fun hp => va_runV (As := [.int (nI n1)]) (rest := []) F.1 (kX2_makePass l g r a b σ n1 H.size hs9) (cwV 1 hts gX1_carryOut_X2_makePass rfl rfl rfl ⟨rfl, hd_X2_makePass⟩ ⟨Nat.le_of_ble_eq_true rfl, Nat.le_of_ble_eq_true rfl⟩) ⟨hp.1, va_recv F.2.2.2.1.1 w.1 (q0 := 1) (ci := 2) rfl rfl, hp.2⟩ rfl rfl hl.1 rfl (lv_room (Nat.le_of_ble_eq_true rfl)) dX1_carryOut_14 ⟨Nat.le_of_ble_eq_true rfl, Nat.le_of_ble_eq_true rfl⟩)
      (fun _ H locs h_3 w => ?_)
    refine lv_goto (tgt := 106) hx hb dX1_carryOut_17 (by decide) ?_
    have w : kW g A s [cO o (nI 112) n1 n2 nm en, cR r a b (actZ (nI 112) n1 n2 σ), xI g a 49 (zT (actZ (nI 112) n1 n2 σ)), xI g b 49 (zI (actZ (nI 112) n1 n2 σ))] H locs := by
      have w := w
      exact w
    subst hA
    subst hQ
    exact kretv F w () [0, 1, 2, 3] rfl rfl (trivial) (Nat.le_of_ble_eq_true rfl) (Nat.le_of_ble_eq_true rfl) dX1_carryOut_106
abbrev rmX1_carryOut_100 : Room := { frames := 2, cells := 0, slots := 0, locals := 43 }
set_option maxHeartbeats 4000000 in
set_option maxRecDepth 100000 in
theorem kX1_carryOut_100 (l : Launch) (g : GG) (o : Nat) (n1 : Nat) (n2 : Nat) (nm : Nat) (en : Nat) (r : Nat) (a : Nat) (b : Nat) (σ : Sg) (sz : Nat) (hn9 : n1 ≤ 99 ∧ n2 ≤ 99) (hcau : cauZ (nI 100) n1 n2 σ = 0) : Met l yX1_carryOut wsX1_carryOut rmX1_carryOut_100 (va_Pc [.ref o, .ref r] (kPre g [cO o (nI 100) n1 n2 nm en, cR r a b σ, xI g a 49 (zT σ), xI g b 49 (zI σ)] sz)) (va_Qv (fun (u : Unit) => True) (kB g (va_A [cO o (nI 100) n1 n2 nm en, cR r a b σ, xI g a 49 (zT σ), xI g b 49 (zI σ)] sz) (fun u => [cO o (nI 100) n1 n2 nm en, cR r a b (actZ (nI 100) n1 n2 σ), xI g a 49 (zT (actZ (nI 100) n1 n2 σ)), xI g b 49 (zI (actZ (nI 100) n1 n2 σ))])) (va_A [cO o (nI 100) n1 n2 nm en, cR r a b σ, xI g a 49 (zT σ), xI g b 49 (zI σ)] sz)) 0 0 (va_A [cO o (nI 100) n1 n2 nm en, cR r a b σ, xI g a 49 (zT σ), xI g b 49 (zI σ)] sz) := by
  refine kMet (cc := cX1_carryOut) (maxL := 2) (ret := none) (own := RX1) (by decide) rfl rfl (Nat.le_of_ble_eq_true rfl) ?_
  intro p e s m args below meth c ls Q H locs A F w hl hnm hA hQ
  have hx := F.1.1
  have hb := F.1.2.1
  have hts := F.1.2.2.2.2
  have hl : lv_has ls 2 [(0, .ref o), (1, .ref r)] := hl
  refine lv_aload_n hx hb dX1_carryOut_0 rfl (lv_at hl 0 rfl) ?_
  refine kget (fs := [.int (nI 100), .int (nI n1), .int (nI n2), .int (nI nm), .int (nI en)]) F w in_X1_carryOut_X1 0 rfl rfl 0 (by decide) (by decide +kernel) rfl rfl dX1_carryOut_1 ?_
  refine lv_bipush (v := nI 112) hx hb dX1_carryOut_4 (by decide) ?_
  refine lv_icmp_ne (tgt := 20) hx hb dX1_carryOut_6 (by decide) (fun h_1 => ?_) (fun h_1 => ?_)
  · refine lv_aload_n hx hb dX1_carryOut_20 rfl (lv_at hl 0 rfl) ?_
    refine kget (fs := [.int (nI 100), .int (nI n1), .int (nI n2), .int (nI nm), .int (nI en)]) F w in_X1_carryOut_X1 0 rfl rfl 0 (by decide) (by decide +kernel) rfl rfl dX1_carryOut_21 ?_
    refine lv_bipush (v := nI 100) hx hb dX1_carryOut_24 (by decide) ?_
    refine lv_icmp_ne (tgt := 40) hx hb dX1_carryOut_26 (by decide) (fun h_2 => ?_) (fun h_2 => ?_)
    · exact absurd rfl h_2
    · have hx9 := hcau
      unfold cauZ at hx9
      rw [if_neg (by decide)] at hx9
      have hs9 : 1 ≤ n1 ∧ n1 ≤ 48 := by by_cases hc : 1 ≤ n1 ∧ n1 ≤ 48; exact hc; rw [if_pos hc] at hx9; cases hx9
      refine lv_aload_n hx hb dX1_carryOut_29 rfl (lv_at hl 1 rfl) ?_
      refine lv_aload_n hx hb dX1_carryOut_30 rfl (lv_at hl 0 rfl) ?_
      refine kget (fs := [.int (nI 100), .int (nI n1), .int (nI n2), .int (nI nm), .int (nI en)]) F w in_X1_carryOut_X1 0 rfl rfl 1 (by decide) (by decide +kernel) rfl rfl dX1_carryOut_31 ?_
      refine kcallv (wc := [cR r a b σ, xI g a 49 (zT σ), xI g b 49 (zI σ)]) (wr := [cO o (nI 100) n1 n2 nm en]) (wn := fun (u : Unit) => [cO o (nI 100) n1 n2 nm en, cR r a b (turnL n1 σ), xI g a 49 (zT (turnL n1 σ)), xI g b 49 (zI (turnL n1 σ))]) F w [1, 2, 3] [0] [0, 1, 2, 3] rfl rfl rfl (fun _ => rfl)
        (fun hp => va_runV (As := [.int (nI n1)]) (rest := []) F.1 (kX2_turn l g r a b σ n1 H.size hs9) (cwV 1 hts gX1_carryOut_X2_turn rfl rfl rfl ⟨rfl, hd_X2_turn⟩ ⟨Nat.le_of_ble_eq_true rfl, Nat.le_of_ble_eq_true rfl⟩) ⟨hp.1, va_recv F.2.2.2.1.1 w.1 (q0 := 1) (ci := 2) rfl rfl, hp.2⟩ rfl rfl hl.1 rfl (lv_room (Nat.le_of_ble_eq_true rfl)) dX1_carryOut_34 ⟨Nat.le_of_ble_eq_true rfl, Nat.le_of_ble_eq_true rfl⟩)
        (fun _ H locs h_4 w => ?_)
      refine lv_goto (tgt := 106) hx hb dX1_carryOut_37 (by decide) ?_
      have w : kW g A s [cO o (nI 100) n1 n2 nm en, cR r a b (actZ (nI 100) n1 n2 σ), xI g a 49 (zT (actZ (nI 100) n1 n2 σ)), xI g b 49 (zI (actZ (nI 100) n1 n2 σ))] H locs := by
        have w := w
        exact w
      subst hA
      subst hQ
      exact kretv F w () [0, 1, 2, 3] rfl rfl (trivial) (Nat.le_of_ble_eq_true rfl) (Nat.le_of_ble_eq_true rfl) dX1_carryOut_106
  · exact absurd h_1 (by decide)
theorem hd_X2_switchLock : yX2_switchLock.cls ≠ "java/lang/invoke/MethodHandle" ∧ yX2_switchLock.cls ≠ "java/lang/invoke/VarHandle" ∧ (parseMethodDescriptor yX2_switchLock.desc).map (fun d => d.parameters.length) = some 1 := by decide +kernel
abbrev rmX1_carryOut_108 : Room := { frames := 2, cells := 0, slots := 0, locals := 41 }
set_option maxHeartbeats 4000000 in
set_option maxRecDepth 100000 in
theorem kX1_carryOut_108 (l : Launch) (g : GG) (o : Nat) (n1 : Nat) (n2 : Nat) (nm : Nat) (en : Nat) (r : Nat) (a : Nat) (b : Nat) (σ : Sg) (sz : Nat) (hn9 : n1 ≤ 99 ∧ n2 ≤ 99) (hcau : cauZ (nI 108) n1 n2 σ = 0) : Met l yX1_carryOut wsX1_carryOut rmX1_carryOut_108 (va_Pc [.ref o, .ref r] (kPre g [cO o (nI 108) n1 n2 nm en, cR r a b σ, xI g a 49 (zT σ), xI g b 49 (zI σ)] sz)) (va_Qv (fun (u : Unit) => True) (kB g (va_A [cO o (nI 108) n1 n2 nm en, cR r a b σ, xI g a 49 (zT σ), xI g b 49 (zI σ)] sz) (fun u => [cO o (nI 108) n1 n2 nm en, cR r a b (actZ (nI 108) n1 n2 σ), xI g a 49 (zT (actZ (nI 108) n1 n2 σ)), xI g b 49 (zI (actZ (nI 108) n1 n2 σ))])) (va_A [cO o (nI 108) n1 n2 nm en, cR r a b σ, xI g a 49 (zT σ), xI g b 49 (zI σ)] sz)) 0 0 (va_A [cO o (nI 108) n1 n2 nm en, cR r a b σ, xI g a 49 (zT σ), xI g b 49 (zI σ)] sz) := by
  refine kMet (cc := cX1_carryOut) (maxL := 2) (ret := none) (own := RX1) (by decide) rfl rfl (Nat.le_of_ble_eq_true rfl) ?_
  intro p e s m args below meth c ls Q H locs A F w hl hnm hA hQ
  have hx := F.1.1
  have hb := F.1.2.1
  have hts := F.1.2.2.2.2
  have hl : lv_has ls 2 [(0, .ref o), (1, .ref r)] := hl
  refine lv_aload_n hx hb dX1_carryOut_0 rfl (lv_at hl 0 rfl) ?_
  refine kget (fs := [.int (nI 108), .int (nI n1), .int (nI n2), .int (nI nm), .int (nI en)]) F w in_X1_carryOut_X1 0 rfl rfl 0 (by decide) (by decide +kernel) rfl rfl dX1_carryOut_1 ?_
  refine lv_bipush (v := nI 112) hx hb dX1_carryOut_4 (by decide) ?_
  refine lv_icmp_ne (tgt := 20) hx hb dX1_carryOut_6 (by decide) (fun h_1 => ?_) (fun h_1 => ?_)
  · refine lv_aload_n hx hb dX1_carryOut_20 rfl (lv_at hl 0 rfl) ?_
    refine kget (fs := [.int (nI 108), .int (nI n1), .int (nI n2), .int (nI nm), .int (nI en)]) F w in_X1_carryOut_X1 0 rfl rfl 0 (by decide) (by decide +kernel) rfl rfl dX1_carryOut_21 ?_
    refine lv_bipush (v := nI 100) hx hb dX1_carryOut_24 (by decide) ?_
    refine lv_icmp_ne (tgt := 40) hx hb dX1_carryOut_26 (by decide) (fun h_2 => ?_) (fun h_2 => ?_)
    · refine lv_aload_n hx hb dX1_carryOut_40 rfl (lv_at hl 0 rfl) ?_
      refine kget (fs := [.int (nI 108), .int (nI n1), .int (nI n2), .int (nI nm), .int (nI en)]) F w in_X1_carryOut_X1 0 rfl rfl 0 (by decide) (by decide +kernel) rfl rfl dX1_carryOut_41 ?_
      refine lv_bipush (v := nI 108) hx hb dX1_carryOut_44 (by decide) ?_
      refine lv_icmp_ne (tgt := 60) hx hb dX1_carryOut_46 (by decide) (fun h_3 => ?_) (fun h_3 => ?_)
      · exact absurd rfl h_3
      · have hx9 := hcau
        unfold cauZ at hx9
        rw [if_neg (by decide)] at hx9
        have hs9 : 1 ≤ n1 ∧ n1 ≤ 48 := by by_cases hc : 1 ≤ n1 ∧ n1 ≤ 48; exact hc; rw [if_pos hc] at hx9; cases hx9
        refine lv_aload_n hx hb dX1_carryOut_49 rfl (lv_at hl 1 rfl) ?_
        refine lv_aload_n hx hb dX1_carryOut_50 rfl (lv_at hl 0 rfl) ?_
        refine kget (fs := [.int (nI 108), .int (nI n1), .int (nI n2), .int (nI nm), .int (nI en)]) F w in_X1_carryOut_X1 0 rfl rfl 1 (by decide) (by decide +kernel) rfl rfl dX1_carryOut_51 ?_
        refine kcallv (wc := [cR r a b σ, xI g a 49 (zT σ), xI g b 49 (zI σ)]) (wr := [cO o (nI 108) n1 n2 nm en]) (wn := fun (u : Unit) => [cO o (nI 108) n1 n2 nm en, cR r a b (lockS n1 σ), xI g a 49 (zT (lockS n1 σ)), xI g b 49 (zI (lockS n1 σ))]) F w [1, 2, 3] [0] [0, 1, 2, 3] rfl rfl rfl (fun _ => rfl)
          (fun hp => va_runV (As := [.int (nI n1)]) (rest := []) F.1 (kX2_switchLock l g r a b σ n1 H.size hs9) (cwV 1 hts gX1_carryOut_X2_switchLock rfl rfl rfl ⟨rfl, hd_X2_switchLock⟩ ⟨Nat.le_of_ble_eq_true rfl, Nat.le_of_ble_eq_true rfl⟩) ⟨hp.1, va_recv F.2.2.2.1.1 w.1 (q0 := 1) (ci := 2) rfl rfl, hp.2⟩ rfl rfl hl.1 rfl (lv_room (Nat.le_of_ble_eq_true rfl)) dX1_carryOut_54 ⟨Nat.le_of_ble_eq_true rfl, Nat.le_of_ble_eq_true rfl⟩)
          (fun _ H locs h_5 w => ?_)
        refine lv_goto (tgt := 106) hx hb dX1_carryOut_57 (by decide) ?_
        have w : kW g A s [cO o (nI 108) n1 n2 nm en, cR r a b (actZ (nI 108) n1 n2 σ), xI g a 49 (zT (actZ (nI 108) n1 n2 σ)), xI g b 49 (zI (actZ (nI 108) n1 n2 σ))] H locs := by
          have w := w
          exact w
        subst hA
        subst hQ
        exact kretv F w () [0, 1, 2, 3] rfl rfl (trivial) (Nat.le_of_ble_eq_true rfl) (Nat.le_of_ble_eq_true rfl) dX1_carryOut_106
    · exact absurd h_2 (by decide)
  · exact absurd h_1 (by decide)
theorem hd_X2_makePasses : yX2_makePasses.cls ≠ "java/lang/invoke/MethodHandle" ∧ yX2_makePasses.cls ≠ "java/lang/invoke/VarHandle" ∧ (parseMethodDescriptor yX2_makePasses.desc).map (fun d => d.parameters.length) = some 2 := by decide +kernel
abbrev rmX1_carryOut_114 : Room := { frames := 4, cells := 0, slots := 0, locals := 90 }
set_option maxHeartbeats 4000000 in
set_option maxRecDepth 100000 in
theorem kX1_carryOut_114 (l : Launch) (g : GG) (o : Nat) (n1 : Nat) (n2 : Nat) (nm : Nat) (en : Nat) (r : Nat) (a : Nat) (b : Nat) (σ : Sg) (sz : Nat) (hn9 : n1 ≤ 99 ∧ n2 ≤ 99) (hcau : cauZ (nI 114) n1 n2 σ = 0) : Met l yX1_carryOut wsX1_carryOut rmX1_carryOut_114 (va_Pc [.ref o, .ref r] (kPre g [cO o (nI 114) n1 n2 nm en, cR r a b σ, xI g a 49 (zT σ), xI g b 49 (zI σ)] sz)) (va_Qv (fun (u : Unit) => True) (kB g (va_A [cO o (nI 114) n1 n2 nm en, cR r a b σ, xI g a 49 (zT σ), xI g b 49 (zI σ)] sz) (fun u => [cO o (nI 114) n1 n2 nm en, cR r a b (actZ (nI 114) n1 n2 σ), xI g a 49 (zT (actZ (nI 114) n1 n2 σ)), xI g b 49 (zI (actZ (nI 114) n1 n2 σ))])) (va_A [cO o (nI 114) n1 n2 nm en, cR r a b σ, xI g a 49 (zT σ), xI g b 49 (zI σ)] sz)) 0 0 (va_A [cO o (nI 114) n1 n2 nm en, cR r a b σ, xI g a 49 (zT σ), xI g b 49 (zI σ)] sz) := by
  refine kMet (cc := cX1_carryOut) (maxL := 2) (ret := none) (own := RX1) (by decide) rfl rfl (Nat.le_of_ble_eq_true rfl) ?_
  intro p e s m args below meth c ls Q H locs A F w hl hnm hA hQ
  have hx := F.1.1
  have hb := F.1.2.1
  have hts := F.1.2.2.2.2
  have hl : lv_has ls 2 [(0, .ref o), (1, .ref r)] := hl
  refine lv_aload_n hx hb dX1_carryOut_0 rfl (lv_at hl 0 rfl) ?_
  refine kget (fs := [.int (nI 114), .int (nI n1), .int (nI n2), .int (nI nm), .int (nI en)]) F w in_X1_carryOut_X1 0 rfl rfl 0 (by decide) (by decide +kernel) rfl rfl dX1_carryOut_1 ?_
  refine lv_bipush (v := nI 112) hx hb dX1_carryOut_4 (by decide) ?_
  refine lv_icmp_ne (tgt := 20) hx hb dX1_carryOut_6 (by decide) (fun h_1 => ?_) (fun h_1 => ?_)
  · refine lv_aload_n hx hb dX1_carryOut_20 rfl (lv_at hl 0 rfl) ?_
    refine kget (fs := [.int (nI 114), .int (nI n1), .int (nI n2), .int (nI nm), .int (nI en)]) F w in_X1_carryOut_X1 0 rfl rfl 0 (by decide) (by decide +kernel) rfl rfl dX1_carryOut_21 ?_
    refine lv_bipush (v := nI 100) hx hb dX1_carryOut_24 (by decide) ?_
    refine lv_icmp_ne (tgt := 40) hx hb dX1_carryOut_26 (by decide) (fun h_2 => ?_) (fun h_2 => ?_)
    · refine lv_aload_n hx hb dX1_carryOut_40 rfl (lv_at hl 0 rfl) ?_
      refine kget (fs := [.int (nI 114), .int (nI n1), .int (nI n2), .int (nI nm), .int (nI en)]) F w in_X1_carryOut_X1 0 rfl rfl 0 (by decide) (by decide +kernel) rfl rfl dX1_carryOut_41 ?_
      refine lv_bipush (v := nI 108) hx hb dX1_carryOut_44 (by decide) ?_
      refine lv_icmp_ne (tgt := 60) hx hb dX1_carryOut_46 (by decide) (fun h_3 => ?_) (fun h_3 => ?_)
      · refine lv_aload_n hx hb dX1_carryOut_60 rfl (lv_at hl 0 rfl) ?_
        refine kget (fs := [.int (nI 114), .int (nI n1), .int (nI n2), .int (nI nm), .int (nI en)]) F w in_X1_carryOut_X1 0 rfl rfl 0 (by decide) (by decide +kernel) rfl rfl dX1_carryOut_61 ?_
        refine lv_bipush (v := nI 114) hx hb dX1_carryOut_64 (by decide) ?_
        refine lv_icmp_ne (tgt := 85) hx hb dX1_carryOut_66 (by decide) (fun h_4 => ?_) (fun h_4 => ?_)
        · exact absurd rfl h_4
        · have hx9 := hcau
          unfold cauZ at hx9
          have hs9 : 1 ≤ n1 ∧ n1 ≤ n2 ∧ n2 ≤ 48 := by by_cases hc : 1 ≤ n1 ∧ n1 ≤ n2 ∧ n2 ≤ 48; exact hc; rw [if_pos rfl, if_neg hc] at hx9; cases hx9
          refine lv_aload_n hx hb dX1_carryOut_69 rfl (lv_at hl 1 rfl) ?_
          refine lv_aload_n hx hb dX1_carryOut_70 rfl (lv_at hl 0 rfl) ?_
          refine kget (fs := [.int (nI 114), .int (nI n1), .int (nI n2), .int (nI nm), .int (nI en)]) F w in_X1_carryOut_X1 0 rfl rfl 1 (by decide) (by decide +kernel) rfl rfl dX1_carryOut_71 ?_
          refine lv_aload_n hx hb dX1_carryOut_74 rfl (lv_at hl 0 rfl) ?_
          refine kget (fs := [.int (nI 114), .int (nI n1), .int (nI n2), .int (nI nm), .int (nI en)]) F w in_X1_carryOut_X1 0 rfl rfl 2 (by decide) (by decide +kernel) rfl rfl dX1_carryOut_75 ?_
          refine kcalli (wc := [cR r a b σ, xI g a 49 (zT σ), xI g b 49 (zI σ)]) (wr := [cO o (nI 114) n1 n2 nm en]) (wn := fun (u : Unit) => [cO o (nI 114) n1 n2 nm en, cR r a b (rowN n1 (n2 + 1 - n1) σ), xI g a 49 (zT (rowN n1 (n2 + 1 - n1) σ)), xI g b 49 (zI (rowN n1 (n2 + 1 - n1) σ))]) F w [1, 2, 3] [0] [0, 1, 2, 3] rfl rfl rfl (fun _ => rfl)
            (fun hp => va_runV (As := [.int (nI n1), .int (nI n2)]) (rest := []) F.1 (kX2_makePasses l g r a b σ n1 n2 H.size hs9) (cwV 2 hts gX1_carryOut_X2_makePasses rfl rfl rfl ⟨rfl, hd_X2_makePasses⟩ ⟨Nat.le_of_ble_eq_true rfl, Nat.le_of_ble_eq_true rfl⟩) ⟨hp.1, va_recv F.2.2.2.1.1 w.1 (q0 := 1) (ci := 2) rfl rfl, hp.2⟩ rfl rfl hl.1 rfl (lv_room (Nat.le_of_ble_eq_true rfl)) dX1_carryOut_78 ⟨Nat.le_of_ble_eq_true rfl, Nat.le_of_ble_eq_true rfl⟩)
            (fun r_5 _ H locs h_6 w => ?_)
          subst h_6
          refine lv_pop hx hb dX1_carryOut_81 rfl ?_
          refine lv_goto (tgt := 106) hx hb dX1_carryOut_82 (by decide) ?_
          have w : kW g A s [cO o (nI 114) n1 n2 nm en, cR r a b (actZ (nI 114) n1 n2 σ), xI g a 49 (zT (actZ (nI 114) n1 n2 σ)), xI g b 49 (zI (actZ (nI 114) n1 n2 σ))] H locs := by
            have w := w
            exact w
          subst hA
          subst hQ
          exact kretv F w () [0, 1, 2, 3] rfl rfl (trivial) (Nat.le_of_ble_eq_true rfl) (Nat.le_of_ble_eq_true rfl) dX1_carryOut_106
      · exact absurd h_3 (by decide)
    · exact absurd h_2 (by decide)
  · exact absurd h_1 (by decide)
theorem hd_X2_put : yX2_put.cls ≠ "java/lang/invoke/MethodHandle" ∧ yX2_put.cls ≠ "java/lang/invoke/VarHandle" ∧ (parseMethodDescriptor yX2_put.desc).map (fun d => d.parameters.length) = some 2 := by decide +kernel
abbrev rmX1_carryOut_116 : Room := { frames := 2, cells := 0, slots := 0, locals := 42 }
set_option maxHeartbeats 4000000 in
set_option maxRecDepth 100000 in
theorem kX1_carryOut_116 (l : Launch) (g : GG) (o : Nat) (n1 : Nat) (n2 : Nat) (nm : Nat) (en : Nat) (r : Nat) (a : Nat) (b : Nat) (σ : Sg) (sz : Nat) (hn9 : n1 ≤ 99 ∧ n2 ≤ 99) (hcau : cauZ (nI 116) n1 n2 σ = 0) : Met l yX1_carryOut wsX1_carryOut rmX1_carryOut_116 (va_Pc [.ref o, .ref r] (kPre g [cO o (nI 116) n1 n2 nm en, cR r a b σ, xI g a 49 (zT σ), xI g b 49 (zI σ)] sz)) (va_Qv (fun (u : Unit) => True) (kB g (va_A [cO o (nI 116) n1 n2 nm en, cR r a b σ, xI g a 49 (zT σ), xI g b 49 (zI σ)] sz) (fun u => [cO o (nI 116) n1 n2 nm en, cR r a b (actZ (nI 116) n1 n2 σ), xI g a 49 (zT (actZ (nI 116) n1 n2 σ)), xI g b 49 (zI (actZ (nI 116) n1 n2 σ))])) (va_A [cO o (nI 116) n1 n2 nm en, cR r a b σ, xI g a 49 (zT σ), xI g b 49 (zI σ)] sz)) 0 0 (va_A [cO o (nI 116) n1 n2 nm en, cR r a b σ, xI g a 49 (zT σ), xI g b 49 (zI σ)] sz) := by
  refine kMet (cc := cX1_carryOut) (maxL := 2) (ret := none) (own := RX1) (by decide) rfl rfl (Nat.le_of_ble_eq_true rfl) ?_
  intro p e s m args below meth c ls Q H locs A F w hl hnm hA hQ
  have hx := F.1.1
  have hb := F.1.2.1
  have hts := F.1.2.2.2.2
  have hl : lv_has ls 2 [(0, .ref o), (1, .ref r)] := hl
  refine lv_aload_n hx hb dX1_carryOut_0 rfl (lv_at hl 0 rfl) ?_
  refine kget (fs := [.int (nI 116), .int (nI n1), .int (nI n2), .int (nI nm), .int (nI en)]) F w in_X1_carryOut_X1 0 rfl rfl 0 (by decide) (by decide +kernel) rfl rfl dX1_carryOut_1 ?_
  refine lv_bipush (v := nI 112) hx hb dX1_carryOut_4 (by decide) ?_
  refine lv_icmp_ne (tgt := 20) hx hb dX1_carryOut_6 (by decide) (fun h_1 => ?_) (fun h_1 => ?_)
  · refine lv_aload_n hx hb dX1_carryOut_20 rfl (lv_at hl 0 rfl) ?_
    refine kget (fs := [.int (nI 116), .int (nI n1), .int (nI n2), .int (nI nm), .int (nI en)]) F w in_X1_carryOut_X1 0 rfl rfl 0 (by decide) (by decide +kernel) rfl rfl dX1_carryOut_21 ?_
    refine lv_bipush (v := nI 100) hx hb dX1_carryOut_24 (by decide) ?_
    refine lv_icmp_ne (tgt := 40) hx hb dX1_carryOut_26 (by decide) (fun h_2 => ?_) (fun h_2 => ?_)
    · refine lv_aload_n hx hb dX1_carryOut_40 rfl (lv_at hl 0 rfl) ?_
      refine kget (fs := [.int (nI 116), .int (nI n1), .int (nI n2), .int (nI nm), .int (nI en)]) F w in_X1_carryOut_X1 0 rfl rfl 0 (by decide) (by decide +kernel) rfl rfl dX1_carryOut_41 ?_
      refine lv_bipush (v := nI 108) hx hb dX1_carryOut_44 (by decide) ?_
      refine lv_icmp_ne (tgt := 60) hx hb dX1_carryOut_46 (by decide) (fun h_3 => ?_) (fun h_3 => ?_)
      · refine lv_aload_n hx hb dX1_carryOut_60 rfl (lv_at hl 0 rfl) ?_
        refine kget (fs := [.int (nI 116), .int (nI n1), .int (nI n2), .int (nI nm), .int (nI en)]) F w in_X1_carryOut_X1 0 rfl rfl 0 (by decide) (by decide +kernel) rfl rfl dX1_carryOut_61 ?_
        refine lv_bipush (v := nI 114) hx hb dX1_carryOut_64 (by decide) ?_
        refine lv_icmp_ne (tgt := 85) hx hb dX1_carryOut_66 (by decide) (fun h_4 => ?_) (fun h_4 => ?_)
        · refine lv_aload_n hx hb dX1_carryOut_85 rfl (lv_at hl 0 rfl) ?_
          refine kget (fs := [.int (nI 116), .int (nI n1), .int (nI n2), .int (nI nm), .int (nI en)]) F w in_X1_carryOut_X1 0 rfl rfl 0 (by decide) (by decide +kernel) rfl rfl dX1_carryOut_86 ?_
          refine lv_bipush (v := nI 116) hx hb dX1_carryOut_89 (by decide) ?_
          refine lv_icmp_ne (tgt := 106) hx hb dX1_carryOut_91 (by decide) (fun h_5 => ?_) (fun h_5 => ?_)
          · exact absurd rfl h_5
          · have hx9 := hcau
            unfold cauZ at hx9
            rw [if_neg (by decide)] at hx9
            have hs9 : 1 ≤ n1 ∧ n1 ≤ 48 := by by_cases hc : 1 ≤ n1 ∧ n1 ≤ 48; exact hc; rw [if_pos hc] at hx9; cases hx9
            rw [if_neg (fun hc => hc hs9), if_neg (by decide), if_pos rfl] at hx9
            have hk9 : n2 ≤ 1 := by by_cases hc : n2 ≤ 1; exact hc; rw [if_pos hc] at hx9; cases hx9
            rw [if_neg (fun hc => hc hk9)] at hx9
            have hr9 : reasZ σ n1 (kdz n2) = 0 := by by_cases hc : reasZ σ n1 (kdz n2) = 0; exact hc; rw [if_neg hc] at hx9; cases hx9
            refine lv_aload_n hx hb dX1_carryOut_94 rfl (lv_at hl 1 rfl) ?_
            refine lv_aload_n hx hb dX1_carryOut_95 rfl (lv_at hl 0 rfl) ?_
            refine kget (fs := [.int (nI 116), .int (nI n1), .int (nI n2), .int (nI nm), .int (nI en)]) F w in_X1_carryOut_X1 0 rfl rfl 1 (by decide) (by decide +kernel) rfl rfl dX1_carryOut_96 ?_
            refine lv_aload_n hx hb dX1_carryOut_99 rfl (lv_at hl 0 rfl) ?_
            refine kget (fs := [.int (nI 116), .int (nI n1), .int (nI n2), .int (nI nm), .int (nI en)]) F w in_X1_carryOut_X1 0 rfl rfl 2 (by decide) (by decide +kernel) rfl rfl dX1_carryOut_100 ?_
            refine ktopi (y := bI (kdz n2)) (kdz_b hk9) ?_
            refine kcallv (wc := [cR r a b σ, xI g a 49 (zT σ), xI g b 49 (zI σ)]) (wr := [cO o (nI 116) n1 n2 nm en]) (wn := fun (u : Unit) => [cO o (nI 116) n1 n2 nm en, cR r a b (putS n1 (kdz n2) σ), xI g a 49 (zT (putS n1 (kdz n2) σ)), xI g b 49 (zI (putS n1 (kdz n2) σ))]) F w [1, 2, 3] [0] [0, 1, 2, 3] rfl rfl rfl (fun _ => rfl)
              (fun hp => va_runV (As := [.int (nI n1), .int (bI (kdz n2))]) (rest := []) F.1 (kX2_put l g r a b σ n1 (kdz n2) H.size hs9 (reasZ_free hr9)) (cwV 2 hts gX1_carryOut_X2_put rfl rfl rfl ⟨rfl, hd_X2_put⟩ ⟨Nat.le_of_ble_eq_true rfl, Nat.le_of_ble_eq_true rfl⟩) ⟨hp.1, va_recv F.2.2.2.1.1 w.1 (q0 := 1) (ci := 2) rfl rfl, hp.2⟩ rfl rfl hl.1 rfl (lv_room (Nat.le_of_ble_eq_true rfl)) dX1_carryOut_103 ⟨Nat.le_of_ble_eq_true rfl, Nat.le_of_ble_eq_true rfl⟩)
              (fun _ H locs h_7 w => ?_)
            have w : kW g A s [cO o (nI 116) n1 n2 nm en, cR r a b (actZ (nI 116) n1 n2 σ), xI g a 49 (zT (actZ (nI 116) n1 n2 σ)), xI g b 49 (zI (actZ (nI 116) n1 n2 σ))] H locs := by
              have w := w
              exact w
            subst hA
            subst hQ
            exact kretv F w () [0, 1, 2, 3] rfl rfl (trivial) (Nat.le_of_ble_eq_true rfl) (Nat.le_of_ble_eq_true rfl) dX1_carryOut_106
        · exact absurd h_4 (by decide)
      · exact absurd h_3 (by decide)
    · exact absurd h_2 (by decide)
  · exact absurd h_1 (by decide)
