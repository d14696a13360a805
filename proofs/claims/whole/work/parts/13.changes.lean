/-! ===== the reference's history: 4 states, one behind the other ===== -/
theorem door_t {k : Nat} (h : 1 ≤ k ∧ k ≤ 48) : decide (1 ≤ (nI k).toInt ∧ (nI k).toInt ≤ 48) = true := by
  rw [ki_n (by omega), decide_eq_true_iff]; omega
theorem door_f {n : Int32} (h : ¬ (1 ≤ n.toInt ∧ n.toInt ≤ 48)) : decide (1 ≤ n.toInt ∧ n.toInt ≤ 48) = false := decide_eq_false h
theorem in_t {n t b : Nat} (h1 : n ≤ t) (h2 : t ≤ b) (h3 : b < 2147483648) : decide ((nI n).toInt ≤ (nI t).toInt ∧ (nI t).toInt ≤ (nI b).toInt) = true := by
  rw [ki_n (by omega), ki_n (by omega), ki_n h3, decide_eq_true_iff]; omega
theorem in_f {n t : Int32} (h : ¬ (1 ≤ n.toInt ∧ n.toInt ≤ t.toInt ∧ t.toInt ≤ 48)) (h2 : decide (1 ≤ n.toInt ∧ n.toInt ≤ 48) = true) : decide (n.toInt ≤ t.toInt ∧ t.toInt ≤ (nI 48).toInt) = false := by
  rw [ki_n (show 48 < 2147483648 by omega)]
  have h3 := of_decide_eq_true h2
  refine decide_eq_false fun hc => h ?_
  omega
theorem kind_b (kd : Bool) : decide (bI kd = 0 ∨ bI kd = 1) = true := by cases kd <;> decide
theorem kind_o {n k : Int32} (h : ¬ ((1 ≤ n.toInt ∧ n.toInt ≤ 48) ∧ (k = 0 ∨ k = 1))) (h2 : decide (1 ≤ n.toInt ∧ n.toInt ≤ 48) = true) : decide (k = 0 ∨ k = 1) = false := decide_eq_false fun hc => h ⟨of_decide_eq_true h2, hc⟩
theorem reasZ_le (σ : Sg) (d : Nat) (kd : Bool) : reasZ σ d kd ≤ 3 := by
  unfold reasZ
  by_cases h1 : zO σ d = false
  · rw [if_pos h1]; omega
  · rw [if_neg h1]
    by_cases h2 : zF σ d = true
    · rw [if_pos h2]; omega
    · rw [if_neg h2]
      by_cases h3 : fitZ d kd = true
      · rw [if_pos h3]; omega
      · rw [if_neg h3]; omega
def sup (γ : Nat → Sg) (n : Nat) (σ : Sg) : Nat → Sg := fun j => if j = n then σ else γ j
theorem sup_s {γ : Nat → Sg} {n : Nat} {σ : Sg} : sup γ n σ n = σ := if_pos rfl
theorem sup_n {γ : Nat → Sg} {n j : Nat} {σ : Sg} (h : j ≠ n) : sup γ n σ j = γ j := if_neg h
def shG (γ : Nat → Sg) : Nat → Sg := fun j => if j < 3 then γ (j + 1) else γ j
def pushG (γ : Nat → Sg) (n : Nat) (σ : Sg) : Nat → Sg := if n < 4 then sup γ n σ else sup (shG γ) 3 σ
def pushN (n : Nat) : Nat := if n < 4 then n + 1 else 4
theorem pushG_l {γ : Nat → Sg} {n : Nat} {σ : Sg} (h : n < 4) : pushG γ n σ = sup γ n σ := if_pos h
theorem pushN_l {n : Nat} (h : n < 4) : pushN n = n + 1 := if_pos h
theorem pushN_le {n : Nat} : pushN n ≤ 4 := by unfold pushN; split <;> omega
def pst (γ : Nat → Sg) (i : Nat) : Int32 := enc (γ (i / 288)) (i % 288)
def shf (γ : Nat → Sg) (i j : Nat) : Int32 := if j < i then pst γ (j + 288) else pst γ j
theorem shf_0 {γ : Nat → Sg} : shf γ 0 = pst γ := by funext j; unfold shf; rw [if_neg (by omega)]
theorem shf_g {γ : Nat → Sg} {i : Nat} : shf γ i (i + 288) = pst γ (i + 288) := by unfold shf; rw [if_neg (by omega)]
theorem shf_s {γ : Nat → Sg} {i : Nat} : upd (shf γ i) i (pst γ (i + 288)) = shf γ (i + 1) := by
  funext j
  unfold upd shf
  by_cases e : j = i
  · subst e; rw [if_pos rfl, if_pos (by omega)]
  · rw [if_neg e]
    by_cases e2 : j < i
    · rw [if_pos e2, if_pos (by omega)]
    · rw [if_neg e2, if_neg (by omega)]
theorem shf_e {γ : Nat → Sg} {j : Nat} (hj : j < 1152) : shf γ 864 j = pst (shG γ) j := by
  unfold shf pst shG
  by_cases e : j < 864
  · rw [if_pos e, if_pos (by omega), show (j + 288) / 288 = j / 288 + 1 by omega, show (j + 288) % 288 = j % 288 by omega]
  · rw [if_neg e, if_neg (by omega)]
theorem pst_sup {γ : Nat → Sg} {n : Nat} {σ : Sg} (hn : n < 4) {j : Nat} (hj : j < 1152) : cpyU (enc σ) 0 (pst γ) (288 * n) 288 j = pst (sup γ n σ) j := by
  by_cases e : 288 * n ≤ j ∧ j < 288 * n + 288
  · rw [cpyU_in e.1 e.2]; unfold pst; rw [show j / 288 = n by omega, sup_s]; congr 1; omega
  · rw [cpyU_out e]; unfold pst; rw [sup_n (by omega)]
theorem pst_blk {γ : Nat → Sg} {n : Nat} {h : Nat → Int32} {j : Nat} (hj : j < 288) : cpyU (pst γ) (288 * n) h 0 288 j = enc (γ n) j := by
  rw [cpyU_in (by omega) (by omega)]; unfold pst
  rw [show (288 * n + (j - 0)) / 288 = n by omega, show (288 * n + (j - 0)) % 288 = j by omega]
theorem nI_ne11 {n : Nat} (h : n < 2147483648) : nI n ≠ (-11) := fun e => by
  have h1 := ki_n h; rw [e] at h1; have h2 : ((-11 : Int32)).toInt = -11 := by decide
  omega
theorem nI_ne12 {n : Nat} (h : n < 2147483648) : nI n ≠ (-12) := fun e => by
  have h1 := ki_n h; rw [e] at h1; have h2 : ((-12 : Int32)).toInt = -12 := by decide
  omega
theorem cnt_ne (p : Nat → Bool) : nI (zcnt p 48) ≠ (-11) ∧ nI (zcnt p 48) ≠ (-12) := by
  have := zcnt_le p 48
  exact ⟨nI_ne11 (by omega), nI_ne12 (by omega)⟩
theorem rowC_le (n : Nat) (σ : Sg) : ∀ j, rowC n j σ ≤ j
  | 0 => Nat.le_refl 0
  | j + 1 => by have := rowC_le n σ j; rw [rowC]; split <;> omega
theorem rowC_ne {n j : Nat} {σ : Sg} (h : j ≤ 48) : nI (rowC n j σ) ≠ (-11) ∧ nI (rowC n j σ) ≠ (-12) := by
  have := rowC_le n σ j
  exact ⟨nI_ne11 (by omega), nI_ne12 (by omega)⟩
theorem bI_ne (b : Bool) : bI b ≠ (-11) ∧ bI b ≠ (-12) := by cases b <;> decide
theorem bI_ge (b : Bool) : 0 ≤ bI b := by cases b <;> decide
section ENC2
variable {σ : Sg} {d : Nat} {kd : Bool}
theorem enc_lock (h1 : 1 ≤ d) (h2 : d ≤ 48) : upd (enc σ) (48 + d - 1) (bI (!zL σ d)) = enc (lockS d σ) := by
  refine enc_ext (fun j hj => by rw [upd_n (by omega), enc_out hj]) (fun a p q => ?_) (fun a p q => ?_) (fun a p q => ?_) (fun a p q => ?_) (fun a p q => ?_) (fun a p q => ?_)
  · rw [upd_n (by omega), enc_O p q]; rfl
  · by_cases e : a = d
    · subst e; rw [upd_s]; show bI (!zL σ a) = bI (bup (zL σ) a (!zL σ a) a); rw [bup_s]
    · rw [upd_n (by omega), enc_L p q]; show bI (zL σ a) = bI (bup (zL σ) d (!zL σ d) a); rw [bup_n e]
  · rw [upd_n (by omega), enc_T p q]; rfl
  · rw [upd_n (by omega), enc_S p q]; rfl
  · rw [upd_n (by omega), enc_I p q]; rfl
  · rw [upd_n (by omega), enc_H p q]; rfl
theorem enc_skip (h1 : 1 ≤ d) (h2 : d ≤ 48) : upd (enc σ) (144 + d - 1) (bI (!zS σ d)) = enc (skipS d σ) := by
  refine enc_ext (fun j hj => by rw [upd_n (by omega), enc_out hj]) (fun a p q => ?_) (fun a p q => ?_) (fun a p q => ?_) (fun a p q => ?_) (fun a p q => ?_) (fun a p q => ?_)
  · rw [upd_n (by omega), enc_O p q]; rfl
  · rw [upd_n (by omega), enc_L p q]; rfl
  · rw [upd_n (by omega), enc_T p q]; rfl
  · by_cases e : a = d
    · subst e; rw [upd_s]; show bI (!zS σ a) = bI (bup (zS σ) a (!zS σ a) a); rw [bup_s]
    · rw [upd_n (by omega), enc_S p q]; show bI (zS σ a) = bI (bup (zS σ) d (!zS σ d) a); rw [bup_n e]
  · rw [upd_n (by omega), enc_I p q]; rfl
  · rw [upd_n (by omega), enc_H p q]; rfl
theorem enc_put (h1 : 1 ≤ d) (h2 : d ≤ 48) : upd (enc σ) (240 + d - 1) (bI kd + nI 1) = enc (putS d kd σ) := by
  refine enc_ext (fun j hj => by rw [upd_n (by omega), enc_out hj]) (fun a p q => ?_) (fun a p q => ?_) (fun a p q => ?_) (fun a p q => ?_) (fun a p q => ?_) (fun a p q => ?_)
  · rw [upd_n (by omega), enc_O p q]; rfl
  · rw [upd_n (by omega), enc_L p q]; rfl
  · rw [upd_n (by omega), enc_T p q]; rfl
  · rw [upd_n (by omega), enc_S p q]; rfl
  · rw [upd_n (by omega), enc_I p q]; rfl
  · by_cases e : a = d
    · subst e; rw [upd_s]; show _ = (if bup (zF σ) a true a = true then (if bup (zH σ) a kd a = true then (2 : Int32) else 1) else 0)
      rw [bup_s, bup_s]; cases kd <;> rfl
    · rw [upd_n (by omega), enc_H p q]; show _ = (if bup (zF σ) d true a = true then (if bup (zH σ) d kd a = true then (2 : Int32) else 1) else 0)
      rw [bup_n e, bup_n e]; rfl
theorem enc_clr (h1 : 1 ≤ d) (h2 : d ≤ 48) : upd (enc σ) (240 + d - 1) (nI 0) = enc (clrS d σ) := by
  refine enc_ext (fun j hj => by rw [upd_n (by omega), enc_out hj]) (fun a p q => ?_) (fun a p q => ?_) (fun a p q => ?_) (fun a p q => ?_) (fun a p q => ?_) (fun a p q => ?_)
  · rw [upd_n (by omega), enc_O p q]; rfl
  · rw [upd_n (by omega), enc_L p q]; rfl
  · rw [upd_n (by omega), enc_T p q]; rfl
  · rw [upd_n (by omega), enc_S p q]; rfl
  · rw [upd_n (by omega), enc_I p q]; rfl
  · by_cases e : a = d
    · subst e; rw [upd_s]; show _ = (if bup (zF σ) a false a = true then (if zH σ a = true then (2 : Int32) else 1) else 0)
      rw [bup_s]; rfl
    · rw [upd_n (by omega), enc_H p q]; show _ = (if bup (zF σ) d false a = true then (if zH σ a = true then (2 : Int32) else 1) else 0)
      rw [bup_n e]; rfl
end ENC2
def thM (σ : Sg) (d : Nat) : Int32 := thZ σ d - nI 1
theorem thM_n {σ : Sg} {d : Nat} (h : zF σ d = false) : ¬ thM σ d ≥ 0 := by
  have e : thZ σ d = 0 := by unfold thZ; rw [if_neg (by rw [h]; decide)]
  unfold thM; rw [e]; decide
theorem thM_p {σ : Sg} {d : Nat} (h : zF σ d = true) : thM σ d = bI (zH σ d) := by
  unfold thM thZ; rw [if_pos h]; cases zH σ d <;> rfl
theorem in_X6_begins_X6 : ∀ w ∈ wsX60, w ∈ wsX6_begins := by decide +kernel
theorem hd_X6_copies : yX6_copies.cls ≠ "java/lang/invoke/MethodHandle" ∧ yX6_copies.cls ≠ "java/lang/invoke/VarHandle" ∧ (parseMethodDescriptor yX6_copies.desc).map (fun d => d.parameters.length) = some 4 := by decide +kernel
abbrev rmX6_begins : Room := { frames := 1, cells := 0, slots := 0, locals := 24 }
set_option maxHeartbeats 4000000 in
set_option maxRecDepth 100000 in
theorem kX6_begins (l : Launch) (g : GG) (μ : Nat → Nat) (iK : Bool) (kn : Nat) (ln : Nat) (th : Nat) (sp : Nat) (bg : Nat) (fm : Bool) (le : Int32) (fi : Nat) (se : Nat) (re : Nat) (ca : Nat) (σ : Sg) (B : Nat → Int32) (sz : Nat)  : Met l yX6_begins wsX6_begins rmX6_begins (va_Pc [.ref (μ 0)] (kPre g [cM μ iK kn ln th sp bg fm le fi se re ca, xI g (μ 1) 288 (enc σ), xI g (μ 2) 288 B] sz)) (va_Qv (fun (u : Unit) => True) (kB g (va_A [cM μ iK kn ln th sp bg fm le fi se re ca, xI g (μ 1) 288 (enc σ), xI g (μ 2) 288 B] sz) (fun u => [cM μ iK kn ln 0 sp bg fm le fi se re ca, xI g (μ 1) 288 (enc σ), xI g (μ 2) 288 (enc σ)])) (va_A [cM μ iK kn ln th sp bg fm le fi se re ca, xI g (μ 1) 288 (enc σ), xI g (μ 2) 288 B] sz)) 0 0 (va_A [cM μ iK kn ln th sp bg fm le fi se re ca, xI g (μ 1) 288 (enc σ), xI g (μ 2) 288 B] sz) := by
  refine kMet (cc := cX6_begins) (maxL := 1) (ret := none) (own := RX6) (by decide) rfl rfl (Nat.le_of_ble_eq_true rfl) ?_
  intro p e s m args below meth c ls Q H locs A F w hl hnm hA hQ
  have hx := F.1.1
  have hb := F.1.2.1
  have hts := F.1.2.2.2.2
  have hl : lv_has ls 1 [(0, .ref (μ 0))] := hl
  refine lv_aload_n hx hb dX6_begins_0 rfl (lv_at hl 0 rfl) ?_
  refine lv_iconst (v := nI 0) hx hb dX6_begins_1 (by decide) ?_
  refine kput (fs := [.ref (μ 1), .ref (μ 2), .ref (μ 3), .ref (μ 4), .int (bI iK), .ref (μ 5), .int (nI kn), .ref (μ 6), .int (nI ln), .int (nI th), .int (nI sp), .int (nI bg), .int (bI fm), .int le, .int (nI fi), .int (nI se), .int (nI re), .int (nI ca)]) F w in_X6_begins_X6 tyX6_ok nmX6 0 rfl rfl 9 (by decide) (by decide +kernel) rfl rfl (rfl) (rfl) (Nat.le_of_ble_eq_true rfl) (wn := [cM μ iK kn ln 0 sp bg fm le fi se re ca, xI g (μ 1) 288 (enc σ), xI g (μ 2) 288 B]) rfl dX6_begins_2 (fun H locs w => ?_)
  refine lv_aload_n hx hb dX6_begins_5 rfl (lv_at hl 0 rfl) ?_
  refine kget (fs := [.ref (μ 1), .ref (μ 2), .ref (μ 3), .ref (μ 4), .int (bI iK), .ref (μ 5), .int (nI kn), .ref (μ 6), .int (nI ln), .int (nI 0), .int (nI sp), .int (nI bg), .int (bI fm), .int le, .int (nI fi), .int (nI se), .int (nI re), .int (nI ca)]) F w in_X6_begins_X6 0 rfl rfl 0 (by decide) (by decide +kernel) rfl rfl dX6_begins_6 ?_
  refine lv_iconst (v := nI 0) hx hb dX6_begins_9 (by decide) ?_
  refine lv_aload_n hx hb dX6_begins_10 rfl (lv_at hl 0 rfl) ?_
  refine kget (fs := [.ref (μ 1), .ref (μ 2), .ref (μ 3), .ref (μ 4), .int (bI iK), .ref (μ 5), .int (nI kn), .ref (μ 6), .int (nI ln), .int (nI 0), .int (nI sp), .int (nI bg), .int (bI fm), .int le, .int (nI fi), .int (nI se), .int (nI re), .int (nI ca)]) F w in_X6_begins_X6 0 rfl rfl 1 (by decide) (by decide +kernel) rfl rfl dX6_begins_11 ?_
  refine lv_iconst (v := nI 0) hx hb dX6_begins_14 (by decide) ?_
  refine kcallv (wc := [xI g (μ 1) 288 (enc σ), xI g (μ 2) 288 B]) (wr := [cM μ iK kn ln 0 sp bg fm le fi se re ca]) (wn := fun (u : Unit) => [cM μ iK kn ln 0 sp bg fm le fi se re ca, xI g (μ 1) 288 (enc σ), xI g (μ 2) 288 (cpyU (enc σ) 0 B 0 288)]) F w [1, 2] [0] [0, 1, 2] rfl rfl rfl (fun _ => rfl)
    (fun hp => va_runS (As := [.ref (μ 1), .int (nI 0), .ref (μ 2), .int (nI 0)]) (rest := []) F.1 (kX6_copies l g (μ 1) 288 (enc σ) 0 (μ 2) 288 B 0 H.size (by omega) (by omega)) (va_cwS 4 hts gX6_begins_X6_copies rfl rfl rfl hd_X6_copies ⟨Nat.le_of_ble_eq_true rfl, Nat.le_of_ble_eq_true rfl⟩) hp rfl rfl hl.1 rfl (lv_room (Nat.le_of_ble_eq_true rfl)) dX6_begins_15 ⟨Nat.le_of_ble_eq_true rfl, Nat.le_of_ble_eq_true rfl⟩)
    (fun _ H locs h_2 w => ?_)
  have w : kW g A s [cM μ iK kn ln 0 sp bg fm le fi se re ca, xI g (μ 1) 288 (enc σ), xI g (μ 2) 288 (enc σ)] H locs := kW.arr w 2 rfl (fun j hj => by rw [cpyU_in (by omega) (by omega)]; congr 1; omega) rfl
  subst hA
  subst hQ
  exact kretv F w () [0, 1, 2] rfl rfl (trivial) (Nat.le_of_ble_eq_true rfl) (Nat.le_of_ble_eq_true rfl) dX6_begins_18
theorem in_X6_records_X6 : ∀ w ∈ wsX60, w ∈ wsX6_records := by decide +kernel
abbrev rmX6_records : Room := { frames := 1, cells := 0, slots := 0, locals := 24 }
set_option maxHeartbeats 4000000 in
set_option maxRecDepth 100000 in
theorem kX6_records (l : Launch) (g : GG) (μ : Nat → Nat) (iK : Bool) (kn : Nat) (ln : Nat) (th : Nat) (sp : Nat) (bg : Nat) (fm : Bool) (le : Int32) (fi : Nat) (se : Nat) (re : Nat) (ca : Nat) (σ : Sg) (γ : Nat → Sg) (sz : Nat) (hk : kn ≤ 4) : Met l yX6_records wsX6_records rmX6_records (va_Pc [.ref (μ 0)] (kPre g [cM μ iK kn ln th sp bg fm le fi se re ca, xI g (μ 2) 288 (enc σ), xI g (μ 5) 1152 (pst γ)] sz)) (va_Qv (fun (u : Unit) => True) (kB g (va_A [cM μ iK kn ln th sp bg fm le fi se re ca, xI g (μ 2) 288 (enc σ), xI g (μ 5) 1152 (pst γ)] sz) (fun u => [cM μ iK (pushN kn) ln th sp bg fm le fi se re ca, xI g (μ 2) 288 (enc σ), xI g (μ 5) 1152 (pst (pushG γ kn σ))])) (va_A [cM μ iK kn ln th sp bg fm le fi se re ca, xI g (μ 2) 288 (enc σ), xI g (μ 5) 1152 (pst γ)] sz)) 0 0 (va_A [cM μ iK kn ln th sp bg fm le fi se re ca, xI g (μ 2) 288 (enc σ), xI g (μ 5) 1152 (pst γ)] sz) := by
  refine kMet (cc := cX6_records) (maxL := 2) (ret := none) (own := RX6) (by decide) rfl rfl (Nat.le_of_ble_eq_true rfl) ?_
  intro p e s m args below meth c ls Q H locs A F w hl hnm hA hQ
  have hx := F.1.1
  have hb := F.1.2.1
  have hts := F.1.2.2.2.2
  have hl : lv_has ls 2 [(0, .ref (μ 0))] := hl
  refine lv_aload_n hx hb dX6_records_0 rfl (lv_at hl 0 rfl) ?_
  refine kget (fs := [.ref (μ 1), .ref (μ 2), .ref (μ 3), .ref (μ 4), .int (bI iK), .ref (μ 5), .int (nI kn), .ref (μ 6), .int (nI ln), .int (nI th), .int (nI sp), .int (nI bg), .int (bI fm), .int le, .int (nI fi), .int (nI se), .int (nI re), .int (nI ca)]) F w in_X6_records_X6 0 rfl rfl 6 (by decide) (by decide +kernel) rfl rfl dX6_records_1 ?_
  refine lv_iconst (v := nI 4) hx hb dX6_records_4 (by decide) ?_
  refine lv_icmp_ne (tgt := 49) hx hb dX6_records_5 (by decide) (fun h_1 => ?_) (fun h_1 => ?_)
  · have h_1 : kn ≠ 4 := (kc_ne_t (by omega) (by omega)).mp h_1
    refine lv_aload_n hx hb dX6_records_49 rfl (lv_at hl 0 rfl) ?_
    refine kget (fs := [.ref (μ 1), .ref (μ 2), .ref (μ 3), .ref (μ 4), .int (bI iK), .ref (μ 5), .int (nI kn), .ref (μ 6), .int (nI ln), .int (nI th), .int (nI sp), .int (nI bg), .int (bI fm), .int le, .int (nI fi), .int (nI se), .int (nI re), .int (nI ca)]) F w in_X6_records_X6 0 rfl rfl 1 (by decide) (by decide +kernel) rfl rfl dX6_records_50 ?_
    refine lv_iconst (v := nI 0) hx hb dX6_records_53 (by decide) ?_
    refine lv_aload_n hx hb dX6_records_54 rfl (lv_at hl 0 rfl) ?_
    refine kget (fs := [.ref (μ 1), .ref (μ 2), .ref (μ 3), .ref (μ 4), .int (bI iK), .ref (μ 5), .int (nI kn), .ref (μ 6), .int (nI ln), .int (nI th), .int (nI sp), .int (nI bg), .int (bI fm), .int le, .int (nI fi), .int (nI se), .int (nI re), .int (nI ca)]) F w in_X6_records_X6 0 rfl rfl 5 (by decide) (by decide +kernel) rfl rfl dX6_records_55 ?_
    refine lv_sipush (v := nI 288) hx hb dX6_records_58 (by decide) ?_
    refine lv_aload_n hx hb dX6_records_61 rfl (lv_at hl 0 rfl) ?_
    refine kget (fs := [.ref (μ 1), .ref (μ 2), .ref (μ 3), .ref (μ 4), .int (bI iK), .ref (μ 5), .int (nI kn), .ref (μ 6), .int (nI ln), .int (nI th), .int (nI sp), .int (nI bg), .int (bI fm), .int le, .int (nI fi), .int (nI se), .int (nI re), .int (nI ca)]) F w in_X6_records_X6 0 rfl rfl 6 (by decide) (by decide +kernel) rfl rfl dX6_records_62 ?_
    refine lv_imul hx hb dX6_records_65 ?_
    refine ktopi (y := nI (288 * kn)) (pk_mul 288 kn) ?_
    refine kcallv (wc := [xI g (μ 2) 288 (enc σ), xI g (μ 5) 1152 (pst γ)]) (wr := [cM μ iK kn ln th sp bg fm le fi se re ca]) (wn := fun (u : Unit) => [cM μ iK kn ln th sp bg fm le fi se re ca, xI g (μ 2) 288 (enc σ), xI g (μ 5) 1152 (cpyU (enc σ) 0 (pst γ) (288 * kn) 288)]) F w [1, 2] [0] [0, 1, 2] rfl rfl rfl (fun _ => rfl)
      (fun hp => va_runS (As := [.ref (μ 2), .int (nI 0), .ref (μ 5), .int (nI (288 * kn))]) (rest := []) F.1 (kX6_copies l g (μ 2) 288 (enc σ) 0 (μ 5) 1152 (pst γ) (288 * kn) H.size (by omega) (by omega)) (va_cwS 4 hts gX6_records_X6_copies rfl rfl rfl hd_X6_copies ⟨Nat.le_of_ble_eq_true rfl, Nat.le_of_ble_eq_true rfl⟩) hp rfl rfl hl.1 rfl (lv_room (Nat.le_of_ble_eq_true rfl)) dX6_records_66 ⟨Nat.le_of_ble_eq_true rfl, Nat.le_of_ble_eq_true rfl⟩)
      (fun _ H locs h_3 w => ?_)
    have w : kW g A s [cM μ iK kn ln th sp bg fm le fi se re ca, xI g (μ 2) 288 (enc σ), xI g (μ 5) 1152 (pst (pushG γ kn σ))] H locs := kW.arr w 2 rfl (fun j hj => by rw [pushG_l (by omega)]; exact pst_sup (by omega) hj) rfl
    refine lv_aload_n hx hb dX6_records_69 rfl (lv_at hl 0 rfl) ?_
    refine lv_dup hx hb dX6_records_70 rfl ?_
    refine kget (fs := [.ref (μ 1), .ref (μ 2), .ref (μ 3), .ref (μ 4), .int (bI iK), .ref (μ 5), .int (nI kn), .ref (μ 6), .int (nI ln), .int (nI th), .int (nI sp), .int (nI bg), .int (bI fm), .int le, .int (nI fi), .int (nI se), .int (nI re), .int (nI ca)]) F w in_X6_records_X6 0 rfl rfl 6 (by decide) (by decide +kernel) rfl rfl dX6_records_71 ?_
    refine lv_iconst (v := nI 1) hx hb dX6_records_74 (by decide) ?_
    refine lv_iadd hx hb dX6_records_75 ?_
    refine ktopi (y := nI (kn + 1)) (nI_add kn 1) ?_
    refine ktopi (y := nI (pushN kn)) (by rw [pushN_l (by omega)]) ?_
    refine kput (fs := [.ref (μ 1), .ref (μ 2), .ref (μ 3), .ref (μ 4), .int (bI iK), .ref (μ 5), .int (nI kn), .ref (μ 6), .int (nI ln), .int (nI th), .int (nI sp), .int (nI bg), .int (bI fm), .int le, .int (nI fi), .int (nI se), .int (nI re), .int (nI ca)]) F w in_X6_records_X6 tyX6_ok nmX6 0 rfl rfl 6 (by decide) (by decide +kernel) rfl rfl (rfl) (rfl) (Nat.le_of_ble_eq_true rfl) (wn := [cM μ iK (pushN kn) ln th sp bg fm le fi se re ca, xI g (μ 2) 288 (enc σ), xI g (μ 5) 1152 (pst (pushG γ kn σ))]) rfl dX6_records_76 (fun H locs w => ?_)
    subst hA
    subst hQ
    exact kretv F w () [0, 1, 2] rfl rfl (trivial) (Nat.le_of_ble_eq_true rfl) (Nat.le_of_ble_eq_true rfl) dX6_records_79
  · have h_1 : kn = 4 := (kc_ne_f (by omega) (by omega)).mp h_1
    have e_4 : kn = 4 := by omega
    subst e_4
    refine lv_iconst (v := nI 0) hx hb dX6_records_8 (by decide) ?_
    refine lv_istore_n (lv' := [(1, .int (nI 0)), (0, .ref (μ 0))]) hx hb dX6_records_9 rfl hl (by decide) rfl (fun ls hl => ?_)
    have w : kW g A s [cM μ iK 4 ln th sp bg fm le fi se re ca, xI g (μ 2) 288 (enc σ), xI g (μ 5) 1152 (shf γ 0)] H locs := by
      have w := w
      rw [shf_0]; exact w
    have LP_5 : ∀ (fu : Nat) (i : Nat) (h1 : i ≤ 864) (H : Heap) (locs : List Loc) (ls : Array Slot), 900 - i < fu → kW g A s [cM μ iK 4 ln th sp bg fm le fi se re ca, xI g (μ 2) 288 (enc σ), xI g (μ 5) 1152 (shf γ i)] H locs → lv_has ls 2 [(1, .int (nI i)), (0, .ref (μ 0))] → W p l e rmX6_records s m args below meth c H locs 0 0 Q (F0 m 10 ls []) := by
      intro fu
      induction fu with
      | zero => intro i h1 H locs ls hlt; omega
      | succ fu ih_5 =>
        intro i h1 H locs ls hlt w hl
        refine lv_iload_n hx hb dX6_records_10 rfl (lv_at hl 0 rfl) ?_
        refine lv_sipush (v := nI 864) hx hb dX6_records_11 (by decide) ?_
        refine lv_icmp_ge (tgt := 39) hx hb dX6_records_14 (by decide) (fun h_6 => ?_) (fun h_6 => ?_)
        · have h_6 : i ≥ 864 := (kc_ge_t (by omega) (by omega)).mp h_6
          have e_7 : i = 864 := by omega
          subst e_7
          have w : kW g A s [cM μ iK 4 ln th sp bg fm le fi se re ca, xI g (μ 2) 288 (enc σ), xI g (μ 5) 1152 (pst (shG γ))] H locs := kW.arr w 2 rfl (fun j hj => shf_e hj) rfl
          refine lv_aload_n hx hb dX6_records_39 rfl (lv_at hl 1 rfl) ?_
          refine lv_dup hx hb dX6_records_40 rfl ?_
          refine kget (fs := [.ref (μ 1), .ref (μ 2), .ref (μ 3), .ref (μ 4), .int (bI iK), .ref (μ 5), .int (nI 4), .ref (μ 6), .int (nI ln), .int (nI th), .int (nI sp), .int (nI bg), .int (bI fm), .int le, .int (nI fi), .int (nI se), .int (nI re), .int (nI ca)]) F w in_X6_records_X6 0 rfl rfl 6 (by decide) (by decide +kernel) rfl rfl dX6_records_41 ?_
          refine lv_iconst (v := nI 1) hx hb dX6_records_44 (by decide) ?_
          refine lv_isub hx hb dX6_records_45 ?_
          refine ktopi (y := nI 3) (by decide) ?_
          refine kput (fs := [.ref (μ 1), .ref (μ 2), .ref (μ 3), .ref (μ 4), .int (bI iK), .ref (μ 5), .int (nI 4), .ref (μ 6), .int (nI ln), .int (nI th), .int (nI sp), .int (nI bg), .int (bI fm), .int le, .int (nI fi), .int (nI se), .int (nI re), .int (nI ca)]) F w in_X6_records_X6 tyX6_ok nmX6 0 rfl rfl 6 (by decide) (by decide +kernel) rfl rfl (rfl) (rfl) (Nat.le_of_ble_eq_true rfl) (wn := [cM μ iK 3 ln th sp bg fm le fi se re ca, xI g (μ 2) 288 (enc σ), xI g (μ 5) 1152 (pst (shG γ))]) rfl dX6_records_46 (fun H locs w => ?_)
          refine lv_aload_n hx hb dX6_records_49 rfl (lv_at hl 1 rfl) ?_
          refine kget (fs := [.ref (μ 1), .ref (μ 2), .ref (μ 3), .ref (μ 4), .int (bI iK), .ref (μ 5), .int (nI 3), .ref (μ 6), .int (nI ln), .int (nI th), .int (nI sp), .int (nI bg), .int (bI fm), .int le, .int (nI fi), .int (nI se), .int (nI re), .int (nI ca)]) F w in_X6_records_X6 0 rfl rfl 1 (by decide) (by decide +kernel) rfl rfl dX6_records_50 ?_
          refine lv_iconst (v := nI 0) hx hb dX6_records_53 (by decide) ?_
          refine lv_aload_n hx hb dX6_records_54 rfl (lv_at hl 1 rfl) ?_
          refine kget (fs := [.ref (μ 1), .ref (μ 2), .ref (μ 3), .ref (μ 4), .int (bI iK), .ref (μ 5), .int (nI 3), .ref (μ 6), .int (nI ln), .int (nI th), .int (nI sp), .int (nI bg), .int (bI fm), .int le, .int (nI fi), .int (nI se), .int (nI re), .int (nI ca)]) F w in_X6_records_X6 0 rfl rfl 5 (by decide) (by decide +kernel) rfl rfl dX6_records_55 ?_
          refine lv_sipush (v := nI 288) hx hb dX6_records_58 (by decide) ?_
          refine lv_aload_n hx hb dX6_records_61 rfl (lv_at hl 1 rfl) ?_
          refine kget (fs := [.ref (μ 1), .ref (μ 2), .ref (μ 3), .ref (μ 4), .int (bI iK), .ref (μ 5), .int (nI 3), .ref (μ 6), .int (nI ln), .int (nI th), .int (nI sp), .int (nI bg), .int (bI fm), .int le, .int (nI fi), .int (nI se), .int (nI re), .int (nI ca)]) F w in_X6_records_X6 0 rfl rfl 6 (by decide) (by decide +kernel) rfl rfl dX6_records_62 ?_
          refine lv_imul hx hb dX6_records_65 ?_
          refine ktopi (y := nI (288 * 3)) (pk_mul 288 3) ?_
          refine kcallv (wc := [xI g (μ 2) 288 (enc σ), xI g (μ 5) 1152 (pst (shG γ))]) (wr := [cM μ iK 3 ln th sp bg fm le fi se re ca]) (wn := fun (u : Unit) => [cM μ iK 3 ln th sp bg fm le fi se re ca, xI g (μ 2) 288 (enc σ), xI g (μ 5) 1152 (cpyU (enc σ) 0 (pst (shG γ)) (288 * 3) 288)]) F w [1, 2] [0] [0, 1, 2] rfl rfl rfl (fun _ => rfl)
            (fun hp => va_runS (As := [.ref (μ 2), .int (nI 0), .ref (μ 5), .int (nI (288 * 3))]) (rest := []) F.1 (kX6_copies l g (μ 2) 288 (enc σ) 0 (μ 5) 1152 (pst (shG γ)) (288 * 3) H.size (by omega) (by omega)) (va_cwS 4 hts gX6_records_X6_copies rfl rfl rfl hd_X6_copies ⟨Nat.le_of_ble_eq_true rfl, Nat.le_of_ble_eq_true rfl⟩) hp rfl rfl hl.1 rfl (lv_room (Nat.le_of_ble_eq_true rfl)) dX6_records_66 ⟨Nat.le_of_ble_eq_true rfl, Nat.le_of_ble_eq_true rfl⟩)
            (fun _ H locs h_9 w => ?_)
          have w : kW g A s [cM μ iK 3 ln th sp bg fm le fi se re ca, xI g (μ 2) 288 (enc σ), xI g (μ 5) 1152 (pst (pushG γ 4 σ))] H locs := kW.arr w 2 rfl (fun j hj => (pst_sup (γ := shG γ) (n := 3) (by omega) hj)) rfl
          refine lv_aload_n hx hb dX6_records_69 rfl (lv_at hl 1 rfl) ?_
          refine lv_dup hx hb dX6_records_70 rfl ?_
          refine kget (fs := [.ref (μ 1), .ref (μ 2), .ref (μ 3), .ref (μ 4), .int (bI iK), .ref (μ 5), .int (nI 3), .ref (μ 6), .int (nI ln), .int (nI th), .int (nI sp), .int (nI bg), .int (bI fm), .int le, .int (nI fi), .int (nI se), .int (nI re), .int (nI ca)]) F w in_X6_records_X6 0 rfl rfl 6 (by decide) (by decide +kernel) rfl rfl dX6_records_71 ?_
          refine lv_iconst (v := nI 1) hx hb dX6_records_74 (by decide) ?_
          refine lv_iadd hx hb dX6_records_75 ?_
          refine ktopi (y := nI (3 + 1)) (nI_add 3 1) ?_
          refine ktopi (y := nI (pushN 4)) (rfl) ?_
          refine kput (fs := [.ref (μ 1), .ref (μ 2), .ref (μ 3), .ref (μ 4), .int (bI iK), .ref (μ 5), .int (nI 3), .ref (μ 6), .int (nI ln), .int (nI th), .int (nI sp), .int (nI bg), .int (bI fm), .int le, .int (nI fi), .int (nI se), .int (nI re), .int (nI ca)]) F w in_X6_records_X6 tyX6_ok nmX6 0 rfl rfl 6 (by decide) (by decide +kernel) rfl rfl (rfl) (rfl) (Nat.le_of_ble_eq_true rfl) (wn := [cM μ iK (pushN 4) ln th sp bg fm le fi se re ca, xI g (μ 2) 288 (enc σ), xI g (μ 5) 1152 (pst (pushG γ 4 σ))]) rfl dX6_records_76 (fun H locs w => ?_)
          subst hA
          subst hQ
          exact kretv F w () [0, 1, 2] rfl rfl (trivial) (Nat.le_of_ble_eq_true rfl) (Nat.le_of_ble_eq_true rfl) dX6_records_79
        · have h_6 : i < 864 := (kc_ge_f (by omega) (by omega)).mp h_6
          refine lv_aload_n hx hb dX6_records_17 rfl (lv_at hl 1 rfl) ?_
          refine kget (fs := [.ref (μ 1), .ref (μ 2), .ref (μ 3), .ref (μ 4), .int (bI iK), .ref (μ 5), .int (nI 4), .ref (μ 6), .int (nI ln), .int (nI th), .int (nI sp), .int (nI bg), .int (bI fm), .int le, .int (nI fi), .int (nI se), .int (nI re), .int (nI ca)]) F w in_X6_records_X6 0 rfl rfl 5 (by decide) (by decide +kernel) rfl rfl dX6_records_18 ?_
          refine lv_iload_n hx hb dX6_records_21 rfl (lv_at hl 0 rfl) ?_
          refine lv_aload_n hx hb dX6_records_22 rfl (lv_at hl 1 rfl) ?_
          refine kget (fs := [.ref (μ 1), .ref (μ 2), .ref (μ 3), .ref (μ 4), .int (bI iK), .ref (μ 5), .int (nI 4), .ref (μ 6), .int (nI ln), .int (nI th), .int (nI sp), .int (nI bg), .int (bI fm), .int le, .int (nI fi), .int (nI se), .int (nI re), .int (nI ca)]) F w in_X6_records_X6 0 rfl rfl 5 (by decide) (by decide +kernel) rfl rfl dX6_records_23 ?_
          refine lv_iload_n hx hb dX6_records_26 rfl (lv_at hl 0 rfl) ?_
          refine lv_sipush (v := nI 288) hx hb dX6_records_27 (by decide) ?_
          refine lv_iadd hx hb dX6_records_30 ?_
          refine ktopi (y := nI (i + 288)) (nI_add i 288) ?_
          refine kiald (v := (shf γ i) (i + 288)) F w 2 rfl (vp_in_nI (by omega) (by omega)) (congrArg (shf γ i) (nI_clamp (n := i + 288) (by omega))) dX6_records_31 ?_
          refine ktopi (y := pst γ (i + 288)) (shf_g) ?_
          refine kiast (f' := upd (shf γ i) i (pst γ (i + 288))) F w 2 rfl (vp_in_nI (by omega) (by omega)) (congrArg (fun z => upd (shf γ i) z (pst γ (i + 288))) (nI_clamp (n := i) (by omega))) (wn := [cM μ iK 4 ln th sp bg fm le fi se re ca, xI g (μ 2) 288 (enc σ), xI g (μ 5) 1152 (upd (shf γ i) i (pst γ (i + 288)))]) rfl dX6_records_32 (fun H locs w => ?_)
          have w : kW g A s [cM μ iK 4 ln th sp bg fm le fi se re ca, xI g (μ 2) 288 (enc σ), xI g (μ 5) 1152 (shf γ (i + 1))] H locs := by
            have w := w
            rw [← shf_s]; exact w
          refine lv_iinc (v := nI (i + 1)) (lv' := [(1, .int (nI (i + 1))), (0, .ref (μ 0))]) hx hb dX6_records_33 hl (k := 0) rfl (nI_add i 1) (by decide) rfl (fun ls hl => ?_)
          refine lv_goto (tgt := 10) hx hb dX6_records_36 (by decide) ?_
          exact ih_5 (i + 1) (by omega) _ _ _ (by omega) (kW.perm w [0, 1, 2] rfl rfl) (lv_sub hl [0, 1] rfl)
    exact LP_5 _ 0 (by omega) _ _ _ (Nat.lt_succ_self _) (kW.perm w [0, 1, 2] rfl rfl) (lv_sub hl [0, 1] rfl)
theorem hd_X6_fails : yX6_fails.cls ≠ "java/lang/invoke/MethodHandle" ∧ yX6_fails.cls ≠ "java/lang/invoke/VarHandle" ∧ (parseMethodDescriptor yX6_fails.desc).map (fun d => d.parameters.length) = some 1 := by decide +kernel
abbrev rmX6_ends_A : Room := { frames := 1, cells := 0, slots := 0, locals := 21 }
set_option maxHeartbeats 4000000 in
set_option maxRecDepth 100000 in
theorem kX6_ends_A (l : Launch) (g : GG) (μ : Nat → Nat) (iK : Bool) (kn : Nat) (ln : Nat) (th : Nat) (sp : Nat) (bg : Nat) (fm : Bool) (le : Int32) (fi : Nat) (se : Nat) (re : Nat) (ca : Nat) (sz : Nat)  : Met l yX6_ends wsX6_ends rmX6_ends_A (va_Pc [.ref (μ 0), .int (-11)] (kPre g [cM μ iK kn ln th sp bg fm le fi se re ca] sz)) (va_Qi (fun (r : Int32) (u : Unit) => r = nI 0) (kB g (va_A [cM μ iK kn ln th sp bg fm le fi se re ca] sz) (fun u => [cM μ iK kn ln 1 sp bg fm le fi se re ca])) (va_A [cM μ iK kn ln th sp bg fm le fi se re ca] sz)) 0 0 (va_A [cM μ iK kn ln th sp bg fm le fi se re ca] sz) := by
  refine kMet (cc := cX6_ends) (maxL := 2) (ret := (some .int)) (own := RX6) (by decide) rfl rfl (Nat.le_of_ble_eq_true rfl) ?_
  intro p e s m args below meth c ls Q H locs A F w hl hnm hA hQ
  have hx := F.1.1
  have hb := F.1.2.1
  have hts := F.1.2.2.2.2
  have hl : lv_has ls 2 [(0, .ref (μ 0)), (1, .int (-11))] := hl
  refine lv_iload_n hx hb dX6_ends_0 rfl (lv_at hl 1 rfl) ?_
  refine lv_bipush (v := (-11)) hx hb dX6_ends_1 (by decide) ?_
  refine lv_icmp_ne (tgt := 12) hx hb dX6_ends_3 (by decide) (fun h_1 => ?_) (fun h_1 => ?_)
  · exact absurd rfl h_1
  · refine lv_aload_n hx hb dX6_ends_6 rfl (lv_at hl 0 rfl) ?_
    refine lv_iconst (v := nI 1) hx hb dX6_ends_7 (by decide) ?_
    refine kcalli (wc := [cM μ iK kn ln th sp bg fm le fi se re ca]) (wr := []) (wn := fun (u : Unit) => [cM μ iK kn ln 1 sp bg fm le fi se re ca]) F w [0] [] [0] rfl rfl rfl (fun _ => rfl)
      (fun hp => va_runV (As := [.int (nI 1)]) (rest := []) F.1 (kX6_fails l g μ iK kn ln th sp bg fm le fi se re ca 1 H.size ) (cwV 1 hts gX6_ends_X6_fails rfl rfl rfl ⟨rfl, hd_X6_fails⟩ ⟨Nat.le_of_ble_eq_true rfl, Nat.le_of_ble_eq_true rfl⟩) ⟨hp.1, va_recv F.2.2.2.1.1 w.1 (q0 := 0) (ci := 6) rfl rfl, hp.2⟩ rfl rfl hl.1 rfl (lv_room (Nat.le_of_ble_eq_true rfl)) dX6_ends_8 ⟨Nat.le_of_ble_eq_true rfl, Nat.le_of_ble_eq_true rfl⟩)
      (fun r_2 _ H locs h_3 w => ?_)
    subst h_3
    subst hA
    subst hQ
    exact kreti F w () [0] rfl rfl (rfl) (Nat.le_of_ble_eq_true rfl) (Nat.le_of_ble_eq_true rfl) dX6_ends_11
abbrev rmX6_ends_S : Room := { frames := 1, cells := 0, slots := 0, locals := 21 }
set_option maxHeartbeats 4000000 in
set_option maxRecDepth 100000 in
theorem kX6_ends_S (l : Launch) (g : GG) (μ : Nat → Nat) (iK : Bool) (kn : Nat) (ln : Nat) (th : Nat) (sp : Nat) (bg : Nat) (fm : Bool) (le : Int32) (fi : Nat) (se : Nat) (re : Nat) (ca : Nat) (sz : Nat)  : Met l yX6_ends wsX6_ends rmX6_ends_S (va_Pc [.ref (μ 0), .int (-12)] (kPre g [cM μ iK kn ln th sp bg fm le fi se re ca] sz)) (va_Qi (fun (r : Int32) (u : Unit) => r = nI 0) (kB g (va_A [cM μ iK kn ln th sp bg fm le fi se re ca] sz) (fun u => [cM μ iK kn ln 2 sp bg fm le fi se re ca])) (va_A [cM μ iK kn ln th sp bg fm le fi se re ca] sz)) 0 0 (va_A [cM μ iK kn ln th sp bg fm le fi se re ca] sz) := by
  refine kMet (cc := cX6_ends) (maxL := 2) (ret := (some .int)) (own := RX6) (by decide) rfl rfl (Nat.le_of_ble_eq_true rfl) ?_
  intro p e s m args below meth c ls Q H locs A F w hl hnm hA hQ
  have hx := F.1.1
  have hb := F.1.2.1
  have hts := F.1.2.2.2.2
  have hl : lv_has ls 2 [(0, .ref (μ 0)), (1, .int (-12))] := hl
  refine lv_iload_n hx hb dX6_ends_0 rfl (lv_at hl 1 rfl) ?_
  refine lv_bipush (v := (-11)) hx hb dX6_ends_1 (by decide) ?_
  refine lv_icmp_ne (tgt := 12) hx hb dX6_ends_3 (by decide) (fun h_1 => ?_) (fun h_1 => ?_)
  · refine lv_iload_n hx hb dX6_ends_12 rfl (lv_at hl 1 rfl) ?_
    refine lv_bipush (v := (-12)) hx hb dX6_ends_13 (by decide) ?_
    refine lv_icmp_ne (tgt := 24) hx hb dX6_ends_15 (by decide) (fun h_2 => ?_) (fun h_2 => ?_)
    · exact absurd rfl h_2
    · refine lv_aload_n hx hb dX6_ends_18 rfl (lv_at hl 0 rfl) ?_
      refine lv_iconst (v := nI 2) hx hb dX6_ends_19 (by decide) ?_
      refine kcalli (wc := [cM μ iK kn ln th sp bg fm le fi se re ca]) (wr := []) (wn := fun (u : Unit) => [cM μ iK kn ln 2 sp bg fm le fi se re ca]) F w [0] [] [0] rfl rfl rfl (fun _ => rfl)
        (fun hp => va_runV (As := [.int (nI 2)]) (rest := []) F.1 (kX6_fails l g μ iK kn ln th sp bg fm le fi se re ca 2 H.size ) (cwV 1 hts gX6_ends_X6_fails rfl rfl rfl ⟨rfl, hd_X6_fails⟩ ⟨Nat.le_of_ble_eq_true rfl, Nat.le_of_ble_eq_true rfl⟩) ⟨hp.1, va_recv F.2.2.2.1.1 w.1 (q0 := 0) (ci := 6) rfl rfl, hp.2⟩ rfl rfl hl.1 rfl (lv_room (Nat.le_of_ble_eq_true rfl)) dX6_ends_20 ⟨Nat.le_of_ble_eq_true rfl, Nat.le_of_ble_eq_true rfl⟩)
        (fun r_3 _ H locs h_4 w => ?_)
      subst h_4
      subst hA
      subst hQ
      exact kreti F w () [0] rfl rfl (rfl) (Nat.le_of_ble_eq_true rfl) (Nat.le_of_ble_eq_true rfl) dX6_ends_23
  · exact absurd h_1 (by decide)
theorem hd_X6_records : yX6_records.cls ≠ "java/lang/invoke/MethodHandle" ∧ yX6_records.cls ≠ "java/lang/invoke/VarHandle" ∧ (parseMethodDescriptor yX6_records.desc).map (fun d => d.parameters.length) = some 0 := by decide +kernel
abbrev rmX6_ends_k : Room := { frames := 2, cells := 0, slots := 0, locals := 45 }
set_option maxHeartbeats 4000000 in
set_option maxRecDepth 100000 in
theorem kX6_ends_k (l : Launch) (g : GG) (μ : Nat → Nat) (iK : Bool) (kn : Nat) (ln : Nat) (th : Nat) (sp : Nat) (bg : Nat) (fm : Bool) (le : Int32) (fi : Nat) (se : Nat) (re : Nat) (ca : Nat) (σ : Sg) (γ : Nat → Sg) (x : Int32) (sz : Nat) (hne : x ≠ (-11) ∧ x ≠ (-12)) (hk : kn ≤ 4) : Met l yX6_ends wsX6_ends rmX6_ends_k (va_Pc [.ref (μ 0), .int x] (kPre g [cM μ iK kn ln th sp bg fm le fi se re ca, xI g (μ 2) 288 (enc σ), xI g (μ 5) 1152 (pst γ)] sz)) (va_Qi (fun (r : Int32) (u : Unit) => r = x) (kB g (va_A [cM μ iK kn ln th sp bg fm le fi se re ca, xI g (μ 2) 288 (enc σ), xI g (μ 5) 1152 (pst γ)] sz) (fun u => [cM μ iK (pushN kn) ln th sp bg fm le fi se re ca, xI g (μ 2) 288 (enc σ), xI g (μ 5) 1152 (pst (pushG γ kn σ))])) (va_A [cM μ iK kn ln th sp bg fm le fi se re ca, xI g (μ 2) 288 (enc σ), xI g (μ 5) 1152 (pst γ)] sz)) 0 0 (va_A [cM μ iK kn ln th sp bg fm le fi se re ca, xI g (μ 2) 288 (enc σ), xI g (μ 5) 1152 (pst γ)] sz) := by
  refine kMet (cc := cX6_ends) (maxL := 2) (ret := (some .int)) (own := RX6) (by decide) rfl rfl (Nat.le_of_ble_eq_true rfl) ?_
  intro p e s m args below meth c ls Q H locs A F w hl hnm hA hQ
  have hx := F.1.1
  have hb := F.1.2.1
  have hts := F.1.2.2.2.2
  have hl : lv_has ls 2 [(0, .ref (μ 0)), (1, .int x)] := hl
  refine lv_iload_n hx hb dX6_ends_0 rfl (lv_at hl 1 rfl) ?_
  refine lv_bipush (v := (-11)) hx hb dX6_ends_1 (by decide) ?_
  refine lv_icmp_ne (tgt := 12) hx hb dX6_ends_3 (by decide) (fun h_1 => ?_) (fun h_1 => ?_)
  · refine lv_iload_n hx hb dX6_ends_12 rfl (lv_at hl 1 rfl) ?_
    refine lv_bipush (v := (-12)) hx hb dX6_ends_13 (by decide) ?_
    refine lv_icmp_ne (tgt := 24) hx hb dX6_ends_15 (by decide) (fun h_2 => ?_) (fun h_2 => ?_)
    · refine lv_aload_n hx hb dX6_ends_24 rfl (lv_at hl 0 rfl) ?_
      refine kcallv (wc := [cM μ iK kn ln th sp bg fm le fi se re ca, xI g (μ 2) 288 (enc σ), xI g (μ 5) 1152 (pst γ)]) (wr := []) (wn := fun (u : Unit) => [cM μ iK (pushN kn) ln th sp bg fm le fi se re ca, xI g (μ 2) 288 (enc σ), xI g (μ 5) 1152 (pst (pushG γ kn σ))]) F w [0, 1, 2] [] [0, 1, 2] rfl rfl rfl (fun _ => rfl)
        (fun hp => va_runV (As := []) (rest := []) F.1 (kX6_records l g μ iK kn ln th sp bg fm le fi se re ca σ γ H.size (by omega)) (cwV 0 hts gX6_ends_X6_records rfl rfl rfl ⟨rfl, hd_X6_records⟩ ⟨Nat.le_of_ble_eq_true rfl, Nat.le_of_ble_eq_true rfl⟩) ⟨hp.1, va_recv F.2.2.2.1.1 w.1 (q0 := 0) (ci := 6) rfl rfl, hp.2⟩ rfl rfl hl.1 rfl (lv_room (Nat.le_of_ble_eq_true rfl)) dX6_ends_25 ⟨Nat.le_of_ble_eq_true rfl, Nat.le_of_ble_eq_true rfl⟩)
        (fun _ H locs h_4 w => ?_)
      refine lv_iload_n hx hb dX6_ends_28 rfl (lv_at hl 1 rfl) ?_
      subst hA
      subst hQ
      exact kreti F w () [0, 1, 2] rfl rfl (rfl) (Nat.le_of_ble_eq_true rfl) (Nat.le_of_ble_eq_true rfl) dX6_ends_29
    · exact absurd h_2 hne.2
  · exact absurd h_1 hne.1
theorem hd_X6_isDoor : yX6_isDoor.cls ≠ "java/lang/invoke/MethodHandle" ∧ yX6_isDoor.cls ≠ "java/lang/invoke/VarHandle" ∧ (parseMethodDescriptor yX6_isDoor.desc).map (fun d => d.parameters.length) = some 1 := by decide +kernel
theorem hd_X6_sum : yX6_sum.cls ≠ "java/lang/invoke/MethodHandle" ∧ yX6_sum.cls ≠ "java/lang/invoke/VarHandle" ∧ (parseMethodDescriptor yX6_sum.desc).map (fun d => d.parameters.length) = some 1 := by decide +kernel
abbrev rmX6_goPass_k : Room := { frames := 3, cells := 0, slots := 0, locals := 66 }
set_option maxHeartbeats 4000000 in
set_option maxRecDepth 100000 in
theorem kX6_goPass_k (l : Launch) (g : GG) (μ : Nat → Nat) (iK : Bool) (kn : Nat) (ln : Nat) (th : Nat) (sp : Nat) (bg : Nat) (fm : Bool) (le : Int32) (fi : Nat) (se : Nat) (re : Nat) (ca : Nat) (σ : Sg) (k : Nat) (sz : Nat) (hk : 1 ≤ k ∧ k ≤ 48) : Met l yX6_goPass wsX6_goPass rmX6_goPass_k (va_Pc [.ref (μ 0), .int (nI k)] (kPre g [cM μ iK kn ln th sp bg fm le fi se re ca, xI g (μ 1) 288 (enc σ)] sz)) (va_Qi (fun (r : Int32) (u : Unit) => r = nI (zcnt (zO (passS k σ)) 48)) (kB g (va_A [cM μ iK kn ln th sp bg fm le fi se re ca, xI g (μ 1) 288 (enc σ)] sz) (fun u => [cM μ iK kn ln th sp bg fm le fi se re ca, xI g (μ 1) 288 (enc (passS k σ))])) (va_A [cM μ iK kn ln th sp bg fm le fi se re ca, xI g (μ 1) 288 (enc σ)] sz)) 0 0 (va_A [cM μ iK kn ln th sp bg fm le fi se re ca, xI g (μ 1) 288 (enc σ)] sz) := by
  refine kMet (cc := cX6_goPass) (maxL := 2) (ret := (some .int)) (own := RX6) (by decide) rfl rfl (Nat.le_of_ble_eq_true rfl) ?_
  intro p e s m args below meth c ls Q H locs A F w hl hnm hA hQ
  have hx := F.1.1
  have hb := F.1.2.1
  have hts := F.1.2.2.2.2
  have hl : lv_has ls 2 [(0, .ref (μ 0)), (1, .int (nI k))] := hl
  refine lv_iload_n hx hb dX6_goPass_0 rfl (lv_at hl 1 rfl) ?_
  refine kcalli (wc := []) (wr := [cM μ iK kn ln th sp bg fm le fi se re ca, xI g (μ 1) 288 (enc σ)]) (wn := fun (u : Unit) => [cM μ iK kn ln th sp bg fm le fi se re ca, xI g (μ 1) 288 (enc σ)]) F w [] [0, 1] [0, 1] rfl rfl rfl (fun _ => rfl)
    (fun hp => va_runS (As := [.int (nI k)]) (rest := []) F.1 (kX6_isDoor l g (nI k) H.size ) (va_cwS 1 hts gX6_goPass_X6_isDoor rfl rfl rfl hd_X6_isDoor ⟨Nat.le_of_ble_eq_true rfl, Nat.le_of_ble_eq_true rfl⟩) hp rfl rfl hl.1 rfl (lv_room (Nat.le_of_ble_eq_true rfl)) dX6_goPass_1 ⟨Nat.le_of_ble_eq_true rfl, Nat.le_of_ble_eq_true rfl⟩)
    (fun r_1 _ H locs h_2 w => ?_)
  subst h_2
  refine ktopi (y := bI true) (congrArg bI (door_t hk)) ?_
  refine lv_if_ne (tgt := 10) hx hb dX6_goPass_4 (by decide) (fun h_3 => ?_) (fun h_3 => ?_)
  · have h_3 : true = true := bI_o.mp h_3
    refine lv_aload_n hx hb dX6_goPass_10 rfl (lv_at hl 0 rfl) ?_
    refine lv_iload_n hx hb dX6_goPass_11 rfl (lv_at hl 1 rfl) ?_
    refine kcallv (wc := [cM μ iK kn ln th sp bg fm le fi se re ca, xI g (μ 1) 288 (enc σ)]) (wr := []) (wn := fun (u : Unit) => [cM μ iK kn ln th sp bg fm le fi se re ca, xI g (μ 1) 288 (enc (passS k σ))]) F w [0, 1] [] [0, 1] rfl rfl rfl (fun _ => rfl)
      (fun hp => va_runV (As := [.int (nI k)]) (rest := []) F.1 (kX6_passes l g μ iK kn ln th sp bg fm le fi se re ca σ k H.size (by omega)) (cwV 1 hts gX6_goPass_X6_passes rfl rfl rfl ⟨rfl, hd_X6_passes⟩ ⟨Nat.le_of_ble_eq_true rfl, Nat.le_of_ble_eq_true rfl⟩) ⟨hp.1, va_recv F.2.2.2.1.1 w.1 (q0 := 0) (ci := 6) rfl rfl, hp.2⟩ rfl rfl hl.1 rfl (lv_room (Nat.le_of_ble_eq_true rfl)) dX6_goPass_12 ⟨Nat.le_of_ble_eq_true rfl, Nat.le_of_ble_eq_true rfl⟩)
      (fun _ H locs h_5 w => ?_)
    refine lv_aload_n hx hb dX6_goPass_15 rfl (lv_at hl 0 rfl) ?_
    refine lv_iconst (v := nI 0) hx hb dX6_goPass_16 (by decide) ?_
    refine kcalli (wc := [cM μ iK kn ln th sp bg fm le fi se re ca, xI g (μ 1) 288 (enc (passS k σ))]) (wr := []) (wn := fun (u : Unit) => [cM μ iK kn ln th sp bg fm le fi se re ca, xI g (μ 1) 288 (enc (passS k σ))]) F w [0, 1] [] [0, 1] rfl rfl rfl (fun _ => rfl)
      (fun hp => va_runV (As := [.int (nI 0)]) (rest := []) F.1 (kX6_sum l g μ iK kn ln th sp bg fm le fi se re ca (enc (passS k σ)) 0 H.size (by omega)) (cwV 1 hts gX6_goPass_X6_sum rfl rfl rfl ⟨rfl, hd_X6_sum⟩ ⟨Nat.le_of_ble_eq_true rfl, Nat.le_of_ble_eq_true rfl⟩) ⟨hp.1, va_recv F.2.2.2.1.1 w.1 (q0 := 0) (ci := 6) rfl rfl, hp.2⟩ rfl rfl hl.1 rfl (lv_room (Nat.le_of_ble_eq_true rfl)) dX6_goPass_17 ⟨Nat.le_of_ble_eq_true rfl, Nat.le_of_ble_eq_true rfl⟩)
      (fun r_6 _ H locs h_7 w => ?_)
    subst h_7
    refine ktopi (y := nI (zcnt (zO (passS k σ)) 48)) (sumZ_O _ 48 (Nat.le_refl _)) ?_
    subst hA
    subst hQ
    exact kreti F w () [0, 1] rfl rfl (rfl) (Nat.le_of_ble_eq_true rfl) (Nat.le_of_ble_eq_true rfl) dX6_goPass_20
  · have h_3 : true = false := bI_z.mp h_3
    exact absurd h_3 (by simp)
abbrev rmX6_goPass_A : Room := { frames := 2, cells := 0, slots := 0, locals := 42 }
set_option maxHeartbeats 4000000 in
set_option maxRecDepth 100000 in
theorem kX6_goPass_A (l : Launch) (g : GG) (μ : Nat → Nat) (iK : Bool) (kn : Nat) (ln : Nat) (th : Nat) (sp : Nat) (bg : Nat) (fm : Bool) (le : Int32) (fi : Nat) (se : Nat) (re : Nat) (ca : Nat) (n : Int32) (sz : Nat) (hn : ¬ (1 ≤ n.toInt ∧ n.toInt ≤ 48)) : Met l yX6_goPass wsX6_goPass rmX6_goPass_A (va_Pc [.ref (μ 0), .int n] (kPre g [cM μ iK kn ln th sp bg fm le fi se re ca] sz)) (va_Qi (fun (r : Int32) (u : Unit) => r = (-11)) (kB g (va_A [cM μ iK kn ln th sp bg fm le fi se re ca] sz) (fun u => [cM μ iK kn ln th sp bg fm le fi se re ca])) (va_A [cM μ iK kn ln th sp bg fm le fi se re ca] sz)) 0 0 (va_A [cM μ iK kn ln th sp bg fm le fi se re ca] sz) := by
  refine kMet (cc := cX6_goPass) (maxL := 2) (ret := (some .int)) (own := RX6) (by decide) rfl rfl (Nat.le_of_ble_eq_true rfl) ?_
  intro p e s m args below meth c ls Q H locs A F w hl hnm hA hQ
  have hx := F.1.1
  have hb := F.1.2.1
  have hts := F.1.2.2.2.2
  have hl : lv_has ls 2 [(0, .ref (μ 0)), (1, .int n)] := hl
  refine lv_iload_n hx hb dX6_goPass_0 rfl (lv_at hl 1 rfl) ?_
  refine kcalli (wc := []) (wr := [cM μ iK kn ln th sp bg fm le fi se re ca]) (wn := fun (u : Unit) => [cM μ iK kn ln th sp bg fm le fi se re ca]) F w [] [0] [0] rfl rfl rfl (fun _ => rfl)
    (fun hp => va_runS (As := [.int n]) (rest := []) F.1 (kX6_isDoor l g n H.size ) (va_cwS 1 hts gX6_goPass_X6_isDoor rfl rfl rfl hd_X6_isDoor ⟨Nat.le_of_ble_eq_true rfl, Nat.le_of_ble_eq_true rfl⟩) hp rfl rfl hl.1 rfl (lv_room (Nat.le_of_ble_eq_true rfl)) dX6_goPass_1 ⟨Nat.le_of_ble_eq_true rfl, Nat.le_of_ble_eq_true rfl⟩)
    (fun r_1 _ H locs h_2 w => ?_)
  subst h_2
  refine ktopi (y := bI false) (congrArg bI (door_f hn)) ?_
  refine lv_if_ne (tgt := 10) hx hb dX6_goPass_4 (by decide) (fun h_3 => ?_) (fun h_3 => ?_)
  · have h_3 : false = true := bI_o.mp h_3
    exact absurd h_3 (by simp)
  · have h_3 : false = false := bI_z.mp h_3
    refine lv_bipush (v := (-11)) hx hb dX6_goPass_7 (by decide) ?_
    subst hA
    subst hQ
    exact kreti F w () [0] rfl rfl (rfl) (Nat.le_of_ble_eq_true rfl) (Nat.le_of_ble_eq_true rfl) dX6_goPass_9
theorem hd_X6_passesRow : yX6_passesRow.cls ≠ "java/lang/invoke/MethodHandle" ∧ yX6_passesRow.cls ≠ "java/lang/invoke/VarHandle" ∧ (parseMethodDescriptor yX6_passesRow.desc).map (fun d => d.parameters.length) = some 2 := by decide +kernel
abbrev rmX6_goRow_k : Room := { frames := 4, cells := 0, slots := 0, locals := 90 }
set_option maxHeartbeats 4000000 in
set_option maxRecDepth 100000 in
theorem kX6_goRow_k (l : Launch) (g : GG) (μ : Nat → Nat) (iK : Bool) (kn : Nat) (ln : Nat) (th : Nat) (sp : Nat) (bg : Nat) (fm : Bool) (le : Int32) (fi : Nat) (se : Nat) (re : Nat) (ca : Nat) (σ : Sg) (n : Nat) (t : Nat) (sz : Nat) (hn : 1 ≤ n ∧ n ≤ t ∧ t ≤ 48) : Met l yX6_goRow wsX6_goRow rmX6_goRow_k (va_Pc [.ref (μ 0), .int (nI n), .int (nI t)] (kPre g [cM μ iK kn ln th sp bg fm le fi se re ca, xI g (μ 1) 288 (enc σ)] sz)) (va_Qi (fun (r : Int32) (u : Unit) => r = nI (rowC n (t + 1 - n) σ)) (kB g (va_A [cM μ iK kn ln th sp bg fm le fi se re ca, xI g (μ 1) 288 (enc σ)] sz) (fun u => [cM μ iK kn ln th sp bg fm le fi se re ca, xI g (μ 1) 288 (enc (rowN n (t + 1 - n) σ))])) (va_A [cM μ iK kn ln th sp bg fm le fi se re ca, xI g (μ 1) 288 (enc σ)] sz)) 0 0 (va_A [cM μ iK kn ln th sp bg fm le fi se re ca, xI g (μ 1) 288 (enc σ)] sz) := by
  refine kMet (cc := cX6_goRow) (maxL := 3) (ret := (some .int)) (own := RX6) (by decide) rfl rfl (Nat.le_of_ble_eq_true rfl) ?_
  intro p e s m args below meth c ls Q H locs A F w hl hnm hA hQ
  have hx := F.1.1
  have hb := F.1.2.1
  have hts := F.1.2.2.2.2
  have hl : lv_has ls 3 [(0, .ref (μ 0)), (1, .int (nI n)), (2, .int (nI t))] := hl
  refine lv_iload_n hx hb dX6_goRow_0 rfl (lv_at hl 1 rfl) ?_
  refine kcalli (wc := []) (wr := [cM μ iK kn ln th sp bg fm le fi se re ca, xI g (μ 1) 288 (enc σ)]) (wn := fun (u : Unit) => [cM μ iK kn ln th sp bg fm le fi se re ca, xI g (μ 1) 288 (enc σ)]) F w [] [0, 1] [0, 1] rfl rfl rfl (fun _ => rfl)
    (fun hp => va_runS (As := [.int (nI n)]) (rest := []) F.1 (kX6_isDoor l g (nI n) H.size ) (va_cwS 1 hts gX6_goRow_X6_isDoor rfl rfl rfl hd_X6_isDoor ⟨Nat.le_of_ble_eq_true rfl, Nat.le_of_ble_eq_true rfl⟩) hp rfl rfl hl.1 rfl (lv_room (Nat.le_of_ble_eq_true rfl)) dX6_goRow_1 ⟨Nat.le_of_ble_eq_true rfl, Nat.le_of_ble_eq_true rfl⟩)
    (fun r_1 _ H locs h_2 w => ?_)
  subst h_2
  refine ktopi (y := bI true) (congrArg bI (door_t ⟨hn.1, by omega⟩)) ?_
  refine lv_if_eq (tgt := 17) hx hb dX6_goRow_4 (by decide) (fun h_3 => ?_) (fun h_3 => ?_)
  · have h_3 : true = false := bI_z.mp h_3
    exact absurd h_3 (by simp)
  · have h_3 : true = true := bI_o.mp h_3
    refine lv_iload_n hx hb dX6_goRow_7 rfl (lv_at hl 2 rfl) ?_
    refine lv_iload_n hx hb dX6_goRow_8 rfl (lv_at hl 1 rfl) ?_
    refine lv_bipush (v := nI 48) hx hb dX6_goRow_9 (by decide) ?_
    refine kcalli (wc := []) (wr := [cM μ iK kn ln th sp bg fm le fi se re ca, xI g (μ 1) 288 (enc σ)]) (wn := fun (u : Unit) => [cM μ iK kn ln th sp bg fm le fi se re ca, xI g (μ 1) 288 (enc σ)]) F w [] [0, 1] [0, 1] rfl rfl rfl (fun _ => rfl)
      (fun hp => va_runS (As := [.int (nI t), .int (nI n), .int (nI 48)]) (rest := []) F.1 (kX6_in l g (nI t) (nI n) (nI 48) H.size ) (va_cwS 3 hts gX6_goRow_X6_in rfl rfl rfl hd_X6_in ⟨Nat.le_of_ble_eq_true rfl, Nat.le_of_ble_eq_true rfl⟩) hp rfl rfl hl.1 rfl (lv_room (Nat.le_of_ble_eq_true rfl)) dX6_goRow_11 ⟨Nat.le_of_ble_eq_true rfl, Nat.le_of_ble_eq_true rfl⟩)
      (fun r_4 _ H locs h_5 w => ?_)
    subst h_5
    refine ktopi (y := bI true) (congrArg bI (in_t hn.2.1 hn.2.2 (by omega))) ?_
    refine lv_if_ne (tgt := 20) hx hb dX6_goRow_14 (by decide) (fun h_6 => ?_) (fun h_6 => ?_)
    · have h_6 : true = true := bI_o.mp h_6
      refine lv_aload_n hx hb dX6_goRow_20 rfl (lv_at hl 0 rfl) ?_
      refine lv_iload_n hx hb dX6_goRow_21 rfl (lv_at hl 1 rfl) ?_
      refine lv_iload_n hx hb dX6_goRow_22 rfl (lv_at hl 2 rfl) ?_
      refine kcalli (wc := [cM μ iK kn ln th sp bg fm le fi se re ca, xI g (μ 1) 288 (enc σ)]) (wr := []) (wn := fun (u : Unit) => [cM μ iK kn ln th sp bg fm le fi se re ca, xI g (μ 1) 288 (enc (rowN n (t + 1 - n) σ))]) F w [0, 1] [] [0, 1] rfl rfl rfl (fun _ => rfl)
        (fun hp => va_runV (As := [.int (nI n), .int (nI t)]) (rest := []) F.1 (kX6_passesRow l g μ iK kn ln th sp bg fm le fi se re ca σ n t H.size (by omega)) (cwV 2 hts gX6_goRow_X6_passesRow rfl rfl rfl ⟨rfl, hd_X6_passesRow⟩ ⟨Nat.le_of_ble_eq_true rfl, Nat.le_of_ble_eq_true rfl⟩) ⟨hp.1, va_recv F.2.2.2.1.1 w.1 (q0 := 0) (ci := 6) rfl rfl, hp.2⟩ rfl rfl hl.1 rfl (lv_room (Nat.le_of_ble_eq_true rfl)) dX6_goRow_23 ⟨Nat.le_of_ble_eq_true rfl, Nat.le_of_ble_eq_true rfl⟩)
        (fun r_7 _ H locs h_8 w => ?_)
      subst h_8
      subst hA
      subst hQ
      exact kreti F w () [0, 1] rfl rfl (rfl) (Nat.le_of_ble_eq_true rfl) (Nat.le_of_ble_eq_true rfl) dX6_goRow_26
    · have h_6 : true = false := bI_z.mp h_6
      exact absurd h_6 (by simp)
abbrev rmX6_goRow_A : Room := { frames := 2, cells := 0, slots := 0, locals := 42 }
set_option maxHeartbeats 4000000 in
set_option maxRecDepth 100000 in
theorem kX6_goRow_A (l : Launch) (g : GG) (μ : Nat → Nat) (iK : Bool) (kn : Nat) (ln : Nat) (th : Nat) (sp : Nat) (bg : Nat) (fm : Bool) (le : Int32) (fi : Nat) (se : Nat) (re : Nat) (ca : Nat) (n : Int32) (t : Int32) (sz : Nat) (hn : ¬ (1 ≤ n.toInt ∧ n.toInt ≤ t.toInt ∧ t.toInt ≤ 48)) : Met l yX6_goRow wsX6_goRow rmX6_goRow_A (va_Pc [.ref (μ 0), .int n, .int t] (kPre g [cM μ iK kn ln th sp bg fm le fi se re ca] sz)) (va_Qi (fun (r : Int32) (u : Unit) => r = (-11)) (kB g (va_A [cM μ iK kn ln th sp bg fm le fi se re ca] sz) (fun u => [cM μ iK kn ln th sp bg fm le fi se re ca])) (va_A [cM μ iK kn ln th sp bg fm le fi se re ca] sz)) 0 0 (va_A [cM μ iK kn ln th sp bg fm le fi se re ca] sz) := by
  refine kMet (cc := cX6_goRow) (maxL := 3) (ret := (some .int)) (own := RX6) (by decide) rfl rfl (Nat.le_of_ble_eq_true rfl) ?_
  intro p e s m args below meth c ls Q H locs A F w hl hnm hA hQ
  have hx := F.1.1
  have hb := F.1.2.1
  have hts := F.1.2.2.2.2
  have hl : lv_has ls 3 [(0, .ref (μ 0)), (1, .int n), (2, .int t)] := hl
  refine lv_iload_n hx hb dX6_goRow_0 rfl (lv_at hl 1 rfl) ?_
  refine kcalli (wc := []) (wr := [cM μ iK kn ln th sp bg fm le fi se re ca]) (wn := fun (u : Unit) => [cM μ iK kn ln th sp bg fm le fi se re ca]) F w [] [0] [0] rfl rfl rfl (fun _ => rfl)
    (fun hp => va_runS (As := [.int n]) (rest := []) F.1 (kX6_isDoor l g n H.size ) (va_cwS 1 hts gX6_goRow_X6_isDoor rfl rfl rfl hd_X6_isDoor ⟨Nat.le_of_ble_eq_true rfl, Nat.le_of_ble_eq_true rfl⟩) hp rfl rfl hl.1 rfl (lv_room (Nat.le_of_ble_eq_true rfl)) dX6_goRow_1 ⟨Nat.le_of_ble_eq_true rfl, Nat.le_of_ble_eq_true rfl⟩)
    (fun r_1 _ H locs h_2 w => ?_)
  subst h_2
  refine lv_if_eq (tgt := 17) hx hb dX6_goRow_4 (by decide) (fun h_3 => ?_) (fun h_3 => ?_)
  · have h_3 : (decide (1 ≤ n.toInt ∧ n.toInt ≤ 48)) = false := bI_z.mp h_3
    refine lv_bipush (v := (-11)) hx hb dX6_goRow_17 (by decide) ?_
    subst hA
    subst hQ
    exact kreti F w () [0] rfl rfl (rfl) (Nat.le_of_ble_eq_true rfl) (Nat.le_of_ble_eq_true rfl) dX6_goRow_19
  · have h_3 : (decide (1 ≤ n.toInt ∧ n.toInt ≤ 48)) = true := bI_o.mp h_3
    refine lv_iload_n hx hb dX6_goRow_7 rfl (lv_at hl 2 rfl) ?_
    refine lv_iload_n hx hb dX6_goRow_8 rfl (lv_at hl 1 rfl) ?_
    refine lv_bipush (v := nI 48) hx hb dX6_goRow_9 (by decide) ?_
    refine kcalli (wc := []) (wr := [cM μ iK kn ln th sp bg fm le fi se re ca]) (wn := fun (u : Unit) => [cM μ iK kn ln th sp bg fm le fi se re ca]) F w [] [0] [0] rfl rfl rfl (fun _ => rfl)
      (fun hp => va_runS (As := [.int t, .int n, .int (nI 48)]) (rest := []) F.1 (kX6_in l g t n (nI 48) H.size ) (va_cwS 3 hts gX6_goRow_X6_in rfl rfl rfl hd_X6_in ⟨Nat.le_of_ble_eq_true rfl, Nat.le_of_ble_eq_true rfl⟩) hp rfl rfl hl.1 rfl (lv_room (Nat.le_of_ble_eq_true rfl)) dX6_goRow_11 ⟨Nat.le_of_ble_eq_true rfl, Nat.le_of_ble_eq_true rfl⟩)
      (fun r_4 _ H locs h_5 w => ?_)
    subst h_5
    refine ktopi (y := bI false) (congrArg bI (in_f hn h_3)) ?_
    refine lv_if_ne (tgt := 20) hx hb dX6_goRow_14 (by decide) (fun h_6 => ?_) (fun h_6 => ?_)
    · have h_6 : false = true := bI_o.mp h_6
      exact absurd h_6 (by simp)
    · have h_6 : false = false := bI_z.mp h_6
      refine lv_bipush (v := (-11)) hx hb dX6_goRow_17 (by decide) ?_
      subst hA
      subst hQ
      exact kreti F w () [0] rfl rfl (rfl) (Nat.le_of_ble_eq_true rfl) (Nat.le_of_ble_eq_true rfl) dX6_goRow_19
abbrev rmX6_goDoor_S : Room := { frames := 2, cells := 0, slots := 0, locals := 42 }
set_option maxHeartbeats 4000000 in
set_option maxRecDepth 100000 in
theorem kX6_goDoor_S (l : Launch) (g : GG) (μ : Nat → Nat) (iK : Bool) (kn : Nat) (ln : Nat) (th : Nat) (sp : Nat) (bg : Nat) (fm : Bool) (le : Int32) (fi : Nat) (se : Nat) (re : Nat) (ca : Nat) (σ : Sg) (d : Nat) (sz : Nat) (hd : 1 ≤ d ∧ d ≤ 48) (hl9 : zL σ d = true) : Met l yX6_goDoor wsX6_goDoor rmX6_goDoor_S (va_Pc [.ref (μ 0), .int (nI d)] (kPre g [cM μ iK kn ln th sp bg fm le fi se re ca, xI g (μ 1) 288 (enc σ)] sz)) (va_Qi (fun (r : Int32) (u : Unit) => r = (-12)) (kB g (va_A [cM μ iK kn ln th sp bg fm le fi se re ca, xI g (μ 1) 288 (enc σ)] sz) (fun u => [cM μ iK kn ln th sp bg fm le fi se re ca, xI g (μ 1) 288 (enc σ)])) (va_A [cM μ iK kn ln th sp bg fm le fi se re ca, xI g (μ 1) 288 (enc σ)] sz)) 0 0 (va_A [cM μ iK kn ln th sp bg fm le fi se re ca, xI g (μ 1) 288 (enc σ)] sz) := by
  refine kMet (cc := cX6_goDoor) (maxL := 2) (ret := (some .int)) (own := RX6) (by decide) rfl rfl (Nat.le_of_ble_eq_true rfl) ?_
  intro p e s m args below meth c ls Q H locs A F w hl hnm hA hQ
  have hx := F.1.1
  have hb := F.1.2.1
  have hts := F.1.2.2.2.2
  have hl : lv_has ls 2 [(0, .ref (μ 0)), (1, .int (nI d))] := hl
  refine lv_iload_n hx hb dX6_goDoor_0 rfl (lv_at hl 1 rfl) ?_
  refine kcalli (wc := []) (wr := [cM μ iK kn ln th sp bg fm le fi se re ca, xI g (μ 1) 288 (enc σ)]) (wn := fun (u : Unit) => [cM μ iK kn ln th sp bg fm le fi se re ca, xI g (μ 1) 288 (enc σ)]) F w [] [0, 1] [0, 1] rfl rfl rfl (fun _ => rfl)
    (fun hp => va_runS (As := [.int (nI d)]) (rest := []) F.1 (kX6_isDoor l g (nI d) H.size ) (va_cwS 1 hts gX6_goDoor_X6_isDoor rfl rfl rfl hd_X6_isDoor ⟨Nat.le_of_ble_eq_true rfl, Nat.le_of_ble_eq_true rfl⟩) hp rfl rfl hl.1 rfl (lv_room (Nat.le_of_ble_eq_true rfl)) dX6_goDoor_1 ⟨Nat.le_of_ble_eq_true rfl, Nat.le_of_ble_eq_true rfl⟩)
    (fun r_1 _ H locs h_2 w => ?_)
  subst h_2
  refine ktopi (y := bI true) (congrArg bI (door_t hd)) ?_
  refine lv_if_ne (tgt := 10) hx hb dX6_goDoor_4 (by decide) (fun h_3 => ?_) (fun h_3 => ?_)
  · have h_3 : true = true := bI_o.mp h_3
    refine lv_aload_n hx hb dX6_goDoor_10 rfl (lv_at hl 0 rfl) ?_
    refine lv_iload_n hx hb dX6_goDoor_11 rfl (lv_at hl 1 rfl) ?_
    refine lv_bipush (v := nI 48) hx hb dX6_goDoor_12 (by decide) ?_
    refine kcalli (wc := [cM μ iK kn ln th sp bg fm le fi se re ca, xI g (μ 1) 288 (enc σ)]) (wr := []) (wn := fun (u : Unit) => [cM μ iK kn ln th sp bg fm le fi se re ca, xI g (μ 1) 288 (enc σ)]) F w [0, 1] [] [0, 1] rfl rfl rfl (fun _ => rfl)
      (fun hp => va_runV (As := [.int (nI d), .int (nI 48)]) (rest := []) F.1 (kX6_of l g μ iK kn ln th sp bg fm le fi se re ca (enc σ) d 48 H.size (by omega)) (cwV 2 hts gX6_goDoor_X6_of rfl rfl rfl ⟨rfl, hd_X6_of⟩ ⟨Nat.le_of_ble_eq_true rfl, Nat.le_of_ble_eq_true rfl⟩) ⟨hp.1, va_recv F.2.2.2.1.1 w.1 (q0 := 0) (ci := 6) rfl rfl, hp.2⟩ rfl rfl hl.1 rfl (lv_room (Nat.le_of_ble_eq_true rfl)) dX6_goDoor_14 ⟨Nat.le_of_ble_eq_true rfl, Nat.le_of_ble_eq_true rfl⟩)
      (fun r_4 _ H locs h_5 w => ?_)
    subst h_5
    refine ktopi (y := bI (zL σ d)) (enc_L hd.1 hd.2) ?_
    refine lv_iconst (v := nI 1) hx hb dX6_goDoor_17 (by decide) ?_
    refine lv_icmp_ne (tgt := 24) hx hb dX6_goDoor_18 (by decide) (fun h_6 => ?_) (fun h_6 => ?_)
    · exact absurd (bI_1.mpr hl9) h_6
    · refine lv_bipush (v := (-12)) hx hb dX6_goDoor_21 (by decide) ?_
      subst hA
      subst hQ
      exact kreti F w () [0, 1] rfl rfl (rfl) (Nat.le_of_ble_eq_true rfl) (Nat.le_of_ble_eq_true rfl) dX6_goDoor_23
  · have h_3 : true = false := bI_z.mp h_3
    exact absurd h_3 (by simp)
abbrev rmX6_goDoor_k : Room := { frames := 2, cells := 0, slots := 0, locals := 44 }
set_option maxHeartbeats 4000000 in
set_option maxRecDepth 100000 in
theorem kX6_goDoor_k (l : Launch) (g : GG) (μ : Nat → Nat) (iK : Bool) (kn : Nat) (ln : Nat) (th : Nat) (sp : Nat) (bg : Nat) (fm : Bool) (le : Int32) (fi : Nat) (se : Nat) (re : Nat) (ca : Nat) (σ : Sg) (d : Nat) (sz : Nat) (hd : 1 ≤ d ∧ d ≤ 48) (hl9 : zL σ d = false) : Met l yX6_goDoor wsX6_goDoor rmX6_goDoor_k (va_Pc [.ref (μ 0), .int (nI d)] (kPre g [cM μ iK kn ln th sp bg fm le fi se re ca, xI g (μ 1) 288 (enc σ)] sz)) (va_Qi (fun (r : Int32) (u : Unit) => r = bI (zO (turnS d σ) d)) (kB g (va_A [cM μ iK kn ln th sp bg fm le fi se re ca, xI g (μ 1) 288 (enc σ)] sz) (fun u => [cM μ iK kn ln th sp bg fm le fi se re ca, xI g (μ 1) 288 (enc (turnS d σ))])) (va_A [cM μ iK kn ln th sp bg fm le fi se re ca, xI g (μ 1) 288 (enc σ)] sz)) 0 0 (va_A [cM μ iK kn ln th sp bg fm le fi se re ca, xI g (μ 1) 288 (enc σ)] sz) := by
  refine kMet (cc := cX6_goDoor) (maxL := 2) (ret := (some .int)) (own := RX6) (by decide) rfl rfl (Nat.le_of_ble_eq_true rfl) ?_
  intro p e s m args below meth c ls Q H locs A F w hl hnm hA hQ
  have hx := F.1.1
  have hb := F.1.2.1
  have hts := F.1.2.2.2.2
  have hl : lv_has ls 2 [(0, .ref (μ 0)), (1, .int (nI d))] := hl
  refine lv_iload_n hx hb dX6_goDoor_0 rfl (lv_at hl 1 rfl) ?_
  refine kcalli (wc := []) (wr := [cM μ iK kn ln th sp bg fm le fi se re ca, xI g (μ 1) 288 (enc σ)]) (wn := fun (u : Unit) => [cM μ iK kn ln th sp bg fm le fi se re ca, xI g (μ 1) 288 (enc σ)]) F w [] [0, 1] [0, 1] rfl rfl rfl (fun _ => rfl)
    (fun hp => va_runS (As := [.int (nI d)]) (rest := []) F.1 (kX6_isDoor l g (nI d) H.size ) (va_cwS 1 hts gX6_goDoor_X6_isDoor rfl rfl rfl hd_X6_isDoor ⟨Nat.le_of_ble_eq_true rfl, Nat.le_of_ble_eq_true rfl⟩) hp rfl rfl hl.1 rfl (lv_room (Nat.le_of_ble_eq_true rfl)) dX6_goDoor_1 ⟨Nat.le_of_ble_eq_true rfl, Nat.le_of_ble_eq_true rfl⟩)
    (fun r_1 _ H locs h_2 w => ?_)
  subst h_2
  refine ktopi (y := bI true) (congrArg bI (door_t hd)) ?_
  refine lv_if_ne (tgt := 10) hx hb dX6_goDoor_4 (by decide) (fun h_3 => ?_) (fun h_3 => ?_)
  · have h_3 : true = true := bI_o.mp h_3
    refine lv_aload_n hx hb dX6_goDoor_10 rfl (lv_at hl 0 rfl) ?_
    refine lv_iload_n hx hb dX6_goDoor_11 rfl (lv_at hl 1 rfl) ?_
    refine lv_bipush (v := nI 48) hx hb dX6_goDoor_12 (by decide) ?_
    refine kcalli (wc := [cM μ iK kn ln th sp bg fm le fi se re ca, xI g (μ 1) 288 (enc σ)]) (wr := []) (wn := fun (u : Unit) => [cM μ iK kn ln th sp bg fm le fi se re ca, xI g (μ 1) 288 (enc σ)]) F w [0, 1] [] [0, 1] rfl rfl rfl (fun _ => rfl)
      (fun hp => va_runV (As := [.int (nI d), .int (nI 48)]) (rest := []) F.1 (kX6_of l g μ iK kn ln th sp bg fm le fi se re ca (enc σ) d 48 H.size (by omega)) (cwV 2 hts gX6_goDoor_X6_of rfl rfl rfl ⟨rfl, hd_X6_of⟩ ⟨Nat.le_of_ble_eq_true rfl, Nat.le_of_ble_eq_true rfl⟩) ⟨hp.1, va_recv F.2.2.2.1.1 w.1 (q0 := 0) (ci := 6) rfl rfl, hp.2⟩ rfl rfl hl.1 rfl (lv_room (Nat.le_of_ble_eq_true rfl)) dX6_goDoor_14 ⟨Nat.le_of_ble_eq_true rfl, Nat.le_of_ble_eq_true rfl⟩)
      (fun r_4 _ H locs h_5 w => ?_)
    subst h_5
    refine ktopi (y := bI (zL σ d)) (enc_L hd.1 hd.2) ?_
    refine lv_iconst (v := nI 1) hx hb dX6_goDoor_17 (by decide) ?_
    refine lv_icmp_ne (tgt := 24) hx hb dX6_goDoor_18 (by decide) (fun h_6 => ?_) (fun h_6 => ?_)
    · refine lv_aload_n hx hb dX6_goDoor_24 rfl (lv_at hl 0 rfl) ?_
      refine lv_iload_n hx hb dX6_goDoor_25 rfl (lv_at hl 1 rfl) ?_
      refine kcallv (wc := [cM μ iK kn ln th sp bg fm le fi se re ca, xI g (μ 1) 288 (enc σ)]) (wr := []) (wn := fun (u : Unit) => [cM μ iK kn ln th sp bg fm le fi se re ca, xI g (μ 1) 288 (enc (turnS d σ))]) F w [0, 1] [] [0, 1] rfl rfl rfl (fun _ => rfl)
        (fun hp => va_runV (As := [.int (nI d)]) (rest := []) F.1 (kX6_turns l g μ iK kn ln th sp bg fm le fi se re ca σ d H.size (by omega)) (cwV 1 hts gX6_goDoor_X6_turns rfl rfl rfl ⟨rfl, hd_X6_turns⟩ ⟨Nat.le_of_ble_eq_true rfl, Nat.le_of_ble_eq_true rfl⟩) ⟨hp.1, va_recv F.2.2.2.1.1 w.1 (q0 := 0) (ci := 6) rfl rfl, hp.2⟩ rfl rfl hl.1 rfl (lv_room (Nat.le_of_ble_eq_true rfl)) dX6_goDoor_26 ⟨Nat.le_of_ble_eq_true rfl, Nat.le_of_ble_eq_true rfl⟩)
        (fun _ H locs h_8 w => ?_)
      refine lv_aload_n hx hb dX6_goDoor_29 rfl (lv_at hl 0 rfl) ?_
      refine lv_iload_n hx hb dX6_goDoor_30 rfl (lv_at hl 1 rfl) ?_
      refine lv_iconst (v := nI 0) hx hb dX6_goDoor_31 (by decide) ?_
      refine kcalli (wc := [cM μ iK kn ln th sp bg fm le fi se re ca, xI g (μ 1) 288 (enc (turnS d σ))]) (wr := []) (wn := fun (u : Unit) => [cM μ iK kn ln th sp bg fm le fi se re ca, xI g (μ 1) 288 (enc (turnS d σ))]) F w [0, 1] [] [0, 1] rfl rfl rfl (fun _ => rfl)
        (fun hp => va_runV (As := [.int (nI d), .int (nI 0)]) (rest := []) F.1 (kX6_of l g μ iK kn ln th sp bg fm le fi se re ca (enc (turnS d σ)) d 0 H.size (by omega)) (cwV 2 hts gX6_goDoor_X6_of rfl rfl rfl ⟨rfl, hd_X6_of⟩ ⟨Nat.le_of_ble_eq_true rfl, Nat.le_of_ble_eq_true rfl⟩) ⟨hp.1, va_recv F.2.2.2.1.1 w.1 (q0 := 0) (ci := 6) rfl rfl, hp.2⟩ rfl rfl hl.1 rfl (lv_room (Nat.le_of_ble_eq_true rfl)) dX6_goDoor_32 ⟨Nat.le_of_ble_eq_true rfl, Nat.le_of_ble_eq_true rfl⟩)
        (fun r_9 _ H locs h_10 w => ?_)
      subst h_10
      refine ktopi (y := bI (zO (turnS d σ) d)) (enc_O hd.1 hd.2) ?_
      subst hA
      subst hQ
      exact kreti F w () [0, 1] rfl rfl (rfl) (Nat.le_of_ble_eq_true rfl) (Nat.le_of_ble_eq_true rfl) dX6_goDoor_35
    · exact absurd h_6 (bI_n1.mpr hl9)
  · have h_3 : true = false := bI_z.mp h_3
    exact absurd h_3 (by simp)
abbrev rmX6_goDoor_A : Room := { frames := 2, cells := 0, slots := 0, locals := 42 }
set_option maxHeartbeats 4000000 in
set_option maxRecDepth 100000 in
theorem kX6_goDoor_A (l : Launch) (g : GG) (μ : Nat → Nat) (iK : Bool) (kn : Nat) (ln : Nat) (th : Nat) (sp : Nat) (bg : Nat) (fm : Bool) (le : Int32) (fi : Nat) (se : Nat) (re : Nat) (ca : Nat) (n : Int32) (sz : Nat) (hn : ¬ (1 ≤ n.toInt ∧ n.toInt ≤ 48)) : Met l yX6_goDoor wsX6_goDoor rmX6_goDoor_A (va_Pc [.ref (μ 0), .int n] (kPre g [cM μ iK kn ln th sp bg fm le fi se re ca] sz)) (va_Qi (fun (r : Int32) (u : Unit) => r = (-11)) (kB g (va_A [cM μ iK kn ln th sp bg fm le fi se re ca] sz) (fun u => [cM μ iK kn ln th sp bg fm le fi se re ca])) (va_A [cM μ iK kn ln th sp bg fm le fi se re ca] sz)) 0 0 (va_A [cM μ iK kn ln th sp bg fm le fi se re ca] sz) := by
  refine kMet (cc := cX6_goDoor) (maxL := 2) (ret := (some .int)) (own := RX6) (by decide) rfl rfl (Nat.le_of_ble_eq_true rfl) ?_
  intro p e s m args below meth c ls Q H locs A F w hl hnm hA hQ
  have hx := F.1.1
  have hb := F.1.2.1
  have hts := F.1.2.2.2.2
  have hl : lv_has ls 2 [(0, .ref (μ 0)), (1, .int n)] := hl
  refine lv_iload_n hx hb dX6_goDoor_0 rfl (lv_at hl 1 rfl) ?_
  refine kcalli (wc := []) (wr := [cM μ iK kn ln th sp bg fm le fi se re ca]) (wn := fun (u : Unit) => [cM μ iK kn ln th sp bg fm le fi se re ca]) F w [] [0] [0] rfl rfl rfl (fun _ => rfl)
    (fun hp => va_runS (As := [.int n]) (rest := []) F.1 (kX6_isDoor l g n H.size ) (va_cwS 1 hts gX6_goDoor_X6_isDoor rfl rfl rfl hd_X6_isDoor ⟨Nat.le_of_ble_eq_true rfl, Nat.le_of_ble_eq_true rfl⟩) hp rfl rfl hl.1 rfl (lv_room (Nat.le_of_ble_eq_true rfl)) dX6_goDoor_1 ⟨Nat.le_of_ble_eq_true rfl, Nat.le_of_ble_eq_true rfl⟩)
    (fun r_1 _ H locs h_2 w => ?_)
  subst h_2
  refine ktopi (y := bI false) (congrArg bI (door_f hn)) ?_
  refine lv_if_ne (tgt := 10) hx hb dX6_goDoor_4 (by decide) (fun h_3 => ?_) (fun h_3 => ?_)
  · have h_3 : false = true := bI_o.mp h_3
    exact absurd h_3 (by simp)
  · have h_3 : false = false := bI_z.mp h_3
    refine lv_bipush (v := (-11)) hx hb dX6_goDoor_7 (by decide) ?_
    subst hA
    subst hQ
    exact kreti F w () [0] rfl rfl (rfl) (Nat.le_of_ble_eq_true rfl) (Nat.le_of_ble_eq_true rfl) dX6_goDoor_9
abbrev rmX6_goTurn_48 : Room := { frames := 2, cells := 0, slots := 0, locals := 42 }
set_option maxHeartbeats 4000000 in
set_option maxRecDepth 100000 in
theorem kX6_goTurn_48 (l : Launch) (g : GG) (μ : Nat → Nat) (iK : Bool) (kn : Nat) (ln : Nat) (th : Nat) (sp : Nat) (bg : Nat) (fm : Bool) (le : Int32) (fi : Nat) (se : Nat) (re : Nat) (ca : Nat) (σ : Sg) (d : Nat) (sz : Nat) (hd : 1 ≤ d ∧ d ≤ 48) : Met l yX6_goTurn wsX6_goTurn rmX6_goTurn_48 (va_Pc [.ref (μ 0), .int (nI d), .int (nI 48)] (kPre g [cM μ iK kn ln th sp bg fm le fi se re ca, xI g (μ 1) 288 (enc σ)] sz)) (va_Qi (fun (r : Int32) (u : Unit) => r = bI (zL (lockS d σ) d)) (kB g (va_A [cM μ iK kn ln th sp bg fm le fi se re ca, xI g (μ 1) 288 (enc σ)] sz) (fun u => [cM μ iK kn ln th sp bg fm le fi se re ca, xI g (μ 1) 288 (enc (lockS d σ))])) (va_A [cM μ iK kn ln th sp bg fm le fi se re ca, xI g (μ 1) 288 (enc σ)] sz)) 0 0 (va_A [cM μ iK kn ln th sp bg fm le fi se re ca, xI g (μ 1) 288 (enc σ)] sz) := by
  refine kMet (cc := cX6_goTurn) (maxL := 3) (ret := (some .int)) (own := RX6) (by decide) rfl rfl (Nat.le_of_ble_eq_true rfl) ?_
  intro p e s m args below meth c ls Q H locs A F w hl hnm hA hQ
  have hx := F.1.1
  have hb := F.1.2.1
  have hts := F.1.2.2.2.2
  have hl : lv_has ls 3 [(0, .ref (μ 0)), (1, .int (nI d)), (2, .int (nI 48))] := hl
  refine lv_iload_n hx hb dX6_goTurn_0 rfl (lv_at hl 1 rfl) ?_
  refine kcalli (wc := []) (wr := [cM μ iK kn ln th sp bg fm le fi se re ca, xI g (μ 1) 288 (enc σ)]) (wn := fun (u : Unit) => [cM μ iK kn ln th sp bg fm le fi se re ca, xI g (μ 1) 288 (enc σ)]) F w [] [0, 1] [0, 1] rfl rfl rfl (fun _ => rfl)
    (fun hp => va_runS (As := [.int (nI d)]) (rest := []) F.1 (kX6_isDoor l g (nI d) H.size ) (va_cwS 1 hts gX6_goTurn_X6_isDoor rfl rfl rfl hd_X6_isDoor ⟨Nat.le_of_ble_eq_true rfl, Nat.le_of_ble_eq_true rfl⟩) hp rfl rfl hl.1 rfl (lv_room (Nat.le_of_ble_eq_true rfl)) dX6_goTurn_1 ⟨Nat.le_of_ble_eq_true rfl, Nat.le_of_ble_eq_true rfl⟩)
    (fun r_1 _ H locs h_2 w => ?_)
  subst h_2
  refine ktopi (y := bI true) (congrArg bI (door_t hd)) ?_
  refine lv_if_ne (tgt := 10) hx hb dX6_goTurn_4 (by decide) (fun h_3 => ?_) (fun h_3 => ?_)
  · have h_3 : true = true := bI_o.mp h_3
    refine lv_aload_n hx hb dX6_goTurn_10 rfl (lv_at hl 0 rfl) ?_
    refine lv_iload_n hx hb dX6_goTurn_11 rfl (lv_at hl 1 rfl) ?_
    refine lv_iload_n hx hb dX6_goTurn_12 rfl (lv_at hl 2 rfl) ?_
    refine lv_iconst (v := nI 1) hx hb dX6_goTurn_13 (by decide) ?_
    refine lv_aload_n hx hb dX6_goTurn_14 rfl (lv_at hl 0 rfl) ?_
    refine lv_iload_n hx hb dX6_goTurn_15 rfl (lv_at hl 1 rfl) ?_
    refine lv_iload_n hx hb dX6_goTurn_16 rfl (lv_at hl 2 rfl) ?_
    refine kcalli (wc := [cM μ iK kn ln th sp bg fm le fi se re ca, xI g (μ 1) 288 (enc σ)]) (wr := []) (wn := fun (u : Unit) => [cM μ iK kn ln th sp bg fm le fi se re ca, xI g (μ 1) 288 (enc σ)]) F w [0, 1] [] [0, 1] rfl rfl rfl (fun _ => rfl)
      (fun hp => va_runV (As := [.int (nI d), .int (nI 48)]) (rest := [.int (nI 1), .int (nI 48), .int (nI d), .ref (μ 0)]) F.1 (kX6_of l g μ iK kn ln th sp bg fm le fi se re ca (enc σ) d 48 H.size (by omega)) (cwV 2 hts gX6_goTurn_X6_of rfl rfl rfl ⟨rfl, hd_X6_of⟩ ⟨Nat.le_of_ble_eq_true rfl, Nat.le_of_ble_eq_true rfl⟩) ⟨hp.1, va_recv F.2.2.2.1.1 w.1 (q0 := 0) (ci := 6) rfl rfl, hp.2⟩ rfl rfl hl.1 rfl (lv_room (Nat.le_of_ble_eq_true rfl)) dX6_goTurn_17 ⟨Nat.le_of_ble_eq_true rfl, Nat.le_of_ble_eq_true rfl⟩)
      (fun r_4 _ H locs h_5 w => ?_)
    subst h_5
    refine lv_isub hx hb dX6_goTurn_20 ?_
    refine ktopi (y := bI (!zL σ d)) (by rw [enc_L hd.1 hd.2]; cases zL σ d <;> rfl) ?_
    refine kcallv (wc := [cM μ iK kn ln th sp bg fm le fi se re ca, xI g (μ 1) 288 (enc σ)]) (wr := []) (wn := fun (u : Unit) => [cM μ iK kn ln th sp bg fm le fi se re ca, xI g (μ 1) 288 (upd (enc σ) (48 + d - 1) (bI (!zL σ d)))]) F w [0, 1] [] [0, 1] rfl rfl rfl (fun _ => rfl)
      (fun hp => va_runV (As := [.int (nI d), .int (nI 48), .int (bI (!zL σ d))]) (rest := []) F.1 (kX6_lays l g μ iK kn ln th sp bg fm le fi se re ca (enc σ) d 48 (bI (!zL σ d)) H.size (by omega)) (cwV 3 hts gX6_goTurn_X6_lays rfl rfl rfl ⟨rfl, hd_X6_lays⟩ ⟨Nat.le_of_ble_eq_true rfl, Nat.le_of_ble_eq_true rfl⟩) ⟨hp.1, va_recv F.2.2.2.1.1 w.1 (q0 := 0) (ci := 6) rfl rfl, hp.2⟩ rfl rfl hl.1 rfl (lv_room (Nat.le_of_ble_eq_true rfl)) dX6_goTurn_21 ⟨Nat.le_of_ble_eq_true rfl, Nat.le_of_ble_eq_true rfl⟩)
      (fun _ H locs h_7 w => ?_)
    have w : kW g A s [cM μ iK kn ln th sp bg fm le fi se re ca, xI g (μ 1) 288 (enc (lockS d σ))] H locs := by
      have w := w
      rw [← enc_lock hd.1 hd.2]; exact w
    refine lv_aload_n hx hb dX6_goTurn_24 rfl (lv_at hl 0 rfl) ?_
    refine lv_iload_n hx hb dX6_goTurn_25 rfl (lv_at hl 1 rfl) ?_
    refine lv_iload_n hx hb dX6_goTurn_26 rfl (lv_at hl 2 rfl) ?_
    refine kcalli (wc := [cM μ iK kn ln th sp bg fm le fi se re ca, xI g (μ 1) 288 (enc (lockS d σ))]) (wr := []) (wn := fun (u : Unit) => [cM μ iK kn ln th sp bg fm le fi se re ca, xI g (μ 1) 288 (enc (lockS d σ))]) F w [0, 1] [] [0, 1] rfl rfl rfl (fun _ => rfl)
      (fun hp => va_runV (As := [.int (nI d), .int (nI 48)]) (rest := []) F.1 (kX6_of l g μ iK kn ln th sp bg fm le fi se re ca (enc (lockS d σ)) d 48 H.size (by omega)) (cwV 2 hts gX6_goTurn_X6_of rfl rfl rfl ⟨rfl, hd_X6_of⟩ ⟨Nat.le_of_ble_eq_true rfl, Nat.le_of_ble_eq_true rfl⟩) ⟨hp.1, va_recv F.2.2.2.1.1 w.1 (q0 := 0) (ci := 6) rfl rfl, hp.2⟩ rfl rfl hl.1 rfl (lv_room (Nat.le_of_ble_eq_true rfl)) dX6_goTurn_27 ⟨Nat.le_of_ble_eq_true rfl, Nat.le_of_ble_eq_true rfl⟩)
      (fun r_8 _ H locs h_9 w => ?_)
    subst h_9
    refine ktopi (y := bI (zL (lockS d σ) d)) (enc_L hd.1 hd.2) ?_
    subst hA
    subst hQ
    exact kreti F w () [0, 1] rfl rfl (rfl) (Nat.le_of_ble_eq_true rfl) (Nat.le_of_ble_eq_true rfl) dX6_goTurn_30
  · have h_3 : true = false := bI_z.mp h_3
    exact absurd h_3 (by simp)
abbrev rmX6_goTurn_144 : Room := { frames := 2, cells := 0, slots := 0, locals := 42 }
set_option maxHeartbeats 4000000 in
set_option maxRecDepth 100000 in
theorem kX6_goTurn_144 (l : Launch) (g : GG) (μ : Nat → Nat) (iK : Bool) (kn : Nat) (ln : Nat) (th : Nat) (sp : Nat) (bg : Nat) (fm : Bool) (le : Int32) (fi : Nat) (se : Nat) (re : Nat) (ca : Nat) (σ : Sg) (d : Nat) (sz : Nat) (hd : 1 ≤ d ∧ d ≤ 48) : Met l yX6_goTurn wsX6_goTurn rmX6_goTurn_144 (va_Pc [.ref (μ 0), .int (nI d), .int (nI 144)] (kPre g [cM μ iK kn ln th sp bg fm le fi se re ca, xI g (μ 1) 288 (enc σ)] sz)) (va_Qi (fun (r : Int32) (u : Unit) => r = bI (zS (skipS d σ) d)) (kB g (va_A [cM μ iK kn ln th sp bg fm le fi se re ca, xI g (μ 1) 288 (enc σ)] sz) (fun u => [cM μ iK kn ln th sp bg fm le fi se re ca, xI g (μ 1) 288 (enc (skipS d σ))])) (va_A [cM μ iK kn ln th sp bg fm le fi se re ca, xI g (μ 1) 288 (enc σ)] sz)) 0 0 (va_A [cM μ iK kn ln th sp bg fm le fi se re ca, xI g (μ 1) 288 (enc σ)] sz) := by
  refine kMet (cc := cX6_goTurn) (maxL := 3) (ret := (some .int)) (own := RX6) (by decide) rfl rfl (Nat.le_of_ble_eq_true rfl) ?_
  intro p e s m args below meth c ls Q H locs A F w hl hnm hA hQ
  have hx := F.1.1
  have hb := F.1.2.1
  have hts := F.1.2.2.2.2
  have hl : lv_has ls 3 [(0, .ref (μ 0)), (1, .int (nI d)), (2, .int (nI 144))] := hl
  refine lv_iload_n hx hb dX6_goTurn_0 rfl (lv_at hl 1 rfl) ?_
  refine kcalli (wc := []) (wr := [cM μ iK kn ln th sp bg fm le fi se re ca, xI g (μ 1) 288 (enc σ)]) (wn := fun (u : Unit) => [cM μ iK kn ln th sp bg fm le fi se re ca, xI g (μ 1) 288 (enc σ)]) F w [] [0, 1] [0, 1] rfl rfl rfl (fun _ => rfl)
    (fun hp => va_runS (As := [.int (nI d)]) (rest := []) F.1 (kX6_isDoor l g (nI d) H.size ) (va_cwS 1 hts gX6_goTurn_X6_isDoor rfl rfl rfl hd_X6_isDoor ⟨Nat.le_of_ble_eq_true rfl, Nat.le_of_ble_eq_true rfl⟩) hp rfl rfl hl.1 rfl (lv_room (Nat.le_of_ble_eq_true rfl)) dX6_goTurn_1 ⟨Nat.le_of_ble_eq_true rfl, Nat.le_of_ble_eq_true rfl⟩)
    (fun r_1 _ H locs h_2 w => ?_)
  subst h_2
  refine ktopi (y := bI true) (congrArg bI (door_t hd)) ?_
  refine lv_if_ne (tgt := 10) hx hb dX6_goTurn_4 (by decide) (fun h_3 => ?_) (fun h_3 => ?_)
  · have h_3 : true = true := bI_o.mp h_3
    refine lv_aload_n hx hb dX6_goTurn_10 rfl (lv_at hl 0 rfl) ?_
    refine lv_iload_n hx hb dX6_goTurn_11 rfl (lv_at hl 1 rfl) ?_
    refine lv_iload_n hx hb dX6_goTurn_12 rfl (lv_at hl 2 rfl) ?_
    refine lv_iconst (v := nI 1) hx hb dX6_goTurn_13 (by decide) ?_
    refine lv_aload_n hx hb dX6_goTurn_14 rfl (lv_at hl 0 rfl) ?_
    refine lv_iload_n hx hb dX6_goTurn_15 rfl (lv_at hl 1 rfl) ?_
    refine lv_iload_n hx hb dX6_goTurn_16 rfl (lv_at hl 2 rfl) ?_
    refine kcalli (wc := [cM μ iK kn ln th sp bg fm le fi se re ca, xI g (μ 1) 288 (enc σ)]) (wr := []) (wn := fun (u : Unit) => [cM μ iK kn ln th sp bg fm le fi se re ca, xI g (μ 1) 288 (enc σ)]) F w [0, 1] [] [0, 1] rfl rfl rfl (fun _ => rfl)
      (fun hp => va_runV (As := [.int (nI d), .int (nI 144)]) (rest := [.int (nI 1), .int (nI 144), .int (nI d), .ref (μ 0)]) F.1 (kX6_of l g μ iK kn ln th sp bg fm le fi se re ca (enc σ) d 144 H.size (by omega)) (cwV 2 hts gX6_goTurn_X6_of rfl rfl rfl ⟨rfl, hd_X6_of⟩ ⟨Nat.le_of_ble_eq_true rfl, Nat.le_of_ble_eq_true rfl⟩) ⟨hp.1, va_recv F.2.2.2.1.1 w.1 (q0 := 0) (ci := 6) rfl rfl, hp.2⟩ rfl rfl hl.1 rfl (lv_room (Nat.le_of_ble_eq_true rfl)) dX6_goTurn_17 ⟨Nat.le_of_ble_eq_true rfl, Nat.le_of_ble_eq_true rfl⟩)
      (fun r_4 _ H locs h_5 w => ?_)
    subst h_5
    refine lv_isub hx hb dX6_goTurn_20 ?_
    refine ktopi (y := bI (!zS σ d)) (by rw [enc_S hd.1 hd.2]; cases zS σ d <;> rfl) ?_
    refine kcallv (wc := [cM μ iK kn ln th sp bg fm le fi se re ca, xI g (μ 1) 288 (enc σ)]) (wr := []) (wn := fun (u : Unit) => [cM μ iK kn ln th sp bg fm le fi se re ca, xI g (μ 1) 288 (upd (enc σ) (144 + d - 1) (bI (!zS σ d)))]) F w [0, 1] [] [0, 1] rfl rfl rfl (fun _ => rfl)
      (fun hp => va_runV (As := [.int (nI d), .int (nI 144), .int (bI (!zS σ d))]) (rest := []) F.1 (kX6_lays l g μ iK kn ln th sp bg fm le fi se re ca (enc σ) d 144 (bI (!zS σ d)) H.size (by omega)) (cwV 3 hts gX6_goTurn_X6_lays rfl rfl rfl ⟨rfl, hd_X6_lays⟩ ⟨Nat.le_of_ble_eq_true rfl, Nat.le_of_ble_eq_true rfl⟩) ⟨hp.1, va_recv F.2.2.2.1.1 w.1 (q0 := 0) (ci := 6) rfl rfl, hp.2⟩ rfl rfl hl.1 rfl (lv_room (Nat.le_of_ble_eq_true rfl)) dX6_goTurn_21 ⟨Nat.le_of_ble_eq_true rfl, Nat.le_of_ble_eq_true rfl⟩)
      (fun _ H locs h_7 w => ?_)
    have w : kW g A s [cM μ iK kn ln th sp bg fm le fi se re ca, xI g (μ 1) 288 (enc (skipS d σ))] H locs := by
      have w := w
      rw [← enc_skip hd.1 hd.2]; exact w
    refine lv_aload_n hx hb dX6_goTurn_24 rfl (lv_at hl 0 rfl) ?_
    refine lv_iload_n hx hb dX6_goTurn_25 rfl (lv_at hl 1 rfl) ?_
    refine lv_iload_n hx hb dX6_goTurn_26 rfl (lv_at hl 2 rfl) ?_
    refine kcalli (wc := [cM μ iK kn ln th sp bg fm le fi se re ca, xI g (μ 1) 288 (enc (skipS d σ))]) (wr := []) (wn := fun (u : Unit) => [cM μ iK kn ln th sp bg fm le fi se re ca, xI g (μ 1) 288 (enc (skipS d σ))]) F w [0, 1] [] [0, 1] rfl rfl rfl (fun _ => rfl)
      (fun hp => va_runV (As := [.int (nI d), .int (nI 144)]) (rest := []) F.1 (kX6_of l g μ iK kn ln th sp bg fm le fi se re ca (enc (skipS d σ)) d 144 H.size (by omega)) (cwV 2 hts gX6_goTurn_X6_of rfl rfl rfl ⟨rfl, hd_X6_of⟩ ⟨Nat.le_of_ble_eq_true rfl, Nat.le_of_ble_eq_true rfl⟩) ⟨hp.1, va_recv F.2.2.2.1.1 w.1 (q0 := 0) (ci := 6) rfl rfl, hp.2⟩ rfl rfl hl.1 rfl (lv_room (Nat.le_of_ble_eq_true rfl)) dX6_goTurn_27 ⟨Nat.le_of_ble_eq_true rfl, Nat.le_of_ble_eq_true rfl⟩)
      (fun r_8 _ H locs h_9 w => ?_)
    subst h_9
    refine ktopi (y := bI (zS (skipS d σ) d)) (enc_S hd.1 hd.2) ?_
    subst hA
    subst hQ
    exact kreti F w () [0, 1] rfl rfl (rfl) (Nat.le_of_ble_eq_true rfl) (Nat.le_of_ble_eq_true rfl) dX6_goTurn_30
  · have h_3 : true = false := bI_z.mp h_3
    exact absurd h_3 (by simp)
abbrev rmX6_goTurn_A : Room := { frames := 2, cells := 0, slots := 0, locals := 42 }
set_option maxHeartbeats 4000000 in
set_option maxRecDepth 100000 in
theorem kX6_goTurn_A (l : Launch) (g : GG) (μ : Nat → Nat) (iK : Bool) (kn : Nat) (ln : Nat) (th : Nat) (sp : Nat) (bg : Nat) (fm : Bool) (le : Int32) (fi : Nat) (se : Nat) (re : Nat) (ca : Nat) (n : Int32) (x : Int32) (sz : Nat) (hn : ¬ (1 ≤ n.toInt ∧ n.toInt ≤ 48)) : Met l yX6_goTurn wsX6_goTurn rmX6_goTurn_A (va_Pc [.ref (μ 0), .int n, .int x] (kPre g [cM μ iK kn ln th sp bg fm le fi se re ca] sz)) (va_Qi (fun (r : Int32) (u : Unit) => r = (-11)) (kB g (va_A [cM μ iK kn ln th sp bg fm le fi se re ca] sz) (fun u => [cM μ iK kn ln th sp bg fm le fi se re ca])) (va_A [cM μ iK kn ln th sp bg fm le fi se re ca] sz)) 0 0 (va_A [cM μ iK kn ln th sp bg fm le fi se re ca] sz) := by
  refine kMet (cc := cX6_goTurn) (maxL := 3) (ret := (some .int)) (own := RX6) (by decide) rfl rfl (Nat.le_of_ble_eq_true rfl) ?_
  intro p e s m args below meth c ls Q H locs A F w hl hnm hA hQ
  have hx := F.1.1
  have hb := F.1.2.1
  have hts := F.1.2.2.2.2
  have hl : lv_has ls 3 [(0, .ref (μ 0)), (1, .int n), (2, .int x)] := hl
  refine lv_iload_n hx hb dX6_goTurn_0 rfl (lv_at hl 1 rfl) ?_
  refine kcalli (wc := []) (wr := [cM μ iK kn ln th sp bg fm le fi se re ca]) (wn := fun (u : Unit) => [cM μ iK kn ln th sp bg fm le fi se re ca]) F w [] [0] [0] rfl rfl rfl (fun _ => rfl)
    (fun hp => va_runS (As := [.int n]) (rest := []) F.1 (kX6_isDoor l g n H.size ) (va_cwS 1 hts gX6_goTurn_X6_isDoor rfl rfl rfl hd_X6_isDoor ⟨Nat.le_of_ble_eq_true rfl, Nat.le_of_ble_eq_true rfl⟩) hp rfl rfl hl.1 rfl (lv_room (Nat.le_of_ble_eq_true rfl)) dX6_goTurn_1 ⟨Nat.le_of_ble_eq_true rfl, Nat.le_of_ble_eq_true rfl⟩)
    (fun r_1 _ H locs h_2 w => ?_)
  subst h_2
  refine ktopi (y := bI false) (congrArg bI (door_f hn)) ?_
  refine lv_if_ne (tgt := 10) hx hb dX6_goTurn_4 (by decide) (fun h_3 => ?_) (fun h_3 => ?_)
  · have h_3 : false = true := bI_o.mp h_3
    exact absurd h_3 (by simp)
  · have h_3 : false = false := bI_z.mp h_3
    refine lv_bipush (v := (-11)) hx hb dX6_goTurn_7 (by decide) ?_
    subst hA
    subst hQ
    exact kreti F w () [0] rfl rfl (rfl) (Nat.le_of_ble_eq_true rfl) (Nat.le_of_ble_eq_true rfl) dX6_goTurn_9
theorem hd_X6_isKind : yX6_isKind.cls ≠ "java/lang/invoke/MethodHandle" ∧ yX6_isKind.cls ≠ "java/lang/invoke/VarHandle" ∧ (parseMethodDescriptor yX6_isKind.desc).map (fun d => d.parameters.length) = some 1 := by decide +kernel
theorem hd_X6_reason : yX6_reason.cls ≠ "java/lang/invoke/MethodHandle" ∧ yX6_reason.cls ≠ "java/lang/invoke/VarHandle" ∧ (parseMethodDescriptor yX6_reason.desc).map (fun d => d.parameters.length) = some 2 := by decide +kernel
abbrev rmX6_goStore_S : Room := { frames := 2, cells := 0, slots := 0, locals := 45 }
set_option maxHeartbeats 4000000 in
set_option maxRecDepth 100000 in
theorem kX6_goStore_S (l : Launch) (g : GG) (μ : Nat → Nat) (iK : Bool) (kn : Nat) (ln : Nat) (th : Nat) (sp : Nat) (bg : Nat) (fm : Bool) (le : Int32) (fi : Nat) (se : Nat) (re : Nat) (ca : Nat) (σ : Sg) (d : Nat) (kd : Bool) (sz : Nat) (hd : 1 ≤ d ∧ d ≤ 48) (hr9 : reasZ σ d kd ≠ 0) : Met l yX6_goStore wsX6_goStore rmX6_goStore_S (va_Pc [.ref (μ 0), .int (nI d), .int (bI kd)] (kPre g [cM μ iK kn ln th sp bg fm le fi se re ca, xI g (μ 1) 288 (enc σ)] sz)) (va_Qi (fun (r : Int32) (u : Unit) => r = (-12)) (kB g (va_A [cM μ iK kn ln th sp bg fm le fi se re ca, xI g (μ 1) 288 (enc σ)] sz) (fun u => [cM μ iK kn ln th sp bg fm le fi se re ca, xI g (μ 1) 288 (enc σ)])) (va_A [cM μ iK kn ln th sp bg fm le fi se re ca, xI g (μ 1) 288 (enc σ)] sz)) 0 0 (va_A [cM μ iK kn ln th sp bg fm le fi se re ca, xI g (μ 1) 288 (enc σ)] sz) := by
  refine kMet (cc := cX6_goStore) (maxL := 3) (ret := (some .int)) (own := RX6) (by decide) rfl rfl (Nat.le_of_ble_eq_true rfl) ?_
  intro p e s m args below meth c ls Q H locs A F w hl hnm hA hQ
  have hx := F.1.1
  have hb := F.1.2.1
  have hts := F.1.2.2.2.2
  have hl : lv_has ls 3 [(0, .ref (μ 0)), (1, .int (nI d)), (2, .int (bI kd))] := hl
  refine lv_iload_n hx hb dX6_goStore_0 rfl (lv_at hl 1 rfl) ?_
  refine kcalli (wc := []) (wr := [cM μ iK kn ln th sp bg fm le fi se re ca, xI g (μ 1) 288 (enc σ)]) (wn := fun (u : Unit) => [cM μ iK kn ln th sp bg fm le fi se re ca, xI g (μ 1) 288 (enc σ)]) F w [] [0, 1] [0, 1] rfl rfl rfl (fun _ => rfl)
    (fun hp => va_runS (As := [.int (nI d)]) (rest := []) F.1 (kX6_isDoor l g (nI d) H.size ) (va_cwS 1 hts gX6_goStore_X6_isDoor rfl rfl rfl hd_X6_isDoor ⟨Nat.le_of_ble_eq_true rfl, Nat.le_of_ble_eq_true rfl⟩) hp rfl rfl hl.1 rfl (lv_room (Nat.le_of_ble_eq_true rfl)) dX6_goStore_1 ⟨Nat.le_of_ble_eq_true rfl, Nat.le_of_ble_eq_true rfl⟩)
    (fun r_1 _ H locs h_2 w => ?_)
  subst h_2
  refine ktopi (y := bI true) (congrArg bI (door_t hd)) ?_
  refine lv_if_eq (tgt := 14) hx hb dX6_goStore_4 (by decide) (fun h_3 => ?_) (fun h_3 => ?_)
  · have h_3 : true = false := bI_z.mp h_3
    exact absurd h_3 (by simp)
  · have h_3 : true = true := bI_o.mp h_3
    refine lv_iload_n hx hb dX6_goStore_7 rfl (lv_at hl 2 rfl) ?_
    refine kcalli (wc := []) (wr := [cM μ iK kn ln th sp bg fm le fi se re ca, xI g (μ 1) 288 (enc σ)]) (wn := fun (u : Unit) => [cM μ iK kn ln th sp bg fm le fi se re ca, xI g (μ 1) 288 (enc σ)]) F w [] [0, 1] [0, 1] rfl rfl rfl (fun _ => rfl)
      (fun hp => va_runS (As := [.int (bI kd)]) (rest := []) F.1 (kX6_isKind l g (bI kd) H.size ) (va_cwS 1 hts gX6_goStore_X6_isKind rfl rfl rfl hd_X6_isKind ⟨Nat.le_of_ble_eq_true rfl, Nat.le_of_ble_eq_true rfl⟩) hp rfl rfl hl.1 rfl (lv_room (Nat.le_of_ble_eq_true rfl)) dX6_goStore_8 ⟨Nat.le_of_ble_eq_true rfl, Nat.le_of_ble_eq_true rfl⟩)
      (fun r_4 _ H locs h_5 w => ?_)
    subst h_5
    refine ktopi (y := bI true) (congrArg bI (kind_b kd)) ?_
    refine lv_if_ne (tgt := 17) hx hb dX6_goStore_11 (by decide) (fun h_6 => ?_) (fun h_6 => ?_)
    · have h_6 : true = true := bI_o.mp h_6
      refine lv_aload_n hx hb dX6_goStore_17 rfl (lv_at hl 0 rfl) ?_
      refine lv_iload_n hx hb dX6_goStore_18 rfl (lv_at hl 1 rfl) ?_
      refine lv_iload_n hx hb dX6_goStore_19 rfl (lv_at hl 2 rfl) ?_
      refine kcalli (wc := [cM μ iK kn ln th sp bg fm le fi se re ca, xI g (μ 1) 288 (enc σ)]) (wr := []) (wn := fun (u : Unit) => [cM μ iK kn ln th sp bg fm le fi se re ca, xI g (μ 1) 288 (enc σ)]) F w [0, 1] [] [0, 1] rfl rfl rfl (fun _ => rfl)
        (fun hp => va_runV (As := [.int (nI d), .int (bI kd)]) (rest := []) F.1 (kX6_reason l g μ iK kn ln th sp bg fm le fi se re ca σ d kd H.size (by omega)) (cwV 2 hts gX6_goStore_X6_reason rfl rfl rfl ⟨rfl, hd_X6_reason⟩ ⟨Nat.le_of_ble_eq_true rfl, Nat.le_of_ble_eq_true rfl⟩) ⟨hp.1, va_recv F.2.2.2.1.1 w.1 (q0 := 0) (ci := 6) rfl rfl, hp.2⟩ rfl rfl hl.1 rfl (lv_room (Nat.le_of_ble_eq_true rfl)) dX6_goStore_20 ⟨Nat.le_of_ble_eq_true rfl, Nat.le_of_ble_eq_true rfl⟩)
        (fun r_7 _ H locs h_8 w => ?_)
      subst h_8
      have hr4 := reasZ_le σ d kd
      refine lv_if_le (tgt := 29) hx hb dX6_goStore_23 (by decide) (fun h_9 => ?_) (fun h_9 => ?_)
      · have h_9 : reasZ σ d kd ≤ 0 := (kc0_le_t (by omega)).mp h_9
        omega
      · have h_9 : reasZ σ d kd > 0 := (kc0_le_f (by omega)).mp h_9
        refine lv_bipush (v := (-12)) hx hb dX6_goStore_26 (by decide) ?_
        subst hA
        subst hQ
        exact kreti F w () [0, 1] rfl rfl (rfl) (Nat.le_of_ble_eq_true rfl) (Nat.le_of_ble_eq_true rfl) dX6_goStore_28
    · have h_6 : true = false := bI_z.mp h_6
      exact absurd h_6 (by simp)
theorem hd_X6_things : yX6_things.cls ≠ "java/lang/invoke/MethodHandle" ∧ yX6_things.cls ≠ "java/lang/invoke/VarHandle" ∧ (parseMethodDescriptor yX6_things.desc).map (fun d => d.parameters.length) = some 1 := by decide +kernel
abbrev rmX6_goStore_k : Room := { frames := 2, cells := 0, slots := 0, locals := 45 }
set_option maxHeartbeats 4000000 in
set_option maxRecDepth 100000 in
theorem kX6_goStore_k (l : Launch) (g : GG) (μ : Nat → Nat) (iK : Bool) (kn : Nat) (ln : Nat) (th : Nat) (sp : Nat) (bg : Nat) (fm : Bool) (le : Int32) (fi : Nat) (se : Nat) (re : Nat) (ca : Nat) (σ : Sg) (d : Nat) (kd : Bool) (sz : Nat) (hd : 1 ≤ d ∧ d ≤ 48) (hr9 : reasZ σ d kd = 0) : Met l yX6_goStore wsX6_goStore rmX6_goStore_k (va_Pc [.ref (μ 0), .int (nI d), .int (bI kd)] (kPre g [cM μ iK kn ln th sp bg fm le fi se re ca, xI g (μ 1) 288 (enc σ)] sz)) (va_Qi (fun (r : Int32) (u : Unit) => r = nI (zcnt (kindP (putS d kd σ) kd) 48)) (kB g (va_A [cM μ iK kn ln th sp bg fm le fi se re ca, xI g (μ 1) 288 (enc σ)] sz) (fun u => [cM μ iK kn ln th sp bg fm le fi se re ca, xI g (μ 1) 288 (enc (putS d kd σ))])) (va_A [cM μ iK kn ln th sp bg fm le fi se re ca, xI g (μ 1) 288 (enc σ)] sz)) 0 0 (va_A [cM μ iK kn ln th sp bg fm le fi se re ca, xI g (μ 1) 288 (enc σ)] sz) := by
  refine kMet (cc := cX6_goStore) (maxL := 3) (ret := (some .int)) (own := RX6) (by decide) rfl rfl (Nat.le_of_ble_eq_true rfl) ?_
  intro p e s m args below meth c ls Q H locs A F w hl hnm hA hQ
  have hx := F.1.1
  have hb := F.1.2.1
  have hts := F.1.2.2.2.2
  have hl : lv_has ls 3 [(0, .ref (μ 0)), (1, .int (nI d)), (2, .int (bI kd))] := hl
  refine lv_iload_n hx hb dX6_goStore_0 rfl (lv_at hl 1 rfl) ?_
  refine kcalli (wc := []) (wr := [cM μ iK kn ln th sp bg fm le fi se re ca, xI g (μ 1) 288 (enc σ)]) (wn := fun (u : Unit) => [cM μ iK kn ln th sp bg fm le fi se re ca, xI g (μ 1) 288 (enc σ)]) F w [] [0, 1] [0, 1] rfl rfl rfl (fun _ => rfl)
    (fun hp => va_runS (As := [.int (nI d)]) (rest := []) F.1 (kX6_isDoor l g (nI d) H.size ) (va_cwS 1 hts gX6_goStore_X6_isDoor rfl rfl rfl hd_X6_isDoor ⟨Nat.le_of_ble_eq_true rfl, Nat.le_of_ble_eq_true rfl⟩) hp rfl rfl hl.1 rfl (lv_room (Nat.le_of_ble_eq_true rfl)) dX6_goStore_1 ⟨Nat.le_of_ble_eq_true rfl, Nat.le_of_ble_eq_true rfl⟩)
    (fun r_1 _ H locs h_2 w => ?_)
  subst h_2
  refine ktopi (y := bI true) (congrArg bI (door_t hd)) ?_
  refine lv_if_eq (tgt := 14) hx hb dX6_goStore_4 (by decide) (fun h_3 => ?_) (fun h_3 => ?_)
  · have h_3 : true = false := bI_z.mp h_3
    exact absurd h_3 (by simp)
  · have h_3 : true = true := bI_o.mp h_3
    refine lv_iload_n hx hb dX6_goStore_7 rfl (lv_at hl 2 rfl) ?_
    refine kcalli (wc := []) (wr := [cM μ iK kn ln th sp bg fm le fi se re ca, xI g (μ 1) 288 (enc σ)]) (wn := fun (u : Unit) => [cM μ iK kn ln th sp bg fm le fi se re ca, xI g (μ 1) 288 (enc σ)]) F w [] [0, 1] [0, 1] rfl rfl rfl (fun _ => rfl)
      (fun hp => va_runS (As := [.int (bI kd)]) (rest := []) F.1 (kX6_isKind l g (bI kd) H.size ) (va_cwS 1 hts gX6_goStore_X6_isKind rfl rfl rfl hd_X6_isKind ⟨Nat.le_of_ble_eq_true rfl, Nat.le_of_ble_eq_true rfl⟩) hp rfl rfl hl.1 rfl (lv_room (Nat.le_of_ble_eq_true rfl)) dX6_goStore_8 ⟨Nat.le_of_ble_eq_true rfl, Nat.le_of_ble_eq_true rfl⟩)
      (fun r_4 _ H locs h_5 w => ?_)
    subst h_5
    refine ktopi (y := bI true) (congrArg bI (kind_b kd)) ?_
    refine lv_if_ne (tgt := 17) hx hb dX6_goStore_11 (by decide) (fun h_6 => ?_) (fun h_6 => ?_)
    · have h_6 : true = true := bI_o.mp h_6
      refine lv_aload_n hx hb dX6_goStore_17 rfl (lv_at hl 0 rfl) ?_
      refine lv_iload_n hx hb dX6_goStore_18 rfl (lv_at hl 1 rfl) ?_
      refine lv_iload_n hx hb dX6_goStore_19 rfl (lv_at hl 2 rfl) ?_
      refine kcalli (wc := [cM μ iK kn ln th sp bg fm le fi se re ca, xI g (μ 1) 288 (enc σ)]) (wr := []) (wn := fun (u : Unit) => [cM μ iK kn ln th sp bg fm le fi se re ca, xI g (μ 1) 288 (enc σ)]) F w [0, 1] [] [0, 1] rfl rfl rfl (fun _ => rfl)
        (fun hp => va_runV (As := [.int (nI d), .int (bI kd)]) (rest := []) F.1 (kX6_reason l g μ iK kn ln th sp bg fm le fi se re ca σ d kd H.size (by omega)) (cwV 2 hts gX6_goStore_X6_reason rfl rfl rfl ⟨rfl, hd_X6_reason⟩ ⟨Nat.le_of_ble_eq_true rfl, Nat.le_of_ble_eq_true rfl⟩) ⟨hp.1, va_recv F.2.2.2.1.1 w.1 (q0 := 0) (ci := 6) rfl rfl, hp.2⟩ rfl rfl hl.1 rfl (lv_room (Nat.le_of_ble_eq_true rfl)) dX6_goStore_20 ⟨Nat.le_of_ble_eq_true rfl, Nat.le_of_ble_eq_true rfl⟩)
        (fun r_7 _ H locs h_8 w => ?_)
      subst h_8
      have hr4 := reasZ_le σ d kd
      refine lv_if_le (tgt := 29) hx hb dX6_goStore_23 (by decide) (fun h_9 => ?_) (fun h_9 => ?_)
      · have h_9 : reasZ σ d kd ≤ 0 := (kc0_le_t (by omega)).mp h_9
        refine lv_aload_n hx hb dX6_goStore_29 rfl (lv_at hl 0 rfl) ?_
        refine lv_iload_n hx hb dX6_goStore_30 rfl (lv_at hl 1 rfl) ?_
        refine lv_sipush (v := nI 240) hx hb dX6_goStore_31 (by decide) ?_
        refine lv_iload_n hx hb dX6_goStore_34 rfl (lv_at hl 2 rfl) ?_
        refine lv_iconst (v := nI 1) hx hb dX6_goStore_35 (by decide) ?_
        refine lv_iadd hx hb dX6_goStore_36 ?_
        refine kcallv (wc := [cM μ iK kn ln th sp bg fm le fi se re ca, xI g (μ 1) 288 (enc σ)]) (wr := []) (wn := fun (u : Unit) => [cM μ iK kn ln th sp bg fm le fi se re ca, xI g (μ 1) 288 (upd (enc σ) (240 + d - 1) (bI kd + (nI 1)))]) F w [0, 1] [] [0, 1] rfl rfl rfl (fun _ => rfl)
          (fun hp => va_runV (As := [.int (nI d), .int (nI 240), .int ((bI kd) + (nI 1))]) (rest := []) F.1 (kX6_lays l g μ iK kn ln th sp bg fm le fi se re ca (enc σ) d 240 ((bI kd) + (nI 1)) H.size (by omega)) (cwV 3 hts gX6_goStore_X6_lays rfl rfl rfl ⟨rfl, hd_X6_lays⟩ ⟨Nat.le_of_ble_eq_true rfl, Nat.le_of_ble_eq_true rfl⟩) ⟨hp.1, va_recv F.2.2.2.1.1 w.1 (q0 := 0) (ci := 6) rfl rfl, hp.2⟩ rfl rfl hl.1 rfl (lv_room (Nat.le_of_ble_eq_true rfl)) dX6_goStore_37 ⟨Nat.le_of_ble_eq_true rfl, Nat.le_of_ble_eq_true rfl⟩)
          (fun _ H locs h_11 w => ?_)
        have w : kW g A s [cM μ iK kn ln th sp bg fm le fi se re ca, xI g (μ 1) 288 (enc (putS d kd σ))] H locs := by
          have w := w
          rw [← enc_put hd.1 hd.2]; exact w
        refine lv_aload_n hx hb dX6_goStore_40 rfl (lv_at hl 0 rfl) ?_
        refine lv_iload_n hx hb dX6_goStore_41 rfl (lv_at hl 2 rfl) ?_
        refine kcalli (wc := [cM μ iK kn ln th sp bg fm le fi se re ca, xI g (μ 1) 288 (enc (putS d kd σ))]) (wr := []) (wn := fun (u : Unit) => [cM μ iK kn ln th sp bg fm le fi se re ca, xI g (μ 1) 288 (enc (putS d kd σ))]) F w [0, 1] [] [0, 1] rfl rfl rfl (fun _ => rfl)
          (fun hp => va_runV (As := [.int (bI kd)]) (rest := []) F.1 (kX6_things l g μ iK kn ln th sp bg fm le fi se re ca (putS d kd σ) kd H.size ) (cwV 1 hts gX6_goStore_X6_things rfl rfl rfl ⟨rfl, hd_X6_things⟩ ⟨Nat.le_of_ble_eq_true rfl, Nat.le_of_ble_eq_true rfl⟩) ⟨hp.1, va_recv F.2.2.2.1.1 w.1 (q0 := 0) (ci := 6) rfl rfl, hp.2⟩ rfl rfl hl.1 rfl (lv_room (Nat.le_of_ble_eq_true rfl)) dX6_goStore_42 ⟨Nat.le_of_ble_eq_true rfl, Nat.le_of_ble_eq_true rfl⟩)
          (fun r_12 _ H locs h_13 w => ?_)
        subst h_13
        subst hA
        subst hQ
        exact kreti F w () [0, 1] rfl rfl (rfl) (Nat.le_of_ble_eq_true rfl) (Nat.le_of_ble_eq_true rfl) dX6_goStore_45
      · have h_9 : reasZ σ d kd > 0 := (kc0_le_f (by omega)).mp h_9
        omega
    · have h_6 : true = false := bI_z.mp h_6
      exact absurd h_6 (by simp)
abbrev rmX6_goStore_A : Room := { frames := 2, cells := 0, slots := 0, locals := 42 }
set_option maxHeartbeats 4000000 in
set_option maxRecDepth 100000 in
theorem kX6_goStore_A (l : Launch) (g : GG) (μ : Nat → Nat) (iK : Bool) (kn : Nat) (ln : Nat) (th : Nat) (sp : Nat) (bg : Nat) (fm : Bool) (le : Int32) (fi : Nat) (se : Nat) (re : Nat) (ca : Nat) (n : Int32) (k : Int32) (sz : Nat) (hn : ¬ ((1 ≤ n.toInt ∧ n.toInt ≤ 48) ∧ (k = 0 ∨ k = 1))) : Met l yX6_goStore wsX6_goStore rmX6_goStore_A (va_Pc [.ref (μ 0), .int n, .int k] (kPre g [cM μ iK kn ln th sp bg fm le fi se re ca] sz)) (va_Qi (fun (r : Int32) (u : Unit) => r = (-11)) (kB g (va_A [cM μ iK kn ln th sp bg fm le fi se re ca] sz) (fun u => [cM μ iK kn ln th sp bg fm le fi se re ca])) (va_A [cM μ iK kn ln th sp bg fm le fi se re ca] sz)) 0 0 (va_A [cM μ iK kn ln th sp bg fm le fi se re ca] sz) := by
  refine kMet (cc := cX6_goStore) (maxL := 3) (ret := (some .int)) (own := RX6) (by decide) rfl rfl (Nat.le_of_ble_eq_true rfl) ?_
  intro p e s m args below meth c ls Q H locs A F w hl hnm hA hQ
  have hx := F.1.1
  have hb := F.1.2.1
  have hts := F.1.2.2.2.2
  have hl : lv_has ls 3 [(0, .ref (μ 0)), (1, .int n), (2, .int k)] := hl
  refine lv_iload_n hx hb dX6_goStore_0 rfl (lv_at hl 1 rfl) ?_
  refine kcalli (wc := []) (wr := [cM μ iK kn ln th sp bg fm le fi se re ca]) (wn := fun (u : Unit) => [cM μ iK kn ln th sp bg fm le fi se re ca]) F w [] [0] [0] rfl rfl rfl (fun _ => rfl)
    (fun hp => va_runS (As := [.int n]) (rest := []) F.1 (kX6_isDoor l g n H.size ) (va_cwS 1 hts gX6_goStore_X6_isDoor rfl rfl rfl hd_X6_isDoor ⟨Nat.le_of_ble_eq_true rfl, Nat.le_of_ble_eq_true rfl⟩) hp rfl rfl hl.1 rfl (lv_room (Nat.le_of_ble_eq_true rfl)) dX6_goStore_1 ⟨Nat.le_of_ble_eq_true rfl, Nat.le_of_ble_eq_true rfl⟩)
    (fun r_1 _ H locs h_2 w => ?_)
  subst h_2
  refine lv_if_eq (tgt := 14) hx hb dX6_goStore_4 (by decide) (fun h_3 => ?_) (fun h_3 => ?_)
  · have h_3 : (decide (1 ≤ n.toInt ∧ n.toInt ≤ 48)) = false := bI_z.mp h_3
    refine lv_bipush (v := (-11)) hx hb dX6_goStore_14 (by decide) ?_
    subst hA
    subst hQ
    exact kreti F w () [0] rfl rfl (rfl) (Nat.le_of_ble_eq_true rfl) (Nat.le_of_ble_eq_true rfl) dX6_goStore_16
  · have h_3 : (decide (1 ≤ n.toInt ∧ n.toInt ≤ 48)) = true := bI_o.mp h_3
    refine lv_iload_n hx hb dX6_goStore_7 rfl (lv_at hl 2 rfl) ?_
    refine kcalli (wc := []) (wr := [cM μ iK kn ln th sp bg fm le fi se re ca]) (wn := fun (u : Unit) => [cM μ iK kn ln th sp bg fm le fi se re ca]) F w [] [0] [0] rfl rfl rfl (fun _ => rfl)
      (fun hp => va_runS (As := [.int k]) (rest := []) F.1 (kX6_isKind l g k H.size ) (va_cwS 1 hts gX6_goStore_X6_isKind rfl rfl rfl hd_X6_isKind ⟨Nat.le_of_ble_eq_true rfl, Nat.le_of_ble_eq_true rfl⟩) hp rfl rfl hl.1 rfl (lv_room (Nat.le_of_ble_eq_true rfl)) dX6_goStore_8 ⟨Nat.le_of_ble_eq_true rfl, Nat.le_of_ble_eq_true rfl⟩)
      (fun r_4 _ H locs h_5 w => ?_)
    subst h_5
    refine ktopi (y := bI false) (congrArg bI (kind_o hn h_3)) ?_
    refine lv_if_ne (tgt := 17) hx hb dX6_goStore_11 (by decide) (fun h_6 => ?_) (fun h_6 => ?_)
    · have h_6 : false = true := bI_o.mp h_6
      exact absurd h_6 (by simp)
    · have h_6 : false = false := bI_z.mp h_6
      refine lv_bipush (v := (-11)) hx hb dX6_goStore_14 (by decide) ?_
      subst hA
      subst hQ
      exact kreti F w () [0] rfl rfl (rfl) (Nat.le_of_ble_eq_true rfl) (Nat.le_of_ble_eq_true rfl) dX6_goStore_16
abbrev rmX6_goOut_S : Room := { frames := 2, cells := 0, slots := 0, locals := 42 }
set_option maxHeartbeats 4000000 in
set_option maxRecDepth 100000 in
theorem kX6_goOut_S (l : Launch) (g : GG) (μ : Nat → Nat) (iK : Bool) (kn : Nat) (ln : Nat) (th : Nat) (sp : Nat) (bg : Nat) (fm : Bool) (le : Int32) (fi : Nat) (se : Nat) (re : Nat) (ca : Nat) (σ : Sg) (d : Nat) (sz : Nat) (hd : 1 ≤ d ∧ d ≤ 48) (hs9 : zO σ d = false ∨ zF σ d = false) : Met l yX6_goOut wsX6_goOut rmX6_goOut_S (va_Pc [.ref (μ 0), .int (nI d)] (kPre g [cM μ iK kn ln th sp bg fm le fi se re ca, xI g (μ 1) 288 (enc σ)] sz)) (va_Qi (fun (r : Int32) (u : Unit) => r = (-12)) (kB g (va_A [cM μ iK kn ln th sp bg fm le fi se re ca, xI g (μ 1) 288 (enc σ)] sz) (fun u => [cM μ iK kn ln th sp bg fm le fi se re ca, xI g (μ 1) 288 (enc σ)])) (va_A [cM μ iK kn ln th sp bg fm le fi se re ca, xI g (μ 1) 288 (enc σ)] sz)) 0 0 (va_A [cM μ iK kn ln th sp bg fm le fi se re ca, xI g (μ 1) 288 (enc σ)] sz) := by
  refine kMet (cc := cX6_goOut) (maxL := 3) (ret := (some .int)) (own := RX6) (by decide) rfl rfl (Nat.le_of_ble_eq_true rfl) ?_
  intro p e s m args below meth c ls Q H locs A F w hl hnm hA hQ
  have hx := F.1.1
  have hb := F.1.2.1
  have hts := F.1.2.2.2.2
  have hl : lv_has ls 3 [(0, .ref (μ 0)), (1, .int (nI d))] := hl
  refine lv_iload_n hx hb dX6_goOut_0 rfl (lv_at hl 1 rfl) ?_
  refine kcalli (wc := []) (wr := [cM μ iK kn ln th sp bg fm le fi se re ca, xI g (μ 1) 288 (enc σ)]) (wn := fun (u : Unit) => [cM μ iK kn ln th sp bg fm le fi se re ca, xI g (μ 1) 288 (enc σ)]) F w [] [0, 1] [0, 1] rfl rfl rfl (fun _ => rfl)
    (fun hp => va_runS (As := [.int (nI d)]) (rest := []) F.1 (kX6_isDoor l g (nI d) H.size ) (va_cwS 1 hts gX6_goOut_X6_isDoor rfl rfl rfl hd_X6_isDoor ⟨Nat.le_of_ble_eq_true rfl, Nat.le_of_ble_eq_true rfl⟩) hp rfl rfl hl.1 rfl (lv_room (Nat.le_of_ble_eq_true rfl)) dX6_goOut_1 ⟨Nat.le_of_ble_eq_true rfl, Nat.le_of_ble_eq_true rfl⟩)
    (fun r_1 _ H locs h_2 w => ?_)
  subst h_2
  refine ktopi (y := bI true) (congrArg bI (door_t hd)) ?_
  refine lv_if_ne (tgt := 10) hx hb dX6_goOut_4 (by decide) (fun h_3 => ?_) (fun h_3 => ?_)
  · have h_3 : true = true := bI_o.mp h_3
    refine lv_aload_n hx hb dX6_goOut_10 rfl (lv_at hl 0 rfl) ?_
    refine lv_iload_n hx hb dX6_goOut_11 rfl (lv_at hl 1 rfl) ?_
    refine lv_sipush (v := nI 240) hx hb dX6_goOut_12 (by decide) ?_
    refine kcalli (wc := [cM μ iK kn ln th sp bg fm le fi se re ca, xI g (μ 1) 288 (enc σ)]) (wr := []) (wn := fun (u : Unit) => [cM μ iK kn ln th sp bg fm le fi se re ca, xI g (μ 1) 288 (enc σ)]) F w [0, 1] [] [0, 1] rfl rfl rfl (fun _ => rfl)
      (fun hp => va_runV (As := [.int (nI d), .int (nI 240)]) (rest := []) F.1 (kX6_of l g μ iK kn ln th sp bg fm le fi se re ca (enc σ) d 240 H.size (by omega)) (cwV 2 hts gX6_goOut_X6_of rfl rfl rfl ⟨rfl, hd_X6_of⟩ ⟨Nat.le_of_ble_eq_true rfl, Nat.le_of_ble_eq_true rfl⟩) ⟨hp.1, va_recv F.2.2.2.1.1 w.1 (q0 := 0) (ci := 6) rfl rfl, hp.2⟩ rfl rfl hl.1 rfl (lv_room (Nat.le_of_ble_eq_true rfl)) dX6_goOut_15 ⟨Nat.le_of_ble_eq_true rfl, Nat.le_of_ble_eq_true rfl⟩)
      (fun r_4 _ H locs h_5 w => ?_)
    subst h_5
    refine lv_iconst (v := nI 1) hx hb dX6_goOut_18 (by decide) ?_
    refine lv_isub hx hb dX6_goOut_19 ?_
    refine ktopi (y := thM σ d) (by rw [enc_H hd.1 hd.2]; rfl) ?_
    refine lv_istore_n (lv' := [(2, .int (thM σ d)), (0, .ref (μ 0)), (1, .int (nI d))]) hx hb dX6_goOut_20 rfl hl (by decide) rfl (fun ls hl => ?_)
    refine lv_aload_n hx hb dX6_goOut_21 rfl (lv_at hl 1 rfl) ?_
    refine lv_iload_n hx hb dX6_goOut_22 rfl (lv_at hl 2 rfl) ?_
    refine lv_iconst (v := nI 0) hx hb dX6_goOut_23 (by decide) ?_
    refine kcalli (wc := [cM μ iK kn ln th sp bg fm le fi se re ca, xI g (μ 1) 288 (enc σ)]) (wr := []) (wn := fun (u : Unit) => [cM μ iK kn ln th sp bg fm le fi se re ca, xI g (μ 1) 288 (enc σ)]) F w [0, 1] [] [0, 1] rfl rfl rfl (fun _ => rfl)
      (fun hp => va_runV (As := [.int (nI d), .int (nI 0)]) (rest := []) F.1 (kX6_of l g μ iK kn ln th sp bg fm le fi se re ca (enc σ) d 0 H.size (by omega)) (cwV 2 hts gX6_goOut_X6_of rfl rfl rfl ⟨rfl, hd_X6_of⟩ ⟨Nat.le_of_ble_eq_true rfl, Nat.le_of_ble_eq_true rfl⟩) ⟨hp.1, va_recv F.2.2.2.1.1 w.1 (q0 := 0) (ci := 6) rfl rfl, hp.2⟩ rfl rfl hl.1 rfl (lv_room (Nat.le_of_ble_eq_true rfl)) dX6_goOut_24 ⟨Nat.le_of_ble_eq_true rfl, Nat.le_of_ble_eq_true rfl⟩)
      (fun r_6 _ H locs h_7 w => ?_)
    subst h_7
    refine ktopi (y := bI (zO σ d)) (enc_O hd.1 hd.2) ?_
    refine lv_if_eq (tgt := 34) hx hb dX6_goOut_27 (by decide) (fun h_8 => ?_) (fun h_8 => ?_)
    · have h_8 : (zO σ d) = false := bI_z.mp h_8
      refine lv_bipush (v := (-12)) hx hb dX6_goOut_34 (by decide) ?_
      subst hA
      subst hQ
      exact kreti F w () [0, 1] rfl rfl (rfl) (Nat.le_of_ble_eq_true rfl) (Nat.le_of_ble_eq_true rfl) dX6_goOut_36
    · have h_8 : (zO σ d) = true := bI_o.mp h_8
      have hf9 : zF σ d = false := hs9.resolve_left (by rw [h_8]; decide)
      refine lv_iload_n hx hb dX6_goOut_30 rfl (lv_at hl 0 rfl) ?_
      refine lv_if_ge (tgt := 37) hx hb dX6_goOut_31 (by decide) (fun h_9 => ?_) (fun h_9 => ?_)
      · exact absurd h_9 (thM_n hf9)
      · refine lv_bipush (v := (-12)) hx hb dX6_goOut_34 (by decide) ?_
        subst hA
        subst hQ
        exact kreti F w () [0, 1] rfl rfl (rfl) (Nat.le_of_ble_eq_true rfl) (Nat.le_of_ble_eq_true rfl) dX6_goOut_36
  · have h_3 : true = false := bI_z.mp h_3
    exact absurd h_3 (by simp)
abbrev rmX6_goOut_k : Room := { frames := 2, cells := 0, slots := 0, locals := 42 }
set_option maxHeartbeats 4000000 in
set_option maxRecDepth 100000 in
theorem kX6_goOut_k (l : Launch) (g : GG) (μ : Nat → Nat) (iK : Bool) (kn : Nat) (ln : Nat) (th : Nat) (sp : Nat) (bg : Nat) (fm : Bool) (le : Int32) (fi : Nat) (se : Nat) (re : Nat) (ca : Nat) (σ : Sg) (d : Nat) (sz : Nat) (hd : 1 ≤ d ∧ d ≤ 48) (hs9 : zO σ d = true ∧ zF σ d = true) : Met l yX6_goOut wsX6_goOut rmX6_goOut_k (va_Pc [.ref (μ 0), .int (nI d)] (kPre g [cM μ iK kn ln th sp bg fm le fi se re ca, xI g (μ 1) 288 (enc σ)] sz)) (va_Qi (fun (r : Int32) (u : Unit) => r = bI (zH σ d)) (kB g (va_A [cM μ iK kn ln th sp bg fm le fi se re ca, xI g (μ 1) 288 (enc σ)] sz) (fun u => [cM μ iK kn ln th sp bg fm le fi se re ca, xI g (μ 1) 288 (enc (clrS d σ))])) (va_A [cM μ iK kn ln th sp bg fm le fi se re ca, xI g (μ 1) 288 (enc σ)] sz)) 0 0 (va_A [cM μ iK kn ln th sp bg fm le fi se re ca, xI g (μ 1) 288 (enc σ)] sz) := by
  refine kMet (cc := cX6_goOut) (maxL := 3) (ret := (some .int)) (own := RX6) (by decide) rfl rfl (Nat.le_of_ble_eq_true rfl) ?_
  intro p e s m args below meth c ls Q H locs A F w hl hnm hA hQ
  have hx := F.1.1
  have hb := F.1.2.1
  have hts := F.1.2.2.2.2
  have hl : lv_has ls 3 [(0, .ref (μ 0)), (1, .int (nI d))] := hl
  refine lv_iload_n hx hb dX6_goOut_0 rfl (lv_at hl 1 rfl) ?_
  refine kcalli (wc := []) (wr := [cM μ iK kn ln th sp bg fm le fi se re ca, xI g (μ 1) 288 (enc σ)]) (wn := fun (u : Unit) => [cM μ iK kn ln th sp bg fm le fi se re ca, xI g (μ 1) 288 (enc σ)]) F w [] [0, 1] [0, 1] rfl rfl rfl (fun _ => rfl)
    (fun hp => va_runS (As := [.int (nI d)]) (rest := []) F.1 (kX6_isDoor l g (nI d) H.size ) (va_cwS 1 hts gX6_goOut_X6_isDoor rfl rfl rfl hd_X6_isDoor ⟨Nat.le_of_ble_eq_true rfl, Nat.le_of_ble_eq_true rfl⟩) hp rfl rfl hl.1 rfl (lv_room (Nat.le_of_ble_eq_true rfl)) dX6_goOut_1 ⟨Nat.le_of_ble_eq_true rfl, Nat.le_of_ble_eq_true rfl⟩)
    (fun r_1 _ H locs h_2 w => ?_)
  subst h_2
  refine ktopi (y := bI true) (congrArg bI (door_t hd)) ?_
  refine lv_if_ne (tgt := 10) hx hb dX6_goOut_4 (by decide) (fun h_3 => ?_) (fun h_3 => ?_)
  · have h_3 : true = true := bI_o.mp h_3
    refine lv_aload_n hx hb dX6_goOut_10 rfl (lv_at hl 0 rfl) ?_
    refine lv_iload_n hx hb dX6_goOut_11 rfl (lv_at hl 1 rfl) ?_
    refine lv_sipush (v := nI 240) hx hb dX6_goOut_12 (by decide) ?_
    refine kcalli (wc := [cM μ iK kn ln th sp bg fm le fi se re ca, xI g (μ 1) 288 (enc σ)]) (wr := []) (wn := fun (u : Unit) => [cM μ iK kn ln th sp bg fm le fi se re ca, xI g (μ 1) 288 (enc σ)]) F w [0, 1] [] [0, 1] rfl rfl rfl (fun _ => rfl)
      (fun hp => va_runV (As := [.int (nI d), .int (nI 240)]) (rest := []) F.1 (kX6_of l g μ iK kn ln th sp bg fm le fi se re ca (enc σ) d 240 H.size (by omega)) (cwV 2 hts gX6_goOut_X6_of rfl rfl rfl ⟨rfl, hd_X6_of⟩ ⟨Nat.le_of_ble_eq_true rfl, Nat.le_of_ble_eq_true rfl⟩) ⟨hp.1, va_recv F.2.2.2.1.1 w.1 (q0 := 0) (ci := 6) rfl rfl, hp.2⟩ rfl rfl hl.1 rfl (lv_room (Nat.le_of_ble_eq_true rfl)) dX6_goOut_15 ⟨Nat.le_of_ble_eq_true rfl, Nat.le_of_ble_eq_true rfl⟩)
      (fun r_4 _ H locs h_5 w => ?_)
    subst h_5
    refine lv_iconst (v := nI 1) hx hb dX6_goOut_18 (by decide) ?_
    refine lv_isub hx hb dX6_goOut_19 ?_
    refine ktopi (y := thM σ d) (by rw [enc_H hd.1 hd.2]; rfl) ?_
    refine lv_istore_n (lv' := [(2, .int (thM σ d)), (0, .ref (μ 0)), (1, .int (nI d))]) hx hb dX6_goOut_20 rfl hl (by decide) rfl (fun ls hl => ?_)
    refine lv_aload_n hx hb dX6_goOut_21 rfl (lv_at hl 1 rfl) ?_
    refine lv_iload_n hx hb dX6_goOut_22 rfl (lv_at hl 2 rfl) ?_
    refine lv_iconst (v := nI 0) hx hb dX6_goOut_23 (by decide) ?_
    refine kcalli (wc := [cM μ iK kn ln th sp bg fm le fi se re ca, xI g (μ 1) 288 (enc σ)]) (wr := []) (wn := fun (u : Unit) => [cM μ iK kn ln th sp bg fm le fi se re ca, xI g (μ 1) 288 (enc σ)]) F w [0, 1] [] [0, 1] rfl rfl rfl (fun _ => rfl)
      (fun hp => va_runV (As := [.int (nI d), .int (nI 0)]) (rest := []) F.1 (kX6_of l g μ iK kn ln th sp bg fm le fi se re ca (enc σ) d 0 H.size (by omega)) (cwV 2 hts gX6_goOut_X6_of rfl rfl rfl ⟨rfl, hd_X6_of⟩ ⟨Nat.le_of_ble_eq_true rfl, Nat.le_of_ble_eq_true rfl⟩) ⟨hp.1, va_recv F.2.2.2.1.1 w.1 (q0 := 0) (ci := 6) rfl rfl, hp.2⟩ rfl rfl hl.1 rfl (lv_room (Nat.le_of_ble_eq_true rfl)) dX6_goOut_24 ⟨Nat.le_of_ble_eq_true rfl, Nat.le_of_ble_eq_true rfl⟩)
      (fun r_6 _ H locs h_7 w => ?_)
    subst h_7
    refine ktopi (y := bI (zO σ d)) (enc_O hd.1 hd.2) ?_
    refine lv_if_eq (tgt := 34) hx hb dX6_goOut_27 (by decide) (fun h_8 => ?_) (fun h_8 => ?_)
    · have h_8 : (zO σ d) = false := bI_z.mp h_8
      rw [hs9.1] at h_8; cases h_8
    · have h_8 : (zO σ d) = true := bI_o.mp h_8
      refine lv_iload_n hx hb dX6_goOut_30 rfl (lv_at hl 0 rfl) ?_
      refine lv_if_ge (tgt := 37) hx hb dX6_goOut_31 (by decide) (fun h_9 => ?_) (fun h_9 => ?_)
      · refine lv_aload_n hx hb dX6_goOut_37 rfl (lv_at hl 1 rfl) ?_
        refine lv_iload_n hx hb dX6_goOut_38 rfl (lv_at hl 2 rfl) ?_
        refine lv_sipush (v := nI 240) hx hb dX6_goOut_39 (by decide) ?_
        refine lv_iconst (v := nI 0) hx hb dX6_goOut_42 (by decide) ?_
        refine kcallv (wc := [cM μ iK kn ln th sp bg fm le fi se re ca, xI g (μ 1) 288 (enc σ)]) (wr := []) (wn := fun (u : Unit) => [cM μ iK kn ln th sp bg fm le fi se re ca, xI g (μ 1) 288 (upd (enc σ) (240 + d - 1) (nI 0))]) F w [0, 1] [] [0, 1] rfl rfl rfl (fun _ => rfl)
          (fun hp => va_runV (As := [.int (nI d), .int (nI 240), .int (nI 0)]) (rest := []) F.1 (kX6_lays l g μ iK kn ln th sp bg fm le fi se re ca (enc σ) d 240 (nI 0) H.size (by omega)) (cwV 3 hts gX6_goOut_X6_lays rfl rfl rfl ⟨rfl, hd_X6_lays⟩ ⟨Nat.le_of_ble_eq_true rfl, Nat.le_of_ble_eq_true rfl⟩) ⟨hp.1, va_recv F.2.2.2.1.1 w.1 (q0 := 0) (ci := 6) rfl rfl, hp.2⟩ rfl rfl hl.1 rfl (lv_room (Nat.le_of_ble_eq_true rfl)) dX6_goOut_43 ⟨Nat.le_of_ble_eq_true rfl, Nat.le_of_ble_eq_true rfl⟩)
          (fun _ H locs h_11 w => ?_)
        have w : kW g A s [cM μ iK kn ln th sp bg fm le fi se re ca, xI g (μ 1) 288 (enc (clrS d σ))] H locs := by
          have w := w
          rw [← enc_clr hd.1 hd.2]; exact w
        refine lv_iload_n hx hb dX6_goOut_46 rfl (lv_at hl 0 rfl) ?_
        refine ktopi (y := bI (zH σ d)) (thM_p hs9.2) ?_
        subst hA
        subst hQ
        exact kreti F w () [0, 1] rfl rfl (rfl) (Nat.le_of_ble_eq_true rfl) (Nat.le_of_ble_eq_true rfl) dX6_goOut_47
      · exact absurd (by rw [thM_p hs9.2]; exact bI_ge _) h_9
  · have h_3 : true = false := bI_z.mp h_3
    exact absurd h_3 (by simp)
abbrev rmX6_goOut_A : Room := { frames := 2, cells := 0, slots := 0, locals := 42 }
set_option maxHeartbeats 4000000 in
set_option maxRecDepth 100000 in
theorem kX6_goOut_A (l : Launch) (g : GG) (μ : Nat → Nat) (iK : Bool) (kn : Nat) (ln : Nat) (th : Nat) (sp : Nat) (bg : Nat) (fm : Bool) (le : Int32) (fi : Nat) (se : Nat) (re : Nat) (ca : Nat) (n : Int32) (sz : Nat) (hn : ¬ (1 ≤ n.toInt ∧ n.toInt ≤ 48)) : Met l yX6_goOut wsX6_goOut rmX6_goOut_A (va_Pc [.ref (μ 0), .int n] (kPre g [cM μ iK kn ln th sp bg fm le fi se re ca] sz)) (va_Qi (fun (r : Int32) (u : Unit) => r = (-11)) (kB g (va_A [cM μ iK kn ln th sp bg fm le fi se re ca] sz) (fun u => [cM μ iK kn ln th sp bg fm le fi se re ca])) (va_A [cM μ iK kn ln th sp bg fm le fi se re ca] sz)) 0 0 (va_A [cM μ iK kn ln th sp bg fm le fi se re ca] sz) := by
  refine kMet (cc := cX6_goOut) (maxL := 3) (ret := (some .int)) (own := RX6) (by decide) rfl rfl (Nat.le_of_ble_eq_true rfl) ?_
  intro p e s m args below meth c ls Q H locs A F w hl hnm hA hQ
  have hx := F.1.1
  have hb := F.1.2.1
  have hts := F.1.2.2.2.2
  have hl : lv_has ls 3 [(0, .ref (μ 0)), (1, .int n)] := hl
  refine lv_iload_n hx hb dX6_goOut_0 rfl (lv_at hl 1 rfl) ?_
  refine kcalli (wc := []) (wr := [cM μ iK kn ln th sp bg fm le fi se re ca]) (wn := fun (u : Unit) => [cM μ iK kn ln th sp bg fm le fi se re ca]) F w [] [0] [0] rfl rfl rfl (fun _ => rfl)
    (fun hp => va_runS (As := [.int n]) (rest := []) F.1 (kX6_isDoor l g n H.size ) (va_cwS 1 hts gX6_goOut_X6_isDoor rfl rfl rfl hd_X6_isDoor ⟨Nat.le_of_ble_eq_true rfl, Nat.le_of_ble_eq_true rfl⟩) hp rfl rfl hl.1 rfl (lv_room (Nat.le_of_ble_eq_true rfl)) dX6_goOut_1 ⟨Nat.le_of_ble_eq_true rfl, Nat.le_of_ble_eq_true rfl⟩)
    (fun r_1 _ H locs h_2 w => ?_)
  subst h_2
  refine ktopi (y := bI false) (congrArg bI (door_f hn)) ?_
  refine lv_if_ne (tgt := 10) hx hb dX6_goOut_4 (by decide) (fun h_3 => ?_) (fun h_3 => ?_)
  · have h_3 : false = true := bI_o.mp h_3
    exact absurd h_3 (by simp)
  · have h_3 : false = false := bI_z.mp h_3
    refine lv_bipush (v := (-11)) hx hb dX6_goOut_7 (by decide) ?_
    subst hA
    subst hQ
    exact kreti F w () [0] rfl rfl (rfl) (Nat.le_of_ble_eq_true rfl) (Nat.le_of_ble_eq_true rfl) dX6_goOut_9
theorem hd_X6_begins : yX6_begins.cls ≠ "java/lang/invoke/MethodHandle" ∧ yX6_begins.cls ≠ "java/lang/invoke/VarHandle" ∧ (parseMethodDescriptor yX6_begins.desc).map (fun d => d.parameters.length) = some 0 := by decide +kernel
theorem hd_X6_ends : yX6_ends.cls ≠ "java/lang/invoke/MethodHandle" ∧ yX6_ends.cls ≠ "java/lang/invoke/VarHandle" ∧ (parseMethodDescriptor yX6_ends.desc).map (fun d => d.parameters.length) = some 1 := by decide +kernel
theorem hd_X6_goPass : yX6_goPass.cls ≠ "java/lang/invoke/MethodHandle" ∧ yX6_goPass.cls ≠ "java/lang/invoke/VarHandle" ∧ (parseMethodDescriptor yX6_goPass.desc).map (fun d => d.parameters.length) = some 1 := by decide +kernel
abbrev rmX6_pass_k : Room := { frames := 4, cells := 0, slots := 0, locals := 87 }
set_option maxHeartbeats 4000000 in
set_option maxRecDepth 100000 in
theorem kX6_pass_k (l : Launch) (g : GG) (μ : Nat → Nat) (iK : Bool) (kn : Nat) (ln : Nat) (th : Nat) (sp : Nat) (bg : Nat) (fm : Bool) (le : Int32) (fi : Nat) (se : Nat) (re : Nat) (ca : Nat) (σ : Sg) (B : Nat → Int32) (γ : Nat → Sg) (k : Nat) (sz : Nat) (hk : 1 ≤ k ∧ k ≤ 48) (hkn : kn ≤ 4) : Met l yX6_pass wsX6_pass rmX6_pass_k (va_Pc [.ref (μ 0), .int (nI k)] (kPre g [cM μ iK kn ln th sp bg fm le fi se re ca, xI g (μ 1) 288 (enc σ), xI g (μ 2) 288 B, xI g (μ 5) 1152 (pst γ)] sz)) (va_Qi (fun (r : Int32) (u : Unit) => r = nI (zcnt (zO (passS k σ)) 48)) (kB g (va_A [cM μ iK kn ln th sp bg fm le fi se re ca, xI g (μ 1) 288 (enc σ), xI g (μ 2) 288 B, xI g (μ 5) 1152 (pst γ)] sz) (fun u => [cM μ iK (pushN kn) ln 0 sp bg fm le fi se re ca, xI g (μ 1) 288 (enc (passS k σ)), xI g (μ 2) 288 (enc σ), xI g (μ 5) 1152 (pst (pushG γ kn σ))])) (va_A [cM μ iK kn ln th sp bg fm le fi se re ca, xI g (μ 1) 288 (enc σ), xI g (μ 2) 288 B, xI g (μ 5) 1152 (pst γ)] sz)) 0 0 (va_A [cM μ iK kn ln th sp bg fm le fi se re ca, xI g (μ 1) 288 (enc σ), xI g (μ 2) 288 B, xI g (μ 5) 1152 (pst γ)] sz) := by
  refine kMet (cc := cX6_pass) (maxL := 2) (ret := (some .int)) (own := RX6) (by decide) rfl rfl (Nat.le_of_ble_eq_true rfl) ?_
  intro p e s m args below meth c ls Q H locs A F w hl hnm hA hQ
  have hx := F.1.1
  have hb := F.1.2.1
  have hts := F.1.2.2.2.2
  have hl : lv_has ls 2 [(0, .ref (μ 0)), (1, .int (nI k))] := hl
  refine lv_aload_n hx hb dX6_pass_0 rfl (lv_at hl 0 rfl) ?_
  refine kcallv (wc := [cM μ iK kn ln th sp bg fm le fi se re ca, xI g (μ 1) 288 (enc σ), xI g (μ 2) 288 B]) (wr := [xI g (μ 5) 1152 (pst γ)]) (wn := fun (u : Unit) => [cM μ iK kn ln 0 sp bg fm le fi se re ca, xI g (μ 1) 288 (enc σ), xI g (μ 2) 288 (enc σ), xI g (μ 5) 1152 (pst γ)]) F w [0, 1, 2] [3] [1, 2, 3, 0] rfl rfl rfl (fun _ => rfl)
    (fun hp => va_runV (As := []) (rest := []) F.1 (kX6_begins l g μ iK kn ln th sp bg fm le fi se re ca σ B H.size ) (cwV 0 hts gX6_pass_X6_begins rfl rfl rfl ⟨rfl, hd_X6_begins⟩ ⟨Nat.le_of_ble_eq_true rfl, Nat.le_of_ble_eq_true rfl⟩) ⟨hp.1, va_recv F.2.2.2.1.1 w.1 (q0 := 0) (ci := 6) rfl rfl, hp.2⟩ rfl rfl hl.1 rfl (lv_room (Nat.le_of_ble_eq_true rfl)) dX6_pass_1 ⟨Nat.le_of_ble_eq_true rfl, Nat.le_of_ble_eq_true rfl⟩)
    (fun _ H locs h_2 w => ?_)
  refine lv_aload_n hx hb dX6_pass_4 rfl (lv_at hl 0 rfl) ?_
  refine lv_aload_n hx hb dX6_pass_5 rfl (lv_at hl 0 rfl) ?_
  refine lv_iload_n hx hb dX6_pass_6 rfl (lv_at hl 1 rfl) ?_
  refine kcalli (wc := [cM μ iK kn ln 0 sp bg fm le fi se re ca, xI g (μ 1) 288 (enc σ)]) (wr := [xI g (μ 2) 288 (enc σ), xI g (μ 5) 1152 (pst γ)]) (wn := fun (u : Unit) => [cM μ iK kn ln 0 sp bg fm le fi se re ca, xI g (μ 1) 288 (enc (passS k σ)), xI g (μ 2) 288 (enc σ), xI g (μ 5) 1152 (pst γ)]) F w [0, 1] [2, 3] [2, 3, 0, 1] rfl rfl rfl (fun _ => rfl)
    (fun hp => va_runV (As := [.int (nI k)]) (rest := [.ref (μ 0)]) F.1 (kX6_goPass_k l g μ iK kn ln 0 sp bg fm le fi se re ca σ k H.size hk) (cwV 1 hts gX6_pass_X6_goPass rfl rfl rfl ⟨rfl, hd_X6_goPass⟩ ⟨Nat.le_of_ble_eq_true rfl, Nat.le_of_ble_eq_true rfl⟩) ⟨hp.1, va_recv F.2.2.2.1.1 w.1 (q0 := 0) (ci := 6) rfl rfl, hp.2⟩ rfl rfl hl.1 rfl (lv_room (Nat.le_of_ble_eq_true rfl)) dX6_pass_7 ⟨Nat.le_of_ble_eq_true rfl, Nat.le_of_ble_eq_true rfl⟩)
    (fun r_3 _ H locs h_4 w => ?_)
  subst h_4
  refine kcalli (wc := [cM μ iK kn ln 0 sp bg fm le fi se re ca, xI g (μ 2) 288 (enc σ), xI g (μ 5) 1152 (pst γ)]) (wr := [xI g (μ 1) 288 (enc (passS k σ))]) (wn := fun (u : Unit) => [cM μ iK (pushN kn) ln 0 sp bg fm le fi se re ca, xI g (μ 1) 288 (enc (passS k σ)), xI g (μ 2) 288 (enc σ), xI g (μ 5) 1152 (pst (pushG γ kn σ))]) F w [0, 2, 3] [1] [1, 0, 2, 3] rfl rfl rfl (fun _ => rfl)
    (fun hp => va_runV (As := [.int (nI (zcnt (zO (passS k σ)) 48))]) (rest := []) F.1 (kX6_ends_k l g μ iK kn ln 0 sp bg fm le fi se re ca σ γ (nI (zcnt (zO (passS k σ)) 48)) H.size (cnt_ne _) hkn) (cwV 1 hts gX6_pass_X6_ends rfl rfl rfl ⟨rfl, hd_X6_ends⟩ ⟨Nat.le_of_ble_eq_true rfl, Nat.le_of_ble_eq_true rfl⟩) ⟨hp.1, va_recv F.2.2.2.1.1 w.1 (q0 := 0) (ci := 6) rfl rfl, hp.2⟩ rfl rfl hl.1 rfl (lv_room (Nat.le_of_ble_eq_true rfl)) dX6_pass_10 ⟨Nat.le_of_ble_eq_true rfl, Nat.le_of_ble_eq_true rfl⟩)
    (fun r_5 _ H locs h_6 w => ?_)
  subst h_6
  subst hA
  subst hQ
  exact kreti F w () [0, 1, 2, 3] rfl rfl (rfl) (Nat.le_of_ble_eq_true rfl) (Nat.le_of_ble_eq_true rfl) dX6_pass_13
abbrev rmX6_pass_A : Room := { frames := 3, cells := 0, slots := 0, locals := 63 }
set_option maxHeartbeats 4000000 in
set_option maxRecDepth 100000 in
theorem kX6_pass_A (l : Launch) (g : GG) (μ : Nat → Nat) (iK : Bool) (kn : Nat) (ln : Nat) (th : Nat) (sp : Nat) (bg : Nat) (fm : Bool) (le : Int32) (fi : Nat) (se : Nat) (re : Nat) (ca : Nat) (σ : Sg) (B : Nat → Int32) (n : Int32) (sz : Nat) (hn : ¬ (1 ≤ n.toInt ∧ n.toInt ≤ 48)) : Met l yX6_pass wsX6_pass rmX6_pass_A (va_Pc [.ref (μ 0), .int n] (kPre g [cM μ iK kn ln th sp bg fm le fi se re ca, xI g (μ 1) 288 (enc σ), xI g (μ 2) 288 B] sz)) (va_Qi (fun (r : Int32) (u : Unit) => r = nI 0) (kB g (va_A [cM μ iK kn ln th sp bg fm le fi se re ca, xI g (μ 1) 288 (enc σ), xI g (μ 2) 288 B] sz) (fun u => [cM μ iK kn ln 1 sp bg fm le fi se re ca, xI g (μ 1) 288 (enc σ), xI g (μ 2) 288 (enc σ)])) (va_A [cM μ iK kn ln th sp bg fm le fi se re ca, xI g (μ 1) 288 (enc σ), xI g (μ 2) 288 B] sz)) 0 0 (va_A [cM μ iK kn ln th sp bg fm le fi se re ca, xI g (μ 1) 288 (enc σ), xI g (μ 2) 288 B] sz) := by
  refine kMet (cc := cX6_pass) (maxL := 2) (ret := (some .int)) (own := RX6) (by decide) rfl rfl (Nat.le_of_ble_eq_true rfl) ?_
  intro p e s m args below meth c ls Q H locs A F w hl hnm hA hQ
  have hx := F.1.1
  have hb := F.1.2.1
  have hts := F.1.2.2.2.2
  have hl : lv_has ls 2 [(0, .ref (μ 0)), (1, .int n)] := hl
  refine lv_aload_n hx hb dX6_pass_0 rfl (lv_at hl 0 rfl) ?_
  refine kcallv (wc := [cM μ iK kn ln th sp bg fm le fi se re ca, xI g (μ 1) 288 (enc σ), xI g (μ 2) 288 B]) (wr := []) (wn := fun (u : Unit) => [cM μ iK kn ln 0 sp bg fm le fi se re ca, xI g (μ 1) 288 (enc σ), xI g (μ 2) 288 (enc σ)]) F w [0, 1, 2] [] [0, 1, 2] rfl rfl rfl (fun _ => rfl)
    (fun hp => va_runV (As := []) (rest := []) F.1 (kX6_begins l g μ iK kn ln th sp bg fm le fi se re ca σ B H.size ) (cwV 0 hts gX6_pass_X6_begins rfl rfl rfl ⟨rfl, hd_X6_begins⟩ ⟨Nat.le_of_ble_eq_true rfl, Nat.le_of_ble_eq_true rfl⟩) ⟨hp.1, va_recv F.2.2.2.1.1 w.1 (q0 := 0) (ci := 6) rfl rfl, hp.2⟩ rfl rfl hl.1 rfl (lv_room (Nat.le_of_ble_eq_true rfl)) dX6_pass_1 ⟨Nat.le_of_ble_eq_true rfl, Nat.le_of_ble_eq_true rfl⟩)
    (fun _ H locs h_2 w => ?_)
  refine lv_aload_n hx hb dX6_pass_4 rfl (lv_at hl 0 rfl) ?_
  refine lv_aload_n hx hb dX6_pass_5 rfl (lv_at hl 0 rfl) ?_
  refine lv_iload_n hx hb dX6_pass_6 rfl (lv_at hl 1 rfl) ?_
  refine kcalli (wc := [cM μ iK kn ln 0 sp bg fm le fi se re ca]) (wr := [xI g (μ 1) 288 (enc σ), xI g (μ 2) 288 (enc σ)]) (wn := fun (u : Unit) => [cM μ iK kn ln 0 sp bg fm le fi se re ca, xI g (μ 1) 288 (enc σ), xI g (μ 2) 288 (enc σ)]) F w [0] [1, 2] [2, 0, 1] rfl rfl rfl (fun _ => rfl)
    (fun hp => va_runV (As := [.int n]) (rest := [.ref (μ 0)]) F.1 (kX6_goPass_A l g μ iK kn ln 0 sp bg fm le fi se re ca n H.size hn) (cwV 1 hts gX6_pass_X6_goPass rfl rfl rfl ⟨rfl, hd_X6_goPass⟩ ⟨Nat.le_of_ble_eq_true rfl, Nat.le_of_ble_eq_true rfl⟩) ⟨hp.1, va_recv F.2.2.2.1.1 w.1 (q0 := 0) (ci := 6) rfl rfl, hp.2⟩ rfl rfl hl.1 rfl (lv_room (Nat.le_of_ble_eq_true rfl)) dX6_pass_7 ⟨Nat.le_of_ble_eq_true rfl, Nat.le_of_ble_eq_true rfl⟩)
    (fun r_3 _ H locs h_4 w => ?_)
  subst h_4
  refine kcalli (wc := [cM μ iK kn ln 0 sp bg fm le fi se re ca]) (wr := [xI g (μ 1) 288 (enc σ), xI g (μ 2) 288 (enc σ)]) (wn := fun (u : Unit) => [cM μ iK kn ln 1 sp bg fm le fi se re ca, xI g (μ 1) 288 (enc σ), xI g (μ 2) 288 (enc σ)]) F w [0] [1, 2] [2, 0, 1] rfl rfl rfl (fun _ => rfl)
    (fun hp => va_runV (As := [.int (-11)]) (rest := []) F.1 (kX6_ends_A l g μ iK kn ln 0 sp bg fm le fi se re ca H.size ) (cwV 1 hts gX6_pass_X6_ends rfl rfl rfl ⟨rfl, hd_X6_ends⟩ ⟨Nat.le_of_ble_eq_true rfl, Nat.le_of_ble_eq_true rfl⟩) ⟨hp.1, va_recv F.2.2.2.1.1 w.1 (q0 := 0) (ci := 6) rfl rfl, hp.2⟩ rfl rfl hl.1 rfl (lv_room (Nat.le_of_ble_eq_true rfl)) dX6_pass_10 ⟨Nat.le_of_ble_eq_true rfl, Nat.le_of_ble_eq_true rfl⟩)
    (fun r_5 _ H locs h_6 w => ?_)
  subst h_6
  subst hA
  subst hQ
  exact kreti F w () [0, 1, 2] rfl rfl (rfl) (Nat.le_of_ble_eq_true rfl) (Nat.le_of_ble_eq_true rfl) dX6_pass_13
theorem hd_X6_goRow : yX6_goRow.cls ≠ "java/lang/invoke/MethodHandle" ∧ yX6_goRow.cls ≠ "java/lang/invoke/VarHandle" ∧ (parseMethodDescriptor yX6_goRow.desc).map (fun d => d.parameters.length) = some 2 := by decide +kernel
abbrev rmX6_passRow_k : Room := { frames := 5, cells := 0, slots := 0, locals := 112 }
set_option maxHeartbeats 4000000 in
set_option maxRecDepth 100000 in
theorem kX6_passRow_k (l : Launch) (g : GG) (μ : Nat → Nat) (iK : Bool) (kn : Nat) (ln : Nat) (th : Nat) (sp : Nat) (bg : Nat) (fm : Bool) (le : Int32) (fi : Nat) (se : Nat) (re : Nat) (ca : Nat) (σ : Sg) (B : Nat → Int32) (γ : Nat → Sg) (n : Nat) (t : Nat) (sz : Nat) (hn : 1 ≤ n ∧ n ≤ t ∧ t ≤ 48) (hkn : kn ≤ 4) : Met l yX6_passRow wsX6_passRow rmX6_passRow_k (va_Pc [.ref (μ 0), .int (nI n), .int (nI t)] (kPre g [cM μ iK kn ln th sp bg fm le fi se re ca, xI g (μ 1) 288 (enc σ), xI g (μ 2) 288 B, xI g (μ 5) 1152 (pst γ)] sz)) (va_Qi (fun (r : Int32) (u : Unit) => r = nI (rowC n (t + 1 - n) σ)) (kB g (va_A [cM μ iK kn ln th sp bg fm le fi se re ca, xI g (μ 1) 288 (enc σ), xI g (μ 2) 288 B, xI g (μ 5) 1152 (pst γ)] sz) (fun u => [cM μ iK (pushN kn) ln 0 sp bg fm le fi se re ca, xI g (μ 1) 288 (enc (rowN n (t + 1 - n) σ)), xI g (μ 2) 288 (enc σ), xI g (μ 5) 1152 (pst (pushG γ kn σ))])) (va_A [cM μ iK kn ln th sp bg fm le fi se re ca, xI g (μ 1) 288 (enc σ), xI g (μ 2) 288 B, xI g (μ 5) 1152 (pst γ)] sz)) 0 0 (va_A [cM μ iK kn ln th sp bg fm le fi se re ca, xI g (μ 1) 288 (enc σ), xI g (μ 2) 288 B, xI g (μ 5) 1152 (pst γ)] sz) := by
  refine kMet (cc := cX6_passRow) (maxL := 3) (ret := (some .int)) (own := RX6) (by decide) rfl rfl (Nat.le_of_ble_eq_true rfl) ?_
  intro p e s m args below meth c ls Q H locs A F w hl hnm hA hQ
  have hx := F.1.1
  have hb := F.1.2.1
  have hts := F.1.2.2.2.2
  have hl : lv_has ls 3 [(0, .ref (μ 0)), (1, .int (nI n)), (2, .int (nI t))] := hl
  refine lv_aload_n hx hb dX6_passRow_0 rfl (lv_at hl 0 rfl) ?_
  refine kcallv (wc := [cM μ iK kn ln th sp bg fm le fi se re ca, xI g (μ 1) 288 (enc σ), xI g (μ 2) 288 B]) (wr := [xI g (μ 5) 1152 (pst γ)]) (wn := fun (u : Unit) => [cM μ iK kn ln 0 sp bg fm le fi se re ca, xI g (μ 1) 288 (enc σ), xI g (μ 2) 288 (enc σ), xI g (μ 5) 1152 (pst γ)]) F w [0, 1, 2] [3] [1, 2, 3, 0] rfl rfl rfl (fun _ => rfl)
    (fun hp => va_runV (As := []) (rest := []) F.1 (kX6_begins l g μ iK kn ln th sp bg fm le fi se re ca σ B H.size ) (cwV 0 hts gX6_passRow_X6_begins rfl rfl rfl ⟨rfl, hd_X6_begins⟩ ⟨Nat.le_of_ble_eq_true rfl, Nat.le_of_ble_eq_true rfl⟩) ⟨hp.1, va_recv F.2.2.2.1.1 w.1 (q0 := 0) (ci := 6) rfl rfl, hp.2⟩ rfl rfl hl.1 rfl (lv_room (Nat.le_of_ble_eq_true rfl)) dX6_passRow_1 ⟨Nat.le_of_ble_eq_true rfl, Nat.le_of_ble_eq_true rfl⟩)
    (fun _ H locs h_2 w => ?_)
  refine lv_aload_n hx hb dX6_passRow_4 rfl (lv_at hl 0 rfl) ?_
  refine lv_aload_n hx hb dX6_passRow_5 rfl (lv_at hl 0 rfl) ?_
  refine lv_iload_n hx hb dX6_passRow_6 rfl (lv_at hl 1 rfl) ?_
  refine lv_iload_n hx hb dX6_passRow_7 rfl (lv_at hl 2 rfl) ?_
  refine kcalli (wc := [cM μ iK kn ln 0 sp bg fm le fi se re ca, xI g (μ 1) 288 (enc σ)]) (wr := [xI g (μ 2) 288 (enc σ), xI g (μ 5) 1152 (pst γ)]) (wn := fun (u : Unit) => [cM μ iK kn ln 0 sp bg fm le fi se re ca, xI g (μ 1) 288 (enc (rowN n (t + 1 - n) σ)), xI g (μ 2) 288 (enc σ), xI g (μ 5) 1152 (pst γ)]) F w [0, 1] [2, 3] [2, 3, 0, 1] rfl rfl rfl (fun _ => rfl)
    (fun hp => va_runV (As := [.int (nI n), .int (nI t)]) (rest := [.ref (μ 0)]) F.1 (kX6_goRow_k l g μ iK kn ln 0 sp bg fm le fi se re ca σ n t H.size hn) (cwV 2 hts gX6_passRow_X6_goRow rfl rfl rfl ⟨rfl, hd_X6_goRow⟩ ⟨Nat.le_of_ble_eq_true rfl, Nat.le_of_ble_eq_true rfl⟩) ⟨hp.1, va_recv F.2.2.2.1.1 w.1 (q0 := 0) (ci := 6) rfl rfl, hp.2⟩ rfl rfl hl.1 rfl (lv_room (Nat.le_of_ble_eq_true rfl)) dX6_passRow_8 ⟨Nat.le_of_ble_eq_true rfl, Nat.le_of_ble_eq_true rfl⟩)
    (fun r_3 _ H locs h_4 w => ?_)
  subst h_4
  refine kcalli (wc := [cM μ iK kn ln 0 sp bg fm le fi se re ca, xI g (μ 2) 288 (enc σ), xI g (μ 5) 1152 (pst γ)]) (wr := [xI g (μ 1) 288 (enc (rowN n (t + 1 - n) σ))]) (wn := fun (u : Unit) => [cM μ iK (pushN kn) ln 0 sp bg fm le fi se re ca, xI g (μ 1) 288 (enc (rowN n (t + 1 - n) σ)), xI g (μ 2) 288 (enc σ), xI g (μ 5) 1152 (pst (pushG γ kn σ))]) F w [0, 2, 3] [1] [1, 0, 2, 3] rfl rfl rfl (fun _ => rfl)
    (fun hp => va_runV (As := [.int (nI (rowC n (t + 1 - n) σ))]) (rest := []) F.1 (kX6_ends_k l g μ iK kn ln 0 sp bg fm le fi se re ca σ γ (nI (rowC n (t + 1 - n) σ)) H.size (rowC_ne (by omega)) hkn) (cwV 1 hts gX6_passRow_X6_ends rfl rfl rfl ⟨rfl, hd_X6_ends⟩ ⟨Nat.le_of_ble_eq_true rfl, Nat.le_of_ble_eq_true rfl⟩) ⟨hp.1, va_recv F.2.2.2.1.1 w.1 (q0 := 0) (ci := 6) rfl rfl, hp.2⟩ rfl rfl hl.1 rfl (lv_room (Nat.le_of_ble_eq_true rfl)) dX6_passRow_11 ⟨Nat.le_of_ble_eq_true rfl, Nat.le_of_ble_eq_true rfl⟩)
    (fun r_5 _ H locs h_6 w => ?_)
  subst h_6
  subst hA
  subst hQ
  exact kreti F w () [0, 1, 2, 3] rfl rfl (rfl) (Nat.le_of_ble_eq_true rfl) (Nat.le_of_ble_eq_true rfl) dX6_passRow_14
abbrev rmX6_passRow_A : Room := { frames := 3, cells := 0, slots := 0, locals := 64 }
set_option maxHeartbeats 4000000 in
set_option maxRecDepth 100000 in
theorem kX6_passRow_A (l : Launch) (g : GG) (μ : Nat → Nat) (iK : Bool) (kn : Nat) (ln : Nat) (th : Nat) (sp : Nat) (bg : Nat) (fm : Bool) (le : Int32) (fi : Nat) (se : Nat) (re : Nat) (ca : Nat) (σ : Sg) (B : Nat → Int32) (n : Int32) (t : Int32) (sz : Nat) (hn : ¬ (1 ≤ n.toInt ∧ n.toInt ≤ t.toInt ∧ t.toInt ≤ 48)) : Met l yX6_passRow wsX6_passRow rmX6_passRow_A (va_Pc [.ref (μ 0), .int n, .int t] (kPre g [cM μ iK kn ln th sp bg fm le fi se re ca, xI g (μ 1) 288 (enc σ), xI g (μ 2) 288 B] sz)) (va_Qi (fun (r : Int32) (u : Unit) => r = nI 0) (kB g (va_A [cM μ iK kn ln th sp bg fm le fi se re ca, xI g (μ 1) 288 (enc σ), xI g (μ 2) 288 B] sz) (fun u => [cM μ iK kn ln 1 sp bg fm le fi se re ca, xI g (μ 1) 288 (enc σ), xI g (μ 2) 288 (enc σ)])) (va_A [cM μ iK kn ln th sp bg fm le fi se re ca, xI g (μ 1) 288 (enc σ), xI g (μ 2) 288 B] sz)) 0 0 (va_A [cM μ iK kn ln th sp bg fm le fi se re ca, xI g (μ 1) 288 (enc σ), xI g (μ 2) 288 B] sz) := by
  refine kMet (cc := cX6_passRow) (maxL := 3) (ret := (some .int)) (own := RX6) (by decide) rfl rfl (Nat.le_of_ble_eq_true rfl) ?_
  intro p e s m args below meth c ls Q H locs A F w hl hnm hA hQ
  have hx := F.1.1
  have hb := F.1.2.1
  have hts := F.1.2.2.2.2
  have hl : lv_has ls 3 [(0, .ref (μ 0)), (1, .int n), (2, .int t)] := hl
  refine lv_aload_n hx hb dX6_passRow_0 rfl (lv_at hl 0 rfl) ?_
  refine kcallv (wc := [cM μ iK kn ln th sp bg fm le fi se re ca, xI g (μ 1) 288 (enc σ), xI g (μ 2) 288 B]) (wr := []) (wn := fun (u : Unit) => [cM μ iK kn ln 0 sp bg fm le fi se re ca, xI g (μ 1) 288 (enc σ), xI g (μ 2) 288 (enc σ)]) F w [0, 1, 2] [] [0, 1, 2] rfl rfl rfl (fun _ => rfl)
    (fun hp => va_runV (As := []) (rest := []) F.1 (kX6_begins l g μ iK kn ln th sp bg fm le fi se re ca σ B H.size ) (cwV 0 hts gX6_passRow_X6_begins rfl rfl rfl ⟨rfl, hd_X6_begins⟩ ⟨Nat.le_of_ble_eq_true rfl, Nat.le_of_ble_eq_true rfl⟩) ⟨hp.1, va_recv F.2.2.2.1.1 w.1 (q0 := 0) (ci := 6) rfl rfl, hp.2⟩ rfl rfl hl.1 rfl (lv_room (Nat.le_of_ble_eq_true rfl)) dX6_passRow_1 ⟨Nat.le_of_ble_eq_true rfl, Nat.le_of_ble_eq_true rfl⟩)
    (fun _ H locs h_2 w => ?_)
  refine lv_aload_n hx hb dX6_passRow_4 rfl (lv_at hl 0 rfl) ?_
  refine lv_aload_n hx hb dX6_passRow_5 rfl (lv_at hl 0 rfl) ?_
  refine lv_iload_n hx hb dX6_passRow_6 rfl (lv_at hl 1 rfl) ?_
  refine lv_iload_n hx hb dX6_passRow_7 rfl (lv_at hl 2 rfl) ?_
  refine kcalli (wc := [cM μ iK kn ln 0 sp bg fm le fi se re ca]) (wr := [xI g (μ 1) 288 (enc σ), xI g (μ 2) 288 (enc σ)]) (wn := fun (u : Unit) => [cM μ iK kn ln 0 sp bg fm le fi se re ca, xI g (μ 1) 288 (enc σ), xI g (μ 2) 288 (enc σ)]) F w [0] [1, 2] [2, 0, 1] rfl rfl rfl (fun _ => rfl)
    (fun hp => va_runV (As := [.int n, .int t]) (rest := [.ref (μ 0)]) F.1 (kX6_goRow_A l g μ iK kn ln 0 sp bg fm le fi se re ca n t H.size hn) (cwV 2 hts gX6_passRow_X6_goRow rfl rfl rfl ⟨rfl, hd_X6_goRow⟩ ⟨Nat.le_of_ble_eq_true rfl, Nat.le_of_ble_eq_true rfl⟩) ⟨hp.1, va_recv F.2.2.2.1.1 w.1 (q0 := 0) (ci := 6) rfl rfl, hp.2⟩ rfl rfl hl.1 rfl (lv_room (Nat.le_of_ble_eq_true rfl)) dX6_passRow_8 ⟨Nat.le_of_ble_eq_true rfl, Nat.le_of_ble_eq_true rfl⟩)
    (fun r_3 _ H locs h_4 w => ?_)
  subst h_4
  refine kcalli (wc := [cM μ iK kn ln 0 sp bg fm le fi se re ca]) (wr := [xI g (μ 1) 288 (enc σ), xI g (μ 2) 288 (enc σ)]) (wn := fun (u : Unit) => [cM μ iK kn ln 1 sp bg fm le fi se re ca, xI g (μ 1) 288 (enc σ), xI g (μ 2) 288 (enc σ)]) F w [0] [1, 2] [2, 0, 1] rfl rfl rfl (fun _ => rfl)
    (fun hp => va_runV (As := [.int (-11)]) (rest := []) F.1 (kX6_ends_A l g μ iK kn ln 0 sp bg fm le fi se re ca H.size ) (cwV 1 hts gX6_passRow_X6_ends rfl rfl rfl ⟨rfl, hd_X6_ends⟩ ⟨Nat.le_of_ble_eq_true rfl, Nat.le_of_ble_eq_true rfl⟩) ⟨hp.1, va_recv F.2.2.2.1.1 w.1 (q0 := 0) (ci := 6) rfl rfl, hp.2⟩ rfl rfl hl.1 rfl (lv_room (Nat.le_of_ble_eq_true rfl)) dX6_passRow_11 ⟨Nat.le_of_ble_eq_true rfl, Nat.le_of_ble_eq_true rfl⟩)
    (fun r_5 _ H locs h_6 w => ?_)
  subst h_6
  subst hA
  subst hQ
  exact kreti F w () [0, 1, 2] rfl rfl (rfl) (Nat.le_of_ble_eq_true rfl) (Nat.le_of_ble_eq_true rfl) dX6_passRow_14
theorem hd_X6_goDoor : yX6_goDoor.cls ≠ "java/lang/invoke/MethodHandle" ∧ yX6_goDoor.cls ≠ "java/lang/invoke/VarHandle" ∧ (parseMethodDescriptor yX6_goDoor.desc).map (fun d => d.parameters.length) = some 1 := by decide +kernel
abbrev rmX6_turnDoor_k : Room := { frames := 3, cells := 0, slots := 0, locals := 66 }
set_option maxHeartbeats 4000000 in
set_option maxRecDepth 100000 in
theorem kX6_turnDoor_k (l : Launch) (g : GG) (μ : Nat → Nat) (iK : Bool) (kn : Nat) (ln : Nat) (th : Nat) (sp : Nat) (bg : Nat) (fm : Bool) (le : Int32) (fi : Nat) (se : Nat) (re : Nat) (ca : Nat) (σ : Sg) (B : Nat → Int32) (γ : Nat → Sg) (d : Nat) (sz : Nat) (hd : 1 ≤ d ∧ d ≤ 48) (hl9 : zL σ d = false) (hkn : kn ≤ 4) : Met l yX6_turnDoor wsX6_turnDoor rmX6_turnDoor_k (va_Pc [.ref (μ 0), .int (nI d)] (kPre g [cM μ iK kn ln th sp bg fm le fi se re ca, xI g (μ 1) 288 (enc σ), xI g (μ 2) 288 B, xI g (μ 5) 1152 (pst γ)] sz)) (va_Qi (fun (r : Int32) (u : Unit) => r = bI (zO (turnS d σ) d)) (kB g (va_A [cM μ iK kn ln th sp bg fm le fi se re ca, xI g (μ 1) 288 (enc σ), xI g (μ 2) 288 B, xI g (μ 5) 1152 (pst γ)] sz) (fun u => [cM μ iK (pushN kn) ln 0 sp bg fm le fi se re ca, xI g (μ 1) 288 (enc (turnS d σ)), xI g (μ 2) 288 (enc σ), xI g (μ 5) 1152 (pst (pushG γ kn σ))])) (va_A [cM μ iK kn ln th sp bg fm le fi se re ca, xI g (μ 1) 288 (enc σ), xI g (μ 2) 288 B, xI g (μ 5) 1152 (pst γ)] sz)) 0 0 (va_A [cM μ iK kn ln th sp bg fm le fi se re ca, xI g (μ 1) 288 (enc σ), xI g (μ 2) 288 B, xI g (μ 5) 1152 (pst γ)] sz) := by
  refine kMet (cc := cX6_turnDoor) (maxL := 2) (ret := (some .boolean)) (own := RX6) (by decide) rfl rfl (Nat.le_of_ble_eq_true rfl) ?_
  intro p e s m args below meth c ls Q H locs A F w hl hnm hA hQ
  have hx := F.1.1
  have hb := F.1.2.1
  have hts := F.1.2.2.2.2
  have hl : lv_has ls 2 [(0, .ref (μ 0)), (1, .int (nI d))] := hl
  refine lv_aload_n hx hb dX6_turnDoor_0 rfl (lv_at hl 0 rfl) ?_
  refine kcallv (wc := [cM μ iK kn ln th sp bg fm le fi se re ca, xI g (μ 1) 288 (enc σ), xI g (μ 2) 288 B]) (wr := [xI g (μ 5) 1152 (pst γ)]) (wn := fun (u : Unit) => [cM μ iK kn ln 0 sp bg fm le fi se re ca, xI g (μ 1) 288 (enc σ), xI g (μ 2) 288 (enc σ), xI g (μ 5) 1152 (pst γ)]) F w [0, 1, 2] [3] [1, 2, 3, 0] rfl rfl rfl (fun _ => rfl)
    (fun hp => va_runV (As := []) (rest := []) F.1 (kX6_begins l g μ iK kn ln th sp bg fm le fi se re ca σ B H.size ) (cwV 0 hts gX6_turnDoor_X6_begins rfl rfl rfl ⟨rfl, hd_X6_begins⟩ ⟨Nat.le_of_ble_eq_true rfl, Nat.le_of_ble_eq_true rfl⟩) ⟨hp.1, va_recv F.2.2.2.1.1 w.1 (q0 := 0) (ci := 6) rfl rfl, hp.2⟩ rfl rfl hl.1 rfl (lv_room (Nat.le_of_ble_eq_true rfl)) dX6_turnDoor_1 ⟨Nat.le_of_ble_eq_true rfl, Nat.le_of_ble_eq_true rfl⟩)
    (fun _ H locs h_2 w => ?_)
  refine lv_aload_n hx hb dX6_turnDoor_4 rfl (lv_at hl 0 rfl) ?_
  refine lv_aload_n hx hb dX6_turnDoor_5 rfl (lv_at hl 0 rfl) ?_
  refine lv_iload_n hx hb dX6_turnDoor_6 rfl (lv_at hl 1 rfl) ?_
  refine kcalli (wc := [cM μ iK kn ln 0 sp bg fm le fi se re ca, xI g (μ 1) 288 (enc σ)]) (wr := [xI g (μ 2) 288 (enc σ), xI g (μ 5) 1152 (pst γ)]) (wn := fun (u : Unit) => [cM μ iK kn ln 0 sp bg fm le fi se re ca, xI g (μ 1) 288 (enc (turnS d σ)), xI g (μ 2) 288 (enc σ), xI g (μ 5) 1152 (pst γ)]) F w [0, 1] [2, 3] [2, 3, 0, 1] rfl rfl rfl (fun _ => rfl)
    (fun hp => va_runV (As := [.int (nI d)]) (rest := [.ref (μ 0)]) F.1 (kX6_goDoor_k l g μ iK kn ln 0 sp bg fm le fi se re ca σ d H.size hd hl9) (cwV 1 hts gX6_turnDoor_X6_goDoor rfl rfl rfl ⟨rfl, hd_X6_goDoor⟩ ⟨Nat.le_of_ble_eq_true rfl, Nat.le_of_ble_eq_true rfl⟩) ⟨hp.1, va_recv F.2.2.2.1.1 w.1 (q0 := 0) (ci := 6) rfl rfl, hp.2⟩ rfl rfl hl.1 rfl (lv_room (Nat.le_of_ble_eq_true rfl)) dX6_turnDoor_7 ⟨Nat.le_of_ble_eq_true rfl, Nat.le_of_ble_eq_true rfl⟩)
    (fun r_3 _ H locs h_4 w => ?_)
  subst h_4
  refine kcalli (wc := [cM μ iK kn ln 0 sp bg fm le fi se re ca, xI g (μ 2) 288 (enc σ), xI g (μ 5) 1152 (pst γ)]) (wr := [xI g (μ 1) 288 (enc (turnS d σ))]) (wn := fun (u : Unit) => [cM μ iK (pushN kn) ln 0 sp bg fm le fi se re ca, xI g (μ 1) 288 (enc (turnS d σ)), xI g (μ 2) 288 (enc σ), xI g (μ 5) 1152 (pst (pushG γ kn σ))]) F w [0, 2, 3] [1] [1, 0, 2, 3] rfl rfl rfl (fun _ => rfl)
    (fun hp => va_runV (As := [.int (bI (zO (turnS d σ) d))]) (rest := []) F.1 (kX6_ends_k l g μ iK kn ln 0 sp bg fm le fi se re ca σ γ (bI (zO (turnS d σ) d)) H.size (bI_ne _) hkn) (cwV 1 hts gX6_turnDoor_X6_ends rfl rfl rfl ⟨rfl, hd_X6_ends⟩ ⟨Nat.le_of_ble_eq_true rfl, Nat.le_of_ble_eq_true rfl⟩) ⟨hp.1, va_recv F.2.2.2.1.1 w.1 (q0 := 0) (ci := 6) rfl rfl, hp.2⟩ rfl rfl hl.1 rfl (lv_room (Nat.le_of_ble_eq_true rfl)) dX6_turnDoor_10 ⟨Nat.le_of_ble_eq_true rfl, Nat.le_of_ble_eq_true rfl⟩)
    (fun r_5 _ H locs h_6 w => ?_)
  subst h_6
  refine lv_iconst (v := nI 1) hx hb dX6_turnDoor_13 (by decide) ?_
  refine lv_icmp_ne (tgt := 21) hx hb dX6_turnDoor_14 (by decide) (fun h_7 => ?_) (fun h_7 => ?_)
  · have h_7 : (zO (turnS d σ) d) = false := bI_n1.mp h_7
    refine lv_iconst (v := nI 0) hx hb dX6_turnDoor_21 (by decide) ?_
    subst hA
    subst hQ
    exact kretz F w () [0, 1, 2, 3] rfl rfl (by show nI 0 = bI ((zO (turnS d σ) d)); rw [h_7]; rfl) (by decide +kernel) (Nat.le_of_ble_eq_true rfl) (Nat.le_of_ble_eq_true rfl) dX6_turnDoor_22
  · have h_7 : (zO (turnS d σ) d) = true := bI_1.mp h_7
    refine lv_iconst (v := nI 1) hx hb dX6_turnDoor_17 (by decide) ?_
    refine lv_goto (tgt := 22) hx hb dX6_turnDoor_18 (by decide) ?_
    subst hA
    subst hQ
    exact kretz F w () [0, 1, 2, 3] rfl rfl (by show nI 1 = bI ((zO (turnS d σ) d)); rw [h_7]; rfl) (by decide +kernel) (Nat.le_of_ble_eq_true rfl) (Nat.le_of_ble_eq_true rfl) dX6_turnDoor_22
abbrev rmX6_turnDoor_A : Room := { frames := 3, cells := 0, slots := 0, locals := 63 }
set_option maxHeartbeats 4000000 in
set_option maxRecDepth 100000 in
theorem kX6_turnDoor_A (l : Launch) (g : GG) (μ : Nat → Nat) (iK : Bool) (kn : Nat) (ln : Nat) (th : Nat) (sp : Nat) (bg : Nat) (fm : Bool) (le : Int32) (fi : Nat) (se : Nat) (re : Nat) (ca : Nat) (σ : Sg) (B : Nat → Int32) (n : Int32) (sz : Nat) (hn : ¬ (1 ≤ n.toInt ∧ n.toInt ≤ 48)) : Met l yX6_turnDoor wsX6_turnDoor rmX6_turnDoor_A (va_Pc [.ref (μ 0), .int n] (kPre g [cM μ iK kn ln th sp bg fm le fi se re ca, xI g (μ 1) 288 (enc σ), xI g (μ 2) 288 B] sz)) (va_Qi (fun (r : Int32) (u : Unit) => r = nI 0) (kB g (va_A [cM μ iK kn ln th sp bg fm le fi se re ca, xI g (μ 1) 288 (enc σ), xI g (μ 2) 288 B] sz) (fun u => [cM μ iK kn ln 1 sp bg fm le fi se re ca, xI g (μ 1) 288 (enc σ), xI g (μ 2) 288 (enc σ)])) (va_A [cM μ iK kn ln th sp bg fm le fi se re ca, xI g (μ 1) 288 (enc σ), xI g (μ 2) 288 B] sz)) 0 0 (va_A [cM μ iK kn ln th sp bg fm le fi se re ca, xI g (μ 1) 288 (enc σ), xI g (μ 2) 288 B] sz) := by
  refine kMet (cc := cX6_turnDoor) (maxL := 2) (ret := (some .boolean)) (own := RX6) (by decide) rfl rfl (Nat.le_of_ble_eq_true rfl) ?_
  intro p e s m args below meth c ls Q H locs A F w hl hnm hA hQ
  have hx := F.1.1
  have hb := F.1.2.1
  have hts := F.1.2.2.2.2
  have hl : lv_has ls 2 [(0, .ref (μ 0)), (1, .int n)] := hl
  refine lv_aload_n hx hb dX6_turnDoor_0 rfl (lv_at hl 0 rfl) ?_
  refine kcallv (wc := [cM μ iK kn ln th sp bg fm le fi se re ca, xI g (μ 1) 288 (enc σ), xI g (μ 2) 288 B]) (wr := []) (wn := fun (u : Unit) => [cM μ iK kn ln 0 sp bg fm le fi se re ca, xI g (μ 1) 288 (enc σ), xI g (μ 2) 288 (enc σ)]) F w [0, 1, 2] [] [0, 1, 2] rfl rfl rfl (fun _ => rfl)
    (fun hp => va_runV (As := []) (rest := []) F.1 (kX6_begins l g μ iK kn ln th sp bg fm le fi se re ca σ B H.size ) (cwV 0 hts gX6_turnDoor_X6_begins rfl rfl rfl ⟨rfl, hd_X6_begins⟩ ⟨Nat.le_of_ble_eq_true rfl, Nat.le_of_ble_eq_true rfl⟩) ⟨hp.1, va_recv F.2.2.2.1.1 w.1 (q0 := 0) (ci := 6) rfl rfl, hp.2⟩ rfl rfl hl.1 rfl (lv_room (Nat.le_of_ble_eq_true rfl)) dX6_turnDoor_1 ⟨Nat.le_of_ble_eq_true rfl, Nat.le_of_ble_eq_true rfl⟩)
    (fun _ H locs h_2 w => ?_)
  refine lv_aload_n hx hb dX6_turnDoor_4 rfl (lv_at hl 0 rfl) ?_
  refine lv_aload_n hx hb dX6_turnDoor_5 rfl (lv_at hl 0 rfl) ?_
  refine lv_iload_n hx hb dX6_turnDoor_6 rfl (lv_at hl 1 rfl) ?_
  refine kcalli (wc := [cM μ iK kn ln 0 sp bg fm le fi se re ca]) (wr := [xI g (μ 1) 288 (enc σ), xI g (μ 2) 288 (enc σ)]) (wn := fun (u : Unit) => [cM μ iK kn ln 0 sp bg fm le fi se re ca, xI g (μ 1) 288 (enc σ), xI g (μ 2) 288 (enc σ)]) F w [0] [1, 2] [2, 0, 1] rfl rfl rfl (fun _ => rfl)
    (fun hp => va_runV (As := [.int n]) (rest := [.ref (μ 0)]) F.1 (kX6_goDoor_A l g μ iK kn ln 0 sp bg fm le fi se re ca n H.size hn) (cwV 1 hts gX6_turnDoor_X6_goDoor rfl rfl rfl ⟨rfl, hd_X6_goDoor⟩ ⟨Nat.le_of_ble_eq_true rfl, Nat.le_of_ble_eq_true rfl⟩) ⟨hp.1, va_recv F.2.2.2.1.1 w.1 (q0 := 0) (ci := 6) rfl rfl, hp.2⟩ rfl rfl hl.1 rfl (lv_room (Nat.le_of_ble_eq_true rfl)) dX6_turnDoor_7 ⟨Nat.le_of_ble_eq_true rfl, Nat.le_of_ble_eq_true rfl⟩)
    (fun r_3 _ H locs h_4 w => ?_)
  subst h_4
  refine kcalli (wc := [cM μ iK kn ln 0 sp bg fm le fi se re ca]) (wr := [xI g (μ 1) 288 (enc σ), xI g (μ 2) 288 (enc σ)]) (wn := fun (u : Unit) => [cM μ iK kn ln 1 sp bg fm le fi se re ca, xI g (μ 1) 288 (enc σ), xI g (μ 2) 288 (enc σ)]) F w [0] [1, 2] [2, 0, 1] rfl rfl rfl (fun _ => rfl)
    (fun hp => va_runV (As := [.int (-11)]) (rest := []) F.1 (kX6_ends_A l g μ iK kn ln 0 sp bg fm le fi se re ca H.size ) (cwV 1 hts gX6_turnDoor_X6_ends rfl rfl rfl ⟨rfl, hd_X6_ends⟩ ⟨Nat.le_of_ble_eq_true rfl, Nat.le_of_ble_eq_true rfl⟩) ⟨hp.1, va_recv F.2.2.2.1.1 w.1 (q0 := 0) (ci := 6) rfl rfl, hp.2⟩ rfl rfl hl.1 rfl (lv_room (Nat.le_of_ble_eq_true rfl)) dX6_turnDoor_10 ⟨Nat.le_of_ble_eq_true rfl, Nat.le_of_ble_eq_true rfl⟩)
    (fun r_5 _ H locs h_6 w => ?_)
  subst h_6
  refine lv_iconst (v := nI 1) hx hb dX6_turnDoor_13 (by decide) ?_
  refine lv_icmp_ne (tgt := 21) hx hb dX6_turnDoor_14 (by decide) (fun h_7 => ?_) (fun h_7 => ?_)
  · have h_7 : 0 ≠ 1 := (kc_ne_t (by omega) (by omega)).mp h_7
    refine lv_iconst (v := nI 0) hx hb dX6_turnDoor_21 (by decide) ?_
    subst hA
    subst hQ
    exact kretz F w () [0, 1, 2] rfl rfl (rfl) (by decide +kernel) (Nat.le_of_ble_eq_true rfl) (Nat.le_of_ble_eq_true rfl) dX6_turnDoor_22
  · have h_7 : 0 = 1 := (kc_ne_f (by omega) (by omega)).mp h_7
    omega
abbrev rmX6_turnDoor_S : Room := { frames := 3, cells := 0, slots := 0, locals := 63 }
set_option maxHeartbeats 4000000 in
set_option maxRecDepth 100000 in
theorem kX6_turnDoor_S (l : Launch) (g : GG) (μ : Nat → Nat) (iK : Bool) (kn : Nat) (ln : Nat) (th : Nat) (sp : Nat) (bg : Nat) (fm : Bool) (le : Int32) (fi : Nat) (se : Nat) (re : Nat) (ca : Nat) (σ : Sg) (B : Nat → Int32) (d : Nat) (sz : Nat) (hd : 1 ≤ d ∧ d ≤ 48) (hl9 : zL σ d = true) : Met l yX6_turnDoor wsX6_turnDoor rmX6_turnDoor_S (va_Pc [.ref (μ 0), .int (nI d)] (kPre g [cM μ iK kn ln th sp bg fm le fi se re ca, xI g (μ 1) 288 (enc σ), xI g (μ 2) 288 B] sz)) (va_Qi (fun (r : Int32) (u : Unit) => r = nI 0) (kB g (va_A [cM μ iK kn ln th sp bg fm le fi se re ca, xI g (μ 1) 288 (enc σ), xI g (μ 2) 288 B] sz) (fun u => [cM μ iK kn ln 2 sp bg fm le fi se re ca, xI g (μ 1) 288 (enc σ), xI g (μ 2) 288 (enc σ)])) (va_A [cM μ iK kn ln th sp bg fm le fi se re ca, xI g (μ 1) 288 (enc σ), xI g (μ 2) 288 B] sz)) 0 0 (va_A [cM μ iK kn ln th sp bg fm le fi se re ca, xI g (μ 1) 288 (enc σ), xI g (μ 2) 288 B] sz) := by
  refine kMet (cc := cX6_turnDoor) (maxL := 2) (ret := (some .boolean)) (own := RX6) (by decide) rfl rfl (Nat.le_of_ble_eq_true rfl) ?_
  intro p e s m args below meth c ls Q H locs A F w hl hnm hA hQ
  have hx := F.1.1
  have hb := F.1.2.1
  have hts := F.1.2.2.2.2
  have hl : lv_has ls 2 [(0, .ref (μ 0)), (1, .int (nI d))] := hl
  refine lv_aload_n hx hb dX6_turnDoor_0 rfl (lv_at hl 0 rfl) ?_
  refine kcallv (wc := [cM μ iK kn ln th sp bg fm le fi se re ca, xI g (μ 1) 288 (enc σ), xI g (μ 2) 288 B]) (wr := []) (wn := fun (u : Unit) => [cM μ iK kn ln 0 sp bg fm le fi se re ca, xI g (μ 1) 288 (enc σ), xI g (μ 2) 288 (enc σ)]) F w [0, 1, 2] [] [0, 1, 2] rfl rfl rfl (fun _ => rfl)
    (fun hp => va_runV (As := []) (rest := []) F.1 (kX6_begins l g μ iK kn ln th sp bg fm le fi se re ca σ B H.size ) (cwV 0 hts gX6_turnDoor_X6_begins rfl rfl rfl ⟨rfl, hd_X6_begins⟩ ⟨Nat.le_of_ble_eq_true rfl, Nat.le_of_ble_eq_true rfl⟩) ⟨hp.1, va_recv F.2.2.2.1.1 w.1 (q0 := 0) (ci := 6) rfl rfl, hp.2⟩ rfl rfl hl.1 rfl (lv_room (Nat.le_of_ble_eq_true rfl)) dX6_turnDoor_1 ⟨Nat.le_of_ble_eq_true rfl, Nat.le_of_ble_eq_true rfl⟩)
    (fun _ H locs h_2 w => ?_)
  refine lv_aload_n hx hb dX6_turnDoor_4 rfl (lv_at hl 0 rfl) ?_
  refine lv_aload_n hx hb dX6_turnDoor_5 rfl (lv_at hl 0 rfl) ?_
  refine lv_iload_n hx hb dX6_turnDoor_6 rfl (lv_at hl 1 rfl) ?_
  refine kcalli (wc := [cM μ iK kn ln 0 sp bg fm le fi se re ca, xI g (μ 1) 288 (enc σ)]) (wr := [xI g (μ 2) 288 (enc σ)]) (wn := fun (u : Unit) => [cM μ iK kn ln 0 sp bg fm le fi se re ca, xI g (μ 1) 288 (enc σ), xI g (μ 2) 288 (enc σ)]) F w [0, 1] [2] [1, 2, 0] rfl rfl rfl (fun _ => rfl)
    (fun hp => va_runV (As := [.int (nI d)]) (rest := [.ref (μ 0)]) F.1 (kX6_goDoor_S l g μ iK kn ln 0 sp bg fm le fi se re ca σ d H.size hd hl9) (cwV 1 hts gX6_turnDoor_X6_goDoor rfl rfl rfl ⟨rfl, hd_X6_goDoor⟩ ⟨Nat.le_of_ble_eq_true rfl, Nat.le_of_ble_eq_true rfl⟩) ⟨hp.1, va_recv F.2.2.2.1.1 w.1 (q0 := 0) (ci := 6) rfl rfl, hp.2⟩ rfl rfl hl.1 rfl (lv_room (Nat.le_of_ble_eq_true rfl)) dX6_turnDoor_7 ⟨Nat.le_of_ble_eq_true rfl, Nat.le_of_ble_eq_true rfl⟩)
    (fun r_3 _ H locs h_4 w => ?_)
  subst h_4
  refine kcalli (wc := [cM μ iK kn ln 0 sp bg fm le fi se re ca]) (wr := [xI g (μ 1) 288 (enc σ), xI g (μ 2) 288 (enc σ)]) (wn := fun (u : Unit) => [cM μ iK kn ln 2 sp bg fm le fi se re ca, xI g (μ 1) 288 (enc σ), xI g (μ 2) 288 (enc σ)]) F w [0] [1, 2] [2, 0, 1] rfl rfl rfl (fun _ => rfl)
    (fun hp => va_runV (As := [.int (-12)]) (rest := []) F.1 (kX6_ends_S l g μ iK kn ln 0 sp bg fm le fi se re ca H.size ) (cwV 1 hts gX6_turnDoor_X6_ends rfl rfl rfl ⟨rfl, hd_X6_ends⟩ ⟨Nat.le_of_ble_eq_true rfl, Nat.le_of_ble_eq_true rfl⟩) ⟨hp.1, va_recv F.2.2.2.1.1 w.1 (q0 := 0) (ci := 6) rfl rfl, hp.2⟩ rfl rfl hl.1 rfl (lv_room (Nat.le_of_ble_eq_true rfl)) dX6_turnDoor_10 ⟨Nat.le_of_ble_eq_true rfl, Nat.le_of_ble_eq_true rfl⟩)
    (fun r_5 _ H locs h_6 w => ?_)
  subst h_6
  refine lv_iconst (v := nI 1) hx hb dX6_turnDoor_13 (by decide) ?_
  refine lv_icmp_ne (tgt := 21) hx hb dX6_turnDoor_14 (by decide) (fun h_7 => ?_) (fun h_7 => ?_)
  · have h_7 : 0 ≠ 1 := (kc_ne_t (by omega) (by omega)).mp h_7
    refine lv_iconst (v := nI 0) hx hb dX6_turnDoor_21 (by decide) ?_
    subst hA
    subst hQ
    exact kretz F w () [0, 1, 2] rfl rfl (rfl) (by decide +kernel) (Nat.le_of_ble_eq_true rfl) (Nat.le_of_ble_eq_true rfl) dX6_turnDoor_22
  · have h_7 : 0 = 1 := (kc_ne_f (by omega) (by omega)).mp h_7
    omega
theorem hd_X6_goTurn : yX6_goTurn.cls ≠ "java/lang/invoke/MethodHandle" ∧ yX6_goTurn.cls ≠ "java/lang/invoke/VarHandle" ∧ (parseMethodDescriptor yX6_goTurn.desc).map (fun d => d.parameters.length) = some 2 := by decide +kernel
abbrev rmX6_turnLock_k : Room := { frames := 3, cells := 0, slots := 0, locals := 66 }
set_option maxHeartbeats 4000000 in
set_option maxRecDepth 100000 in
theorem kX6_turnLock_k (l : Launch) (g : GG) (μ : Nat → Nat) (iK : Bool) (kn : Nat) (ln : Nat) (th : Nat) (sp : Nat) (bg : Nat) (fm : Bool) (le : Int32) (fi : Nat) (se : Nat) (re : Nat) (ca : Nat) (σ : Sg) (B : Nat → Int32) (γ : Nat → Sg) (d : Nat) (sz : Nat) (hd : 1 ≤ d ∧ d ≤ 48) (hkn : kn ≤ 4) : Met l yX6_turnLock wsX6_turnLock rmX6_turnLock_k (va_Pc [.ref (μ 0), .int (nI d)] (kPre g [cM μ iK kn ln th sp bg fm le fi se re ca, xI g (μ 1) 288 (enc σ), xI g (μ 2) 288 B, xI g (μ 5) 1152 (pst γ)] sz)) (va_Qi (fun (r : Int32) (u : Unit) => r = bI (zL (lockS d σ) d)) (kB g (va_A [cM μ iK kn ln th sp bg fm le fi se re ca, xI g (μ 1) 288 (enc σ), xI g (μ 2) 288 B, xI g (μ 5) 1152 (pst γ)] sz) (fun u => [cM μ iK (pushN kn) ln 0 sp bg fm le fi se re ca, xI g (μ 1) 288 (enc (lockS d σ)), xI g (μ 2) 288 (enc σ), xI g (μ 5) 1152 (pst (pushG γ kn σ))])) (va_A [cM μ iK kn ln th sp bg fm le fi se re ca, xI g (μ 1) 288 (enc σ), xI g (μ 2) 288 B, xI g (μ 5) 1152 (pst γ)] sz)) 0 0 (va_A [cM μ iK kn ln th sp bg fm le fi se re ca, xI g (μ 1) 288 (enc σ), xI g (μ 2) 288 B, xI g (μ 5) 1152 (pst γ)] sz) := by
  refine kMet (cc := cX6_turnLock) (maxL := 2) (ret := (some .boolean)) (own := RX6) (by decide) rfl rfl (Nat.le_of_ble_eq_true rfl) ?_
  intro p e s m args below meth c ls Q H locs A F w hl hnm hA hQ
  have hx := F.1.1
  have hb := F.1.2.1
  have hts := F.1.2.2.2.2
  have hl : lv_has ls 2 [(0, .ref (μ 0)), (1, .int (nI d))] := hl
  refine lv_aload_n hx hb dX6_turnLock_0 rfl (lv_at hl 0 rfl) ?_
  refine kcallv (wc := [cM μ iK kn ln th sp bg fm le fi se re ca, xI g (μ 1) 288 (enc σ), xI g (μ 2) 288 B]) (wr := [xI g (μ 5) 1152 (pst γ)]) (wn := fun (u : Unit) => [cM μ iK kn ln 0 sp bg fm le fi se re ca, xI g (μ 1) 288 (enc σ), xI g (μ 2) 288 (enc σ), xI g (μ 5) 1152 (pst γ)]) F w [0, 1, 2] [3] [1, 2, 3, 0] rfl rfl rfl (fun _ => rfl)
    (fun hp => va_runV (As := []) (rest := []) F.1 (kX6_begins l g μ iK kn ln th sp bg fm le fi se re ca σ B H.size ) (cwV 0 hts gX6_turnLock_X6_begins rfl rfl rfl ⟨rfl, hd_X6_begins⟩ ⟨Nat.le_of_ble_eq_true rfl, Nat.le_of_ble_eq_true rfl⟩) ⟨hp.1, va_recv F.2.2.2.1.1 w.1 (q0 := 0) (ci := 6) rfl rfl, hp.2⟩ rfl rfl hl.1 rfl (lv_room (Nat.le_of_ble_eq_true rfl)) dX6_turnLock_1 ⟨Nat.le_of_ble_eq_true rfl, Nat.le_of_ble_eq_true rfl⟩)
    (fun _ H locs h_2 w => ?_)
  refine lv_aload_n hx hb dX6_turnLock_4 rfl (lv_at hl 0 rfl) ?_
  refine lv_aload_n hx hb dX6_turnLock_5 rfl (lv_at hl 0 rfl) ?_
  refine lv_iload_n hx hb dX6_turnLock_6 rfl (lv_at hl 1 rfl) ?_
  refine lv_bipush (v := nI 48) hx hb dX6_turnLock_7 (by decide) ?_
  refine kcalli (wc := [cM μ iK kn ln 0 sp bg fm le fi se re ca, xI g (μ 1) 288 (enc σ)]) (wr := [xI g (μ 2) 288 (enc σ), xI g (μ 5) 1152 (pst γ)]) (wn := fun (u : Unit) => [cM μ iK kn ln 0 sp bg fm le fi se re ca, xI g (μ 1) 288 (enc (lockS d σ)), xI g (μ 2) 288 (enc σ), xI g (μ 5) 1152 (pst γ)]) F w [0, 1] [2, 3] [2, 3, 0, 1] rfl rfl rfl (fun _ => rfl)
    (fun hp => va_runV (As := [.int (nI d), .int (nI 48)]) (rest := [.ref (μ 0)]) F.1 (kX6_goTurn_48 l g μ iK kn ln 0 sp bg fm le fi se re ca σ d H.size hd) (cwV 2 hts gX6_turnLock_X6_goTurn rfl rfl rfl ⟨rfl, hd_X6_goTurn⟩ ⟨Nat.le_of_ble_eq_true rfl, Nat.le_of_ble_eq_true rfl⟩) ⟨hp.1, va_recv F.2.2.2.1.1 w.1 (q0 := 0) (ci := 6) rfl rfl, hp.2⟩ rfl rfl hl.1 rfl (lv_room (Nat.le_of_ble_eq_true rfl)) dX6_turnLock_9 ⟨Nat.le_of_ble_eq_true rfl, Nat.le_of_ble_eq_true rfl⟩)
    (fun r_3 _ H locs h_4 w => ?_)
  subst h_4
  refine kcalli (wc := [cM μ iK kn ln 0 sp bg fm le fi se re ca, xI g (μ 2) 288 (enc σ), xI g (μ 5) 1152 (pst γ)]) (wr := [xI g (μ 1) 288 (enc (lockS d σ))]) (wn := fun (u : Unit) => [cM μ iK (pushN kn) ln 0 sp bg fm le fi se re ca, xI g (μ 1) 288 (enc (lockS d σ)), xI g (μ 2) 288 (enc σ), xI g (μ 5) 1152 (pst (pushG γ kn σ))]) F w [0, 2, 3] [1] [1, 0, 2, 3] rfl rfl rfl (fun _ => rfl)
    (fun hp => va_runV (As := [.int (bI (zL (lockS d σ) d))]) (rest := []) F.1 (kX6_ends_k l g μ iK kn ln 0 sp bg fm le fi se re ca σ γ (bI (zL (lockS d σ) d)) H.size (bI_ne _) hkn) (cwV 1 hts gX6_turnLock_X6_ends rfl rfl rfl ⟨rfl, hd_X6_ends⟩ ⟨Nat.le_of_ble_eq_true rfl, Nat.le_of_ble_eq_true rfl⟩) ⟨hp.1, va_recv F.2.2.2.1.1 w.1 (q0 := 0) (ci := 6) rfl rfl, hp.2⟩ rfl rfl hl.1 rfl (lv_room (Nat.le_of_ble_eq_true rfl)) dX6_turnLock_12 ⟨Nat.le_of_ble_eq_true rfl, Nat.le_of_ble_eq_true rfl⟩)
    (fun r_5 _ H locs h_6 w => ?_)
  subst h_6
  refine lv_iconst (v := nI 1) hx hb dX6_turnLock_15 (by decide) ?_
  refine lv_icmp_ne (tgt := 23) hx hb dX6_turnLock_16 (by decide) (fun h_7 => ?_) (fun h_7 => ?_)
  · have h_7 : (zL (lockS d σ) d) = false := bI_n1.mp h_7
    refine lv_iconst (v := nI 0) hx hb dX6_turnLock_23 (by decide) ?_
    subst hA
    subst hQ
    exact kretz F w () [0, 1, 2, 3] rfl rfl (by show nI 0 = bI ((zL (lockS d σ) d)); rw [h_7]; rfl) (by decide +kernel) (Nat.le_of_ble_eq_true rfl) (Nat.le_of_ble_eq_true rfl) dX6_turnLock_24
  · have h_7 : (zL (lockS d σ) d) = true := bI_1.mp h_7
    refine lv_iconst (v := nI 1) hx hb dX6_turnLock_19 (by decide) ?_
    refine lv_goto (tgt := 24) hx hb dX6_turnLock_20 (by decide) ?_
    subst hA
    subst hQ
    exact kretz F w () [0, 1, 2, 3] rfl rfl (by show nI 1 = bI ((zL (lockS d σ) d)); rw [h_7]; rfl) (by decide +kernel) (Nat.le_of_ble_eq_true rfl) (Nat.le_of_ble_eq_true rfl) dX6_turnLock_24
abbrev rmX6_turnLock_A : Room := { frames := 3, cells := 0, slots := 0, locals := 64 }
set_option maxHeartbeats 4000000 in
set_option maxRecDepth 100000 in
theorem kX6_turnLock_A (l : Launch) (g : GG) (μ : Nat → Nat) (iK : Bool) (kn : Nat) (ln : Nat) (th : Nat) (sp : Nat) (bg : Nat) (fm : Bool) (le : Int32) (fi : Nat) (se : Nat) (re : Nat) (ca : Nat) (σ : Sg) (B : Nat → Int32) (n : Int32) (sz : Nat) (hn : ¬ (1 ≤ n.toInt ∧ n.toInt ≤ 48)) : Met l yX6_turnLock wsX6_turnLock rmX6_turnLock_A (va_Pc [.ref (μ 0), .int n] (kPre g [cM μ iK kn ln th sp bg fm le fi se re ca, xI g (μ 1) 288 (enc σ), xI g (μ 2) 288 B] sz)) (va_Qi (fun (r : Int32) (u : Unit) => r = nI 0) (kB g (va_A [cM μ iK kn ln th sp bg fm le fi se re ca, xI g (μ 1) 288 (enc σ), xI g (μ 2) 288 B] sz) (fun u => [cM μ iK kn ln 1 sp bg fm le fi se re ca, xI g (μ 1) 288 (enc σ), xI g (μ 2) 288 (enc σ)])) (va_A [cM μ iK kn ln th sp bg fm le fi se re ca, xI g (μ 1) 288 (enc σ), xI g (μ 2) 288 B] sz)) 0 0 (va_A [cM μ iK kn ln th sp bg fm le fi se re ca, xI g (μ 1) 288 (enc σ), xI g (μ 2) 288 B] sz) := by
  refine kMet (cc := cX6_turnLock) (maxL := 2) (ret := (some .boolean)) (own := RX6) (by decide) rfl rfl (Nat.le_of_ble_eq_true rfl) ?_
  intro p e s m args below meth c ls Q H locs A F w hl hnm hA hQ
  have hx := F.1.1
  have hb := F.1.2.1
  have hts := F.1.2.2.2.2
  have hl : lv_has ls 2 [(0, .ref (μ 0)), (1, .int n)] := hl
  refine lv_aload_n hx hb dX6_turnLock_0 rfl (lv_at hl 0 rfl) ?_
  refine kcallv (wc := [cM μ iK kn ln th sp bg fm le fi se re ca, xI g (μ 1) 288 (enc σ), xI g (μ 2) 288 B]) (wr := []) (wn := fun (u : Unit) => [cM μ iK kn ln 0 sp bg fm le fi se re ca, xI g (μ 1) 288 (enc σ), xI g (μ 2) 288 (enc σ)]) F w [0, 1, 2] [] [0, 1, 2] rfl rfl rfl (fun _ => rfl)
    (fun hp => va_runV (As := []) (rest := []) F.1 (kX6_begins l g μ iK kn ln th sp bg fm le fi se re ca σ B H.size ) (cwV 0 hts gX6_turnLock_X6_begins rfl rfl rfl ⟨rfl, hd_X6_begins⟩ ⟨Nat.le_of_ble_eq_true rfl, Nat.le_of_ble_eq_true rfl⟩) ⟨hp.1, va_recv F.2.2.2.1.1 w.1 (q0 := 0) (ci := 6) rfl rfl, hp.2⟩ rfl rfl hl.1 rfl (lv_room (Nat.le_of_ble_eq_true rfl)) dX6_turnLock_1 ⟨Nat.le_of_ble_eq_true rfl, Nat.le_of_ble_eq_true rfl⟩)
    (fun _ H locs h_2 w => ?_)
  refine lv_aload_n hx hb dX6_turnLock_4 rfl (lv_at hl 0 rfl) ?_
  refine lv_aload_n hx hb dX6_turnLock_5 rfl (lv_at hl 0 rfl) ?_
  refine lv_iload_n hx hb dX6_turnLock_6 rfl (lv_at hl 1 rfl) ?_
  refine lv_bipush (v := nI 48) hx hb dX6_turnLock_7 (by decide) ?_
  refine kcalli (wc := [cM μ iK kn ln 0 sp bg fm le fi se re ca]) (wr := [xI g (μ 1) 288 (enc σ), xI g (μ 2) 288 (enc σ)]) (wn := fun (u : Unit) => [cM μ iK kn ln 0 sp bg fm le fi se re ca, xI g (μ 1) 288 (enc σ), xI g (μ 2) 288 (enc σ)]) F w [0] [1, 2] [2, 0, 1] rfl rfl rfl (fun _ => rfl)
    (fun hp => va_runV (As := [.int n, .int (nI 48)]) (rest := [.ref (μ 0)]) F.1 (kX6_goTurn_A l g μ iK kn ln 0 sp bg fm le fi se re ca n (nI 48) H.size hn) (cwV 2 hts gX6_turnLock_X6_goTurn rfl rfl rfl ⟨rfl, hd_X6_goTurn⟩ ⟨Nat.le_of_ble_eq_true rfl, Nat.le_of_ble_eq_true rfl⟩) ⟨hp.1, va_recv F.2.2.2.1.1 w.1 (q0 := 0) (ci := 6) rfl rfl, hp.2⟩ rfl rfl hl.1 rfl (lv_room (Nat.le_of_ble_eq_true rfl)) dX6_turnLock_9 ⟨Nat.le_of_ble_eq_true rfl, Nat.le_of_ble_eq_true rfl⟩)
    (fun r_3 _ H locs h_4 w => ?_)
  subst h_4
  refine kcalli (wc := [cM μ iK kn ln 0 sp bg fm le fi se re ca]) (wr := [xI g (μ 1) 288 (enc σ), xI g (μ 2) 288 (enc σ)]) (wn := fun (u : Unit) => [cM μ iK kn ln 1 sp bg fm le fi se re ca, xI g (μ 1) 288 (enc σ), xI g (μ 2) 288 (enc σ)]) F w [0] [1, 2] [2, 0, 1] rfl rfl rfl (fun _ => rfl)
    (fun hp => va_runV (As := [.int (-11)]) (rest := []) F.1 (kX6_ends_A l g μ iK kn ln 0 sp bg fm le fi se re ca H.size ) (cwV 1 hts gX6_turnLock_X6_ends rfl rfl rfl ⟨rfl, hd_X6_ends⟩ ⟨Nat.le_of_ble_eq_true rfl, Nat.le_of_ble_eq_true rfl⟩) ⟨hp.1, va_recv F.2.2.2.1.1 w.1 (q0 := 0) (ci := 6) rfl rfl, hp.2⟩ rfl rfl hl.1 rfl (lv_room (Nat.le_of_ble_eq_true rfl)) dX6_turnLock_12 ⟨Nat.le_of_ble_eq_true rfl, Nat.le_of_ble_eq_true rfl⟩)
    (fun r_5 _ H locs h_6 w => ?_)
  subst h_6
  refine lv_iconst (v := nI 1) hx hb dX6_turnLock_15 (by decide) ?_
  refine lv_icmp_ne (tgt := 23) hx hb dX6_turnLock_16 (by decide) (fun h_7 => ?_) (fun h_7 => ?_)
  · have h_7 : 0 ≠ 1 := (kc_ne_t (by omega) (by omega)).mp h_7
    refine lv_iconst (v := nI 0) hx hb dX6_turnLock_23 (by decide) ?_
    subst hA
    subst hQ
    exact kretz F w () [0, 1, 2] rfl rfl (rfl) (by decide +kernel) (Nat.le_of_ble_eq_true rfl) (Nat.le_of_ble_eq_true rfl) dX6_turnLock_24
  · have h_7 : 0 = 1 := (kc_ne_f (by omega) (by omega)).mp h_7
    omega
abbrev rmX6_turnSkip_k : Room := { frames := 3, cells := 0, slots := 0, locals := 66 }
set_option maxHeartbeats 4000000 in
set_option maxRecDepth 100000 in
theorem kX6_turnSkip_k (l : Launch) (g : GG) (μ : Nat → Nat) (iK : Bool) (kn : Nat) (ln : Nat) (th : Nat) (sp : Nat) (bg : Nat) (fm : Bool) (le : Int32) (fi : Nat) (se : Nat) (re : Nat) (ca : Nat) (σ : Sg) (B : Nat → Int32) (γ : Nat → Sg) (d : Nat) (sz : Nat) (hd : 1 ≤ d ∧ d ≤ 48) (hkn : kn ≤ 4) : Met l yX6_turnSkip wsX6_turnSkip rmX6_turnSkip_k (va_Pc [.ref (μ 0), .int (nI d)] (kPre g [cM μ iK kn ln th sp bg fm le fi se re ca, xI g (μ 1) 288 (enc σ), xI g (μ 2) 288 B, xI g (μ 5) 1152 (pst γ)] sz)) (va_Qi (fun (r : Int32) (u : Unit) => r = bI (zS (skipS d σ) d)) (kB g (va_A [cM μ iK kn ln th sp bg fm le fi se re ca, xI g (μ 1) 288 (enc σ), xI g (μ 2) 288 B, xI g (μ 5) 1152 (pst γ)] sz) (fun u => [cM μ iK (pushN kn) ln 0 sp bg fm le fi se re ca, xI g (μ 1) 288 (enc (skipS d σ)), xI g (μ 2) 288 (enc σ), xI g (μ 5) 1152 (pst (pushG γ kn σ))])) (va_A [cM μ iK kn ln th sp bg fm le fi se re ca, xI g (μ 1) 288 (enc σ), xI g (μ 2) 288 B, xI g (μ 5) 1152 (pst γ)] sz)) 0 0 (va_A [cM μ iK kn ln th sp bg fm le fi se re ca, xI g (μ 1) 288 (enc σ), xI g (μ 2) 288 B, xI g (μ 5) 1152 (pst γ)] sz) := by
  refine kMet (cc := cX6_turnSkip) (maxL := 2) (ret := (some .boolean)) (own := RX6) (by decide) rfl rfl (Nat.le_of_ble_eq_true rfl) ?_
  intro p e s m args below meth c ls Q H locs A F w hl hnm hA hQ
  have hx := F.1.1
  have hb := F.1.2.1
  have hts := F.1.2.2.2.2
  have hl : lv_has ls 2 [(0, .ref (μ 0)), (1, .int (nI d))] := hl
  refine lv_aload_n hx hb dX6_turnSkip_0 rfl (lv_at hl 0 rfl) ?_
  refine kcallv (wc := [cM μ iK kn ln th sp bg fm le fi se re ca, xI g (μ 1) 288 (enc σ), xI g (μ 2) 288 B]) (wr := [xI g (μ 5) 1152 (pst γ)]) (wn := fun (u : Unit) => [cM μ iK kn ln 0 sp bg fm le fi se re ca, xI g (μ 1) 288 (enc σ), xI g (μ 2) 288 (enc σ), xI g (μ 5) 1152 (pst γ)]) F w [0, 1, 2] [3] [1, 2, 3, 0] rfl rfl rfl (fun _ => rfl)
    (fun hp => va_runV (As := []) (rest := []) F.1 (kX6_begins l g μ iK kn ln th sp bg fm le fi se re ca σ B H.size ) (cwV 0 hts gX6_turnSkip_X6_begins rfl rfl rfl ⟨rfl, hd_X6_begins⟩ ⟨Nat.le_of_ble_eq_true rfl, Nat.le_of_ble_eq_true rfl⟩) ⟨hp.1, va_recv F.2.2.2.1.1 w.1 (q0 := 0) (ci := 6) rfl rfl, hp.2⟩ rfl rfl hl.1 rfl (lv_room (Nat.le_of_ble_eq_true rfl)) dX6_turnSkip_1 ⟨Nat.le_of_ble_eq_true rfl, Nat.le_of_ble_eq_true rfl⟩)
    (fun _ H locs h_2 w => ?_)
  refine lv_aload_n hx hb dX6_turnSkip_4 rfl (lv_at hl 0 rfl) ?_
  refine lv_aload_n hx hb dX6_turnSkip_5 rfl (lv_at hl 0 rfl) ?_
  refine lv_iload_n hx hb dX6_turnSkip_6 rfl (lv_at hl 1 rfl) ?_
  refine lv_sipush (v := nI 144) hx hb dX6_turnSkip_7 (by decide) ?_
  refine kcalli (wc := [cM μ iK kn ln 0 sp bg fm le fi se re ca, xI g (μ 1) 288 (enc σ)]) (wr := [xI g (μ 2) 288 (enc σ), xI g (μ 5) 1152 (pst γ)]) (wn := fun (u : Unit) => [cM μ iK kn ln 0 sp bg fm le fi se re ca, xI g (μ 1) 288 (enc (skipS d σ)), xI g (μ 2) 288 (enc σ), xI g (μ 5) 1152 (pst γ)]) F w [0, 1] [2, 3] [2, 3, 0, 1] rfl rfl rfl (fun _ => rfl)
    (fun hp => va_runV (As := [.int (nI d), .int (nI 144)]) (rest := [.ref (μ 0)]) F.1 (kX6_goTurn_144 l g μ iK kn ln 0 sp bg fm le fi se re ca σ d H.size hd) (cwV 2 hts gX6_turnSkip_X6_goTurn rfl rfl rfl ⟨rfl, hd_X6_goTurn⟩ ⟨Nat.le_of_ble_eq_true rfl, Nat.le_of_ble_eq_true rfl⟩) ⟨hp.1, va_recv F.2.2.2.1.1 w.1 (q0 := 0) (ci := 6) rfl rfl, hp.2⟩ rfl rfl hl.1 rfl (lv_room (Nat.le_of_ble_eq_true rfl)) dX6_turnSkip_10 ⟨Nat.le_of_ble_eq_true rfl, Nat.le_of_ble_eq_true rfl⟩)
    (fun r_3 _ H locs h_4 w => ?_)
  subst h_4
  refine kcalli (wc := [cM μ iK kn ln 0 sp bg fm le fi se re ca, xI g (μ 2) 288 (enc σ), xI g (μ 5) 1152 (pst γ)]) (wr := [xI g (μ 1) 288 (enc (skipS d σ))]) (wn := fun (u : Unit) => [cM μ iK (pushN kn) ln 0 sp bg fm le fi se re ca, xI g (μ 1) 288 (enc (skipS d σ)), xI g (μ 2) 288 (enc σ), xI g (μ 5) 1152 (pst (pushG γ kn σ))]) F w [0, 2, 3] [1] [1, 0, 2, 3] rfl rfl rfl (fun _ => rfl)
    (fun hp => va_runV (As := [.int (bI (zS (skipS d σ) d))]) (rest := []) F.1 (kX6_ends_k l g μ iK kn ln 0 sp bg fm le fi se re ca σ γ (bI (zS (skipS d σ) d)) H.size (bI_ne _) hkn) (cwV 1 hts gX6_turnSkip_X6_ends rfl rfl rfl ⟨rfl, hd_X6_ends⟩ ⟨Nat.le_of_ble_eq_true rfl, Nat.le_of_ble_eq_true rfl⟩) ⟨hp.1, va_recv F.2.2.2.1.1 w.1 (q0 := 0) (ci := 6) rfl rfl, hp.2⟩ rfl rfl hl.1 rfl (lv_room (Nat.le_of_ble_eq_true rfl)) dX6_turnSkip_13 ⟨Nat.le_of_ble_eq_true rfl, Nat.le_of_ble_eq_true rfl⟩)
    (fun r_5 _ H locs h_6 w => ?_)
  subst h_6
  refine lv_iconst (v := nI 1) hx hb dX6_turnSkip_16 (by decide) ?_
  refine lv_icmp_ne (tgt := 24) hx hb dX6_turnSkip_17 (by decide) (fun h_7 => ?_) (fun h_7 => ?_)
  · have h_7 : (zS (skipS d σ) d) = false := bI_n1.mp h_7
    refine lv_iconst (v := nI 0) hx hb dX6_turnSkip_24 (by decide) ?_
    subst hA
    subst hQ
    exact kretz F w () [0, 1, 2, 3] rfl rfl (by show nI 0 = bI ((zS (skipS d σ) d)); rw [h_7]; rfl) (by decide +kernel) (Nat.le_of_ble_eq_true rfl) (Nat.le_of_ble_eq_true rfl) dX6_turnSkip_25
  · have h_7 : (zS (skipS d σ) d) = true := bI_1.mp h_7
    refine lv_iconst (v := nI 1) hx hb dX6_turnSkip_20 (by decide) ?_
    refine lv_goto (tgt := 25) hx hb dX6_turnSkip_21 (by decide) ?_
    subst hA
    subst hQ
    exact kretz F w () [0, 1, 2, 3] rfl rfl (by show nI 1 = bI ((zS (skipS d σ) d)); rw [h_7]; rfl) (by decide +kernel) (Nat.le_of_ble_eq_true rfl) (Nat.le_of_ble_eq_true rfl) dX6_turnSkip_25
abbrev rmX6_turnSkip_A : Room := { frames := 3, cells := 0, slots := 0, locals := 64 }
set_option maxHeartbeats 4000000 in
set_option maxRecDepth 100000 in
theorem kX6_turnSkip_A (l : Launch) (g : GG) (μ : Nat → Nat) (iK : Bool) (kn : Nat) (ln : Nat) (th : Nat) (sp : Nat) (bg : Nat) (fm : Bool) (le : Int32) (fi : Nat) (se : Nat) (re : Nat) (ca : Nat) (σ : Sg) (B : Nat → Int32) (n : Int32) (sz : Nat) (hn : ¬ (1 ≤ n.toInt ∧ n.toInt ≤ 48)) : Met l yX6_turnSkip wsX6_turnSkip rmX6_turnSkip_A (va_Pc [.ref (μ 0), .int n] (kPre g [cM μ iK kn ln th sp bg fm le fi se re ca, xI g (μ 1) 288 (enc σ), xI g (μ 2) 288 B] sz)) (va_Qi (fun (r : Int32) (u : Unit) => r = nI 0) (kB g (va_A [cM μ iK kn ln th sp bg fm le fi se re ca, xI g (μ 1) 288 (enc σ), xI g (μ 2) 288 B] sz) (fun u => [cM μ iK kn ln 1 sp bg fm le fi se re ca, xI g (μ 1) 288 (enc σ), xI g (μ 2) 288 (enc σ)])) (va_A [cM μ iK kn ln th sp bg fm le fi se re ca, xI g (μ 1) 288 (enc σ), xI g (μ 2) 288 B] sz)) 0 0 (va_A [cM μ iK kn ln th sp bg fm le fi se re ca, xI g (μ 1) 288 (enc σ), xI g (μ 2) 288 B] sz) := by
  refine kMet (cc := cX6_turnSkip) (maxL := 2) (ret := (some .boolean)) (own := RX6) (by decide) rfl rfl (Nat.le_of_ble_eq_true rfl) ?_
  intro p e s m args below meth c ls Q H locs A F w hl hnm hA hQ
  have hx := F.1.1
  have hb := F.1.2.1
  have hts := F.1.2.2.2.2
  have hl : lv_has ls 2 [(0, .ref (μ 0)), (1, .int n)] := hl
  refine lv_aload_n hx hb dX6_turnSkip_0 rfl (lv_at hl 0 rfl) ?_
  refine kcallv (wc := [cM μ iK kn ln th sp bg fm le fi se re ca, xI g (μ 1) 288 (enc σ), xI g (μ 2) 288 B]) (wr := []) (wn := fun (u : Unit) => [cM μ iK kn ln 0 sp bg fm le fi se re ca, xI g (μ 1) 288 (enc σ), xI g (μ 2) 288 (enc σ)]) F w [0, 1, 2] [] [0, 1, 2] rfl rfl rfl (fun _ => rfl)
    (fun hp => va_runV (As := []) (rest := []) F.1 (kX6_begins l g μ iK kn ln th sp bg fm le fi se re ca σ B H.size ) (cwV 0 hts gX6_turnSkip_X6_begins rfl rfl rfl ⟨rfl, hd_X6_begins⟩ ⟨Nat.le_of_ble_eq_true rfl, Nat.le_of_ble_eq_true rfl⟩) ⟨hp.1, va_recv F.2.2.2.1.1 w.1 (q0 := 0) (ci := 6) rfl rfl, hp.2⟩ rfl rfl hl.1 rfl (lv_room (Nat.le_of_ble_eq_true rfl)) dX6_turnSkip_1 ⟨Nat.le_of_ble_eq_true rfl, Nat.le_of_ble_eq_true rfl⟩)
    (fun _ H locs h_2 w => ?_)
  refine lv_aload_n hx hb dX6_turnSkip_4 rfl (lv_at hl 0 rfl) ?_
  refine lv_aload_n hx hb dX6_turnSkip_5 rfl (lv_at hl 0 rfl) ?_
  refine lv_iload_n hx hb dX6_turnSkip_6 rfl (lv_at hl 1 rfl) ?_
  refine lv_sipush (v := nI 144) hx hb dX6_turnSkip_7 (by decide) ?_
  refine kcalli (wc := [cM μ iK kn ln 0 sp bg fm le fi se re ca]) (wr := [xI g (μ 1) 288 (enc σ), xI g (μ 2) 288 (enc σ)]) (wn := fun (u : Unit) => [cM μ iK kn ln 0 sp bg fm le fi se re ca, xI g (μ 1) 288 (enc σ), xI g (μ 2) 288 (enc σ)]) F w [0] [1, 2] [2, 0, 1] rfl rfl rfl (fun _ => rfl)
    (fun hp => va_runV (As := [.int n, .int (nI 144)]) (rest := [.ref (μ 0)]) F.1 (kX6_goTurn_A l g μ iK kn ln 0 sp bg fm le fi se re ca n (nI 144) H.size hn) (cwV 2 hts gX6_turnSkip_X6_goTurn rfl rfl rfl ⟨rfl, hd_X6_goTurn⟩ ⟨Nat.le_of_ble_eq_true rfl, Nat.le_of_ble_eq_true rfl⟩) ⟨hp.1, va_recv F.2.2.2.1.1 w.1 (q0 := 0) (ci := 6) rfl rfl, hp.2⟩ rfl rfl hl.1 rfl (lv_room (Nat.le_of_ble_eq_true rfl)) dX6_turnSkip_10 ⟨Nat.le_of_ble_eq_true rfl, Nat.le_of_ble_eq_true rfl⟩)
    (fun r_3 _ H locs h_4 w => ?_)
  subst h_4
  refine kcalli (wc := [cM μ iK kn ln 0 sp bg fm le fi se re ca]) (wr := [xI g (μ 1) 288 (enc σ), xI g (μ 2) 288 (enc σ)]) (wn := fun (u : Unit) => [cM μ iK kn ln 1 sp bg fm le fi se re ca, xI g (μ 1) 288 (enc σ), xI g (μ 2) 288 (enc σ)]) F w [0] [1, 2] [2, 0, 1] rfl rfl rfl (fun _ => rfl)
    (fun hp => va_runV (As := [.int (-11)]) (rest := []) F.1 (kX6_ends_A l g μ iK kn ln 0 sp bg fm le fi se re ca H.size ) (cwV 1 hts gX6_turnSkip_X6_ends rfl rfl rfl ⟨rfl, hd_X6_ends⟩ ⟨Nat.le_of_ble_eq_true rfl, Nat.le_of_ble_eq_true rfl⟩) ⟨hp.1, va_recv F.2.2.2.1.1 w.1 (q0 := 0) (ci := 6) rfl rfl, hp.2⟩ rfl rfl hl.1 rfl (lv_room (Nat.le_of_ble_eq_true rfl)) dX6_turnSkip_13 ⟨Nat.le_of_ble_eq_true rfl, Nat.le_of_ble_eq_true rfl⟩)
    (fun r_5 _ H locs h_6 w => ?_)
  subst h_6
  refine lv_iconst (v := nI 1) hx hb dX6_turnSkip_16 (by decide) ?_
  refine lv_icmp_ne (tgt := 24) hx hb dX6_turnSkip_17 (by decide) (fun h_7 => ?_) (fun h_7 => ?_)
  · have h_7 : 0 ≠ 1 := (kc_ne_t (by omega) (by omega)).mp h_7
    refine lv_iconst (v := nI 0) hx hb dX6_turnSkip_24 (by decide) ?_
    subst hA
    subst hQ
    exact kretz F w () [0, 1, 2] rfl rfl (rfl) (by decide +kernel) (Nat.le_of_ble_eq_true rfl) (Nat.le_of_ble_eq_true rfl) dX6_turnSkip_25
  · have h_7 : 0 = 1 := (kc_ne_f (by omega) (by omega)).mp h_7
    omega
theorem hd_X6_goStore : yX6_goStore.cls ≠ "java/lang/invoke/MethodHandle" ∧ yX6_goStore.cls ≠ "java/lang/invoke/VarHandle" ∧ (parseMethodDescriptor yX6_goStore.desc).map (fun d => d.parameters.length) = some 2 := by decide +kernel
abbrev rmX6_store_k : Room := { frames := 3, cells := 0, slots := 0, locals := 67 }
set_option maxHeartbeats 4000000 in
set_option maxRecDepth 100000 in
theorem kX6_store_k (l : Launch) (g : GG) (μ : Nat → Nat) (iK : Bool) (kn : Nat) (ln : Nat) (th : Nat) (sp : Nat) (bg : Nat) (fm : Bool) (le : Int32) (fi : Nat) (se : Nat) (re : Nat) (ca : Nat) (σ : Sg) (B : Nat → Int32) (γ : Nat → Sg) (d : Nat) (kd : Bool) (sz : Nat) (hd : 1 ≤ d ∧ d ≤ 48) (hr9 : reasZ σ d kd = 0) (hkn : kn ≤ 4) : Met l yX6_store wsX6_store rmX6_store_k (va_Pc [.ref (μ 0), .int (nI d), .int (bI kd)] (kPre g [cM μ iK kn ln th sp bg fm le fi se re ca, xI g (μ 1) 288 (enc σ), xI g (μ 2) 288 B, xI g (μ 5) 1152 (pst γ)] sz)) (va_Qi (fun (r : Int32) (u : Unit) => r = nI (zcnt (kindP (putS d kd σ) kd) 48)) (kB g (va_A [cM μ iK kn ln th sp bg fm le fi se re ca, xI g (μ 1) 288 (enc σ), xI g (μ 2) 288 B, xI g (μ 5) 1152 (pst γ)] sz) (fun u => [cM μ iK (pushN kn) ln 0 sp bg fm le fi se re ca, xI g (μ 1) 288 (enc (putS d kd σ)), xI g (μ 2) 288 (enc σ), xI g (μ 5) 1152 (pst (pushG γ kn σ))])) (va_A [cM μ iK kn ln th sp bg fm le fi se re ca, xI g (μ 1) 288 (enc σ), xI g (μ 2) 288 B, xI g (μ 5) 1152 (pst γ)] sz)) 0 0 (va_A [cM μ iK kn ln th sp bg fm le fi se re ca, xI g (μ 1) 288 (enc σ), xI g (μ 2) 288 B, xI g (μ 5) 1152 (pst γ)] sz) := by
  refine kMet (cc := cX6_store) (maxL := 3) (ret := (some .int)) (own := RX6) (by decide) rfl rfl (Nat.le_of_ble_eq_true rfl) ?_
  intro p e s m args below meth c ls Q H locs A F w hl hnm hA hQ
  have hx := F.1.1
  have hb := F.1.2.1
  have hts := F.1.2.2.2.2
  have hl : lv_has ls 3 [(0, .ref (μ 0)), (1, .int (nI d)), (2, .int (bI kd))] := hl
  refine lv_aload_n hx hb dX6_store_0 rfl (lv_at hl 0 rfl) ?_
  refine kcallv (wc := [cM μ iK kn ln th sp bg fm le fi se re ca, xI g (μ 1) 288 (enc σ), xI g (μ 2) 288 B]) (wr := [xI g (μ 5) 1152 (pst γ)]) (wn := fun (u : Unit) => [cM μ iK kn ln 0 sp bg fm le fi se re ca, xI g (μ 1) 288 (enc σ), xI g (μ 2) 288 (enc σ), xI g (μ 5) 1152 (pst γ)]) F w [0, 1, 2] [3] [1, 2, 3, 0] rfl rfl rfl (fun _ => rfl)
    (fun hp => va_runV (As := []) (rest := []) F.1 (kX6_begins l g μ iK kn ln th sp bg fm le fi se re ca σ B H.size ) (cwV 0 hts gX6_store_X6_begins rfl rfl rfl ⟨rfl, hd_X6_begins⟩ ⟨Nat.le_of_ble_eq_true rfl, Nat.le_of_ble_eq_true rfl⟩) ⟨hp.1, va_recv F.2.2.2.1.1 w.1 (q0 := 0) (ci := 6) rfl rfl, hp.2⟩ rfl rfl hl.1 rfl (lv_room (Nat.le_of_ble_eq_true rfl)) dX6_store_1 ⟨Nat.le_of_ble_eq_true rfl, Nat.le_of_ble_eq_true rfl⟩)
    (fun _ H locs h_2 w => ?_)
  refine lv_aload_n hx hb dX6_store_4 rfl (lv_at hl 0 rfl) ?_
  refine lv_aload_n hx hb dX6_store_5 rfl (lv_at hl 0 rfl) ?_
  refine lv_iload_n hx hb dX6_store_6 rfl (lv_at hl 1 rfl) ?_
  refine lv_iload_n hx hb dX6_store_7 rfl (lv_at hl 2 rfl) ?_
  refine kcalli (wc := [cM μ iK kn ln 0 sp bg fm le fi se re ca, xI g (μ 1) 288 (enc σ)]) (wr := [xI g (μ 2) 288 (enc σ), xI g (μ 5) 1152 (pst γ)]) (wn := fun (u : Unit) => [cM μ iK kn ln 0 sp bg fm le fi se re ca, xI g (μ 1) 288 (enc (putS d kd σ)), xI g (μ 2) 288 (enc σ), xI g (μ 5) 1152 (pst γ)]) F w [0, 1] [2, 3] [2, 3, 0, 1] rfl rfl rfl (fun _ => rfl)
    (fun hp => va_runV (As := [.int (nI d), .int (bI kd)]) (rest := [.ref (μ 0)]) F.1 (kX6_goStore_k l g μ iK kn ln 0 sp bg fm le fi se re ca σ d kd H.size hd hr9) (cwV 2 hts gX6_store_X6_goStore rfl rfl rfl ⟨rfl, hd_X6_goStore⟩ ⟨Nat.le_of_ble_eq_true rfl, Nat.le_of_ble_eq_true rfl⟩) ⟨hp.1, va_recv F.2.2.2.1.1 w.1 (q0 := 0) (ci := 6) rfl rfl, hp.2⟩ rfl rfl hl.1 rfl (lv_room (Nat.le_of_ble_eq_true rfl)) dX6_store_8 ⟨Nat.le_of_ble_eq_true rfl, Nat.le_of_ble_eq_true rfl⟩)
    (fun r_3 _ H locs h_4 w => ?_)
  subst h_4
  refine kcalli (wc := [cM μ iK kn ln 0 sp bg fm le fi se re ca, xI g (μ 2) 288 (enc σ), xI g (μ 5) 1152 (pst γ)]) (wr := [xI g (μ 1) 288 (enc (putS d kd σ))]) (wn := fun (u : Unit) => [cM μ iK (pushN kn) ln 0 sp bg fm le fi se re ca, xI g (μ 1) 288 (enc (putS d kd σ)), xI g (μ 2) 288 (enc σ), xI g (μ 5) 1152 (pst (pushG γ kn σ))]) F w [0, 2, 3] [1] [1, 0, 2, 3] rfl rfl rfl (fun _ => rfl)
    (fun hp => va_runV (As := [.int (nI (zcnt (kindP (putS d kd σ) kd) 48))]) (rest := []) F.1 (kX6_ends_k l g μ iK kn ln 0 sp bg fm le fi se re ca σ γ (nI (zcnt (kindP (putS d kd σ) kd) 48)) H.size (cnt_ne _) hkn) (cwV 1 hts gX6_store_X6_ends rfl rfl rfl ⟨rfl, hd_X6_ends⟩ ⟨Nat.le_of_ble_eq_true rfl, Nat.le_of_ble_eq_true rfl⟩) ⟨hp.1, va_recv F.2.2.2.1.1 w.1 (q0 := 0) (ci := 6) rfl rfl, hp.2⟩ rfl rfl hl.1 rfl (lv_room (Nat.le_of_ble_eq_true rfl)) dX6_store_11 ⟨Nat.le_of_ble_eq_true rfl, Nat.le_of_ble_eq_true rfl⟩)
    (fun r_5 _ H locs h_6 w => ?_)
  subst h_6
  subst hA
  subst hQ
  exact kreti F w () [0, 1, 2, 3] rfl rfl (rfl) (Nat.le_of_ble_eq_true rfl) (Nat.le_of_ble_eq_true rfl) dX6_store_14
abbrev rmX6_store_A : Room := { frames := 3, cells := 0, slots := 0, locals := 64 }
set_option maxHeartbeats 4000000 in
set_option maxRecDepth 100000 in
theorem kX6_store_A (l : Launch) (g : GG) (μ : Nat → Nat) (iK : Bool) (kn : Nat) (ln : Nat) (th : Nat) (sp : Nat) (bg : Nat) (fm : Bool) (le : Int32) (fi : Nat) (se : Nat) (re : Nat) (ca : Nat) (σ : Sg) (B : Nat → Int32) (n : Int32) (k : Int32) (sz : Nat) (hn : ¬ ((1 ≤ n.toInt ∧ n.toInt ≤ 48) ∧ (k = 0 ∨ k = 1))) : Met l yX6_store wsX6_store rmX6_store_A (va_Pc [.ref (μ 0), .int n, .int k] (kPre g [cM μ iK kn ln th sp bg fm le fi se re ca, xI g (μ 1) 288 (enc σ), xI g (μ 2) 288 B] sz)) (va_Qi (fun (r : Int32) (u : Unit) => r = nI 0) (kB g (va_A [cM μ iK kn ln th sp bg fm le fi se re ca, xI g (μ 1) 288 (enc σ), xI g (μ 2) 288 B] sz) (fun u => [cM μ iK kn ln 1 sp bg fm le fi se re ca, xI g (μ 1) 288 (enc σ), xI g (μ 2) 288 (enc σ)])) (va_A [cM μ iK kn ln th sp bg fm le fi se re ca, xI g (μ 1) 288 (enc σ), xI g (μ 2) 288 B] sz)) 0 0 (va_A [cM μ iK kn ln th sp bg fm le fi se re ca, xI g (μ 1) 288 (enc σ), xI g (μ 2) 288 B] sz) := by
  refine kMet (cc := cX6_store) (maxL := 3) (ret := (some .int)) (own := RX6) (by decide) rfl rfl (Nat.le_of_ble_eq_true rfl) ?_
  intro p e s m args below meth c ls Q H locs A F w hl hnm hA hQ
  have hx := F.1.1
  have hb := F.1.2.1
  have hts := F.1.2.2.2.2
  have hl : lv_has ls 3 [(0, .ref (μ 0)), (1, .int n), (2, .int k)] := hl
  refine lv_aload_n hx hb dX6_store_0 rfl (lv_at hl 0 rfl) ?_
  refine kcallv (wc := [cM μ iK kn ln th sp bg fm le fi se re ca, xI g (μ 1) 288 (enc σ), xI g (μ 2) 288 B]) (wr := []) (wn := fun (u : Unit) => [cM μ iK kn ln 0 sp bg fm le fi se re ca, xI g (μ 1) 288 (enc σ), xI g (μ 2) 288 (enc σ)]) F w [0, 1, 2] [] [0, 1, 2] rfl rfl rfl (fun _ => rfl)
    (fun hp => va_runV (As := []) (rest := []) F.1 (kX6_begins l g μ iK kn ln th sp bg fm le fi se re ca σ B H.size ) (cwV 0 hts gX6_store_X6_begins rfl rfl rfl ⟨rfl, hd_X6_begins⟩ ⟨Nat.le_of_ble_eq_true rfl, Nat.le_of_ble_eq_true rfl⟩) ⟨hp.1, va_recv F.2.2.2.1.1 w.1 (q0 := 0) (ci := 6) rfl rfl, hp.2⟩ rfl rfl hl.1 rfl (lv_room (Nat.le_of_ble_eq_true rfl)) dX6_store_1 ⟨Nat.le_of_ble_eq_true rfl, Nat.le_of_ble_eq_true rfl⟩)
    (fun _ H locs h_2 w => ?_)
  refine lv_aload_n hx hb dX6_store_4 rfl (lv_at hl 0 rfl) ?_
  refine lv_aload_n hx hb dX6_store_5 rfl (lv_at hl 0 rfl) ?_
  refine lv_iload_n hx hb dX6_store_6 rfl (lv_at hl 1 rfl) ?_
  refine lv_iload_n hx hb dX6_store_7 rfl (lv_at hl 2 rfl) ?_
  refine kcalli (wc := [cM μ iK kn ln 0 sp bg fm le fi se re ca]) (wr := [xI g (μ 1) 288 (enc σ), xI g (μ 2) 288 (enc σ)]) (wn := fun (u : Unit) => [cM μ iK kn ln 0 sp bg fm le fi se re ca, xI g (μ 1) 288 (enc σ), xI g (μ 2) 288 (enc σ)]) F w [0] [1, 2] [2, 0, 1] rfl rfl rfl (fun _ => rfl)
    (fun hp => va_runV (As := [.int n, .int k]) (rest := [.ref (μ 0)]) F.1 (kX6_goStore_A l g μ iK kn ln 0 sp bg fm le fi se re ca n k H.size hn) (cwV 2 hts gX6_store_X6_goStore rfl rfl rfl ⟨rfl, hd_X6_goStore⟩ ⟨Nat.le_of_ble_eq_true rfl, Nat.le_of_ble_eq_true rfl⟩) ⟨hp.1, va_recv F.2.2.2.1.1 w.1 (q0 := 0) (ci := 6) rfl rfl, hp.2⟩ rfl rfl hl.1 rfl (lv_room (Nat.le_of_ble_eq_true rfl)) dX6_store_8 ⟨Nat.le_of_ble_eq_true rfl, Nat.le_of_ble_eq_true rfl⟩)
    (fun r_3 _ H locs h_4 w => ?_)
  subst h_4
  refine kcalli (wc := [cM μ iK kn ln 0 sp bg fm le fi se re ca]) (wr := [xI g (μ 1) 288 (enc σ), xI g (μ 2) 288 (enc σ)]) (wn := fun (u : Unit) => [cM μ iK kn ln 1 sp bg fm le fi se re ca, xI g (μ 1) 288 (enc σ), xI g (μ 2) 288 (enc σ)]) F w [0] [1, 2] [2, 0, 1] rfl rfl rfl (fun _ => rfl)
    (fun hp => va_runV (As := [.int (-11)]) (rest := []) F.1 (kX6_ends_A l g μ iK kn ln 0 sp bg fm le fi se re ca H.size ) (cwV 1 hts gX6_store_X6_ends rfl rfl rfl ⟨rfl, hd_X6_ends⟩ ⟨Nat.le_of_ble_eq_true rfl, Nat.le_of_ble_eq_true rfl⟩) ⟨hp.1, va_recv F.2.2.2.1.1 w.1 (q0 := 0) (ci := 6) rfl rfl, hp.2⟩ rfl rfl hl.1 rfl (lv_room (Nat.le_of_ble_eq_true rfl)) dX6_store_11 ⟨Nat.le_of_ble_eq_true rfl, Nat.le_of_ble_eq_true rfl⟩)
    (fun r_5 _ H locs h_6 w => ?_)
  subst h_6
  subst hA
  subst hQ
  exact kreti F w () [0, 1, 2] rfl rfl (rfl) (Nat.le_of_ble_eq_true rfl) (Nat.le_of_ble_eq_true rfl) dX6_store_14
abbrev rmX6_store_S : Room := { frames := 3, cells := 0, slots := 0, locals := 67 }
set_option maxHeartbeats 4000000 in
set_option maxRecDepth 100000 in
theorem kX6_store_S (l : Launch) (g : GG) (μ : Nat → Nat) (iK : Bool) (kn : Nat) (ln : Nat) (th : Nat) (sp : Nat) (bg : Nat) (fm : Bool) (le : Int32) (fi : Nat) (se : Nat) (re : Nat) (ca : Nat) (σ : Sg) (B : Nat → Int32) (d : Nat) (kd : Bool) (sz : Nat) (hd : 1 ≤ d ∧ d ≤ 48) (hr9 : reasZ σ d kd ≠ 0) : Met l yX6_store wsX6_store rmX6_store_S (va_Pc [.ref (μ 0), .int (nI d), .int (bI kd)] (kPre g [cM μ iK kn ln th sp bg fm le fi se re ca, xI g (μ 1) 288 (enc σ), xI g (μ 2) 288 B] sz)) (va_Qi (fun (r : Int32) (u : Unit) => r = nI 0) (kB g (va_A [cM μ iK kn ln th sp bg fm le fi se re ca, xI g (μ 1) 288 (enc σ), xI g (μ 2) 288 B] sz) (fun u => [cM μ iK kn ln 2 sp bg fm le fi se re ca, xI g (μ 1) 288 (enc σ), xI g (μ 2) 288 (enc σ)])) (va_A [cM μ iK kn ln th sp bg fm le fi se re ca, xI g (μ 1) 288 (enc σ), xI g (μ 2) 288 B] sz)) 0 0 (va_A [cM μ iK kn ln th sp bg fm le fi se re ca, xI g (μ 1) 288 (enc σ), xI g (μ 2) 288 B] sz) := by
  refine kMet (cc := cX6_store) (maxL := 3) (ret := (some .int)) (own := RX6) (by decide) rfl rfl (Nat.le_of_ble_eq_true rfl) ?_
  intro p e s m args below meth c ls Q H locs A F w hl hnm hA hQ
  have hx := F.1.1
  have hb := F.1.2.1
  have hts := F.1.2.2.2.2
  have hl : lv_has ls 3 [(0, .ref (μ 0)), (1, .int (nI d)), (2, .int (bI kd))] := hl
  refine lv_aload_n hx hb dX6_store_0 rfl (lv_at hl 0 rfl) ?_
  refine kcallv (wc := [cM μ iK kn ln th sp bg fm le fi se re ca, xI g (μ 1) 288 (enc σ), xI g (μ 2) 288 B]) (wr := []) (wn := fun (u : Unit) => [cM μ iK kn ln 0 sp bg fm le fi se re ca, xI g (μ 1) 288 (enc σ), xI g (μ 2) 288 (enc σ)]) F w [0, 1, 2] [] [0, 1, 2] rfl rfl rfl (fun _ => rfl)
    (fun hp => va_runV (As := []) (rest := []) F.1 (kX6_begins l g μ iK kn ln th sp bg fm le fi se re ca σ B H.size ) (cwV 0 hts gX6_store_X6_begins rfl rfl rfl ⟨rfl, hd_X6_begins⟩ ⟨Nat.le_of_ble_eq_true rfl, Nat.le_of_ble_eq_true rfl⟩) ⟨hp.1, va_recv F.2.2.2.1.1 w.1 (q0 := 0) (ci := 6) rfl rfl, hp.2⟩ rfl rfl hl.1 rfl (lv_room (Nat.le_of_ble_eq_true rfl)) dX6_store_1 ⟨Nat.le_of_ble_eq_true rfl, Nat.le_of_ble_eq_true rfl⟩)
    (fun _ H locs h_2 w => ?_)
  refine lv_aload_n hx hb dX6_store_4 rfl (lv_at hl 0 rfl) ?_
  refine lv_aload_n hx hb dX6_store_5 rfl (lv_at hl 0 rfl) ?_
  refine lv_iload_n hx hb dX6_store_6 rfl (lv_at hl 1 rfl) ?_
  refine lv_iload_n hx hb dX6_store_7 rfl (lv_at hl 2 rfl) ?_
  refine kcalli (wc := [cM μ iK kn ln 0 sp bg fm le fi se re ca, xI g (μ 1) 288 (enc σ)]) (wr := [xI g (μ 2) 288 (enc σ)]) (wn := fun (u : Unit) => [cM μ iK kn ln 0 sp bg fm le fi se re ca, xI g (μ 1) 288 (enc σ), xI g (μ 2) 288 (enc σ)]) F w [0, 1] [2] [1, 2, 0] rfl rfl rfl (fun _ => rfl)
    (fun hp => va_runV (As := [.int (nI d), .int (bI kd)]) (rest := [.ref (μ 0)]) F.1 (kX6_goStore_S l g μ iK kn ln 0 sp bg fm le fi se re ca σ d kd H.size hd hr9) (cwV 2 hts gX6_store_X6_goStore rfl rfl rfl ⟨rfl, hd_X6_goStore⟩ ⟨Nat.le_of_ble_eq_true rfl, Nat.le_of_ble_eq_true rfl⟩) ⟨hp.1, va_recv F.2.2.2.1.1 w.1 (q0 := 0) (ci := 6) rfl rfl, hp.2⟩ rfl rfl hl.1 rfl (lv_room (Nat.le_of_ble_eq_true rfl)) dX6_store_8 ⟨Nat.le_of_ble_eq_true rfl, Nat.le_of_ble_eq_true rfl⟩)
    (fun r_3 _ H locs h_4 w => ?_)
  subst h_4
  refine kcalli (wc := [cM μ iK kn ln 0 sp bg fm le fi se re ca]) (wr := [xI g (μ 1) 288 (enc σ), xI g (μ 2) 288 (enc σ)]) (wn := fun (u : Unit) => [cM μ iK kn ln 2 sp bg fm le fi se re ca, xI g (μ 1) 288 (enc σ), xI g (μ 2) 288 (enc σ)]) F w [0] [1, 2] [2, 0, 1] rfl rfl rfl (fun _ => rfl)
    (fun hp => va_runV (As := [.int (-12)]) (rest := []) F.1 (kX6_ends_S l g μ iK kn ln 0 sp bg fm le fi se re ca H.size ) (cwV 1 hts gX6_store_X6_ends rfl rfl rfl ⟨rfl, hd_X6_ends⟩ ⟨Nat.le_of_ble_eq_true rfl, Nat.le_of_ble_eq_true rfl⟩) ⟨hp.1, va_recv F.2.2.2.1.1 w.1 (q0 := 0) (ci := 6) rfl rfl, hp.2⟩ rfl rfl hl.1 rfl (lv_room (Nat.le_of_ble_eq_true rfl)) dX6_store_11 ⟨Nat.le_of_ble_eq_true rfl, Nat.le_of_ble_eq_true rfl⟩)
    (fun r_5 _ H locs h_6 w => ?_)
  subst h_6
  subst hA
  subst hQ
  exact kreti F w () [0, 1, 2] rfl rfl (rfl) (Nat.le_of_ble_eq_true rfl) (Nat.le_of_ble_eq_true rfl) dX6_store_14
theorem hd_X6_goOut : yX6_goOut.cls ≠ "java/lang/invoke/MethodHandle" ∧ yX6_goOut.cls ≠ "java/lang/invoke/VarHandle" ∧ (parseMethodDescriptor yX6_goOut.desc).map (fun d => d.parameters.length) = some 1 := by decide +kernel
abbrev rmX6_takeOut_k : Room := { frames := 3, cells := 0, slots := 0, locals := 66 }
set_option maxHeartbeats 4000000 in
set_option maxRecDepth 100000 in
theorem kX6_takeOut_k (l : Launch) (g : GG) (μ : Nat → Nat) (iK : Bool) (kn : Nat) (ln : Nat) (th : Nat) (sp : Nat) (bg : Nat) (fm : Bool) (le : Int32) (fi : Nat) (se : Nat) (re : Nat) (ca : Nat) (σ : Sg) (B : Nat → Int32) (γ : Nat → Sg) (d : Nat) (sz : Nat) (hd : 1 ≤ d ∧ d ≤ 48) (hs9 : zO σ d = true ∧ zF σ d = true) (hkn : kn ≤ 4) : Met l yX6_takeOut wsX6_takeOut rmX6_takeOut_k (va_Pc [.ref (μ 0), .int (nI d)] (kPre g [cM μ iK kn ln th sp bg fm le fi se re ca, xI g (μ 1) 288 (enc σ), xI g (μ 2) 288 B, xI g (μ 5) 1152 (pst γ)] sz)) (va_Qi (fun (r : Int32) (u : Unit) => r = bI (zH σ d)) (kB g (va_A [cM μ iK kn ln th sp bg fm le fi se re ca, xI g (μ 1) 288 (enc σ), xI g (μ 2) 288 B, xI g (μ 5) 1152 (pst γ)] sz) (fun u => [cM μ iK (pushN kn) ln 0 sp bg fm le fi se re ca, xI g (μ 1) 288 (enc (clrS d σ)), xI g (μ 2) 288 (enc σ), xI g (μ 5) 1152 (pst (pushG γ kn σ))])) (va_A [cM μ iK kn ln th sp bg fm le fi se re ca, xI g (μ 1) 288 (enc σ), xI g (μ 2) 288 B, xI g (μ 5) 1152 (pst γ)] sz)) 0 0 (va_A [cM μ iK kn ln th sp bg fm le fi se re ca, xI g (μ 1) 288 (enc σ), xI g (μ 2) 288 B, xI g (μ 5) 1152 (pst γ)] sz) := by
  refine kMet (cc := cX6_takeOut) (maxL := 2) (ret := (some .int)) (own := RX6) (by decide) rfl rfl (Nat.le_of_ble_eq_true rfl) ?_
  intro p e s m args below meth c ls Q H locs A F w hl hnm hA hQ
  have hx := F.1.1
  have hb := F.1.2.1
  have hts := F.1.2.2.2.2
  have hl : lv_has ls 2 [(0, .ref (μ 0)), (1, .int (nI d))] := hl
  refine lv_aload_n hx hb dX6_takeOut_0 rfl (lv_at hl 0 rfl) ?_
  refine kcallv (wc := [cM μ iK kn ln th sp bg fm le fi se re ca, xI g (μ 1) 288 (enc σ), xI g (μ 2) 288 B]) (wr := [xI g (μ 5) 1152 (pst γ)]) (wn := fun (u : Unit) => [cM μ iK kn ln 0 sp bg fm le fi se re ca, xI g (μ 1) 288 (enc σ), xI g (μ 2) 288 (enc σ), xI g (μ 5) 1152 (pst γ)]) F w [0, 1, 2] [3] [1, 2, 3, 0] rfl rfl rfl (fun _ => rfl)
    (fun hp => va_runV (As := []) (rest := []) F.1 (kX6_begins l g μ iK kn ln th sp bg fm le fi se re ca σ B H.size ) (cwV 0 hts gX6_takeOut_X6_begins rfl rfl rfl ⟨rfl, hd_X6_begins⟩ ⟨Nat.le_of_ble_eq_true rfl, Nat.le_of_ble_eq_true rfl⟩) ⟨hp.1, va_recv F.2.2.2.1.1 w.1 (q0 := 0) (ci := 6) rfl rfl, hp.2⟩ rfl rfl hl.1 rfl (lv_room (Nat.le_of_ble_eq_true rfl)) dX6_takeOut_1 ⟨Nat.le_of_ble_eq_true rfl, Nat.le_of_ble_eq_true rfl⟩)
    (fun _ H locs h_2 w => ?_)
  refine lv_aload_n hx hb dX6_takeOut_4 rfl (lv_at hl 0 rfl) ?_
  refine lv_aload_n hx hb dX6_takeOut_5 rfl (lv_at hl 0 rfl) ?_
  refine lv_iload_n hx hb dX6_takeOut_6 rfl (lv_at hl 1 rfl) ?_
  refine kcalli (wc := [cM μ iK kn ln 0 sp bg fm le fi se re ca, xI g (μ 1) 288 (enc σ)]) (wr := [xI g (μ 2) 288 (enc σ), xI g (μ 5) 1152 (pst γ)]) (wn := fun (u : Unit) => [cM μ iK kn ln 0 sp bg fm le fi se re ca, xI g (μ 1) 288 (enc (clrS d σ)), xI g (μ 2) 288 (enc σ), xI g (μ 5) 1152 (pst γ)]) F w [0, 1] [2, 3] [2, 3, 0, 1] rfl rfl rfl (fun _ => rfl)
    (fun hp => va_runV (As := [.int (nI d)]) (rest := [.ref (μ 0)]) F.1 (kX6_goOut_k l g μ iK kn ln 0 sp bg fm le fi se re ca σ d H.size hd hs9) (cwV 1 hts gX6_takeOut_X6_goOut rfl rfl rfl ⟨rfl, hd_X6_goOut⟩ ⟨Nat.le_of_ble_eq_true rfl, Nat.le_of_ble_eq_true rfl⟩) ⟨hp.1, va_recv F.2.2.2.1.1 w.1 (q0 := 0) (ci := 6) rfl rfl, hp.2⟩ rfl rfl hl.1 rfl (lv_room (Nat.le_of_ble_eq_true rfl)) dX6_takeOut_7 ⟨Nat.le_of_ble_eq_true rfl, Nat.le_of_ble_eq_true rfl⟩)
    (fun r_3 _ H locs h_4 w => ?_)
  subst h_4
  refine kcalli (wc := [cM μ iK kn ln 0 sp bg fm le fi se re ca, xI g (μ 2) 288 (enc σ), xI g (μ 5) 1152 (pst γ)]) (wr := [xI g (μ 1) 288 (enc (clrS d σ))]) (wn := fun (u : Unit) => [cM μ iK (pushN kn) ln 0 sp bg fm le fi se re ca, xI g (μ 1) 288 (enc (clrS d σ)), xI g (μ 2) 288 (enc σ), xI g (μ 5) 1152 (pst (pushG γ kn σ))]) F w [0, 2, 3] [1] [1, 0, 2, 3] rfl rfl rfl (fun _ => rfl)
    (fun hp => va_runV (As := [.int (bI (zH σ d))]) (rest := []) F.1 (kX6_ends_k l g μ iK kn ln 0 sp bg fm le fi se re ca σ γ (bI (zH σ d)) H.size (bI_ne _) hkn) (cwV 1 hts gX6_takeOut_X6_ends rfl rfl rfl ⟨rfl, hd_X6_ends⟩ ⟨Nat.le_of_ble_eq_true rfl, Nat.le_of_ble_eq_true rfl⟩) ⟨hp.1, va_recv F.2.2.2.1.1 w.1 (q0 := 0) (ci := 6) rfl rfl, hp.2⟩ rfl rfl hl.1 rfl (lv_room (Nat.le_of_ble_eq_true rfl)) dX6_takeOut_10 ⟨Nat.le_of_ble_eq_true rfl, Nat.le_of_ble_eq_true rfl⟩)
    (fun r_5 _ H locs h_6 w => ?_)
  subst h_6
  subst hA
  subst hQ
  exact kreti F w () [0, 1, 2, 3] rfl rfl (rfl) (Nat.le_of_ble_eq_true rfl) (Nat.le_of_ble_eq_true rfl) dX6_takeOut_13
abbrev rmX6_takeOut_A : Room := { frames := 3, cells := 0, slots := 0, locals := 64 }
set_option maxHeartbeats 4000000 in
set_option maxRecDepth 100000 in
theorem kX6_takeOut_A (l : Launch) (g : GG) (μ : Nat → Nat) (iK : Bool) (kn : Nat) (ln : Nat) (th : Nat) (sp : Nat) (bg : Nat) (fm : Bool) (le : Int32) (fi : Nat) (se : Nat) (re : Nat) (ca : Nat) (σ : Sg) (B : Nat → Int32) (n : Int32) (sz : Nat) (hn : ¬ (1 ≤ n.toInt ∧ n.toInt ≤ 48)) : Met l yX6_takeOut wsX6_takeOut rmX6_takeOut_A (va_Pc [.ref (μ 0), .int n] (kPre g [cM μ iK kn ln th sp bg fm le fi se re ca, xI g (μ 1) 288 (enc σ), xI g (μ 2) 288 B] sz)) (va_Qi (fun (r : Int32) (u : Unit) => r = nI 0) (kB g (va_A [cM μ iK kn ln th sp bg fm le fi se re ca, xI g (μ 1) 288 (enc σ), xI g (μ 2) 288 B] sz) (fun u => [cM μ iK kn ln 1 sp bg fm le fi se re ca, xI g (μ 1) 288 (enc σ), xI g (μ 2) 288 (enc σ)])) (va_A [cM μ iK kn ln th sp bg fm le fi se re ca, xI g (μ 1) 288 (enc σ), xI g (μ 2) 288 B] sz)) 0 0 (va_A [cM μ iK kn ln th sp bg fm le fi se re ca, xI g (μ 1) 288 (enc σ), xI g (μ 2) 288 B] sz) := by
  refine kMet (cc := cX6_takeOut) (maxL := 2) (ret := (some .int)) (own := RX6) (by decide) rfl rfl (Nat.le_of_ble_eq_true rfl) ?_
  intro p e s m args below meth c ls Q H locs A F w hl hnm hA hQ
  have hx := F.1.1
  have hb := F.1.2.1
  have hts := F.1.2.2.2.2
  have hl : lv_has ls 2 [(0, .ref (μ 0)), (1, .int n)] := hl
  refine lv_aload_n hx hb dX6_takeOut_0 rfl (lv_at hl 0 rfl) ?_
  refine kcallv (wc := [cM μ iK kn ln th sp bg fm le fi se re ca, xI g (μ 1) 288 (enc σ), xI g (μ 2) 288 B]) (wr := []) (wn := fun (u : Unit) => [cM μ iK kn ln 0 sp bg fm le fi se re ca, xI g (μ 1) 288 (enc σ), xI g (μ 2) 288 (enc σ)]) F w [0, 1, 2] [] [0, 1, 2] rfl rfl rfl (fun _ => rfl)
    (fun hp => va_runV (As := []) (rest := []) F.1 (kX6_begins l g μ iK kn ln th sp bg fm le fi se re ca σ B H.size ) (cwV 0 hts gX6_takeOut_X6_begins rfl rfl rfl ⟨rfl, hd_X6_begins⟩ ⟨Nat.le_of_ble_eq_true rfl, Nat.le_of_ble_eq_true rfl⟩) ⟨hp.1, va_recv F.2.2.2.1.1 w.1 (q0 := 0) (ci := 6) rfl rfl, hp.2⟩ rfl rfl hl.1 rfl (lv_room (Nat.le_of_ble_eq_true rfl)) dX6_takeOut_1 ⟨Nat.le_of_ble_eq_true rfl, Nat.le_of_ble_eq_true rfl⟩)
    (fun _ H locs h_2 w => ?_)
  refine lv_aload_n hx hb dX6_takeOut_4 rfl (lv_at hl 0 rfl) ?_
  refine lv_aload_n hx hb dX6_takeOut_5 rfl (lv_at hl 0 rfl) ?_
  refine lv_iload_n hx hb dX6_takeOut_6 rfl (lv_at hl 1 rfl) ?_
  refine kcalli (wc := [cM μ iK kn ln 0 sp bg fm le fi se re ca]) (wr := [xI g (μ 1) 288 (enc σ), xI g (μ 2) 288 (enc σ)]) (wn := fun (u : Unit) => [cM μ iK kn ln 0 sp bg fm le fi se re ca, xI g (μ 1) 288 (enc σ), xI g (μ 2) 288 (enc σ)]) F w [0] [1, 2] [2, 0, 1] rfl rfl rfl (fun _ => rfl)
    (fun hp => va_runV (As := [.int n]) (rest := [.ref (μ 0)]) F.1 (kX6_goOut_A l g μ iK kn ln 0 sp bg fm le fi se re ca n H.size hn) (cwV 1 hts gX6_takeOut_X6_goOut rfl rfl rfl ⟨rfl, hd_X6_goOut⟩ ⟨Nat.le_of_ble_eq_true rfl, Nat.le_of_ble_eq_true rfl⟩) ⟨hp.1, va_recv F.2.2.2.1.1 w.1 (q0 := 0) (ci := 6) rfl rfl, hp.2⟩ rfl rfl hl.1 rfl (lv_room (Nat.le_of_ble_eq_true rfl)) dX6_takeOut_7 ⟨Nat.le_of_ble_eq_true rfl, Nat.le_of_ble_eq_true rfl⟩)
    (fun r_3 _ H locs h_4 w => ?_)
  subst h_4
  refine kcalli (wc := [cM μ iK kn ln 0 sp bg fm le fi se re ca]) (wr := [xI g (μ 1) 288 (enc σ), xI g (μ 2) 288 (enc σ)]) (wn := fun (u : Unit) => [cM μ iK kn ln 1 sp bg fm le fi se re ca, xI g (μ 1) 288 (enc σ), xI g (μ 2) 288 (enc σ)]) F w [0] [1, 2] [2, 0, 1] rfl rfl rfl (fun _ => rfl)
    (fun hp => va_runV (As := [.int (-11)]) (rest := []) F.1 (kX6_ends_A l g μ iK kn ln 0 sp bg fm le fi se re ca H.size ) (cwV 1 hts gX6_takeOut_X6_ends rfl rfl rfl ⟨rfl, hd_X6_ends⟩ ⟨Nat.le_of_ble_eq_true rfl, Nat.le_of_ble_eq_true rfl⟩) ⟨hp.1, va_recv F.2.2.2.1.1 w.1 (q0 := 0) (ci := 6) rfl rfl, hp.2⟩ rfl rfl hl.1 rfl (lv_room (Nat.le_of_ble_eq_true rfl)) dX6_takeOut_10 ⟨Nat.le_of_ble_eq_true rfl, Nat.le_of_ble_eq_true rfl⟩)
    (fun r_5 _ H locs h_6 w => ?_)
  subst h_6
  subst hA
  subst hQ
  exact kreti F w () [0, 1, 2] rfl rfl (rfl) (Nat.le_of_ble_eq_true rfl) (Nat.le_of_ble_eq_true rfl) dX6_takeOut_13
abbrev rmX6_takeOut_S : Room := { frames := 3, cells := 0, slots := 0, locals := 64 }
set_option maxHeartbeats 4000000 in
set_option maxRecDepth 100000 in
theorem kX6_takeOut_S (l : Launch) (g : GG) (μ : Nat → Nat) (iK : Bool) (kn : Nat) (ln : Nat) (th : Nat) (sp : Nat) (bg : Nat) (fm : Bool) (le : Int32) (fi : Nat) (se : Nat) (re : Nat) (ca : Nat) (σ : Sg) (B : Nat → Int32) (d : Nat) (sz : Nat) (hd : 1 ≤ d ∧ d ≤ 48) (hs9 : zO σ d = false ∨ zF σ d = false) : Met l yX6_takeOut wsX6_takeOut rmX6_takeOut_S (va_Pc [.ref (μ 0), .int (nI d)] (kPre g [cM μ iK kn ln th sp bg fm le fi se re ca, xI g (μ 1) 288 (enc σ), xI g (μ 2) 288 B] sz)) (va_Qi (fun (r : Int32) (u : Unit) => r = nI 0) (kB g (va_A [cM μ iK kn ln th sp bg fm le fi se re ca, xI g (μ 1) 288 (enc σ), xI g (μ 2) 288 B] sz) (fun u => [cM μ iK kn ln 2 sp bg fm le fi se re ca, xI g (μ 1) 288 (enc σ), xI g (μ 2) 288 (enc σ)])) (va_A [cM μ iK kn ln th sp bg fm le fi se re ca, xI g (μ 1) 288 (enc σ), xI g (μ 2) 288 B] sz)) 0 0 (va_A [cM μ iK kn ln th sp bg fm le fi se re ca, xI g (μ 1) 288 (enc σ), xI g (μ 2) 288 B] sz) := by
  refine kMet (cc := cX6_takeOut) (maxL := 2) (ret := (some .int)) (own := RX6) (by decide) rfl rfl (Nat.le_of_ble_eq_true rfl) ?_
  intro p e s m args below meth c ls Q H locs A F w hl hnm hA hQ
  have hx := F.1.1
  have hb := F.1.2.1
  have hts := F.1.2.2.2.2
  have hl : lv_has ls 2 [(0, .ref (μ 0)), (1, .int (nI d))] := hl
  refine lv_aload_n hx hb dX6_takeOut_0 rfl (lv_at hl 0 rfl) ?_
  refine kcallv (wc := [cM μ iK kn ln th sp bg fm le fi se re ca, xI g (μ 1) 288 (enc σ), xI g (μ 2) 288 B]) (wr := []) (wn := fun (u : Unit) => [cM μ iK kn ln 0 sp bg fm le fi se re ca, xI g (μ 1) 288 (enc σ), xI g (μ 2) 288 (enc σ)]) F w [0, 1, 2] [] [0, 1, 2] rfl rfl rfl (fun _ => rfl)
    (fun hp => va_runV (As := []) (rest := []) F.1 (kX6_begins l g μ iK kn ln th sp bg fm le fi se re ca σ B H.size ) (cwV 0 hts gX6_takeOut_X6_begins rfl rfl rfl ⟨rfl, hd_X6_begins⟩ ⟨Nat.le_of_ble_eq_true rfl, Nat.le_of_ble_eq_true rfl⟩) ⟨hp.1, va_recv F.2.2.2.1.1 w.1 (q0 := 0) (ci := 6) rfl rfl, hp.2⟩ rfl rfl hl.1 rfl (lv_room (Nat.le_of_ble_eq_true rfl)) dX6_takeOut_1 ⟨Nat.le_of_ble_eq_true rfl, Nat.le_of_ble_eq_true rfl⟩)
    (fun _ H locs h_2 w => ?_)
  refine lv_aload_n hx hb dX6_takeOut_4 rfl (lv_at hl 0 rfl) ?_
  refine lv_aload_n hx hb dX6_takeOut_5 rfl (lv_at hl 0 rfl) ?_
  refine lv_iload_n hx hb dX6_takeOut_6 rfl (lv_at hl 1 rfl) ?_
  refine kcalli (wc := [cM μ iK kn ln 0 sp bg fm le fi se re ca, xI g (μ 1) 288 (enc σ)]) (wr := [xI g (μ 2) 288 (enc σ)]) (wn := fun (u : Unit) => [cM μ iK kn ln 0 sp bg fm le fi se re ca, xI g (μ 1) 288 (enc σ), xI g (μ 2) 288 (enc σ)]) F w [0, 1] [2] [1, 2, 0] rfl rfl rfl (fun _ => rfl)
    (fun hp => va_runV (As := [.int (nI d)]) (rest := [.ref (μ 0)]) F.1 (kX6_goOut_S l g μ iK kn ln 0 sp bg fm le fi se re ca σ d H.size hd hs9) (cwV 1 hts gX6_takeOut_X6_goOut rfl rfl rfl ⟨rfl, hd_X6_goOut⟩ ⟨Nat.le_of_ble_eq_true rfl, Nat.le_of_ble_eq_true rfl⟩) ⟨hp.1, va_recv F.2.2.2.1.1 w.1 (q0 := 0) (ci := 6) rfl rfl, hp.2⟩ rfl rfl hl.1 rfl (lv_room (Nat.le_of_ble_eq_true rfl)) dX6_takeOut_7 ⟨Nat.le_of_ble_eq_true rfl, Nat.le_of_ble_eq_true rfl⟩)
    (fun r_3 _ H locs h_4 w => ?_)
  subst h_4
  refine kcalli (wc := [cM μ iK kn ln 0 sp bg fm le fi se re ca]) (wr := [xI g (μ 1) 288 (enc σ), xI g (μ 2) 288 (enc σ)]) (wn := fun (u : Unit) => [cM μ iK kn ln 2 sp bg fm le fi se re ca, xI g (μ 1) 288 (enc σ), xI g (μ 2) 288 (enc σ)]) F w [0] [1, 2] [2, 0, 1] rfl rfl rfl (fun _ => rfl)
    (fun hp => va_runV (As := [.int (-12)]) (rest := []) F.1 (kX6_ends_S l g μ iK kn ln 0 sp bg fm le fi se re ca H.size ) (cwV 1 hts gX6_takeOut_X6_ends rfl rfl rfl ⟨rfl, hd_X6_ends⟩ ⟨Nat.le_of_ble_eq_true rfl, Nat.le_of_ble_eq_true rfl⟩) ⟨hp.1, va_recv F.2.2.2.1.1 w.1 (q0 := 0) (ci := 6) rfl rfl, hp.2⟩ rfl rfl hl.1 rfl (lv_room (Nat.le_of_ble_eq_true rfl)) dX6_takeOut_10 ⟨Nat.le_of_ble_eq_true rfl, Nat.le_of_ble_eq_true rfl⟩)
    (fun r_5 _ H locs h_6 w => ?_)
  subst h_6
  subst hA
  subst hQ
  exact kreti F w () [0, 1, 2] rfl rfl (rfl) (Nat.le_of_ble_eq_true rfl) (Nat.le_of_ble_eq_true rfl) dX6_takeOut_13
theorem in_X6_undo_X6 : ∀ w ∈ wsX60, w ∈ wsX6_undo := by decide +kernel
abbrev rmX6_undo_S : Room := { frames := 1, cells := 0, slots := 0, locals := 21 }
set_option maxHeartbeats 4000000 in
set_option maxRecDepth 100000 in
theorem kX6_undo_S (l : Launch) (g : GG) (μ : Nat → Nat) (iK : Bool) (kn : Nat) (ln : Nat) (th : Nat) (sp : Nat) (bg : Nat) (fm : Bool) (le : Int32) (fi : Nat) (se : Nat) (re : Nat) (ca : Nat) (sz : Nat)  : Met l yX6_undo wsX6_undo rmX6_undo_S (va_Pc [.ref (μ 0)] (kPre g [cM μ iK 0 ln th sp bg fm le fi se re ca] sz)) (va_Qi (fun (r : Int32) (u : Unit) => r = nI 0) (kB g (va_A [cM μ iK 0 ln th sp bg fm le fi se re ca] sz) (fun u => [cM μ iK 0 ln 1 sp bg fm le fi se re ca])) (va_A [cM μ iK 0 ln th sp bg fm le fi se re ca] sz)) 0 0 (va_A [cM μ iK 0 ln th sp bg fm le fi se re ca] sz) := by
  refine kMet (cc := cX6_undo) (maxL := 1) (ret := (some .int)) (own := RX6) (by decide) rfl rfl (Nat.le_of_ble_eq_true rfl) ?_
  intro p e s m args below meth c ls Q H locs A F w hl hnm hA hQ
  have hx := F.1.1
  have hb := F.1.2.1
  have hts := F.1.2.2.2.2
  have hl : lv_has ls 1 [(0, .ref (μ 0))] := hl
  refine lv_aload_n hx hb dX6_undo_0 rfl (lv_at hl 0 rfl) ?_
  refine lv_iconst (v := nI 0) hx hb dX6_undo_1 (by decide) ?_
  refine kput (fs := [.ref (μ 1), .ref (μ 2), .ref (μ 3), .ref (μ 4), .int (bI iK), .ref (μ 5), .int (nI 0), .ref (μ 6), .int (nI ln), .int (nI th), .int (nI sp), .int (nI bg), .int (bI fm), .int le, .int (nI fi), .int (nI se), .int (nI re), .int (nI ca)]) F w in_X6_undo_X6 tyX6_ok nmX6 0 rfl rfl 9 (by decide) (by decide +kernel) rfl rfl (rfl) (rfl) (Nat.le_of_ble_eq_true rfl) (wn := [cM μ iK 0 ln 0 sp bg fm le fi se re ca]) rfl dX6_undo_2 (fun H locs w => ?_)
  refine lv_aload_n hx hb dX6_undo_5 rfl (lv_at hl 0 rfl) ?_
  refine kget (fs := [.ref (μ 1), .ref (μ 2), .ref (μ 3), .ref (μ 4), .int (bI iK), .ref (μ 5), .int (nI 0), .ref (μ 6), .int (nI ln), .int (nI 0), .int (nI sp), .int (nI bg), .int (bI fm), .int le, .int (nI fi), .int (nI se), .int (nI re), .int (nI ca)]) F w in_X6_undo_X6 0 rfl rfl 6 (by decide) (by decide +kernel) rfl rfl dX6_undo_6 ?_
  refine lv_if_ne (tgt := 18) hx hb dX6_undo_9 (by decide) (fun h_1 => ?_) (fun h_1 => ?_)
  · have h_1 : 0 ≠ 0 := (kc0_ne_t (by omega)).mp h_1
    omega
  · have h_1 : 0 = 0 := (kc0_ne_f (by omega)).mp h_1
    refine lv_aload_n hx hb dX6_undo_12 rfl (lv_at hl 0 rfl) ?_
    refine lv_iconst (v := nI 1) hx hb dX6_undo_13 (by decide) ?_
    refine kcalli (wc := [cM μ iK 0 ln 0 sp bg fm le fi se re ca]) (wr := []) (wn := fun (u : Unit) => [cM μ iK 0 ln 1 sp bg fm le fi se re ca]) F w [0] [] [0] rfl rfl rfl (fun _ => rfl)
      (fun hp => va_runV (As := [.int (nI 1)]) (rest := []) F.1 (kX6_fails l g μ iK 0 ln 0 sp bg fm le fi se re ca 1 H.size ) (cwV 1 hts gX6_undo_X6_fails rfl rfl rfl ⟨rfl, hd_X6_fails⟩ ⟨Nat.le_of_ble_eq_true rfl, Nat.le_of_ble_eq_true rfl⟩) ⟨hp.1, va_recv F.2.2.2.1.1 w.1 (q0 := 0) (ci := 6) rfl rfl, hp.2⟩ rfl rfl hl.1 rfl (lv_room (Nat.le_of_ble_eq_true rfl)) dX6_undo_14 ⟨Nat.le_of_ble_eq_true rfl, Nat.le_of_ble_eq_true rfl⟩)
      (fun r_2 _ H locs h_3 w => ?_)
    subst h_3
    subst hA
    subst hQ
    exact kreti F w () [0] rfl rfl (rfl) (Nat.le_of_ble_eq_true rfl) (Nat.le_of_ble_eq_true rfl) dX6_undo_17
abbrev rmX6_undo_k : Room := { frames := 1, cells := 0, slots := 0, locals := 24 }
set_option maxHeartbeats 4000000 in
set_option maxRecDepth 100000 in
theorem kX6_undo_k (l : Launch) (g : GG) (μ : Nat → Nat) (iK : Bool) (kn : Nat) (ln : Nat) (th : Nat) (sp : Nat) (bg : Nat) (fm : Bool) (le : Int32) (fi : Nat) (se : Nat) (re : Nat) (ca : Nat) (σ : Sg) (γ : Nat → Sg) (sz : Nat) (hkn : kn < 4) : Met l yX6_undo wsX6_undo rmX6_undo_k (va_Pc [.ref (μ 0)] (kPre g [cM μ iK (kn + 1) ln th sp bg fm le fi se re ca, xI g (μ 1) 288 (enc σ), xI g (μ 5) 1152 (pst γ)] sz)) (va_Qi (fun (r : Int32) (u : Unit) => r = nI kn) (kB g (va_A [cM μ iK (kn + 1) ln th sp bg fm le fi se re ca, xI g (μ 1) 288 (enc σ), xI g (μ 5) 1152 (pst γ)] sz) (fun u => [cM μ iK kn ln 0 sp bg fm le fi se re ca, xI g (μ 1) 288 (enc (γ kn)), xI g (μ 5) 1152 (pst γ)])) (va_A [cM μ iK (kn + 1) ln th sp bg fm le fi se re ca, xI g (μ 1) 288 (enc σ), xI g (μ 5) 1152 (pst γ)] sz)) 0 0 (va_A [cM μ iK (kn + 1) ln th sp bg fm le fi se re ca, xI g (μ 1) 288 (enc σ), xI g (μ 5) 1152 (pst γ)] sz) := by
  refine kMet (cc := cX6_undo) (maxL := 1) (ret := (some .int)) (own := RX6) (by decide) rfl rfl (Nat.le_of_ble_eq_true rfl) ?_
  intro p e s m args below meth c ls Q H locs A F w hl hnm hA hQ
  have hx := F.1.1
  have hb := F.1.2.1
  have hts := F.1.2.2.2.2
  have hl : lv_has ls 1 [(0, .ref (μ 0))] := hl
  refine lv_aload_n hx hb dX6_undo_0 rfl (lv_at hl 0 rfl) ?_
  refine lv_iconst (v := nI 0) hx hb dX6_undo_1 (by decide) ?_
  refine kput (fs := [.ref (μ 1), .ref (μ 2), .ref (μ 3), .ref (μ 4), .int (bI iK), .ref (μ 5), .int (nI (kn + 1)), .ref (μ 6), .int (nI ln), .int (nI th), .int (nI sp), .int (nI bg), .int (bI fm), .int le, .int (nI fi), .int (nI se), .int (nI re), .int (nI ca)]) F w in_X6_undo_X6 tyX6_ok nmX6 0 rfl rfl 9 (by decide) (by decide +kernel) rfl rfl (rfl) (rfl) (Nat.le_of_ble_eq_true rfl) (wn := [cM μ iK (kn + 1) ln 0 sp bg fm le fi se re ca, xI g (μ 1) 288 (enc σ), xI g (μ 5) 1152 (pst γ)]) rfl dX6_undo_2 (fun H locs w => ?_)
  refine lv_aload_n hx hb dX6_undo_5 rfl (lv_at hl 0 rfl) ?_
  refine kget (fs := [.ref (μ 1), .ref (μ 2), .ref (μ 3), .ref (μ 4), .int (bI iK), .ref (μ 5), .int (nI (kn + 1)), .ref (μ 6), .int (nI ln), .int (nI 0), .int (nI sp), .int (nI bg), .int (bI fm), .int le, .int (nI fi), .int (nI se), .int (nI re), .int (nI ca)]) F w in_X6_undo_X6 0 rfl rfl 6 (by decide) (by decide +kernel) rfl rfl dX6_undo_6 ?_
  refine lv_if_ne (tgt := 18) hx hb dX6_undo_9 (by decide) (fun h_1 => ?_) (fun h_1 => ?_)
  · have h_1 : kn + 1 ≠ 0 := (kc0_ne_t (by omega)).mp h_1
    refine lv_aload_n hx hb dX6_undo_18 rfl (lv_at hl 0 rfl) ?_
    refine lv_dup hx hb dX6_undo_19 rfl ?_
    refine kget (fs := [.ref (μ 1), .ref (μ 2), .ref (μ 3), .ref (μ 4), .int (bI iK), .ref (μ 5), .int (nI (kn + 1)), .ref (μ 6), .int (nI ln), .int (nI 0), .int (nI sp), .int (nI bg), .int (bI fm), .int le, .int (nI fi), .int (nI se), .int (nI re), .int (nI ca)]) F w in_X6_undo_X6 0 rfl rfl 6 (by decide) (by decide +kernel) rfl rfl dX6_undo_20 ?_
    refine lv_iconst (v := nI 1) hx hb dX6_undo_23 (by decide) ?_
    refine lv_isub hx hb dX6_undo_24 ?_
    refine ktopi (y := nI kn) (nI_pred kn) ?_
    refine kput (fs := [.ref (μ 1), .ref (μ 2), .ref (μ 3), .ref (μ 4), .int (bI iK), .ref (μ 5), .int (nI (kn + 1)), .ref (μ 6), .int (nI ln), .int (nI 0), .int (nI sp), .int (nI bg), .int (bI fm), .int le, .int (nI fi), .int (nI se), .int (nI re), .int (nI ca)]) F w in_X6_undo_X6 tyX6_ok nmX6 0 rfl rfl 6 (by decide) (by decide +kernel) rfl rfl (rfl) (rfl) (Nat.le_of_ble_eq_true rfl) (wn := [cM μ iK kn ln 0 sp bg fm le fi se re ca, xI g (μ 1) 288 (enc σ), xI g (μ 5) 1152 (pst γ)]) rfl dX6_undo_25 (fun H locs w => ?_)
    refine lv_aload_n hx hb dX6_undo_28 rfl (lv_at hl 0 rfl) ?_
    refine kget (fs := [.ref (μ 1), .ref (μ 2), .ref (μ 3), .ref (μ 4), .int (bI iK), .ref (μ 5), .int (nI kn), .ref (μ 6), .int (nI ln), .int (nI 0), .int (nI sp), .int (nI bg), .int (bI fm), .int le, .int (nI fi), .int (nI se), .int (nI re), .int (nI ca)]) F w in_X6_undo_X6 0 rfl rfl 5 (by decide) (by decide +kernel) rfl rfl dX6_undo_29 ?_
    refine lv_sipush (v := nI 288) hx hb dX6_undo_32 (by decide) ?_
    refine lv_aload_n hx hb dX6_undo_35 rfl (lv_at hl 0 rfl) ?_
    refine kget (fs := [.ref (μ 1), .ref (μ 2), .ref (μ 3), .ref (μ 4), .int (bI iK), .ref (μ 5), .int (nI kn), .ref (μ 6), .int (nI ln), .int (nI 0), .int (nI sp), .int (nI bg), .int (bI fm), .int le, .int (nI fi), .int (nI se), .int (nI re), .int (nI ca)]) F w in_X6_undo_X6 0 rfl rfl 6 (by decide) (by decide +kernel) rfl rfl dX6_undo_36 ?_
    refine lv_imul hx hb dX6_undo_39 ?_
    refine ktopi (y := nI (288 * kn)) (pk_mul 288 kn) ?_
    refine lv_aload_n hx hb dX6_undo_40 rfl (lv_at hl 0 rfl) ?_
    refine kget (fs := [.ref (μ 1), .ref (μ 2), .ref (μ 3), .ref (μ 4), .int (bI iK), .ref (μ 5), .int (nI kn), .ref (μ 6), .int (nI ln), .int (nI 0), .int (nI sp), .int (nI bg), .int (bI fm), .int le, .int (nI fi), .int (nI se), .int (nI re), .int (nI ca)]) F w in_X6_undo_X6 0 rfl rfl 0 (by decide) (by decide +kernel) rfl rfl dX6_undo_41 ?_
    refine lv_iconst (v := nI 0) hx hb dX6_undo_44 (by decide) ?_
    refine kcallv (wc := [xI g (μ 5) 1152 (pst γ), xI g (μ 1) 288 (enc σ)]) (wr := [cM μ iK kn ln 0 sp bg fm le fi se re ca]) (wn := fun (u : Unit) => [cM μ iK kn ln 0 sp bg fm le fi se re ca, xI g (μ 1) 288 (cpyU (pst γ) (288 * kn) (enc σ) 0 288), xI g (μ 5) 1152 (pst γ)]) F w [2, 1] [0] [0, 2, 1] rfl rfl rfl (fun _ => rfl)
      (fun hp => va_runS (As := [.ref (μ 5), .int (nI (288 * kn)), .ref (μ 1), .int (nI 0)]) (rest := []) F.1 (kX6_copies l g (μ 5) 1152 (pst γ) (288 * kn) (μ 1) 288 (enc σ) 0 H.size (by omega) (by omega)) (va_cwS 4 hts gX6_undo_X6_copies rfl rfl rfl hd_X6_copies ⟨Nat.le_of_ble_eq_true rfl, Nat.le_of_ble_eq_true rfl⟩) hp rfl rfl hl.1 rfl (lv_room (Nat.le_of_ble_eq_true rfl)) dX6_undo_45 ⟨Nat.le_of_ble_eq_true rfl, Nat.le_of_ble_eq_true rfl⟩)
      (fun _ H locs h_3 w => ?_)
    have w : kW g A s [cM μ iK kn ln 0 sp bg fm le fi se re ca, xI g (μ 1) 288 (enc (γ kn)), xI g (μ 5) 1152 (pst γ)] H locs := kW.arr w 1 rfl (fun j hj => pst_blk hj) rfl
    refine lv_aload_n hx hb dX6_undo_48 rfl (lv_at hl 0 rfl) ?_
    refine kget (fs := [.ref (μ 1), .ref (μ 2), .ref (μ 3), .ref (μ 4), .int (bI iK), .ref (μ 5), .int (nI kn), .ref (μ 6), .int (nI ln), .int (nI 0), .int (nI sp), .int (nI bg), .int (bI fm), .int le, .int (nI fi), .int (nI se), .int (nI re), .int (nI ca)]) F w in_X6_undo_X6 0 rfl rfl 6 (by decide) (by decide +kernel) rfl rfl dX6_undo_49 ?_
    subst hA
    subst hQ
    exact kreti F w () [0, 1, 2] rfl rfl (rfl) (Nat.le_of_ble_eq_true rfl) (Nat.le_of_ble_eq_true rfl) dX6_undo_52
  · have h_1 : kn + 1 = 0 := (kc0_ne_f (by omega)).mp h_1
    omega
theorem in_X6_keep_X6 : ∀ w ∈ wsX60, w ∈ wsX6_keep := by decide +kernel
abbrev rmX6_keep : Room := { frames := 2, cells := 0, slots := 0, locals := 45 }
set_option maxHeartbeats 4000000 in
set_option maxRecDepth 100000 in
theorem kX6_keep (l : Launch) (g : GG) (μ : Nat → Nat) (iK : Bool) (kn : Nat) (ln : Nat) (th : Nat) (sp : Nat) (bg : Nat) (fm : Bool) (le : Int32) (fi : Nat) (se : Nat) (re : Nat) (ca : Nat) (σ : Sg) (κ : Sg) (sz : Nat)  : Met l yX6_keep wsX6_keep rmX6_keep (va_Pc [.ref (μ 0)] (kPre g [cM μ iK kn ln th sp bg fm le fi se re ca, xI g (μ 1) 288 (enc σ), xI g (μ 4) 288 (enc κ)] sz)) (va_Qi (fun (r : Int32) (u : Unit) => r = nI (zcnt (zO σ) 48)) (kB g (va_A [cM μ iK kn ln th sp bg fm le fi se re ca, xI g (μ 1) 288 (enc σ), xI g (μ 4) 288 (enc κ)] sz) (fun u => [cM μ true kn ln 0 sp bg fm le fi se re ca, xI g (μ 1) 288 (enc σ), xI g (μ 4) 288 (enc σ)])) (va_A [cM μ iK kn ln th sp bg fm le fi se re ca, xI g (μ 1) 288 (enc σ), xI g (μ 4) 288 (enc κ)] sz)) 0 0 (va_A [cM μ iK kn ln th sp bg fm le fi se re ca, xI g (μ 1) 288 (enc σ), xI g (μ 4) 288 (enc κ)] sz) := by
  refine kMet (cc := cX6_keep) (maxL := 1) (ret := (some .int)) (own := RX6) (by decide) rfl rfl (Nat.le_of_ble_eq_true rfl) ?_
  intro p e s m args below meth c ls Q H locs A F w hl hnm hA hQ
  have hx := F.1.1
  have hb := F.1.2.1
  have hts := F.1.2.2.2.2
  have hl : lv_has ls 1 [(0, .ref (μ 0))] := hl
  refine lv_aload_n hx hb dX6_keep_0 rfl (lv_at hl 0 rfl) ?_
  refine lv_iconst (v := nI 0) hx hb dX6_keep_1 (by decide) ?_
  refine kput (fs := [.ref (μ 1), .ref (μ 2), .ref (μ 3), .ref (μ 4), .int (bI iK), .ref (μ 5), .int (nI kn), .ref (μ 6), .int (nI ln), .int (nI th), .int (nI sp), .int (nI bg), .int (bI fm), .int le, .int (nI fi), .int (nI se), .int (nI re), .int (nI ca)]) F w in_X6_keep_X6 tyX6_ok nmX6 0 rfl rfl 9 (by decide) (by decide +kernel) rfl rfl (rfl) (rfl) (Nat.le_of_ble_eq_true rfl) (wn := [cM μ iK kn ln 0 sp bg fm le fi se re ca, xI g (μ 1) 288 (enc σ), xI g (μ 4) 288 (enc κ)]) rfl dX6_keep_2 (fun H locs w => ?_)
  refine lv_aload_n hx hb dX6_keep_5 rfl (lv_at hl 0 rfl) ?_
  refine lv_iconst (v := nI 1) hx hb dX6_keep_6 (by decide) ?_
  refine ktopi (y := bI true) (by decide) ?_
  refine kput (fs := [.ref (μ 1), .ref (μ 2), .ref (μ 3), .ref (μ 4), .int (bI iK), .ref (μ 5), .int (nI kn), .ref (μ 6), .int (nI ln), .int (nI 0), .int (nI sp), .int (nI bg), .int (bI fm), .int le, .int (nI fi), .int (nI se), .int (nI re), .int (nI ca)]) F w in_X6_keep_X6 tyX6_ok nmX6 0 rfl rfl 4 (by decide) (by decide +kernel) rfl rfl (kz_n _) (kz_f _) (Nat.le_of_ble_eq_true rfl) (wn := [cM μ true kn ln 0 sp bg fm le fi se re ca, xI g (μ 1) 288 (enc σ), xI g (μ 4) 288 (enc κ)]) rfl dX6_keep_7 (fun H locs w => ?_)
  refine lv_aload_n hx hb dX6_keep_10 rfl (lv_at hl 0 rfl) ?_
  refine kget (fs := [.ref (μ 1), .ref (μ 2), .ref (μ 3), .ref (μ 4), .int (bI true), .ref (μ 5), .int (nI kn), .ref (μ 6), .int (nI ln), .int (nI 0), .int (nI sp), .int (nI bg), .int (bI fm), .int le, .int (nI fi), .int (nI se), .int (nI re), .int (nI ca)]) F w in_X6_keep_X6 0 rfl rfl 0 (by decide) (by decide +kernel) rfl rfl dX6_keep_11 ?_
  refine lv_iconst (v := nI 0) hx hb dX6_keep_14 (by decide) ?_
  refine lv_aload_n hx hb dX6_keep_15 rfl (lv_at hl 0 rfl) ?_
  refine kget (fs := [.ref (μ 1), .ref (μ 2), .ref (μ 3), .ref (μ 4), .int (bI true), .ref (μ 5), .int (nI kn), .ref (μ 6), .int (nI ln), .int (nI 0), .int (nI sp), .int (nI bg), .int (bI fm), .int le, .int (nI fi), .int (nI se), .int (nI re), .int (nI ca)]) F w in_X6_keep_X6 0 rfl rfl 3 (by decide) (by decide +kernel) rfl rfl dX6_keep_16 ?_
  refine lv_iconst (v := nI 0) hx hb dX6_keep_19 (by decide) ?_
  refine kcallv (wc := [xI g (μ 1) 288 (enc σ), xI g (μ 4) 288 (enc κ)]) (wr := [cM μ true kn ln 0 sp bg fm le fi se re ca]) (wn := fun (u : Unit) => [cM μ true kn ln 0 sp bg fm le fi se re ca, xI g (μ 1) 288 (enc σ), xI g (μ 4) 288 (cpyU (enc σ) 0 (enc κ) 0 288)]) F w [1, 2] [0] [0, 1, 2] rfl rfl rfl (fun _ => rfl)
    (fun hp => va_runS (As := [.ref (μ 1), .int (nI 0), .ref (μ 4), .int (nI 0)]) (rest := []) F.1 (kX6_copies l g (μ 1) 288 (enc σ) 0 (μ 4) 288 (enc κ) 0 H.size (by omega) (by omega)) (va_cwS 4 hts gX6_keep_X6_copies rfl rfl rfl hd_X6_copies ⟨Nat.le_of_ble_eq_true rfl, Nat.le_of_ble_eq_true rfl⟩) hp rfl rfl hl.1 rfl (lv_room (Nat.le_of_ble_eq_true rfl)) dX6_keep_20 ⟨Nat.le_of_ble_eq_true rfl, Nat.le_of_ble_eq_true rfl⟩)
    (fun _ H locs h_2 w => ?_)
  have w : kW g A s [cM μ true kn ln 0 sp bg fm le fi se re ca, xI g (μ 1) 288 (enc σ), xI g (μ 4) 288 (enc σ)] H locs := kW.arr w 2 rfl (fun j hj => by rw [cpyU_in (by omega) (by omega)]; congr 1; omega) rfl
  refine lv_aload_n hx hb dX6_keep_23 rfl (lv_at hl 0 rfl) ?_
  refine lv_iconst (v := nI 0) hx hb dX6_keep_24 (by decide) ?_
  refine kcalli (wc := [cM μ true kn ln 0 sp bg fm le fi se re ca, xI g (μ 1) 288 (enc σ)]) (wr := [xI g (μ 4) 288 (enc σ)]) (wn := fun (u : Unit) => [cM μ true kn ln 0 sp bg fm le fi se re ca, xI g (μ 1) 288 (enc σ), xI g (μ 4) 288 (enc σ)]) F w [0, 1] [2] [1, 2, 0] rfl rfl rfl (fun _ => rfl)
    (fun hp => va_runV (As := [.int (nI 0)]) (rest := []) F.1 (kX6_sum l g μ true kn ln 0 sp bg fm le fi se re ca (enc σ) 0 H.size (by omega)) (cwV 1 hts gX6_keep_X6_sum rfl rfl rfl ⟨rfl, hd_X6_sum⟩ ⟨Nat.le_of_ble_eq_true rfl, Nat.le_of_ble_eq_true rfl⟩) ⟨hp.1, va_recv F.2.2.2.1.1 w.1 (q0 := 0) (ci := 6) rfl rfl, hp.2⟩ rfl rfl hl.1 rfl (lv_room (Nat.le_of_ble_eq_true rfl)) dX6_keep_25 ⟨Nat.le_of_ble_eq_true rfl, Nat.le_of_ble_eq_true rfl⟩)
    (fun r_3 _ H locs h_4 w => ?_)
  subst h_4
  refine ktopi (y := nI (zcnt (zO σ) 48)) (sumZ_O _ 48 (Nat.le_refl _)) ?_
  subst hA
  subst hQ
  exact kreti F w () [0, 1, 2] rfl rfl (rfl) (Nat.le_of_ble_eq_true rfl) (Nat.le_of_ble_eq_true rfl) dX6_keep_28
theorem in_X6_goBack_X6 : ∀ w ∈ wsX60, w ∈ wsX6_goBack := by decide +kernel
abbrev rmX6_goBack_S : Room := { frames := 2, cells := 0, slots := 0, locals := 44 }
set_option maxHeartbeats 4000000 in
set_option maxRecDepth 100000 in
theorem kX6_goBack_S (l : Launch) (g : GG) (μ : Nat → Nat) (iK : Bool) (kn : Nat) (ln : Nat) (th : Nat) (sp : Nat) (bg : Nat) (fm : Bool) (le : Int32) (fi : Nat) (se : Nat) (re : Nat) (ca : Nat) (σ : Sg) (B : Nat → Int32) (sz : Nat)  : Met l yX6_goBack wsX6_goBack rmX6_goBack_S (va_Pc [.ref (μ 0)] (kPre g [cM μ false kn ln th sp bg fm le fi se re ca, xI g (μ 1) 288 (enc σ), xI g (μ 2) 288 B] sz)) (va_Qi (fun (r : Int32) (u : Unit) => r = nI 0) (kB g (va_A [cM μ false kn ln th sp bg fm le fi se re ca, xI g (μ 1) 288 (enc σ), xI g (μ 2) 288 B] sz) (fun u => [cM μ false kn ln 1 sp bg fm le fi se re ca, xI g (μ 1) 288 (enc σ), xI g (μ 2) 288 (enc σ)])) (va_A [cM μ false kn ln th sp bg fm le fi se re ca, xI g (μ 1) 288 (enc σ), xI g (μ 2) 288 B] sz)) 0 0 (va_A [cM μ false kn ln th sp bg fm le fi se re ca, xI g (μ 1) 288 (enc σ), xI g (μ 2) 288 B] sz) := by
  refine kMet (cc := cX6_goBack) (maxL := 1) (ret := (some .int)) (own := RX6) (by decide) rfl rfl (Nat.le_of_ble_eq_true rfl) ?_
  intro p e s m args below meth c ls Q H locs A F w hl hnm hA hQ
  have hx := F.1.1
  have hb := F.1.2.1
  have hts := F.1.2.2.2.2
  have hl : lv_has ls 1 [(0, .ref (μ 0))] := hl
  refine lv_aload_n hx hb dX6_goBack_0 rfl (lv_at hl 0 rfl) ?_
  refine kcallv (wc := [cM μ false kn ln th sp bg fm le fi se re ca, xI g (μ 1) 288 (enc σ), xI g (μ 2) 288 B]) (wr := []) (wn := fun (u : Unit) => [cM μ false kn ln 0 sp bg fm le fi se re ca, xI g (μ 1) 288 (enc σ), xI g (μ 2) 288 (enc σ)]) F w [0, 1, 2] [] [0, 1, 2] rfl rfl rfl (fun _ => rfl)
    (fun hp => va_runV (As := []) (rest := []) F.1 (kX6_begins l g μ false kn ln th sp bg fm le fi se re ca σ B H.size ) (cwV 0 hts gX6_goBack_X6_begins rfl rfl rfl ⟨rfl, hd_X6_begins⟩ ⟨Nat.le_of_ble_eq_true rfl, Nat.le_of_ble_eq_true rfl⟩) ⟨hp.1, va_recv F.2.2.2.1.1 w.1 (q0 := 0) (ci := 6) rfl rfl, hp.2⟩ rfl rfl hl.1 rfl (lv_room (Nat.le_of_ble_eq_true rfl)) dX6_goBack_1 ⟨Nat.le_of_ble_eq_true rfl, Nat.le_of_ble_eq_true rfl⟩)
    (fun _ H locs h_2 w => ?_)
  refine lv_aload_n hx hb dX6_goBack_4 rfl (lv_at hl 0 rfl) ?_
  refine kget (fs := [.ref (μ 1), .ref (μ 2), .ref (μ 3), .ref (μ 4), .int (bI false), .ref (μ 5), .int (nI kn), .ref (μ 6), .int (nI ln), .int (nI 0), .int (nI sp), .int (nI bg), .int (bI fm), .int le, .int (nI fi), .int (nI se), .int (nI re), .int (nI ca)]) F w in_X6_goBack_X6 0 rfl rfl 4 (by decide) (by decide +kernel) rfl rfl dX6_goBack_5 ?_
  refine lv_if_ne (tgt := 17) hx hb dX6_goBack_8 (by decide) (fun h_3 => ?_) (fun h_3 => ?_)
  · have h_3 : false = true := bI_o.mp h_3
    exact absurd h_3 (by simp)
  · have h_3 : false = false := bI_z.mp h_3
    refine lv_aload_n hx hb dX6_goBack_11 rfl (lv_at hl 0 rfl) ?_
    refine lv_iconst (v := nI 1) hx hb dX6_goBack_12 (by decide) ?_
    refine kcalli (wc := [cM μ false kn ln 0 sp bg fm le fi se re ca]) (wr := [xI g (μ 1) 288 (enc σ), xI g (μ 2) 288 (enc σ)]) (wn := fun (u : Unit) => [cM μ false kn ln 1 sp bg fm le fi se re ca, xI g (μ 1) 288 (enc σ), xI g (μ 2) 288 (enc σ)]) F w [0] [1, 2] [2, 0, 1] rfl rfl rfl (fun _ => rfl)
      (fun hp => va_runV (As := [.int (nI 1)]) (rest := []) F.1 (kX6_fails l g μ false kn ln 0 sp bg fm le fi se re ca 1 H.size ) (cwV 1 hts gX6_goBack_X6_fails rfl rfl rfl ⟨rfl, hd_X6_fails⟩ ⟨Nat.le_of_ble_eq_true rfl, Nat.le_of_ble_eq_true rfl⟩) ⟨hp.1, va_recv F.2.2.2.1.1 w.1 (q0 := 0) (ci := 6) rfl rfl, hp.2⟩ rfl rfl hl.1 rfl (lv_room (Nat.le_of_ble_eq_true rfl)) dX6_goBack_13 ⟨Nat.le_of_ble_eq_true rfl, Nat.le_of_ble_eq_true rfl⟩)
      (fun r_4 _ H locs h_5 w => ?_)
    subst h_5
    subst hA
    subst hQ
    exact kreti F w () [0, 1, 2] rfl rfl (rfl) (Nat.le_of_ble_eq_true rfl) (Nat.le_of_ble_eq_true rfl) dX6_goBack_16
abbrev rmX6_goBack_k : Room := { frames := 2, cells := 0, slots := 0, locals := 45 }
set_option maxHeartbeats 4000000 in
set_option maxRecDepth 100000 in
theorem kX6_goBack_k (l : Launch) (g : GG) (μ : Nat → Nat) (iK : Bool) (kn : Nat) (ln : Nat) (th : Nat) (sp : Nat) (bg : Nat) (fm : Bool) (le : Int32) (fi : Nat) (se : Nat) (re : Nat) (ca : Nat) (σ : Sg) (B : Nat → Int32) (γ : Nat → Sg) (κ : Sg) (sz : Nat) (hkn : kn ≤ 4) : Met l yX6_goBack wsX6_goBack rmX6_goBack_k (va_Pc [.ref (μ 0)] (kPre g [cM μ true kn ln th sp bg fm le fi se re ca, xI g (μ 1) 288 (enc σ), xI g (μ 2) 288 B, xI g (μ 4) 288 (enc κ), xI g (μ 5) 1152 (pst γ)] sz)) (va_Qi (fun (r : Int32) (u : Unit) => r = nI (zcnt (zO κ) 48)) (kB g (va_A [cM μ true kn ln th sp bg fm le fi se re ca, xI g (μ 1) 288 (enc σ), xI g (μ 2) 288 B, xI g (μ 4) 288 (enc κ), xI g (μ 5) 1152 (pst γ)] sz) (fun u => [cM μ true (pushN kn) ln 0 sp bg fm le fi se re ca, xI g (μ 1) 288 (enc κ), xI g (μ 2) 288 (enc σ), xI g (μ 4) 288 (enc κ), xI g (μ 5) 1152 (pst (pushG γ kn σ))])) (va_A [cM μ true kn ln th sp bg fm le fi se re ca, xI g (μ 1) 288 (enc σ), xI g (μ 2) 288 B, xI g (μ 4) 288 (enc κ), xI g (μ 5) 1152 (pst γ)] sz)) 0 0 (va_A [cM μ true kn ln th sp bg fm le fi se re ca, xI g (μ 1) 288 (enc σ), xI g (μ 2) 288 B, xI g (μ 4) 288 (enc κ), xI g (μ 5) 1152 (pst γ)] sz) := by
  refine kMet (cc := cX6_goBack) (maxL := 1) (ret := (some .int)) (own := RX6) (by decide) rfl rfl (Nat.le_of_ble_eq_true rfl) ?_
  intro p e s m args below meth c ls Q H locs A F w hl hnm hA hQ
  have hx := F.1.1
  have hb := F.1.2.1
  have hts := F.1.2.2.2.2
  have hl : lv_has ls 1 [(0, .ref (μ 0))] := hl
  refine lv_aload_n hx hb dX6_goBack_0 rfl (lv_at hl 0 rfl) ?_
  refine kcallv (wc := [cM μ true kn ln th sp bg fm le fi se re ca, xI g (μ 1) 288 (enc σ), xI g (μ 2) 288 B]) (wr := [xI g (μ 4) 288 (enc κ), xI g (μ 5) 1152 (pst γ)]) (wn := fun (u : Unit) => [cM μ true kn ln 0 sp bg fm le fi se re ca, xI g (μ 1) 288 (enc σ), xI g (μ 2) 288 (enc σ), xI g (μ 4) 288 (enc κ), xI g (μ 5) 1152 (pst γ)]) F w [0, 1, 2] [3, 4] [2, 3, 4, 0, 1] rfl rfl rfl (fun _ => rfl)
    (fun hp => va_runV (As := []) (rest := []) F.1 (kX6_begins l g μ true kn ln th sp bg fm le fi se re ca σ B H.size ) (cwV 0 hts gX6_goBack_X6_begins rfl rfl rfl ⟨rfl, hd_X6_begins⟩ ⟨Nat.le_of_ble_eq_true rfl, Nat.le_of_ble_eq_true rfl⟩) ⟨hp.1, va_recv F.2.2.2.1.1 w.1 (q0 := 0) (ci := 6) rfl rfl, hp.2⟩ rfl rfl hl.1 rfl (lv_room (Nat.le_of_ble_eq_true rfl)) dX6_goBack_1 ⟨Nat.le_of_ble_eq_true rfl, Nat.le_of_ble_eq_true rfl⟩)
    (fun _ H locs h_2 w => ?_)
  refine lv_aload_n hx hb dX6_goBack_4 rfl (lv_at hl 0 rfl) ?_
  refine kget (fs := [.ref (μ 1), .ref (μ 2), .ref (μ 3), .ref (μ 4), .int (bI true), .ref (μ 5), .int (nI kn), .ref (μ 6), .int (nI ln), .int (nI 0), .int (nI sp), .int (nI bg), .int (bI fm), .int le, .int (nI fi), .int (nI se), .int (nI re), .int (nI ca)]) F w in_X6_goBack_X6 0 rfl rfl 4 (by decide) (by decide +kernel) rfl rfl dX6_goBack_5 ?_
  refine lv_if_ne (tgt := 17) hx hb dX6_goBack_8 (by decide) (fun h_3 => ?_) (fun h_3 => ?_)
  · have h_3 : true = true := bI_o.mp h_3
    refine lv_aload_n hx hb dX6_goBack_17 rfl (lv_at hl 0 rfl) ?_
    refine kget (fs := [.ref (μ 1), .ref (μ 2), .ref (μ 3), .ref (μ 4), .int (bI true), .ref (μ 5), .int (nI kn), .ref (μ 6), .int (nI ln), .int (nI 0), .int (nI sp), .int (nI bg), .int (bI fm), .int le, .int (nI fi), .int (nI se), .int (nI re), .int (nI ca)]) F w in_X6_goBack_X6 0 rfl rfl 3 (by decide) (by decide +kernel) rfl rfl dX6_goBack_18 ?_
    refine lv_iconst (v := nI 0) hx hb dX6_goBack_21 (by decide) ?_
    refine lv_aload_n hx hb dX6_goBack_22 rfl (lv_at hl 0 rfl) ?_
    refine kget (fs := [.ref (μ 1), .ref (μ 2), .ref (μ 3), .ref (μ 4), .int (bI true), .ref (μ 5), .int (nI kn), .ref (μ 6), .int (nI ln), .int (nI 0), .int (nI sp), .int (nI bg), .int (bI fm), .int le, .int (nI fi), .int (nI se), .int (nI re), .int (nI ca)]) F w in_X6_goBack_X6 0 rfl rfl 0 (by decide) (by decide +kernel) rfl rfl dX6_goBack_23 ?_
    refine lv_iconst (v := nI 0) hx hb dX6_goBack_26 (by decide) ?_
    refine kcallv (wc := [xI g (μ 4) 288 (enc κ), xI g (μ 1) 288 (enc σ)]) (wr := [cM μ true kn ln 0 sp bg fm le fi se re ca, xI g (μ 2) 288 (enc σ), xI g (μ 5) 1152 (pst γ)]) (wn := fun (u : Unit) => [cM μ true kn ln 0 sp bg fm le fi se re ca, xI g (μ 1) 288 (cpyU (enc κ) 0 (enc σ) 0 288), xI g (μ 2) 288 (enc σ), xI g (μ 4) 288 (enc κ), xI g (μ 5) 1152 (pst γ)]) F w [3, 1] [0, 2, 4] [0, 4, 1, 3, 2] rfl rfl rfl (fun _ => rfl)
      (fun hp => va_runS (As := [.ref (μ 4), .int (nI 0), .ref (μ 1), .int (nI 0)]) (rest := []) F.1 (kX6_copies l g (μ 4) 288 (enc κ) 0 (μ 1) 288 (enc σ) 0 H.size (by omega) (by omega)) (va_cwS 4 hts gX6_goBack_X6_copies rfl rfl rfl hd_X6_copies ⟨Nat.le_of_ble_eq_true rfl, Nat.le_of_ble_eq_true rfl⟩) hp rfl rfl hl.1 rfl (lv_room (Nat.le_of_ble_eq_true rfl)) dX6_goBack_27 ⟨Nat.le_of_ble_eq_true rfl, Nat.le_of_ble_eq_true rfl⟩)
      (fun _ H locs h_5 w => ?_)
    have w : kW g A s [cM μ true kn ln 0 sp bg fm le fi se re ca, xI g (μ 1) 288 (enc κ), xI g (μ 2) 288 (enc σ), xI g (μ 4) 288 (enc κ), xI g (μ 5) 1152 (pst γ)] H locs := kW.arr w 1 rfl (fun j hj => by rw [cpyU_in (by omega) (by omega)]; congr 1; omega) rfl
    refine lv_aload_n hx hb dX6_goBack_30 rfl (lv_at hl 0 rfl) ?_
    refine kcallv (wc := [cM μ true kn ln 0 sp bg fm le fi se re ca, xI g (μ 2) 288 (enc σ), xI g (μ 5) 1152 (pst γ)]) (wr := [xI g (μ 1) 288 (enc κ), xI g (μ 4) 288 (enc κ)]) (wn := fun (u : Unit) => [cM μ true (pushN kn) ln 0 sp bg fm le fi se re ca, xI g (μ 1) 288 (enc κ), xI g (μ 2) 288 (enc σ), xI g (μ 4) 288 (enc κ), xI g (μ 5) 1152 (pst (pushG γ kn σ))]) F w [0, 2, 4] [1, 3] [2, 0, 3, 1, 4] rfl rfl rfl (fun _ => rfl)
      (fun hp => va_runV (As := []) (rest := []) F.1 (kX6_records l g μ true kn ln 0 sp bg fm le fi se re ca σ γ H.size hkn) (cwV 0 hts gX6_goBack_X6_records rfl rfl rfl ⟨rfl, hd_X6_records⟩ ⟨Nat.le_of_ble_eq_true rfl, Nat.le_of_ble_eq_true rfl⟩) ⟨hp.1, va_recv F.2.2.2.1.1 w.1 (q0 := 0) (ci := 6) rfl rfl, hp.2⟩ rfl rfl hl.1 rfl (lv_room (Nat.le_of_ble_eq_true rfl)) dX6_goBack_31 ⟨Nat.le_of_ble_eq_true rfl, Nat.le_of_ble_eq_true rfl⟩)
      (fun _ H locs h_7 w => ?_)
    refine lv_aload_n hx hb dX6_goBack_34 rfl (lv_at hl 0 rfl) ?_
    refine lv_iconst (v := nI 0) hx hb dX6_goBack_35 (by decide) ?_
    refine kcalli (wc := [cM μ true (pushN kn) ln 0 sp bg fm le fi se re ca, xI g (μ 1) 288 (enc κ)]) (wr := [xI g (μ 2) 288 (enc σ), xI g (μ 4) 288 (enc κ), xI g (μ 5) 1152 (pst (pushG γ kn σ))]) (wn := fun (u : Unit) => [cM μ true (pushN kn) ln 0 sp bg fm le fi se re ca, xI g (μ 1) 288 (enc κ), xI g (μ 2) 288 (enc σ), xI g (μ 4) 288 (enc κ), xI g (μ 5) 1152 (pst (pushG γ kn σ))]) F w [0, 1] [2, 3, 4] [3, 4, 0, 1, 2] rfl rfl rfl (fun _ => rfl)
      (fun hp => va_runV (As := [.int (nI 0)]) (rest := []) F.1 (kX6_sum l g μ true (pushN kn) ln 0 sp bg fm le fi se re ca (enc κ) 0 H.size (by omega)) (cwV 1 hts gX6_goBack_X6_sum rfl rfl rfl ⟨rfl, hd_X6_sum⟩ ⟨Nat.le_of_ble_eq_true rfl, Nat.le_of_ble_eq_true rfl⟩) ⟨hp.1, va_recv F.2.2.2.1.1 w.1 (q0 := 0) (ci := 6) rfl rfl, hp.2⟩ rfl rfl hl.1 rfl (lv_room (Nat.le_of_ble_eq_true rfl)) dX6_goBack_36 ⟨Nat.le_of_ble_eq_true rfl, Nat.le_of_ble_eq_true rfl⟩)
      (fun r_8 _ H locs h_9 w => ?_)
    subst h_9
    refine ktopi (y := nI (zcnt (zO κ) 48)) (sumZ_O _ 48 (Nat.le_refl _)) ?_
    subst hA
    subst hQ
    exact kreti F w () [0, 1, 2, 3, 4] rfl rfl (rfl) (Nat.le_of_ble_eq_true rfl) (Nat.le_of_ble_eq_true rfl) dX6_goBack_39
  · have h_3 : true = false := bI_z.mp h_3
    exact absurd h_3 (by simp)
