/-! ===== the reference: its 288 ints, of the same state ===== -/
def thZ (σ : Sg) (d : Nat) : Int32 := if zF σ d = true then (if zH σ d = true then 2 else 1) else 0
def enc (σ : Sg) (i : Nat) : Int32 :=
  if i < 48 then bI (zO σ (i + 1)) else if i < 96 then bI (zL σ (i - 47)) else if i < 144 then zT σ (i - 95) else if i < 192 then bI (zS σ (i - 143)) else if i < 240 then zI σ (i - 191) else if i < 288 then thZ σ (i - 239) else 0
abbrev cM (μ : Nat → Nat) (iK : Bool) (kn ln th sp bg : Nat) (fm : Bool) (le : Int32) (fi se re ca : Nat) : Nat × va_E :=
  xO (μ 0) 6 [.ref (μ 1), .ref (μ 2), .ref (μ 3), .ref (μ 4), .int (bI iK), .ref (μ 5), .int (nI kn), .ref (μ 6), .int (nI ln), .int (nI th), .int (nI sp), .int (nI bg), .int (bI fm), .int le, .int (nI fi), .int (nI se), .int (nI re), .int (nI ca)]
section ENC
variable {σ : Sg} {d : Nat}
theorem enc_O (h1 : 1 ≤ d) (h2 : d ≤ 48) : enc σ (0 + d - 1) = bI (zO σ d) := by
  unfold enc; rw [if_pos (by omega)]; rw [show 0 + d - 1 + 1 = d by omega]
theorem enc_L (h1 : 1 ≤ d) (h2 : d ≤ 48) : enc σ (48 + d - 1) = bI (zL σ d) := by
  unfold enc; rw [if_neg (by omega), if_pos (by omega)]; rw [show 48 + d - 1 - 47 = d by omega]
theorem enc_T (h1 : 1 ≤ d) (h2 : d ≤ 48) : enc σ (96 + d - 1) = zT σ d := by
  unfold enc; rw [if_neg (by omega), if_neg (by omega), if_pos (by omega)]; rw [show 96 + d - 1 - 95 = d by omega]
theorem enc_S (h1 : 1 ≤ d) (h2 : d ≤ 48) : enc σ (144 + d - 1) = bI (zS σ d) := by
  unfold enc; rw [if_neg (by omega), if_neg (by omega), if_neg (by omega), if_pos (by omega)]; rw [show 144 + d - 1 - 143 = d by omega]
theorem enc_I (h1 : 1 ≤ d) (h2 : d ≤ 48) : enc σ (192 + d - 1) = zI σ d := by
  unfold enc; rw [if_neg (by omega), if_neg (by omega), if_neg (by omega), if_neg (by omega), if_pos (by omega)]; rw [show 192 + d - 1 - 191 = d by omega]
theorem enc_H (h1 : 1 ≤ d) (h2 : d ≤ 48) : enc σ (240 + d - 1) = thZ σ d := by
  unfold enc; rw [if_neg (by omega), if_neg (by omega), if_neg (by omega), if_neg (by omega), if_neg (by omega), if_pos (by omega)]; rw [show 240 + d - 1 - 239 = d by omega]
end ENC
/-- two states whose ints are one but for the place of d -/
theorem enc_ext {σ : Sg} {f : Nat → Int32} (h0 : ∀ j, 288 ≤ j → f j = 0) (hO : ∀ d, 1 ≤ d → d ≤ 48 → f (0 + d - 1) = bI (zO σ d)) (hL : ∀ d, 1 ≤ d → d ≤ 48 → f (48 + d - 1) = bI (zL σ d)) (hT : ∀ d, 1 ≤ d → d ≤ 48 → f (96 + d - 1) = zT σ d)
    (hS : ∀ d, 1 ≤ d → d ≤ 48 → f (144 + d - 1) = bI (zS σ d)) (hI : ∀ d, 1 ≤ d → d ≤ 48 → f (192 + d - 1) = zI σ d) (hH : ∀ d, 1 ≤ d → d ≤ 48 → f (240 + d - 1) = thZ σ d) : f = enc σ := by
  funext i
  by_cases h1 : i < 48
  · have a := hO (i + 1) (by omega) (by omega); have b := enc_O (σ := σ) (d := i + 1) (by omega) (by omega)
    rw [show 0 + (i + 1) - 1 = i by omega] at a b; rw [a, b]
  by_cases h2 : i < 96
  · have a := hL (i - 47) (by omega) (by omega); have b := enc_L (σ := σ) (d := i - 47) (by omega) (by omega)
    rw [show 48 + (i - 47) - 1 = i by omega] at a b; rw [a, b]
  by_cases h3 : i < 144
  · have a := hT (i - 95) (by omega) (by omega); have b := enc_T (σ := σ) (d := i - 95) (by omega) (by omega)
    rw [show 96 + (i - 95) - 1 = i by omega] at a b; rw [a, b]
  by_cases h4 : i < 192
  · have a := hS (i - 143) (by omega) (by omega); have b := enc_S (σ := σ) (d := i - 143) (by omega) (by omega)
    rw [show 144 + (i - 143) - 1 = i by omega] at a b; rw [a, b]
  by_cases h5 : i < 240
  · have a := hI (i - 191) (by omega) (by omega); have b := enc_I (σ := σ) (d := i - 191) (by omega) (by omega)
    rw [show 192 + (i - 191) - 1 = i by omega] at a b; rw [a, b]
  by_cases h6 : i < 288
  · have a := hH (i - 239) (by omega) (by omega); have b := enc_H (σ := σ) (d := i - 239) (by omega) (by omega)
    rw [show 240 + (i - 239) - 1 = i by omega] at a b; rw [a, b]
  · rw [h0 i (by omega)]; unfold enc; rw [if_neg h1, if_neg h2, if_neg h3, if_neg h4, if_neg h5, if_neg h6]
theorem enc_out {σ : Sg} {j : Nat} (h : 288 ≤ j) : enc σ j = 0 := by
  unfold enc; rw [if_neg (by omega), if_neg (by omega), if_neg (by omega), if_neg (by omega), if_neg (by omega), if_neg (by omega)]
theorem enc_turn {σ : Sg} {d : Nat} (h1 : 1 ≤ d) (h2 : d ≤ 48) : upd (upd (enc σ) (0 + d - 1) (bI (!zO σ d))) (96 + d - 1) (zT σ d + 1) = enc (turnS d σ) := by
  refine enc_ext (fun j hj => by rw [upd_n (by omega), upd_n (by omega), enc_out hj]) (fun a p q => ?_) (fun a p q => ?_) (fun a p q => ?_) (fun a p q => ?_) (fun a p q => ?_) (fun a p q => ?_)
  · rw [upd_n (by omega)]
    by_cases e : a = d
    · subst e; rw [upd_s]; show bI (!zO σ a) = bI (zodd (upd (zT σ) a (zT σ a + 1) a)); rw [upd_s, zodd_1]; rfl
    · rw [upd_n (by omega), enc_O p q]; show bI (zodd (zT σ a)) = bI (zodd (upd (zT σ) d (zT σ d + 1) a)); rw [upd_n e]
  · rw [upd_n (by omega), upd_n (by omega), enc_L p q]; rfl
  · by_cases e : a = d
    · subst e; rw [upd_s]; show zT σ a + 1 = upd (zT σ) a (zT σ a + 1) a; rw [upd_s]
    · rw [upd_n (by omega), upd_n (by omega), enc_T p q]; show zT σ a = upd (zT σ) d (zT σ d + 1) a; rw [upd_n e]
  · rw [upd_n (by omega), upd_n (by omega), enc_S p q]; rfl
  · rw [upd_n (by omega), upd_n (by omega), enc_I p q]; rfl
  · rw [upd_n (by omega), upd_n (by omega), enc_H p q]; rfl
theorem enc_time {σ : Sg} {k : Nat} (h1 : 1 ≤ k) (h2 : k ≤ 48) : upd (enc σ) (192 + k - 1) (zI σ k + 1) = enc (timeS k σ) := by
  refine enc_ext (fun j hj => by rw [upd_n (by omega), enc_out hj]) (fun a p q => ?_) (fun a p q => ?_) (fun a p q => ?_) (fun a p q => ?_) (fun a p q => ?_) (fun a p q => ?_)
  · rw [upd_n (by omega), enc_O p q]; rfl
  · rw [upd_n (by omega), enc_L p q]; rfl
  · rw [upd_n (by omega), enc_T p q]; rfl
  · rw [upd_n (by omega), enc_S p q]; rfl
  · by_cases e : a = k
    · subst e; rw [upd_s]; show zI σ a + 1 = upd (zI σ) a (zI σ a + 1) a; rw [upd_s]
    · rw [upd_n (by omega), enc_I p q]; show zI σ a = upd (zI σ) k (zI σ k + 1) a; rw [upd_n e]
  · rw [upd_n (by omega), enc_H p q]; rfl
theorem turnL_time (k d : Nat) (σ : Sg) : turnL d (timeS k σ) = timeS k (turnL d σ) := by
  unfold turnL
  show (if zL σ d = true then timeS k σ else turnS d (timeS k σ)) = timeS k (if zL σ d = true then σ else turnS d σ)
  by_cases h : zL σ d = true
  · rw [if_pos h, if_pos h]
  · rw [if_neg h, if_neg h]; rfl
theorem passN_time (k : Nat) (σ : Sg) : ∀ j, passN k j (timeS k σ) = timeS k (passN k j σ)
  | 0 => rfl
  | j + 1 => by rw [passN, passN_time k σ j, turnL_time, passN]
theorem passS_time {k : Nat} {σ : Sg} : passS k σ = timeS k (passN k (48 / k) σ) := passN_time k σ _
theorem in_door (n : Int32) : decide ((nI 1).toInt ≤ n.toInt ∧ n.toInt ≤ (nI 48).toInt) = decide (1 ≤ n.toInt ∧ n.toInt ≤ 48) := by
  rw [ki_n (show 1 < 2147483648 by omega), ki_n (show 48 < 2147483648 by omega)]; rfl
def cpyU (f : Nat → Int32) (x : Nat) (h : Nat → Int32) (y i j : Nat) : Int32 := if y ≤ j ∧ j < y + i then f (x + (j - y)) else h j
theorem cpyU_0 {f : Nat → Int32} {x : Nat} {h : Nat → Int32} {y : Nat} : cpyU f x h y 0 = h := by funext j; unfold cpyU; rw [if_neg (by omega)]
theorem cpyU_s {f : Nat → Int32} {x : Nat} {h : Nat → Int32} {y i : Nat} : upd (cpyU f x h y i) (y + i) (f (x + i)) = cpyU f x h y (i + 1) := by
  funext j
  unfold upd cpyU
  by_cases e : j = y + i
  · subst e; rw [if_pos rfl, if_pos (by omega), show y + i - y = i by omega]
  · rw [if_neg e]
    by_cases e2 : y ≤ j ∧ j < y + i
    · rw [if_pos e2, if_pos (by omega)]
    · rw [if_neg e2, if_neg (by omega)]
theorem cpyU_in {f : Nat → Int32} {x : Nat} {h : Nat → Int32} {y i j : Nat} (h1 : y ≤ j) (h2 : j < y + i) : cpyU f x h y i j = f (x + (j - y)) := if_pos ⟨h1, h2⟩
theorem cpyU_out {f : Nat → Int32} {x : Nat} {h : Nat → Int32} {y i j : Nat} (h1 : ¬ (y ≤ j ∧ j < y + i)) : cpyU f x h y i j = h j := if_neg h1
def sumZ (f : Nat → Int32) (v : Nat) : Nat → Int32
  | 0 => nI 0
  | j + 1 => sumZ f v j + f (v + (j + 1) - 1)
def zcnt (p : Nat → Bool) : Nat → Nat
  | 0 => 0
  | j + 1 => zcnt p j + (if p (j + 1) = true then 1 else 0)
theorem zcnt_t {p : Nat → Bool} {j : Nat} (h : p (j + 1) = true) : zcnt p (j + 1) = zcnt p j + 1 := by rw [zcnt, if_pos h]
theorem zcnt_f {p : Nat → Bool} {j : Nat} (h : p (j + 1) = false) : zcnt p (j + 1) = zcnt p j := by rw [zcnt, if_neg (by rw [h]; decide)]; rfl
theorem zcnt_le (p : Nat → Bool) : ∀ n, zcnt p n ≤ n
  | 0 => Nat.le_refl 0
  | n + 1 => by have := zcnt_le p n; rw [zcnt]; split <;> omega
theorem zcnt_cong {p q : Nat → Bool} : ∀ {n : Nat}, (∀ d, 1 ≤ d → d ≤ n → p d = q d) → zcnt p n = zcnt q n
  | 0, _ => rfl
  | n + 1, h => by rw [zcnt, zcnt, zcnt_cong (fun d a b => h d a (by omega)), h (n + 1) (by omega) (Nat.le_refl _)]
theorem sumZ_O (σ : Sg) : ∀ n, n ≤ 48 → sumZ (enc σ) 0 n = nI (zcnt (zO σ) n)
  | 0, _ => rfl
  | n + 1, h => by
    rw [sumZ, sumZ_O σ n (by omega), enc_O (by omega) h]
    cases hz : zO σ (n + 1)
    · rw [zcnt_f hz]; show nI _ + nI 0 = _; rw [nI_add]; rfl
    · rw [zcnt_t hz]; show nI _ + nI 1 = _; rw [nI_add]
theorem th_12 {σ : Sg} {d : Nat} (hz : zF σ d = true) : thZ σ d = 1 ∨ thZ σ d = 2 := by
  unfold thZ
  rw [if_pos hz]
  cases zH σ d
  · exact Or.inl rfl
  · exact Or.inr rfl
theorem th_zero {σ : Sg} {d : Nat} (h : thZ σ d ≤ 0) : zF σ d = false := by
  cases hz : zF σ d
  · rfl
  · rcases th_12 hz with h2 | h2 <;> rw [h2] at h <;> exact absurd h (by decide)
theorem th_pos {σ : Sg} {d : Nat} (h : ¬ thZ σ d ≤ 0) : zF σ d = true := by
  cases hz : zF σ d
  · exact absurd (by unfold thZ; rw [if_neg (by rw [hz]; decide)]; decide) h
  · rfl
theorem kind_t {σ : Sg} {kd : Bool} {d : Nat} (h : thZ σ d = bI kd + nI 1) : kindP σ kd d = true := by
  unfold thZ at h; unfold kindP
  cases hz : zF σ d <;> cases hh : zH σ d <;> cases kd <;> rw [hz, hh] at h <;> first | rfl | exact absurd h (by decide)
theorem kind_f {σ : Sg} {kd : Bool} {d : Nat} (h : ¬ thZ σ d = bI kd + nI 1) : kindP σ kd d = false := by
  unfold thZ at h; unfold kindP
  cases hz : zF σ d <;> cases hh : zH σ d <;> cases kd <;> rw [hz, hh] at h <;> first | rfl | exact absurd (by decide) h
theorem in_X6_thrown_X6 : ∀ w ∈ wsX60, w ∈ wsX6_thrown := by decide +kernel
abbrev rmX6_thrown : Room := { frames := 0, cells := 0, slots := 0, locals := 0 }
set_option maxHeartbeats 4000000 in
set_option maxRecDepth 100000 in
theorem kX6_thrown (l : Launch) (g : GG) (μ : Nat → Nat) (iK : Bool) (kn : Nat) (ln : Nat) (th : Nat) (sp : Nat) (bg : Nat) (fm : Bool) (le : Int32) (fi : Nat) (se : Nat) (re : Nat) (ca : Nat) (sz : Nat)  : Met l yX6_thrown wsX6_thrown rmX6_thrown (va_Pc [.ref (μ 0)] (kPre g [cM μ iK kn ln th sp bg fm le fi se re ca] sz)) (va_Qi (fun (r : Int32) (u : Unit) => r = nI th) (kB g (va_A [cM μ iK kn ln th sp bg fm le fi se re ca] sz) (fun u => [cM μ iK kn ln th sp bg fm le fi se re ca])) (va_A [cM μ iK kn ln th sp bg fm le fi se re ca] sz)) 0 0 (va_A [cM μ iK kn ln th sp bg fm le fi se re ca] sz) := by
  refine kMet (cc := cX6_thrown) (maxL := 1) (ret := (some .int)) (own := RX6) (by decide) rfl rfl (Nat.le_of_ble_eq_true rfl) ?_
  intro p e s m args below meth c ls Q H locs A F w hl hnm hA hQ
  have hx := F.1.1
  have hb := F.1.2.1
  have hts := F.1.2.2.2.2
  have hl : lv_has ls 1 [(0, .ref (μ 0))] := hl
  refine lv_aload_n hx hb dX6_thrown_0 rfl (lv_at hl 0 rfl) ?_
  refine kget (fs := [.ref (μ 1), .ref (μ 2), .ref (μ 3), .ref (μ 4), .int (bI iK), .ref (μ 5), .int (nI kn), .ref (μ 6), .int (nI ln), .int (nI th), .int (nI sp), .int (nI bg), .int (bI fm), .int le, .int (nI fi), .int (nI se), .int (nI re), .int (nI ca)]) F w in_X6_thrown_X6 0 rfl rfl 9 (by decide) (by decide +kernel) rfl rfl dX6_thrown_1 ?_
  subst hA
  subst hQ
  exact kreti F w () [0] rfl rfl (rfl) (Nat.le_of_ble_eq_true rfl) (Nat.le_of_ble_eq_true rfl) dX6_thrown_4
theorem in_X6_fails_X6 : ∀ w ∈ wsX60, w ∈ wsX6_fails := by decide +kernel
abbrev rmX6_fails : Room := { frames := 0, cells := 0, slots := 0, locals := 0 }
set_option maxHeartbeats 4000000 in
set_option maxRecDepth 100000 in
theorem kX6_fails (l : Launch) (g : GG) (μ : Nat → Nat) (iK : Bool) (kn : Nat) (ln : Nat) (th : Nat) (sp : Nat) (bg : Nat) (fm : Bool) (le : Int32) (fi : Nat) (se : Nat) (re : Nat) (ca : Nat) (x : Nat) (sz : Nat)  : Met l yX6_fails wsX6_fails rmX6_fails (va_Pc [.ref (μ 0), .int (nI x)] (kPre g [cM μ iK kn ln th sp bg fm le fi se re ca] sz)) (va_Qi (fun (r : Int32) (u : Unit) => r = nI 0) (kB g (va_A [cM μ iK kn ln th sp bg fm le fi se re ca] sz) (fun u => [cM μ iK kn ln x sp bg fm le fi se re ca])) (va_A [cM μ iK kn ln th sp bg fm le fi se re ca] sz)) 0 0 (va_A [cM μ iK kn ln th sp bg fm le fi se re ca] sz) := by
  refine kMet (cc := cX6_fails) (maxL := 2) (ret := (some .int)) (own := RX6) (by decide) rfl rfl (Nat.le_of_ble_eq_true rfl) ?_
  intro p e s m args below meth c ls Q H locs A F w hl hnm hA hQ
  have hx := F.1.1
  have hb := F.1.2.1
  have hts := F.1.2.2.2.2
  have hl : lv_has ls 2 [(0, .ref (μ 0)), (1, .int (nI x))] := hl
  refine lv_aload_n hx hb dX6_fails_0 rfl (lv_at hl 0 rfl) ?_
  refine lv_iload_n hx hb dX6_fails_1 rfl (lv_at hl 1 rfl) ?_
  refine kput (fs := [.ref (μ 1), .ref (μ 2), .ref (μ 3), .ref (μ 4), .int (bI iK), .ref (μ 5), .int (nI kn), .ref (μ 6), .int (nI ln), .int (nI th), .int (nI sp), .int (nI bg), .int (bI fm), .int le, .int (nI fi), .int (nI se), .int (nI re), .int (nI ca)]) F w in_X6_fails_X6 tyX6_ok nmX6 0 rfl rfl 9 (by decide) (by decide +kernel) rfl rfl (rfl) (rfl) (Nat.le_of_ble_eq_true rfl) (wn := [cM μ iK kn ln x sp bg fm le fi se re ca]) rfl dX6_fails_2 (fun H locs w => ?_)
  refine lv_iconst (v := nI 0) hx hb dX6_fails_5 (by decide) ?_
  subst hA
  subst hQ
  exact kreti F w () [0] rfl rfl (rfl) (Nat.le_of_ble_eq_true rfl) (Nat.le_of_ble_eq_true rfl) dX6_fails_6
abbrev rmX6_in : Room := { frames := 0, cells := 0, slots := 0, locals := 0 }
set_option maxHeartbeats 4000000 in
set_option maxRecDepth 100000 in
theorem kX6_in (l : Launch) (g : GG) (v : Int32) (x : Int32) (y : Int32) (sz : Nat)  : Met l yX6_in wsX6_in rmX6_in (va_Pc [.int v, .int x, .int y] (kPre g [] sz)) (va_Qi (fun (r : Int32) (u : Unit) => r = bI (decide (x.toInt ≤ v.toInt ∧ v.toInt ≤ y.toInt))) (kB g (va_A [] sz) (fun u => [])) (va_A [] sz)) 0 0 (va_A [] sz) := by
  refine kMet (cc := cX6_in) (maxL := 3) (ret := (some .boolean)) (own := RX6) (by decide) rfl rfl (Nat.le_of_ble_eq_true rfl) ?_
  intro p e s m args below meth c ls Q H locs A F w hl hnm hA hQ
  have hx := F.1.1
  have hb := F.1.2.1
  have hts := F.1.2.2.2.2
  have hl : lv_has ls 3 [(0, .int v), (1, .int x), (2, .int y)] := hl
  refine lv_iload_n hx hb dX6_in_0 rfl (lv_at hl 0 rfl) ?_
  refine lv_iload_n hx hb dX6_in_1 rfl (lv_at hl 1 rfl) ?_
  refine lv_icmp_lt (tgt := 14) hx hb dX6_in_2 (by decide) (fun h_1 => ?_) (fun h_1 => ?_)
  · refine lv_iconst (v := nI 0) hx hb dX6_in_14 (by decide) ?_
    have hz : decide (x.toInt ≤ v.toInt ∧ v.toInt ≤ y.toInt) = false := by
      rw [decide_eq_false_iff_not]
      simp only [ki_lt, ki_le] at h_1
      omega
    subst hA
    subst hQ
    exact kretz F w () [] rfl rfl (by show nI 0 = bI (decide (x.toInt ≤ v.toInt ∧ v.toInt ≤ y.toInt)); rw [hz]; rfl) (by decide +kernel) (Nat.le_of_ble_eq_true rfl) (Nat.le_of_ble_eq_true rfl) dX6_in_15
  · refine lv_iload_n hx hb dX6_in_5 rfl (lv_at hl 0 rfl) ?_
    refine lv_iload_n hx hb dX6_in_6 rfl (lv_at hl 2 rfl) ?_
    refine lv_icmp_gt (tgt := 14) hx hb dX6_in_7 (by decide) (fun h_2 => ?_) (fun h_2 => ?_)
    · refine lv_iconst (v := nI 0) hx hb dX6_in_14 (by decide) ?_
      have hz : decide (x.toInt ≤ v.toInt ∧ v.toInt ≤ y.toInt) = false := by
        rw [decide_eq_false_iff_not]
        simp only [ki_lt, ki_le] at h_1 h_2
        omega
      subst hA
      subst hQ
      exact kretz F w () [] rfl rfl (by show nI 0 = bI (decide (x.toInt ≤ v.toInt ∧ v.toInt ≤ y.toInt)); rw [hz]; rfl) (by decide +kernel) (Nat.le_of_ble_eq_true rfl) (Nat.le_of_ble_eq_true rfl) dX6_in_15
    · refine lv_iconst (v := nI 1) hx hb dX6_in_10 (by decide) ?_
      refine lv_goto (tgt := 15) hx hb dX6_in_11 (by decide) ?_
      have hz : decide (x.toInt ≤ v.toInt ∧ v.toInt ≤ y.toInt) = true := by
        rw [decide_eq_true_iff]
        simp only [ki_lt, ki_le] at h_1 h_2
        omega
      subst hA
      subst hQ
      exact kretz F w () [] rfl rfl (by show nI 1 = bI (decide (x.toInt ≤ v.toInt ∧ v.toInt ≤ y.toInt)); rw [hz]; rfl) (by decide +kernel) (Nat.le_of_ble_eq_true rfl) (Nat.le_of_ble_eq_true rfl) dX6_in_15
theorem hd_X6_in : yX6_in.cls ≠ "java/lang/invoke/MethodHandle" ∧ yX6_in.cls ≠ "java/lang/invoke/VarHandle" ∧ (parseMethodDescriptor yX6_in.desc).map (fun d => d.parameters.length) = some 3 := by decide +kernel
abbrev rmX6_isDoor : Room := { frames := 1, cells := 0, slots := 0, locals := 22 }
set_option maxHeartbeats 4000000 in
set_option maxRecDepth 100000 in
theorem kX6_isDoor (l : Launch) (g : GG) (n : Int32) (sz : Nat)  : Met l yX6_isDoor wsX6_isDoor rmX6_isDoor (va_Pc [.int n] (kPre g [] sz)) (va_Qi (fun (r : Int32) (u : Unit) => r = bI (decide (1 ≤ n.toInt ∧ n.toInt ≤ 48))) (kB g (va_A [] sz) (fun u => [])) (va_A [] sz)) 0 0 (va_A [] sz) := by
  refine kMet (cc := cX6_isDoor) (maxL := 1) (ret := (some .boolean)) (own := RX6) (by decide) rfl rfl (Nat.le_of_ble_eq_true rfl) ?_
  intro p e s m args below meth c ls Q H locs A F w hl hnm hA hQ
  have hx := F.1.1
  have hb := F.1.2.1
  have hts := F.1.2.2.2.2
  have hl : lv_has ls 1 [(0, .int n)] := hl
  refine lv_iload_n hx hb dX6_isDoor_0 rfl (lv_at hl 0 rfl) ?_
  refine lv_iconst (v := nI 1) hx hb dX6_isDoor_1 (by decide) ?_
  refine lv_bipush (v := nI 48) hx hb dX6_isDoor_2 (by decide) ?_
  refine kcalli (wc := []) (wr := []) (wn := fun (u : Unit) => []) F w [] [] [] rfl rfl rfl (fun _ => rfl)
    (fun hp => va_runS (As := [.int n, .int (nI 1), .int (nI 48)]) (rest := []) F.1 (kX6_in l g n (nI 1) (nI 48) H.size ) (va_cwS 3 hts gX6_isDoor_X6_in rfl rfl rfl hd_X6_in ⟨Nat.le_of_ble_eq_true rfl, Nat.le_of_ble_eq_true rfl⟩) hp rfl rfl hl.1 rfl (lv_room (Nat.le_of_ble_eq_true rfl)) dX6_isDoor_4 ⟨Nat.le_of_ble_eq_true rfl, Nat.le_of_ble_eq_true rfl⟩)
    (fun r_1 _ H locs h_2 w => ?_)
  subst h_2
  refine ktopi (y := bI (decide (1 ≤ n.toInt ∧ n.toInt ≤ 48))) (congrArg bI (in_door n)) ?_
  subst hA
  subst hQ
  exact kretz F w () [] rfl rfl (rfl) (kz_n _) (Nat.le_of_ble_eq_true rfl) (Nat.le_of_ble_eq_true rfl) dX6_isDoor_7
abbrev rmX6_isKind : Room := { frames := 0, cells := 0, slots := 0, locals := 0 }
set_option maxHeartbeats 4000000 in
set_option maxRecDepth 100000 in
theorem kX6_isKind (l : Launch) (g : GG) (k : Int32) (sz : Nat)  : Met l yX6_isKind wsX6_isKind rmX6_isKind (va_Pc [.int k] (kPre g [] sz)) (va_Qi (fun (r : Int32) (u : Unit) => r = bI (decide (k = 0 ∨ k = 1))) (kB g (va_A [] sz) (fun u => [])) (va_A [] sz)) 0 0 (va_A [] sz) := by
  refine kMet (cc := cX6_isKind) (maxL := 1) (ret := (some .boolean)) (own := RX6) (by decide) rfl rfl (Nat.le_of_ble_eq_true rfl) ?_
  intro p e s m args below meth c ls Q H locs A F w hl hnm hA hQ
  have hx := F.1.1
  have hb := F.1.2.1
  have hts := F.1.2.2.2.2
  have hl : lv_has ls 1 [(0, .int k)] := hl
  refine lv_iload_n hx hb dX6_isKind_0 rfl (lv_at hl 0 rfl) ?_
  refine lv_if_eq (tgt := 9) hx hb dX6_isKind_1 (by decide) (fun h_1 => ?_) (fun h_1 => ?_)
  · refine lv_iconst (v := nI 1) hx hb dX6_isKind_9 (by decide) ?_
    refine lv_goto (tgt := 14) hx hb dX6_isKind_10 (by decide) ?_
    have hz : decide (k = 0 ∨ k = 1) = true := by
      rw [decide_eq_true_iff]
      exact Or.inl h_1
    subst hA
    subst hQ
    exact kretz F w () [] rfl rfl (by show nI 1 = bI (decide (k = 0 ∨ k = 1)); rw [hz]; rfl) (by decide +kernel) (Nat.le_of_ble_eq_true rfl) (Nat.le_of_ble_eq_true rfl) dX6_isKind_14
  · refine lv_iload_n hx hb dX6_isKind_4 rfl (lv_at hl 0 rfl) ?_
    refine lv_iconst (v := nI 1) hx hb dX6_isKind_5 (by decide) ?_
    refine lv_icmp_ne (tgt := 13) hx hb dX6_isKind_6 (by decide) (fun h_2 => ?_) (fun h_2 => ?_)
    · refine lv_iconst (v := nI 0) hx hb dX6_isKind_13 (by decide) ?_
      have hz : decide (k = 0 ∨ k = 1) = false := by
        rw [decide_eq_false_iff_not]
        exact fun hq => hq.elim (fun a => h_1 a) (fun a => h_2 a)
      subst hA
      subst hQ
      exact kretz F w () [] rfl rfl (by show nI 0 = bI (decide (k = 0 ∨ k = 1)); rw [hz]; rfl) (by decide +kernel) (Nat.le_of_ble_eq_true rfl) (Nat.le_of_ble_eq_true rfl) dX6_isKind_14
    · refine lv_iconst (v := nI 1) hx hb dX6_isKind_9 (by decide) ?_
      refine lv_goto (tgt := 14) hx hb dX6_isKind_10 (by decide) ?_
      have hz : decide (k = 0 ∨ k = 1) = true := by
        rw [decide_eq_true_iff]
        exact Or.inr (by first | exact h_2 | (have := h_2; simpa using this))
      subst hA
      subst hQ
      exact kretz F w () [] rfl rfl (by show nI 1 = bI (decide (k = 0 ∨ k = 1)); rw [hz]; rfl) (by decide +kernel) (Nat.le_of_ble_eq_true rfl) (Nat.le_of_ble_eq_true rfl) dX6_isKind_14
abbrev rmX6_copies : Room := { frames := 0, cells := 0, slots := 0, locals := 0 }
set_option maxHeartbeats 4000000 in
set_option maxRecDepth 100000 in
theorem kX6_copies (l : Launch) (g : GG) (a : Nat) (n : Nat) (f : Nat → Int32) (x : Nat) (b : Nat) (n2 : Nat) (h : Nat → Int32) (y : Nat) (sz : Nat) (hn : x + 288 ≤ n ∧ n < 2000) (hn2 : y + 288 ≤ n2 ∧ n2 < 2000) : Met l yX6_copies wsX6_copies rmX6_copies (va_Pc [.ref a, .int (nI x), .ref b, .int (nI y)] (kPre g [xI g a n f, xI g b n2 h] sz)) (va_Qv (fun (u : Unit) => True) (kB g (va_A [xI g a n f, xI g b n2 h] sz) (fun u => [xI g a n f, xI g b n2 (cpyU f x h y 288)])) (va_A [xI g a n f, xI g b n2 h] sz)) 0 0 (va_A [xI g a n f, xI g b n2 h] sz) := by
  refine kMet (cc := cX6_copies) (maxL := 5) (ret := none) (own := RX6) (by decide) rfl rfl (Nat.le_of_ble_eq_true rfl) ?_
  intro p e s m args below meth c ls Q H locs A F w hl hnm hA hQ
  have hx := F.1.1
  have hb := F.1.2.1
  have hts := F.1.2.2.2.2
  have hl : lv_has ls 5 [(0, .ref a), (1, .int (nI x)), (2, .ref b), (3, .int (nI y))] := hl
  refine lv_iconst (v := nI 0) hx hb dX6_copies_0 (by decide) ?_
  refine lv_istore (lv' := [(4, .int (nI 0)), (0, .ref a), (1, .int (nI x)), (2, .ref b), (3, .int (nI y))]) hx hb dX6_copies_1 hl (by decide) rfl (fun ls hl => ?_)
  have w : kW g A s [xI g a n f, xI g b n2 (cpyU f x h y 0)] H locs := by
    have w := w
    rw [cpyU_0]; exact w
  have LP_1 : ∀ (fu : Nat) (i : Nat) (h1 : i ≤ 288) (H : Heap) (locs : List Loc) (ls : Array Slot), 300 - i < fu → kW g A s [xI g a n f, xI g b n2 (cpyU f x h y i)] H locs → lv_has ls 5 [(4, .int (nI i)), (0, .ref a), (1, .int (nI x)), (2, .ref b), (3, .int (nI y))] → W p l e rmX6_copies s m args below meth c H locs 0 0 Q (F0 m 3 ls []) := by
    intro fu
    induction fu with
    | zero => intro i h1 H locs ls hlt; omega
    | succ fu ih_1 =>
      intro i h1 H locs ls hlt w hl
      refine lv_iload hx hb dX6_copies_3 (lv_at hl 0 rfl) ?_
      refine lv_sipush (v := nI 288) hx hb dX6_copies_5 (by decide) ?_
      refine lv_icmp_ge (tgt := 29) hx hb dX6_copies_8 (by decide) (fun h_2 => ?_) (fun h_2 => ?_)
      · have h_2 : i ≥ 288 := (kc_ge_t (by omega) (by omega)).mp h_2
        have e_3 : i = 288 := by omega
        subst e_3
        subst hA
        subst hQ
        exact kretv F w () [0, 1] rfl rfl (trivial) (Nat.le_of_ble_eq_true rfl) (Nat.le_of_ble_eq_true rfl) dX6_copies_29
      · have h_2 : i < 288 := (kc_ge_f (by omega) (by omega)).mp h_2
        refine lv_aload_n hx hb dX6_copies_11 rfl (lv_at hl 3 rfl) ?_
        refine lv_iload_n hx hb dX6_copies_12 rfl (lv_at hl 4 rfl) ?_
        refine lv_iload hx hb dX6_copies_13 (lv_at hl 0 rfl) ?_
        refine lv_iadd hx hb dX6_copies_15 ?_
        refine ktopi (y := nI (y + i)) (nI_add y i) ?_
        refine lv_aload_n hx hb dX6_copies_16 rfl (lv_at hl 1 rfl) ?_
        refine lv_iload_n hx hb dX6_copies_17 rfl (lv_at hl 2 rfl) ?_
        refine lv_iload hx hb dX6_copies_18 (lv_at hl 0 rfl) ?_
        refine lv_iadd hx hb dX6_copies_20 ?_
        refine ktopi (y := nI (x + i)) (nI_add x i) ?_
        refine kiald (v := f (x + i)) F w 0 rfl (vp_in_nI (by omega) (by omega)) (congrArg f (nI_clamp (n := x + i) (by omega))) dX6_copies_21 ?_
        refine kiast (f' := upd (cpyU f x h y i) (y + i) (f (x + i))) F w 1 rfl (vp_in_nI (by omega) (by omega)) (congrArg (fun z => upd (cpyU f x h y i) z (f (x + i))) (nI_clamp (n := y + i) (by omega))) (wn := [xI g a n f, xI g b n2 (upd (cpyU f x h y i) (y + i) (f (x + i)))]) rfl dX6_copies_22 (fun H locs w => ?_)
        have w : kW g A s [xI g a n f, xI g b n2 (cpyU f x h y (i + 1))] H locs := by
          have w := w
          rw [← cpyU_s]; exact w
        refine lv_iinc (v := nI (i + 1)) (lv' := [(4, .int (nI (i + 1))), (0, .ref a), (1, .int (nI x)), (2, .ref b), (3, .int (nI y))]) hx hb dX6_copies_23 hl (k := 0) rfl (nI_add i 1) (by decide) rfl (fun ls hl => ?_)
        refine lv_goto (tgt := 3) hx hb dX6_copies_26 (by decide) ?_
        exact ih_1 (i + 1) (by omega) _ _ _ (by omega) (kW.perm w [0, 1] rfl rfl) (lv_sub hl [0, 1, 2, 3, 4] rfl)
  exact LP_1 _ 0 (by omega) _ _ _ (Nat.lt_succ_self _) (kW.perm w [0, 1] rfl rfl) (lv_sub hl [0, 1, 2, 3, 4] rfl)
theorem in_X6_of_X6 : ∀ w ∈ wsX60, w ∈ wsX6_of := by decide +kernel
abbrev rmX6_of : Room := { frames := 0, cells := 0, slots := 0, locals := 0 }
set_option maxHeartbeats 4000000 in
set_option maxRecDepth 100000 in
theorem kX6_of (l : Launch) (g : GG) (μ : Nat → Nat) (iK : Bool) (kn : Nat) (ln : Nat) (th : Nat) (sp : Nat) (bg : Nat) (fm : Bool) (le : Int32) (fi : Nat) (se : Nat) (re : Nat) (ca : Nat) (f : Nat → Int32) (d : Nat) (v : Nat) (sz : Nat) (hd : 1 ≤ d ∧ d ≤ 48 ∧ v ≤ 240) : Met l yX6_of wsX6_of rmX6_of (va_Pc [.ref (μ 0), .int (nI d), .int (nI v)] (kPre g [cM μ iK kn ln th sp bg fm le fi se re ca, xI g (μ 1) 288 f] sz)) (va_Qi (fun (r : Int32) (u : Unit) => r = f (v + d - 1)) (kB g (va_A [cM μ iK kn ln th sp bg fm le fi se re ca, xI g (μ 1) 288 f] sz) (fun u => [cM μ iK kn ln th sp bg fm le fi se re ca, xI g (μ 1) 288 f])) (va_A [cM μ iK kn ln th sp bg fm le fi se re ca, xI g (μ 1) 288 f] sz)) 0 0 (va_A [cM μ iK kn ln th sp bg fm le fi se re ca, xI g (μ 1) 288 f] sz) := by
  refine kMet (cc := cX6_of) (maxL := 3) (ret := (some .int)) (own := RX6) (by decide) rfl rfl (Nat.le_of_ble_eq_true rfl) ?_
  intro p e s m args below meth c ls Q H locs A F w hl hnm hA hQ
  have hx := F.1.1
  have hb := F.1.2.1
  have hts := F.1.2.2.2.2
  have hl : lv_has ls 3 [(0, .ref (μ 0)), (1, .int (nI d)), (2, .int (nI v))] := hl
  refine lv_aload_n hx hb dX6_of_0 rfl (lv_at hl 0 rfl) ?_
  refine kget (fs := [.ref (μ 1), .ref (μ 2), .ref (μ 3), .ref (μ 4), .int (bI iK), .ref (μ 5), .int (nI kn), .ref (μ 6), .int (nI ln), .int (nI th), .int (nI sp), .int (nI bg), .int (bI fm), .int le, .int (nI fi), .int (nI se), .int (nI re), .int (nI ca)]) F w in_X6_of_X6 0 rfl rfl 0 (by decide) (by decide +kernel) rfl rfl dX6_of_1 ?_
  refine lv_iload_n hx hb dX6_of_4 rfl (lv_at hl 2 rfl) ?_
  refine lv_iload_n hx hb dX6_of_5 rfl (lv_at hl 1 rfl) ?_
  refine lv_iadd hx hb dX6_of_6 ?_
  refine ktopi (y := nI (v + d)) (nI_add v d) ?_
  refine lv_iconst (v := nI 1) hx hb dX6_of_7 (by decide) ?_
  refine lv_isub hx hb dX6_of_8 ?_
  refine ktopi (y := nI (v + d - 1)) (pk_sub (a := v + d) (b := 1) (by omega)) ?_
  refine kiald (v := f (v + d - 1)) F w 1 rfl (vp_in_nI (by omega) (by omega)) (congrArg f (nI_clamp (n := v + d - 1) (by omega))) dX6_of_9 ?_
  subst hA
  subst hQ
  exact kreti F w () [0, 1] rfl rfl (rfl) (Nat.le_of_ble_eq_true rfl) (Nat.le_of_ble_eq_true rfl) dX6_of_10
theorem in_X6_lays_X6 : ∀ w ∈ wsX60, w ∈ wsX6_lays := by decide +kernel
abbrev rmX6_lays : Room := { frames := 0, cells := 0, slots := 0, locals := 0 }
set_option maxHeartbeats 4000000 in
set_option maxRecDepth 100000 in
theorem kX6_lays (l : Launch) (g : GG) (μ : Nat → Nat) (iK : Bool) (kn : Nat) (ln : Nat) (th : Nat) (sp : Nat) (bg : Nat) (fm : Bool) (le : Int32) (fi : Nat) (se : Nat) (re : Nat) (ca : Nat) (f : Nat → Int32) (d : Nat) (v : Nat) (x : Int32) (sz : Nat) (hd : 1 ≤ d ∧ d ≤ 48 ∧ v ≤ 240) : Met l yX6_lays wsX6_lays rmX6_lays (va_Pc [.ref (μ 0), .int (nI d), .int (nI v), .int x] (kPre g [cM μ iK kn ln th sp bg fm le fi se re ca, xI g (μ 1) 288 f] sz)) (va_Qv (fun (u : Unit) => True) (kB g (va_A [cM μ iK kn ln th sp bg fm le fi se re ca, xI g (μ 1) 288 f] sz) (fun u => [cM μ iK kn ln th sp bg fm le fi se re ca, xI g (μ 1) 288 (upd f (v + d - 1) x)])) (va_A [cM μ iK kn ln th sp bg fm le fi se re ca, xI g (μ 1) 288 f] sz)) 0 0 (va_A [cM μ iK kn ln th sp bg fm le fi se re ca, xI g (μ 1) 288 f] sz) := by
  refine kMet (cc := cX6_lays) (maxL := 4) (ret := none) (own := RX6) (by decide) rfl rfl (Nat.le_of_ble_eq_true rfl) ?_
  intro p e s m args below meth c ls Q H locs A F w hl hnm hA hQ
  have hx := F.1.1
  have hb := F.1.2.1
  have hts := F.1.2.2.2.2
  have hl : lv_has ls 4 [(0, .ref (μ 0)), (1, .int (nI d)), (2, .int (nI v)), (3, .int x)] := hl
  refine lv_aload_n hx hb dX6_lays_0 rfl (lv_at hl 0 rfl) ?_
  refine kget (fs := [.ref (μ 1), .ref (μ 2), .ref (μ 3), .ref (μ 4), .int (bI iK), .ref (μ 5), .int (nI kn), .ref (μ 6), .int (nI ln), .int (nI th), .int (nI sp), .int (nI bg), .int (bI fm), .int le, .int (nI fi), .int (nI se), .int (nI re), .int (nI ca)]) F w in_X6_lays_X6 0 rfl rfl 0 (by decide) (by decide +kernel) rfl rfl dX6_lays_1 ?_
  refine lv_iload_n hx hb dX6_lays_4 rfl (lv_at hl 2 rfl) ?_
  refine lv_iload_n hx hb dX6_lays_5 rfl (lv_at hl 1 rfl) ?_
  refine lv_iadd hx hb dX6_lays_6 ?_
  refine ktopi (y := nI (v + d)) (nI_add v d) ?_
  refine lv_iconst (v := nI 1) hx hb dX6_lays_7 (by decide) ?_
  refine lv_isub hx hb dX6_lays_8 ?_
  refine ktopi (y := nI (v + d - 1)) (pk_sub (a := v + d) (b := 1) (by omega)) ?_
  refine lv_iload_n hx hb dX6_lays_9 rfl (lv_at hl 3 rfl) ?_
  refine kiast (f' := upd f (v + d - 1) x) F w 1 rfl (vp_in_nI (by omega) (by omega)) (congrArg (fun z => upd f z x) (nI_clamp (n := v + d - 1) (by omega))) (wn := [cM μ iK kn ln th sp bg fm le fi se re ca, xI g (μ 1) 288 (upd f (v + d - 1) x)]) rfl dX6_lays_10 (fun H locs w => ?_)
  subst hA
  subst hQ
  exact kretv F w () [0, 1] rfl rfl (trivial) (Nat.le_of_ble_eq_true rfl) (Nat.le_of_ble_eq_true rfl) dX6_lays_11
theorem hd_X6_of : yX6_of.cls ≠ "java/lang/invoke/MethodHandle" ∧ yX6_of.cls ≠ "java/lang/invoke/VarHandle" ∧ (parseMethodDescriptor yX6_of.desc).map (fun d => d.parameters.length) = some 2 := by decide +kernel
abbrev rmX6_sum : Room := { frames := 1, cells := 0, slots := 0, locals := 22 }
set_option maxHeartbeats 4000000 in
set_option maxRecDepth 100000 in
theorem kX6_sum (l : Launch) (g : GG) (μ : Nat → Nat) (iK : Bool) (kn : Nat) (ln : Nat) (th : Nat) (sp : Nat) (bg : Nat) (fm : Bool) (le : Int32) (fi : Nat) (se : Nat) (re : Nat) (ca : Nat) (f : Nat → Int32) (v : Nat) (sz : Nat) (hv : v ≤ 240) : Met l yX6_sum wsX6_sum rmX6_sum (va_Pc [.ref (μ 0), .int (nI v)] (kPre g [cM μ iK kn ln th sp bg fm le fi se re ca, xI g (μ 1) 288 f] sz)) (va_Qi (fun (r : Int32) (u : Unit) => r = sumZ f v 48) (kB g (va_A [cM μ iK kn ln th sp bg fm le fi se re ca, xI g (μ 1) 288 f] sz) (fun u => [cM μ iK kn ln th sp bg fm le fi se re ca, xI g (μ 1) 288 f])) (va_A [cM μ iK kn ln th sp bg fm le fi se re ca, xI g (μ 1) 288 f] sz)) 0 0 (va_A [cM μ iK kn ln th sp bg fm le fi se re ca, xI g (μ 1) 288 f] sz) := by
  refine kMet (cc := cX6_sum) (maxL := 4) (ret := (some .int)) (own := RX6) (by decide) rfl rfl (Nat.le_of_ble_eq_true rfl) ?_
  intro p e s m args below meth c ls Q H locs A F w hl hnm hA hQ
  have hx := F.1.1
  have hb := F.1.2.1
  have hts := F.1.2.2.2.2
  have hl : lv_has ls 4 [(0, .ref (μ 0)), (1, .int (nI v))] := hl
  refine lv_iconst (v := nI 0) hx hb dX6_sum_0 (by decide) ?_
  refine ktopi (y := sumZ f v 0) (rfl) ?_
  refine lv_istore_n (lv' := [(2, .int (sumZ f v 0)), (0, .ref (μ 0)), (1, .int (nI v))]) hx hb dX6_sum_1 rfl hl (by decide) rfl (fun ls hl => ?_)
  refine lv_iconst (v := nI 1) hx hb dX6_sum_2 (by decide) ?_
  refine ktopi (y := nI (0 + 1)) (rfl) ?_
  refine lv_istore_n (lv' := [(3, .int (nI (0 + 1))), (2, .int (sumZ f v 0)), (0, .ref (μ 0)), (1, .int (nI v))]) hx hb dX6_sum_3 rfl hl (by decide) rfl (fun ls hl => ?_)
  have LP_1 : ∀ (fu : Nat) (j : Nat) (h1 : j ≤ 48) (H : Heap) (locs : List Loc) (ls : Array Slot), 50 - j < fu → kW g A s [cM μ iK kn ln th sp bg fm le fi se re ca, xI g (μ 1) 288 f] H locs → lv_has ls 4 [(3, .int (nI (j + 1))), (2, .int (sumZ f v j)), (0, .ref (μ 0)), (1, .int (nI v))] → W p l e rmX6_sum s m args below meth c H locs 0 0 Q (F0 m 4 ls []) := by
    intro fu
    induction fu with
    | zero => intro j h1 H locs ls hlt; omega
    | succ fu ih_1 =>
      intro j h1 H locs ls hlt w hl
      refine lv_iload_n hx hb dX6_sum_4 rfl (lv_at hl 0 rfl) ?_
      refine lv_bipush (v := nI 48) hx hb dX6_sum_5 (by decide) ?_
      refine lv_icmp_gt (tgt := 25) hx hb dX6_sum_7 (by decide) (fun h_2 => ?_) (fun h_2 => ?_)
      · have h_2 : j + 1 > 48 := (kc_gt_t (by omega) (by omega)).mp h_2
        have e_3 : j = 48 := by omega
        subst e_3
        refine lv_iload_n hx hb dX6_sum_25 rfl (lv_at hl 1 rfl) ?_
        subst hA
        subst hQ
        exact kreti F w () [0, 1] rfl rfl (rfl) (Nat.le_of_ble_eq_true rfl) (Nat.le_of_ble_eq_true rfl) dX6_sum_26
      · have h_2 : j + 1 ≤ 48 := (kc_gt_f (by omega) (by omega)).mp h_2
        refine lv_iload_n hx hb dX6_sum_10 rfl (lv_at hl 1 rfl) ?_
        refine lv_aload_n hx hb dX6_sum_11 rfl (lv_at hl 2 rfl) ?_
        refine lv_iload_n hx hb dX6_sum_12 rfl (lv_at hl 0 rfl) ?_
        refine lv_iload_n hx hb dX6_sum_13 rfl (lv_at hl 3 rfl) ?_
        refine kcalli (wc := [cM μ iK kn ln th sp bg fm le fi se re ca, xI g (μ 1) 288 f]) (wr := []) (wn := fun (u : Unit) => [cM μ iK kn ln th sp bg fm le fi se re ca, xI g (μ 1) 288 f]) F w [0, 1] [] [0, 1] rfl rfl rfl (fun _ => rfl)
          (fun hp => va_runV (As := [.int (nI (j + 1)), .int (nI v)]) (rest := [.int (sumZ f v j)]) F.1 (kX6_of l g μ iK kn ln th sp bg fm le fi se re ca f (j + 1) v H.size (by omega)) (cwV 2 hts gX6_sum_X6_of rfl rfl rfl ⟨rfl, hd_X6_of⟩ ⟨Nat.le_of_ble_eq_true rfl, Nat.le_of_ble_eq_true rfl⟩) ⟨hp.1, va_recv F.2.2.2.1.1 w.1 (q0 := 0) (ci := 6) rfl rfl, hp.2⟩ rfl rfl hl.1 rfl (lv_room (Nat.le_of_ble_eq_true rfl)) dX6_sum_14 ⟨Nat.le_of_ble_eq_true rfl, Nat.le_of_ble_eq_true rfl⟩)
          (fun r_4 _ H locs h_5 w => ?_)
        subst h_5
        refine lv_iadd hx hb dX6_sum_17 ?_
        refine ktopi (y := sumZ f v (j + 1)) (rfl) ?_
        refine lv_istore_n (lv' := [(2, .int (sumZ f v (j + 1))), (3, .int (nI (j + 1))), (0, .ref (μ 0)), (1, .int (nI v))]) hx hb dX6_sum_18 rfl hl (by decide) rfl (fun ls hl => ?_)
        refine lv_iinc (v := nI (j + 1 + 1)) (lv' := [(3, .int (nI (j + 1 + 1))), (2, .int (sumZ f v (j + 1))), (0, .ref (μ 0)), (1, .int (nI v))]) hx hb dX6_sum_19 hl (k := 1) rfl (nI_add (j + 1) 1) (by decide) rfl (fun ls hl => ?_)
        refine lv_goto (tgt := 4) hx hb dX6_sum_22 (by decide) ?_
        exact ih_1 (j + 1) (by omega) _ _ _ (by omega) (kW.perm w [0, 1] rfl rfl) (lv_sub hl [0, 1, 2, 3] rfl)
  exact LP_1 _ 0 (by omega) _ _ _ (Nat.lt_succ_self _) (kW.perm w [0, 1] rfl rfl) (lv_sub hl [0, 1, 2, 3] rfl)
theorem hd_X6_lays : yX6_lays.cls ≠ "java/lang/invoke/MethodHandle" ∧ yX6_lays.cls ≠ "java/lang/invoke/VarHandle" ∧ (parseMethodDescriptor yX6_lays.desc).map (fun d => d.parameters.length) = some 3 := by decide +kernel
abbrev rmX6_turns : Room := { frames := 1, cells := 0, slots := 0, locals := 23 }
set_option maxHeartbeats 4000000 in
set_option maxRecDepth 100000 in
theorem kX6_turns (l : Launch) (g : GG) (μ : Nat → Nat) (iK : Bool) (kn : Nat) (ln : Nat) (th : Nat) (sp : Nat) (bg : Nat) (fm : Bool) (le : Int32) (fi : Nat) (se : Nat) (re : Nat) (ca : Nat) (σ : Sg) (d : Nat) (sz : Nat) (hd : 1 ≤ d ∧ d ≤ 48) : Met l yX6_turns wsX6_turns rmX6_turns (va_Pc [.ref (μ 0), .int (nI d)] (kPre g [cM μ iK kn ln th sp bg fm le fi se re ca, xI g (μ 1) 288 (enc σ)] sz)) (va_Qv (fun (u : Unit) => True) (kB g (va_A [cM μ iK kn ln th sp bg fm le fi se re ca, xI g (μ 1) 288 (enc σ)] sz) (fun u => [cM μ iK kn ln th sp bg fm le fi se re ca, xI g (μ 1) 288 (enc (turnS d σ))])) (va_A [cM μ iK kn ln th sp bg fm le fi se re ca, xI g (μ 1) 288 (enc σ)] sz)) 0 0 (va_A [cM μ iK kn ln th sp bg fm le fi se re ca, xI g (μ 1) 288 (enc σ)] sz) := by
  refine kMet (cc := cX6_turns) (maxL := 2) (ret := none) (own := RX6) (by decide) rfl rfl (Nat.le_of_ble_eq_true rfl) ?_
  intro p e s m args below meth c ls Q H locs A F w hl hnm hA hQ
  have hx := F.1.1
  have hb := F.1.2.1
  have hts := F.1.2.2.2.2
  have hl : lv_has ls 2 [(0, .ref (μ 0)), (1, .int (nI d))] := hl
  refine lv_aload_n hx hb dX6_turns_0 rfl (lv_at hl 0 rfl) ?_
  refine lv_iload_n hx hb dX6_turns_1 rfl (lv_at hl 1 rfl) ?_
  refine lv_iconst (v := nI 0) hx hb dX6_turns_2 (by decide) ?_
  refine lv_iconst (v := nI 1) hx hb dX6_turns_3 (by decide) ?_
  refine lv_aload_n hx hb dX6_turns_4 rfl (lv_at hl 0 rfl) ?_
  refine lv_iload_n hx hb dX6_turns_5 rfl (lv_at hl 1 rfl) ?_
  refine lv_iconst (v := nI 0) hx hb dX6_turns_6 (by decide) ?_
  refine kcalli (wc := [cM μ iK kn ln th sp bg fm le fi se re ca, xI g (μ 1) 288 (enc σ)]) (wr := []) (wn := fun (u : Unit) => [cM μ iK kn ln th sp bg fm le fi se re ca, xI g (μ 1) 288 (enc σ)]) F w [0, 1] [] [0, 1] rfl rfl rfl (fun _ => rfl)
    (fun hp => va_runV (As := [.int (nI d), .int (nI 0)]) (rest := [.int (nI 1), .int (nI 0), .int (nI d), .ref (μ 0)]) F.1 (kX6_of l g μ iK kn ln th sp bg fm le fi se re ca (enc σ) d 0 H.size (by omega)) (cwV 2 hts gX6_turns_X6_of rfl rfl rfl ⟨rfl, hd_X6_of⟩ ⟨Nat.le_of_ble_eq_true rfl, Nat.le_of_ble_eq_true rfl⟩) ⟨hp.1, va_recv F.2.2.2.1.1 w.1 (q0 := 0) (ci := 6) rfl rfl, hp.2⟩ rfl rfl hl.1 rfl (lv_room (Nat.le_of_ble_eq_true rfl)) dX6_turns_7 ⟨Nat.le_of_ble_eq_true rfl, Nat.le_of_ble_eq_true rfl⟩)
    (fun r_1 _ H locs h_2 w => ?_)
  subst h_2
  refine lv_isub hx hb dX6_turns_10 ?_
  refine ktopi (y := bI (!zO σ d)) (by rw [enc_O hd.1 hd.2]; cases zO σ d <;> rfl) ?_
  refine kcallv (wc := [cM μ iK kn ln th sp bg fm le fi se re ca, xI g (μ 1) 288 (enc σ)]) (wr := []) (wn := fun (u : Unit) => [cM μ iK kn ln th sp bg fm le fi se re ca, xI g (μ 1) 288 (upd (enc σ) (0 + d - 1) (bI (!zO σ d)))]) F w [0, 1] [] [0, 1] rfl rfl rfl (fun _ => rfl)
    (fun hp => va_runV (As := [.int (nI d), .int (nI 0), .int (bI (!zO σ d))]) (rest := []) F.1 (kX6_lays l g μ iK kn ln th sp bg fm le fi se re ca (enc σ) d 0 (bI (!zO σ d)) H.size (by omega)) (cwV 3 hts gX6_turns_X6_lays rfl rfl rfl ⟨rfl, hd_X6_lays⟩ ⟨Nat.le_of_ble_eq_true rfl, Nat.le_of_ble_eq_true rfl⟩) ⟨hp.1, va_recv F.2.2.2.1.1 w.1 (q0 := 0) (ci := 6) rfl rfl, hp.2⟩ rfl rfl hl.1 rfl (lv_room (Nat.le_of_ble_eq_true rfl)) dX6_turns_11 ⟨Nat.le_of_ble_eq_true rfl, Nat.le_of_ble_eq_true rfl⟩)
    (fun _ H locs h_4 w => ?_)
  refine lv_aload_n hx hb dX6_turns_14 rfl (lv_at hl 0 rfl) ?_
  refine lv_iload_n hx hb dX6_turns_15 rfl (lv_at hl 1 rfl) ?_
  refine lv_bipush (v := nI 96) hx hb dX6_turns_16 (by decide) ?_
  refine lv_aload_n hx hb dX6_turns_18 rfl (lv_at hl 0 rfl) ?_
  refine lv_iload_n hx hb dX6_turns_19 rfl (lv_at hl 1 rfl) ?_
  refine lv_bipush (v := nI 96) hx hb dX6_turns_20 (by decide) ?_
  refine kcalli (wc := [cM μ iK kn ln th sp bg fm le fi se re ca, xI g (μ 1) 288 (upd (enc σ) (0 + d - 1) (bI (!zO σ d)))]) (wr := []) (wn := fun (u : Unit) => [cM μ iK kn ln th sp bg fm le fi se re ca, xI g (μ 1) 288 (upd (enc σ) (0 + d - 1) (bI (!zO σ d)))]) F w [0, 1] [] [0, 1] rfl rfl rfl (fun _ => rfl)
    (fun hp => va_runV (As := [.int (nI d), .int (nI 96)]) (rest := [.int (nI 96), .int (nI d), .ref (μ 0)]) F.1 (kX6_of l g μ iK kn ln th sp bg fm le fi se re ca (upd (enc σ) (0 + d - 1) (bI (!zO σ d))) d 96 H.size (by omega)) (cwV 2 hts gX6_turns_X6_of rfl rfl rfl ⟨rfl, hd_X6_of⟩ ⟨Nat.le_of_ble_eq_true rfl, Nat.le_of_ble_eq_true rfl⟩) ⟨hp.1, va_recv F.2.2.2.1.1 w.1 (q0 := 0) (ci := 6) rfl rfl, hp.2⟩ rfl rfl hl.1 rfl (lv_room (Nat.le_of_ble_eq_true rfl)) dX6_turns_22 ⟨Nat.le_of_ble_eq_true rfl, Nat.le_of_ble_eq_true rfl⟩)
    (fun r_5 _ H locs h_6 w => ?_)
  subst h_6
  refine ktopi (y := zT σ d) (by rw [upd_n (by omega), enc_T hd.1 hd.2]) ?_
  refine lv_iconst (v := nI 1) hx hb dX6_turns_25 (by decide) ?_
  refine lv_iadd hx hb dX6_turns_26 ?_
  refine ktopi (y := zT σ d + 1) (rfl) ?_
  refine kcallv (wc := [cM μ iK kn ln th sp bg fm le fi se re ca, xI g (μ 1) 288 (upd (enc σ) (0 + d - 1) (bI (!zO σ d)))]) (wr := []) (wn := fun (u : Unit) => [cM μ iK kn ln th sp bg fm le fi se re ca, xI g (μ 1) 288 (upd (upd (enc σ) (0 + d - 1) (bI (!zO σ d))) (96 + d - 1) (zT σ d + 1))]) F w [0, 1] [] [0, 1] rfl rfl rfl (fun _ => rfl)
    (fun hp => va_runV (As := [.int (nI d), .int (nI 96), .int (zT σ d + 1)]) (rest := []) F.1 (kX6_lays l g μ iK kn ln th sp bg fm le fi se re ca (upd (enc σ) (0 + d - 1) (bI (!zO σ d))) d 96 (zT σ d + 1) H.size (by omega)) (cwV 3 hts gX6_turns_X6_lays rfl rfl rfl ⟨rfl, hd_X6_lays⟩ ⟨Nat.le_of_ble_eq_true rfl, Nat.le_of_ble_eq_true rfl⟩) ⟨hp.1, va_recv F.2.2.2.1.1 w.1 (q0 := 0) (ci := 6) rfl rfl, hp.2⟩ rfl rfl hl.1 rfl (lv_room (Nat.le_of_ble_eq_true rfl)) dX6_turns_27 ⟨Nat.le_of_ble_eq_true rfl, Nat.le_of_ble_eq_true rfl⟩)
    (fun _ H locs h_8 w => ?_)
  have w : kW g A s [cM μ iK kn ln th sp bg fm le fi se re ca, xI g (μ 1) 288 (enc (turnS d σ))] H locs := by
    have w := w
    rw [← enc_turn hd.1 hd.2]; exact w
  subst hA
  subst hQ
  exact kretv F w () [0, 1] rfl rfl (trivial) (Nat.le_of_ble_eq_true rfl) (Nat.le_of_ble_eq_true rfl) dX6_turns_30
theorem hd_X6_turns : yX6_turns.cls ≠ "java/lang/invoke/MethodHandle" ∧ yX6_turns.cls ≠ "java/lang/invoke/VarHandle" ∧ (parseMethodDescriptor yX6_turns.desc).map (fun d => d.parameters.length) = some 1 := by decide +kernel
abbrev rmX6_passes : Room := { frames := 2, cells := 0, slots := 0, locals := 44 }
set_option maxHeartbeats 4000000 in
set_option maxRecDepth 100000 in
theorem kX6_passes (l : Launch) (g : GG) (μ : Nat → Nat) (iK : Bool) (kn : Nat) (ln : Nat) (th : Nat) (sp : Nat) (bg : Nat) (fm : Bool) (le : Int32) (fi : Nat) (se : Nat) (re : Nat) (ca : Nat) (σ : Sg) (k : Nat) (sz : Nat) (hk : 1 ≤ k ∧ k ≤ 48) : Met l yX6_passes wsX6_passes rmX6_passes (va_Pc [.ref (μ 0), .int (nI k)] (kPre g [cM μ iK kn ln th sp bg fm le fi se re ca, xI g (μ 1) 288 (enc σ)] sz)) (va_Qv (fun (u : Unit) => True) (kB g (va_A [cM μ iK kn ln th sp bg fm le fi se re ca, xI g (μ 1) 288 (enc σ)] sz) (fun u => [cM μ iK kn ln th sp bg fm le fi se re ca, xI g (μ 1) 288 (enc (passS k σ))])) (va_A [cM μ iK kn ln th sp bg fm le fi se re ca, xI g (μ 1) 288 (enc σ)] sz)) 0 0 (va_A [cM μ iK kn ln th sp bg fm le fi se re ca, xI g (μ 1) 288 (enc σ)] sz) := by
  refine kMet (cc := cX6_passes) (maxL := 3) (ret := none) (own := RX6) (by decide) rfl rfl (Nat.le_of_ble_eq_true rfl) ?_
  intro p e s m args below meth c ls Q H locs A F w hl hnm hA hQ
  have hx := F.1.1
  have hb := F.1.2.1
  have hts := F.1.2.2.2.2
  have hl : lv_has ls 3 [(0, .ref (μ 0)), (1, .int (nI k))] := hl
  refine lv_iload_n hx hb dX6_passes_0 rfl (lv_at hl 1 rfl) ?_
  refine ktopi (y := nI ((0 + 1) * k)) (by rw [Nat.zero_add, Nat.one_mul]) ?_
  refine lv_istore_n (lv' := [(2, .int (nI ((0 + 1) * k))), (0, .ref (μ 0)), (1, .int (nI k))]) hx hb dX6_passes_1 rfl hl (by decide) rfl (fun ls hl => ?_)
  have w : kW g A s [cM μ iK kn ln th sp bg fm le fi se re ca, xI g (μ 1) 288 (enc (passN k 0 σ))] H locs := by
    have w := w
    exact w
  have hq : 48 / k ≤ 48 := Nat.div_le_self _ _
  have LP_1 : ∀ (fu : Nat) (j : Nat) (h1 : j ≤ 48 / k) (H : Heap) (locs : List Loc) (ls : Array Slot), 50 - j < fu → kW g A s [cM μ iK kn ln th sp bg fm le fi se re ca, xI g (μ 1) 288 (enc (passN k j σ))] H locs → lv_has ls 3 [(2, .int (nI ((j + 1) * k))), (0, .ref (μ 0)), (1, .int (nI k))] → W p l e rmX6_passes s m args below meth c H locs 0 0 Q (F0 m 2 ls []) := by
    intro fu
    induction fu with
    | zero => intro j h1 H locs ls hlt; omega
    | succ fu ih_1 =>
      intro j h1 H locs ls hlt w hl
      have hb1 : (j + 1) * k ≤ 49 * 48 := Nat.mul_le_mul (by omega) hk.2
      refine lv_iload_n hx hb dX6_passes_2 rfl (lv_at hl 0 rfl) ?_
      refine lv_bipush (v := nI 48) hx hb dX6_passes_3 (by decide) ?_
      refine lv_icmp_gt (tgt := 30) hx hb dX6_passes_5 (by decide) (fun h_2 => ?_) (fun h_2 => ?_)
      · have h_2 : (j + 1) * k > 48 := (kc_gt_t (by omega) (by omega)).mp h_2
        have hj : ¬ j + 1 ≤ 48 / k := fun hc => by have := mul_in hk.1 hc; omega
        have e_3 : j = 48 / k := by omega
        subst e_3
        refine lv_aload_n hx hb dX6_passes_30 rfl (lv_at hl 1 rfl) ?_
        refine lv_iload_n hx hb dX6_passes_31 rfl (lv_at hl 2 rfl) ?_
        refine lv_sipush (v := nI 192) hx hb dX6_passes_32 (by decide) ?_
        refine lv_aload_n hx hb dX6_passes_35 rfl (lv_at hl 1 rfl) ?_
        refine lv_iload_n hx hb dX6_passes_36 rfl (lv_at hl 2 rfl) ?_
        refine lv_sipush (v := nI 192) hx hb dX6_passes_37 (by decide) ?_
        refine kcalli (wc := [cM μ iK kn ln th sp bg fm le fi se re ca, xI g (μ 1) 288 (enc (passN k (48 / k) σ))]) (wr := []) (wn := fun (u : Unit) => [cM μ iK kn ln th sp bg fm le fi se re ca, xI g (μ 1) 288 (enc (passN k (48 / k) σ))]) F w [0, 1] [] [0, 1] rfl rfl rfl (fun _ => rfl)
          (fun hp => va_runV (As := [.int (nI k), .int (nI 192)]) (rest := [.int (nI 192), .int (nI k), .ref (μ 0)]) F.1 (kX6_of l g μ iK kn ln th sp bg fm le fi se re ca (enc (passN k (48 / k) σ)) k 192 H.size (by omega)) (cwV 2 hts gX6_passes_X6_of rfl rfl rfl ⟨rfl, hd_X6_of⟩ ⟨Nat.le_of_ble_eq_true rfl, Nat.le_of_ble_eq_true rfl⟩) ⟨hp.1, va_recv F.2.2.2.1.1 w.1 (q0 := 0) (ci := 6) rfl rfl, hp.2⟩ rfl rfl hl.1 rfl (lv_room (Nat.le_of_ble_eq_true rfl)) dX6_passes_40 ⟨Nat.le_of_ble_eq_true rfl, Nat.le_of_ble_eq_true rfl⟩)
          (fun r_4 _ H locs h_5 w => ?_)
        subst h_5
        refine ktopi (y := zI (passN k (48 / k) σ) k) (enc_I hk.1 hk.2) ?_
        refine lv_iconst (v := nI 1) hx hb dX6_passes_43 (by decide) ?_
        refine lv_iadd hx hb dX6_passes_44 ?_
        refine ktopi (y := zI (passN k (48 / k) σ) k + 1) (rfl) ?_
        refine kcallv (wc := [cM μ iK kn ln th sp bg fm le fi se re ca, xI g (μ 1) 288 (enc (passN k (48 / k) σ))]) (wr := []) (wn := fun (u : Unit) => [cM μ iK kn ln th sp bg fm le fi se re ca, xI g (μ 1) 288 (upd (enc (passN k (48 / k) σ)) (192 + k - 1) (zI (passN k (48 / k) σ) k + 1))]) F w [0, 1] [] [0, 1] rfl rfl rfl (fun _ => rfl)
          (fun hp => va_runV (As := [.int (nI k), .int (nI 192), .int (zI (passN k (48 / k) σ) k + 1)]) (rest := []) F.1 (kX6_lays l g μ iK kn ln th sp bg fm le fi se re ca (enc (passN k (48 / k) σ)) k 192 (zI (passN k (48 / k) σ) k + 1) H.size (by omega)) (cwV 3 hts gX6_passes_X6_lays rfl rfl rfl ⟨rfl, hd_X6_lays⟩ ⟨Nat.le_of_ble_eq_true rfl, Nat.le_of_ble_eq_true rfl⟩) ⟨hp.1, va_recv F.2.2.2.1.1 w.1 (q0 := 0) (ci := 6) rfl rfl, hp.2⟩ rfl rfl hl.1 rfl (lv_room (Nat.le_of_ble_eq_true rfl)) dX6_passes_45 ⟨Nat.le_of_ble_eq_true rfl, Nat.le_of_ble_eq_true rfl⟩)
          (fun _ H locs h_7 w => ?_)
        have w : kW g A s [cM μ iK kn ln th sp bg fm le fi se re ca, xI g (μ 1) 288 (enc (passS k σ))] H locs := by
          have w := w
          rw [passS_time, ← enc_time hk.1 hk.2]; exact w
        subst hA
        subst hQ
        exact kretv F w () [0, 1] rfl rfl (trivial) (Nat.le_of_ble_eq_true rfl) (Nat.le_of_ble_eq_true rfl) dX6_passes_48
      · have h_2 : (j + 1) * k ≤ 48 := (kc_gt_f (by omega) (by omega)).mp h_2
        have hj : j + 1 ≤ 48 / k := (Nat.le_div_iff_mul_le hk.1).mpr h_2
        have hj1 : 1 ≤ (j + 1) * k := Nat.mul_pos (by omega) hk.1
        refine lv_aload_n hx hb dX6_passes_8 rfl (lv_at hl 1 rfl) ?_
        refine lv_iload_n hx hb dX6_passes_9 rfl (lv_at hl 0 rfl) ?_
        refine lv_bipush (v := nI 48) hx hb dX6_passes_10 (by decide) ?_
        refine kcalli (wc := [cM μ iK kn ln th sp bg fm le fi se re ca, xI g (μ 1) 288 (enc (passN k j σ))]) (wr := []) (wn := fun (u : Unit) => [cM μ iK kn ln th sp bg fm le fi se re ca, xI g (μ 1) 288 (enc (passN k j σ))]) F w [0, 1] [] [0, 1] rfl rfl rfl (fun _ => rfl)
          (fun hp => va_runV (As := [.int (nI ((j + 1) * k)), .int (nI 48)]) (rest := []) F.1 (kX6_of l g μ iK kn ln th sp bg fm le fi se re ca (enc (passN k j σ)) ((j + 1) * k) 48 H.size (⟨hj1, h_2, by omega⟩)) (cwV 2 hts gX6_passes_X6_of rfl rfl rfl ⟨rfl, hd_X6_of⟩ ⟨Nat.le_of_ble_eq_true rfl, Nat.le_of_ble_eq_true rfl⟩) ⟨hp.1, va_recv F.2.2.2.1.1 w.1 (q0 := 0) (ci := 6) rfl rfl, hp.2⟩ rfl rfl hl.1 rfl (lv_room (Nat.le_of_ble_eq_true rfl)) dX6_passes_12 ⟨Nat.le_of_ble_eq_true rfl, Nat.le_of_ble_eq_true rfl⟩)
          (fun r_8 _ H locs h_9 w => ?_)
        subst h_9
        refine ktopi (y := bI (zL (passN k j σ) ((j + 1) * k))) (enc_L hj1 h_2) ?_
        refine lv_if_ne (tgt := 23) hx hb dX6_passes_15 (by decide) (fun h_10 => ?_) (fun h_10 => ?_)
        · have h_10 : (zL (passN k j σ) ((j + 1) * k)) = true := bI_o.mp h_10
          have w : kW g A s [cM μ iK kn ln th sp bg fm le fi se re ca, xI g (μ 1) 288 (enc (passN k (j + 1) σ))] H locs := by
            have w := w
            rw [show passN k (j + 1) σ = passN k j σ from turnL_t h_10]; exact w
          refine lv_iload_n hx hb dX6_passes_23 rfl (lv_at hl 0 rfl) ?_
          refine lv_iload_n hx hb dX6_passes_24 rfl (lv_at hl 2 rfl) ?_
          refine lv_iadd hx hb dX6_passes_25 ?_
          refine ktopi (y := nI ((j + 1) * k + k)) (nI_add ((j + 1) * k) k) ?_
          refine ktopi (y := nI ((j + 1 + 1) * k)) (congrArg nI (Nat.succ_mul (j + 1) k).symm) ?_
          refine lv_istore_n (lv' := [(2, .int (nI ((j + 1 + 1) * k))), (0, .ref (μ 0)), (1, .int (nI k))]) hx hb dX6_passes_26 rfl hl (by decide) rfl (fun ls hl => ?_)
          refine lv_goto (tgt := 2) hx hb dX6_passes_27 (by decide) ?_
          exact ih_1 (j + 1) (by omega) _ _ _ (by omega) (kW.perm w [0, 1] rfl rfl) (lv_sub hl [0, 1, 2] rfl)
        · have h_10 : (zL (passN k j σ) ((j + 1) * k)) = false := bI_z.mp h_10
          refine lv_aload_n hx hb dX6_passes_18 rfl (lv_at hl 1 rfl) ?_
          refine lv_iload_n hx hb dX6_passes_19 rfl (lv_at hl 0 rfl) ?_
          refine kcallv (wc := [cM μ iK kn ln th sp bg fm le fi se re ca, xI g (μ 1) 288 (enc (passN k j σ))]) (wr := []) (wn := fun (u : Unit) => [cM μ iK kn ln th sp bg fm le fi se re ca, xI g (μ 1) 288 (enc (turnS ((j + 1) * k) (passN k j σ)))]) F w [0, 1] [] [0, 1] rfl rfl rfl (fun _ => rfl)
            (fun hp => va_runV (As := [.int (nI ((j + 1) * k))]) (rest := []) F.1 (kX6_turns l g μ iK kn ln th sp bg fm le fi se re ca (passN k j σ) ((j + 1) * k) H.size (⟨hj1, h_2⟩)) (cwV 1 hts gX6_passes_X6_turns rfl rfl rfl ⟨rfl, hd_X6_turns⟩ ⟨Nat.le_of_ble_eq_true rfl, Nat.le_of_ble_eq_true rfl⟩) ⟨hp.1, va_recv F.2.2.2.1.1 w.1 (q0 := 0) (ci := 6) rfl rfl, hp.2⟩ rfl rfl hl.1 rfl (lv_room (Nat.le_of_ble_eq_true rfl)) dX6_passes_20 ⟨Nat.le_of_ble_eq_true rfl, Nat.le_of_ble_eq_true rfl⟩)
            (fun _ H locs h_12 w => ?_)
          have w : kW g A s [cM μ iK kn ln th sp bg fm le fi se re ca, xI g (μ 1) 288 (enc (passN k (j + 1) σ))] H locs := by
            have w := w
            rw [show passN k (j + 1) σ = turnS ((j + 1) * k) (passN k j σ) from turnL_n h_10]; exact w
          refine lv_iload_n hx hb dX6_passes_23 rfl (lv_at hl 0 rfl) ?_
          refine lv_iload_n hx hb dX6_passes_24 rfl (lv_at hl 2 rfl) ?_
          refine lv_iadd hx hb dX6_passes_25 ?_
          refine ktopi (y := nI ((j + 1) * k + k)) (nI_add ((j + 1) * k) k) ?_
          refine ktopi (y := nI ((j + 1 + 1) * k)) (congrArg nI (Nat.succ_mul (j + 1) k).symm) ?_
          refine lv_istore_n (lv' := [(2, .int (nI ((j + 1 + 1) * k))), (0, .ref (μ 0)), (1, .int (nI k))]) hx hb dX6_passes_26 rfl hl (by decide) rfl (fun ls hl => ?_)
          refine lv_goto (tgt := 2) hx hb dX6_passes_27 (by decide) ?_
          exact ih_1 (j + 1) (by omega) _ _ _ (by omega) (kW.perm w [0, 1] rfl rfl) (lv_sub hl [0, 1, 2] rfl)
  exact LP_1 _ 0 (Nat.zero_le _) _ _ _ (Nat.lt_succ_self _) (kW.perm w [0, 1] rfl rfl) (lv_sub hl [0, 1, 2] rfl)
theorem hd_X6_passes : yX6_passes.cls ≠ "java/lang/invoke/MethodHandle" ∧ yX6_passes.cls ≠ "java/lang/invoke/VarHandle" ∧ (parseMethodDescriptor yX6_passes.desc).map (fun d => d.parameters.length) = some 1 := by decide +kernel
abbrev rmX6_passesRow : Room := { frames := 3, cells := 0, slots := 0, locals := 66 }
set_option maxHeartbeats 4000000 in
set_option maxRecDepth 100000 in
theorem kX6_passesRow (l : Launch) (g : GG) (μ : Nat → Nat) (iK : Bool) (kn : Nat) (ln : Nat) (th : Nat) (sp : Nat) (bg : Nat) (fm : Bool) (le : Int32) (fi : Nat) (se : Nat) (re : Nat) (ca : Nat) (σ : Sg) (n : Nat) (t : Nat) (sz : Nat) (hn : 1 ≤ n ∧ n ≤ t ∧ t ≤ 48) : Met l yX6_passesRow wsX6_passesRow rmX6_passesRow (va_Pc [.ref (μ 0), .int (nI n), .int (nI t)] (kPre g [cM μ iK kn ln th sp bg fm le fi se re ca, xI g (μ 1) 288 (enc σ)] sz)) (va_Qi (fun (r : Int32) (u : Unit) => r = nI (rowC n (t + 1 - n) σ)) (kB g (va_A [cM μ iK kn ln th sp bg fm le fi se re ca, xI g (μ 1) 288 (enc σ)] sz) (fun u => [cM μ iK kn ln th sp bg fm le fi se re ca, xI g (μ 1) 288 (enc (rowN n (t + 1 - n) σ))])) (va_A [cM μ iK kn ln th sp bg fm le fi se re ca, xI g (μ 1) 288 (enc σ)] sz)) 0 0 (va_A [cM μ iK kn ln th sp bg fm le fi se re ca, xI g (μ 1) 288 (enc σ)] sz) := by
  refine kMet (cc := cX6_passesRow) (maxL := 5) (ret := (some .int)) (own := RX6) (by decide) rfl rfl (Nat.le_of_ble_eq_true rfl) ?_
  intro p e s m args below meth c ls Q H locs A F w hl hnm hA hQ
  have hx := F.1.1
  have hb := F.1.2.1
  have hts := F.1.2.2.2.2
  have hl : lv_has ls 5 [(0, .ref (μ 0)), (1, .int (nI n)), (2, .int (nI t))] := hl
  refine lv_iconst (v := nI 0) hx hb dX6_passesRow_0 (by decide) ?_
  refine ktopi (y := nI (rowC n 0 σ)) (rfl) ?_
  refine lv_istore_n (lv' := [(3, .int (nI (rowC n 0 σ))), (0, .ref (μ 0)), (1, .int (nI n)), (2, .int (nI t))]) hx hb dX6_passesRow_1 rfl hl (by decide) rfl (fun ls hl => ?_)
  refine lv_iload_n hx hb dX6_passesRow_2 rfl (lv_at hl 2 rfl) ?_
  refine ktopi (y := nI (n + 0)) (rfl) ?_
  refine lv_istore (lv' := [(4, .int (nI (n + 0))), (3, .int (nI (rowC n 0 σ))), (0, .ref (μ 0)), (1, .int (nI n)), (2, .int (nI t))]) hx hb dX6_passesRow_3 hl (by decide) rfl (fun ls hl => ?_)
  have w : kW g A s [cM μ iK kn ln th sp bg fm le fi se re ca, xI g (μ 1) 288 (enc (rowN n 0 σ))] H locs := by
    have w := w
    exact w
  have LP_1 : ∀ (fu : Nat) (j : Nat) (h1 : j ≤ t + 1 - n) (h2 : j ≤ 48) (H : Heap) (locs : List Loc) (ls : Array Slot), 50 - j < fu → kW g A s [cM μ iK kn ln th sp bg fm le fi se re ca, xI g (μ 1) 288 (enc (rowN n j σ))] H locs → lv_has ls 5 [(4, .int (nI (n + j))), (3, .int (nI (rowC n j σ))), (0, .ref (μ 0)), (1, .int (nI n)), (2, .int (nI t))] → W p l e rmX6_passesRow s m args below meth c H locs 0 0 Q (F0 m 5 ls []) := by
    intro fu
    induction fu with
    | zero => intro j h1 h2 H locs ls hlt; omega
    | succ fu ih_1 =>
      intro j h1 h2 H locs ls hlt w hl
      refine lv_iload hx hb dX6_passesRow_5 (lv_at hl 0 rfl) ?_
      refine lv_iload_n hx hb dX6_passesRow_7 rfl (lv_at hl 4 rfl) ?_
      refine lv_icmp_gt (tgt := 38) hx hb dX6_passesRow_8 (by decide) (fun h_2 => ?_) (fun h_2 => ?_)
      · have h_2 : n + j > t := (kc_gt_t (by omega) (by omega)).mp h_2
        have e_3 : j = t + 1 - n := by omega
        subst e_3
        refine lv_iload_n hx hb dX6_passesRow_38 rfl (lv_at hl 1 rfl) ?_
        subst hA
        subst hQ
        exact kreti F w () [0, 1] rfl rfl (rfl) (Nat.le_of_ble_eq_true rfl) (Nat.le_of_ble_eq_true rfl) dX6_passesRow_39
      · have h_2 : n + j ≤ t := (kc_gt_f (by omega) (by omega)).mp h_2
        refine lv_aload_n hx hb dX6_passesRow_11 rfl (lv_at hl 2 rfl) ?_
        refine lv_iload hx hb dX6_passesRow_12 (lv_at hl 0 rfl) ?_
        refine lv_sipush (v := nI 144) hx hb dX6_passesRow_14 (by decide) ?_
        refine kcalli (wc := [cM μ iK kn ln th sp bg fm le fi se re ca, xI g (μ 1) 288 (enc (rowN n j σ))]) (wr := []) (wn := fun (u : Unit) => [cM μ iK kn ln th sp bg fm le fi se re ca, xI g (μ 1) 288 (enc (rowN n j σ))]) F w [0, 1] [] [0, 1] rfl rfl rfl (fun _ => rfl)
          (fun hp => va_runV (As := [.int (nI (n + j)), .int (nI 144)]) (rest := []) F.1 (kX6_of l g μ iK kn ln th sp bg fm le fi se re ca (enc (rowN n j σ)) (n + j) 144 H.size (by omega)) (cwV 2 hts gX6_passesRow_X6_of rfl rfl rfl ⟨rfl, hd_X6_of⟩ ⟨Nat.le_of_ble_eq_true rfl, Nat.le_of_ble_eq_true rfl⟩) ⟨hp.1, va_recv F.2.2.2.1.1 w.1 (q0 := 0) (ci := 6) rfl rfl, hp.2⟩ rfl rfl hl.1 rfl (lv_room (Nat.le_of_ble_eq_true rfl)) dX6_passesRow_17 ⟨Nat.le_of_ble_eq_true rfl, Nat.le_of_ble_eq_true rfl⟩)
          (fun r_4 _ H locs h_5 w => ?_)
        subst h_5
        refine ktopi (y := bI (zS (rowN n j σ) (n + j))) (enc_S (by omega) (by omega)) ?_
        refine lv_if_ne (tgt := 32) hx hb dX6_passesRow_20 (by decide) (fun h_6 => ?_) (fun h_6 => ?_)
        · have h_6 : (zS (rowN n j σ) (n + j)) = true := bI_o.mp h_6
          have w : kW g A s [cM μ iK kn ln th sp bg fm le fi se re ca, xI g (μ 1) 288 (enc (rowN n (j + 1) σ))] H locs := by
            have w := w
            rw [rowN_t h_6]; exact w
          have hc : rowC n (j + 1) σ = rowC n j σ := rowC_t h_6
          rw [← hc] at hl
          refine lv_iinc (v := nI (n + j + 1)) (lv' := [(4, .int (nI (n + j + 1))), (3, .int (nI (rowC n (j + 1) σ))), (0, .ref (μ 0)), (1, .int (nI n)), (2, .int (nI t))]) hx hb dX6_passesRow_32 hl (k := 0) rfl (nI_add (n + j) 1) (by decide) rfl (fun ls hl => ?_)
          rw [show n + j + 1 = n + (j + 1) from rfl] at hl
          refine lv_goto (tgt := 5) hx hb dX6_passesRow_35 (by decide) ?_
          exact ih_1 (j + 1) (by omega) (by omega) _ _ _ (by omega) (kW.perm w [0, 1] rfl rfl) (lv_sub hl [0, 1, 2, 3, 4] rfl)
        · have h_6 : (zS (rowN n j σ) (n + j)) = false := bI_z.mp h_6
          refine lv_aload_n hx hb dX6_passesRow_23 rfl (lv_at hl 2 rfl) ?_
          refine lv_iload hx hb dX6_passesRow_24 (lv_at hl 0 rfl) ?_
          refine kcallv (wc := [cM μ iK kn ln th sp bg fm le fi se re ca, xI g (μ 1) 288 (enc (rowN n j σ))]) (wr := []) (wn := fun (u : Unit) => [cM μ iK kn ln th sp bg fm le fi se re ca, xI g (μ 1) 288 (enc (passS (n + j) (rowN n j σ)))]) F w [0, 1] [] [0, 1] rfl rfl rfl (fun _ => rfl)
            (fun hp => va_runV (As := [.int (nI (n + j))]) (rest := []) F.1 (kX6_passes l g μ iK kn ln th sp bg fm le fi se re ca (rowN n j σ) (n + j) H.size (by omega)) (cwV 1 hts gX6_passesRow_X6_passes rfl rfl rfl ⟨rfl, hd_X6_passes⟩ ⟨Nat.le_of_ble_eq_true rfl, Nat.le_of_ble_eq_true rfl⟩) ⟨hp.1, va_recv F.2.2.2.1.1 w.1 (q0 := 0) (ci := 6) rfl rfl, hp.2⟩ rfl rfl hl.1 rfl (lv_room (Nat.le_of_ble_eq_true rfl)) dX6_passesRow_26 ⟨Nat.le_of_ble_eq_true rfl, Nat.le_of_ble_eq_true rfl⟩)
            (fun _ H locs h_8 w => ?_)
          have w : kW g A s [cM μ iK kn ln th sp bg fm le fi se re ca, xI g (μ 1) 288 (enc (rowN n (j + 1) σ))] H locs := by
            have w := w
            rw [rowN_n h_6]; exact w
          refine lv_iinc (v := nI (rowC n j σ + 1)) (lv' := [(3, .int (nI (rowC n j σ + 1))), (4, .int (nI (n + j))), (0, .ref (μ 0)), (1, .int (nI n)), (2, .int (nI t))]) hx hb dX6_passesRow_29 hl (k := 1) rfl (nI_add (rowC n j σ) 1) (by decide) rfl (fun ls hl => ?_)
          have hc : rowC n (j + 1) σ = rowC n j σ + 1 := rowC_n h_6
          rw [← hc] at hl
          refine lv_iinc (v := nI (n + j + 1)) (lv' := [(4, .int (nI (n + j + 1))), (3, .int (nI (rowC n (j + 1) σ))), (0, .ref (μ 0)), (1, .int (nI n)), (2, .int (nI t))]) hx hb dX6_passesRow_32 hl (k := 1) rfl (nI_add (n + j) 1) (by decide) rfl (fun ls hl => ?_)
          rw [show n + j + 1 = n + (j + 1) from rfl] at hl
          refine lv_goto (tgt := 5) hx hb dX6_passesRow_35 (by decide) ?_
          exact ih_1 (j + 1) (by omega) (by omega) _ _ _ (by omega) (kW.perm w [0, 1] rfl rfl) (lv_sub hl [0, 1, 2, 3, 4] rfl)
  exact LP_1 _ 0 (by omega) (by omega) _ _ _ (Nat.lt_succ_self _) (kW.perm w [0, 1] rfl rfl) (lv_sub hl [0, 1, 2, 3, 4] rfl)
abbrev rmX6_things : Room := { frames := 1, cells := 0, slots := 0, locals := 22 }
set_option maxHeartbeats 4000000 in
set_option maxRecDepth 100000 in
theorem kX6_things (l : Launch) (g : GG) (μ : Nat → Nat) (iK : Bool) (kn : Nat) (ln : Nat) (th : Nat) (sp : Nat) (bg : Nat) (fm : Bool) (le : Int32) (fi : Nat) (se : Nat) (re : Nat) (ca : Nat) (σ : Sg) (kd : Bool) (sz : Nat)  : Met l yX6_things wsX6_things rmX6_things (va_Pc [.ref (μ 0), .int (bI kd)] (kPre g [cM μ iK kn ln th sp bg fm le fi se re ca, xI g (μ 1) 288 (enc σ)] sz)) (va_Qi (fun (r : Int32) (u : Unit) => r = nI (zcnt (kindP σ kd) 48)) (kB g (va_A [cM μ iK kn ln th sp bg fm le fi se re ca, xI g (μ 1) 288 (enc σ)] sz) (fun u => [cM μ iK kn ln th sp bg fm le fi se re ca, xI g (μ 1) 288 (enc σ)])) (va_A [cM μ iK kn ln th sp bg fm le fi se re ca, xI g (μ 1) 288 (enc σ)] sz)) 0 0 (va_A [cM μ iK kn ln th sp bg fm le fi se re ca, xI g (μ 1) 288 (enc σ)] sz) := by
  refine kMet (cc := cX6_things) (maxL := 4) (ret := (some .int)) (own := RX6) (by decide) rfl rfl (Nat.le_of_ble_eq_true rfl) ?_
  intro p e s m args below meth c ls Q H locs A F w hl hnm hA hQ
  have hx := F.1.1
  have hb := F.1.2.1
  have hts := F.1.2.2.2.2
  have hl : lv_has ls 4 [(0, .ref (μ 0)), (1, .int (bI kd))] := hl
  refine lv_iconst (v := nI 0) hx hb dX6_things_0 (by decide) ?_
  refine ktopi (y := nI (zcnt (kindP σ kd) 0)) (rfl) ?_
  refine lv_istore_n (lv' := [(2, .int (nI (zcnt (kindP σ kd) 0))), (0, .ref (μ 0)), (1, .int (bI kd))]) hx hb dX6_things_1 rfl hl (by decide) rfl (fun ls hl => ?_)
  refine lv_iconst (v := nI 1) hx hb dX6_things_2 (by decide) ?_
  refine ktopi (y := nI (0 + 1)) (rfl) ?_
  refine lv_istore_n (lv' := [(3, .int (nI (0 + 1))), (2, .int (nI (zcnt (kindP σ kd) 0))), (0, .ref (μ 0)), (1, .int (bI kd))]) hx hb dX6_things_3 rfl hl (by decide) rfl (fun ls hl => ?_)
  have LP_1 : ∀ (fu : Nat) (j : Nat) (h1 : j ≤ 48) (H : Heap) (locs : List Loc) (ls : Array Slot), 50 - j < fu → kW g A s [cM μ iK kn ln th sp bg fm le fi se re ca, xI g (μ 1) 288 (enc σ)] H locs → lv_has ls 4 [(3, .int (nI (j + 1))), (2, .int (nI (zcnt (kindP σ kd) j))), (0, .ref (μ 0)), (1, .int (bI kd))] → W p l e rmX6_things s m args below meth c H locs 0 0 Q (F0 m 4 ls []) := by
    intro fu
    induction fu with
    | zero => intro j h1 H locs ls hlt; omega
    | succ fu ih_1 =>
      intro j h1 H locs ls hlt w hl
      refine lv_iload_n hx hb dX6_things_4 rfl (lv_at hl 0 rfl) ?_
      refine lv_bipush (v := nI 48) hx hb dX6_things_5 (by decide) ?_
      refine lv_icmp_gt (tgt := 38) hx hb dX6_things_7 (by decide) (fun h_2 => ?_) (fun h_2 => ?_)
      · have h_2 : j + 1 > 48 := (kc_gt_t (by omega) (by omega)).mp h_2
        have e_3 : j = 48 := by omega
        subst e_3
        refine lv_iload_n hx hb dX6_things_38 rfl (lv_at hl 1 rfl) ?_
        subst hA
        subst hQ
        exact kreti F w () [0, 1] rfl rfl (rfl) (Nat.le_of_ble_eq_true rfl) (Nat.le_of_ble_eq_true rfl) dX6_things_39
      · have h_2 : j + 1 ≤ 48 := (kc_gt_f (by omega) (by omega)).mp h_2
        refine lv_iload_n hx hb dX6_things_10 rfl (lv_at hl 1 rfl) ?_
        refine lv_aload_n hx hb dX6_things_11 rfl (lv_at hl 2 rfl) ?_
        refine lv_iload_n hx hb dX6_things_12 rfl (lv_at hl 0 rfl) ?_
        refine lv_sipush (v := nI 240) hx hb dX6_things_13 (by decide) ?_
        refine kcalli (wc := [cM μ iK kn ln th sp bg fm le fi se re ca, xI g (μ 1) 288 (enc σ)]) (wr := []) (wn := fun (u : Unit) => [cM μ iK kn ln th sp bg fm le fi se re ca, xI g (μ 1) 288 (enc σ)]) F w [0, 1] [] [0, 1] rfl rfl rfl (fun _ => rfl)
          (fun hp => va_runV (As := [.int (nI (j + 1)), .int (nI 240)]) (rest := [.int (nI (zcnt (kindP σ kd) j))]) F.1 (kX6_of l g μ iK kn ln th sp bg fm le fi se re ca (enc σ) (j + 1) 240 H.size (by omega)) (cwV 2 hts gX6_things_X6_of rfl rfl rfl ⟨rfl, hd_X6_of⟩ ⟨Nat.le_of_ble_eq_true rfl, Nat.le_of_ble_eq_true rfl⟩) ⟨hp.1, va_recv F.2.2.2.1.1 w.1 (q0 := 0) (ci := 6) rfl rfl, hp.2⟩ rfl rfl hl.1 rfl (lv_room (Nat.le_of_ble_eq_true rfl)) dX6_things_16 ⟨Nat.le_of_ble_eq_true rfl, Nat.le_of_ble_eq_true rfl⟩)
          (fun r_4 _ H locs h_5 w => ?_)
        subst h_5
        refine ktopi (y := thZ σ (j + 1)) (enc_H (by omega) (by omega)) ?_
        refine lv_iload_n hx hb dX6_things_19 rfl (lv_at hl 3 rfl) ?_
        refine lv_iconst (v := nI 1) hx hb dX6_things_20 (by decide) ?_
        refine lv_iadd hx hb dX6_things_21 ?_
        refine lv_icmp_ne (tgt := 29) hx hb dX6_things_22 (by decide) (fun h_6 => ?_) (fun h_6 => ?_)
        · have hk9 : kindP σ kd (j + 1) = false := kind_f h_6
          refine lv_iconst (v := nI 0) hx hb dX6_things_29 (by decide) ?_
          refine lv_iadd hx hb dX6_things_30 ?_
          refine ktopi (y := nI (zcnt (kindP σ kd) j + 0)) (nI_add (zcnt (kindP σ kd) j) 0) ?_
          refine ktopi (y := nI (zcnt (kindP σ kd) (j + 1))) (by rw [zcnt_f hk9, Nat.add_zero]) ?_
          refine lv_istore_n (lv' := [(2, .int (nI (zcnt (kindP σ kd) (j + 1)))), (3, .int (nI (j + 1))), (0, .ref (μ 0)), (1, .int (bI kd))]) hx hb dX6_things_31 rfl hl (by decide) rfl (fun ls hl => ?_)
          refine lv_iinc (v := nI (j + 1 + 1)) (lv' := [(3, .int (nI (j + 1 + 1))), (2, .int (nI (zcnt (kindP σ kd) (j + 1)))), (0, .ref (μ 0)), (1, .int (bI kd))]) hx hb dX6_things_32 hl (k := 1) rfl (nI_add (j + 1) 1) (by decide) rfl (fun ls hl => ?_)
          refine lv_goto (tgt := 4) hx hb dX6_things_35 (by decide) ?_
          exact ih_1 (j + 1) (by omega) _ _ _ (by omega) (kW.perm w [0, 1] rfl rfl) (lv_sub hl [0, 1, 2, 3] rfl)
        · have hk9 : kindP σ kd (j + 1) = true := kind_t h_6
          refine lv_iconst (v := nI 1) hx hb dX6_things_25 (by decide) ?_
          refine lv_goto (tgt := 30) hx hb dX6_things_26 (by decide) ?_
          refine lv_iadd hx hb dX6_things_30 ?_
          refine ktopi (y := nI (zcnt (kindP σ kd) j + 1)) (nI_add (zcnt (kindP σ kd) j) 1) ?_
          refine ktopi (y := nI (zcnt (kindP σ kd) (j + 1))) (by rw [zcnt_t hk9]) ?_
          refine lv_istore_n (lv' := [(2, .int (nI (zcnt (kindP σ kd) (j + 1)))), (3, .int (nI (j + 1))), (0, .ref (μ 0)), (1, .int (bI kd))]) hx hb dX6_things_31 rfl hl (by decide) rfl (fun ls hl => ?_)
          refine lv_iinc (v := nI (j + 1 + 1)) (lv' := [(3, .int (nI (j + 1 + 1))), (2, .int (nI (zcnt (kindP σ kd) (j + 1)))), (0, .ref (μ 0)), (1, .int (bI kd))]) hx hb dX6_things_32 hl (k := 1) rfl (nI_add (j + 1) 1) (by decide) rfl (fun ls hl => ?_)
          refine lv_goto (tgt := 4) hx hb dX6_things_35 (by decide) ?_
          exact ih_1 (j + 1) (by omega) _ _ _ (by omega) (kW.perm w [0, 1] rfl rfl) (lv_sub hl [0, 1, 2, 3] rfl)
  exact LP_1 _ 0 (by omega) _ _ _ (Nat.lt_succ_self _) (kW.perm w [0, 1] rfl rfl) (lv_sub hl [0, 1, 2, 3] rfl)
abbrev rmX6_reason : Room := { frames := 1, cells := 0, slots := 0, locals := 22 }
set_option maxHeartbeats 4000000 in
set_option maxRecDepth 100000 in
theorem kX6_reason (l : Launch) (g : GG) (μ : Nat → Nat) (iK : Bool) (kn : Nat) (ln : Nat) (th : Nat) (sp : Nat) (bg : Nat) (fm : Bool) (le : Int32) (fi : Nat) (se : Nat) (re : Nat) (ca : Nat) (σ : Sg) (d : Nat) (kd : Bool) (sz : Nat) (hd : 1 ≤ d ∧ d ≤ 48) : Met l yX6_reason wsX6_reason rmX6_reason (va_Pc [.ref (μ 0), .int (nI d), .int (bI kd)] (kPre g [cM μ iK kn ln th sp bg fm le fi se re ca, xI g (μ 1) 288 (enc σ)] sz)) (va_Qi (fun (r : Int32) (u : Unit) => r = nI (reasZ σ d kd)) (kB g (va_A [cM μ iK kn ln th sp bg fm le fi se re ca, xI g (μ 1) 288 (enc σ)] sz) (fun u => [cM μ iK kn ln th sp bg fm le fi se re ca, xI g (μ 1) 288 (enc σ)])) (va_A [cM μ iK kn ln th sp bg fm le fi se re ca, xI g (μ 1) 288 (enc σ)] sz)) 0 0 (va_A [cM μ iK kn ln th sp bg fm le fi se re ca, xI g (μ 1) 288 (enc σ)] sz) := by
  refine kMet (cc := cX6_reason) (maxL := 4) (ret := (some .int)) (own := RX6) (by decide) rfl rfl (Nat.le_of_ble_eq_true rfl) ?_
  intro p e s m args below meth c ls Q H locs A F w hl hnm hA hQ
  have hx := F.1.1
  have hb := F.1.2.1
  have hts := F.1.2.2.2.2
  have hl : lv_has ls 4 [(0, .ref (μ 0)), (1, .int (nI d)), (2, .int (bI kd))] := hl
  refine lv_aload_n hx hb dX6_reason_0 rfl (lv_at hl 0 rfl) ?_
  refine lv_iload_n hx hb dX6_reason_1 rfl (lv_at hl 1 rfl) ?_
  refine lv_iconst (v := nI 0) hx hb dX6_reason_2 (by decide) ?_
  refine kcalli (wc := [cM μ iK kn ln th sp bg fm le fi se re ca, xI g (μ 1) 288 (enc σ)]) (wr := []) (wn := fun (u : Unit) => [cM μ iK kn ln th sp bg fm le fi se re ca, xI g (μ 1) 288 (enc σ)]) F w [0, 1] [] [0, 1] rfl rfl rfl (fun _ => rfl)
    (fun hp => va_runV (As := [.int (nI d), .int (nI 0)]) (rest := []) F.1 (kX6_of l g μ iK kn ln th sp bg fm le fi se re ca (enc σ) d 0 H.size (by omega)) (cwV 2 hts gX6_reason_X6_of rfl rfl rfl ⟨rfl, hd_X6_of⟩ ⟨Nat.le_of_ble_eq_true rfl, Nat.le_of_ble_eq_true rfl⟩) ⟨hp.1, va_recv F.2.2.2.1.1 w.1 (q0 := 0) (ci := 6) rfl rfl, hp.2⟩ rfl rfl hl.1 rfl (lv_room (Nat.le_of_ble_eq_true rfl)) dX6_reason_3 ⟨Nat.le_of_ble_eq_true rfl, Nat.le_of_ble_eq_true rfl⟩)
    (fun r_1 _ H locs h_2 w => ?_)
  subst h_2
  refine ktopi (y := bI (zO σ d)) (enc_O hd.1 hd.2) ?_
  refine lv_if_ne (tgt := 11) hx hb dX6_reason_6 (by decide) (fun h_3 => ?_) (fun h_3 => ?_)
  · have h_3 : (zO σ d) = true := bI_o.mp h_3
    refine lv_iload_n hx hb dX6_reason_11 rfl (lv_at hl 2 rfl) ?_
    refine lv_if_ne (tgt := 26) hx hb dX6_reason_12 (by decide) (fun h_4 => ?_) (fun h_4 => ?_)
    · have h_4 : kd = true := bI_o.mp h_4
      refine lv_iload_n hx hb dX6_reason_26 rfl (lv_at hl 2 rfl) ?_
      refine lv_iconst (v := nI 1) hx hb dX6_reason_27 (by decide) ?_
      refine lv_icmp_ne (tgt := 41) hx hb dX6_reason_28 (by decide) (fun h_5 => ?_) (fun h_5 => ?_)
      · have h_5 : kd = false := bI_n1.mp h_5
        refine lv_iconst (v := nI 0) hx hb dX6_reason_41 (by decide) ?_
        have hf8 : fitZ d kd = true := by
          try simp only [decide_eq_true_eq, decide_eq_false_iff_not, ki_n (show 17 < 2147483648 by omega), ki_n (show 32 < 2147483648 by omega), ki_n (show d < 2147483648 by omega)] at h_4
          try simp only [decide_eq_true_eq, decide_eq_false_iff_not, ki_n (show 17 < 2147483648 by omega), ki_n (show 32 < 2147483648 by omega), ki_n (show d < 2147483648 by omega)] at h_5
          unfold fitZ
          first | (split <;> first | omega | (split <;> first | omega | (simp_all; done) | (simp_all; omega))) | (simp_all; done) | (simp_all; omega)
        refine lv_istore_n (lv' := [(3, .int (nI 0)), (0, .ref (μ 0)), (1, .int (nI d)), (2, .int (bI kd))]) hx hb dX6_reason_42 rfl hl (by decide) rfl (fun ls hl => ?_)
        refine lv_aload_n hx hb dX6_reason_43 rfl (lv_at hl 1 rfl) ?_
        refine lv_iload_n hx hb dX6_reason_44 rfl (lv_at hl 2 rfl) ?_
        refine lv_sipush (v := nI 240) hx hb dX6_reason_45 (by decide) ?_
        refine kcalli (wc := [cM μ iK kn ln th sp bg fm le fi se re ca, xI g (μ 1) 288 (enc σ)]) (wr := []) (wn := fun (u : Unit) => [cM μ iK kn ln th sp bg fm le fi se re ca, xI g (μ 1) 288 (enc σ)]) F w [0, 1] [] [0, 1] rfl rfl rfl (fun _ => rfl)
          (fun hp => va_runV (As := [.int (nI d), .int (nI 240)]) (rest := []) F.1 (kX6_of l g μ iK kn ln th sp bg fm le fi se re ca (enc σ) d 240 H.size (by omega)) (cwV 2 hts gX6_reason_X6_of rfl rfl rfl ⟨rfl, hd_X6_of⟩ ⟨Nat.le_of_ble_eq_true rfl, Nat.le_of_ble_eq_true rfl⟩) ⟨hp.1, va_recv F.2.2.2.1.1 w.1 (q0 := 0) (ci := 6) rfl rfl, hp.2⟩ rfl rfl hl.1 rfl (lv_room (Nat.le_of_ble_eq_true rfl)) dX6_reason_48 ⟨Nat.le_of_ble_eq_true rfl, Nat.le_of_ble_eq_true rfl⟩)
          (fun r_6 _ H locs h_7 w => ?_)
        subst h_7
        refine ktopi (y := thZ σ d) (enc_H hd.1 hd.2) ?_
        refine lv_if_le (tgt := 58) hx hb dX6_reason_51 (by decide) (fun h_8 => ?_) (fun h_8 => ?_)
        · have hf9 : zF σ d = false := th_zero h_8
          refine lv_iload_n hx hb dX6_reason_58 rfl (lv_at hl 0 rfl) ?_
          refine lv_if_eq (tgt := 66) hx hb dX6_reason_59 (by decide) (fun h_9 => ?_) (fun h_9 => ?_)
          · have h_9 : 0 = 0 := (kc0_eq_t (by omega)).mp h_9
            refine lv_iconst (v := nI 0) hx hb dX6_reason_66 (by decide) ?_
            subst hA
            subst hQ
            exact kreti F w () [0, 1] rfl rfl (by show nI 0 = nI (reasZ σ d kd); rw [show reasZ σ d kd = 0 by simp [reasZ, h_3, hf9, hf8]]) (Nat.le_of_ble_eq_true rfl) (Nat.le_of_ble_eq_true rfl) dX6_reason_67
          · have h_9 : 0 ≠ 0 := (kc0_eq_f (by omega)).mp h_9
            omega
        · have hf9 : zF σ d = true := th_pos h_8
          refine lv_iconst (v := nI 2) hx hb dX6_reason_54 (by decide) ?_
          refine lv_goto (tgt := 67) hx hb dX6_reason_55 (by decide) ?_
          subst hA
          subst hQ
          exact kreti F w () [0, 1] rfl rfl (by show nI 2 = nI (reasZ σ d kd); rw [show reasZ σ d kd = 2 by simp [reasZ, h_3, hf9]]) (Nat.le_of_ble_eq_true rfl) (Nat.le_of_ble_eq_true rfl) dX6_reason_67
      · have h_5 : kd = true := bI_1.mp h_5
        refine lv_iload_n hx hb dX6_reason_31 rfl (lv_at hl 1 rfl) ?_
        refine lv_bipush (v := nI 16) hx hb dX6_reason_32 (by decide) ?_
        refine lv_icmp_gt (tgt := 41) hx hb dX6_reason_34 (by decide) (fun h_10 => ?_) (fun h_10 => ?_)
        · have h_10 : d > 16 := (kc_gt_t (by omega) (by omega)).mp h_10
          refine lv_iconst (v := nI 0) hx hb dX6_reason_41 (by decide) ?_
          have hf8 : fitZ d kd = true := by
            try simp only [decide_eq_true_eq, decide_eq_false_iff_not, ki_n (show 17 < 2147483648 by omega), ki_n (show 32 < 2147483648 by omega), ki_n (show d < 2147483648 by omega)] at h_4
            try simp only [decide_eq_true_eq, decide_eq_false_iff_not, ki_n (show 17 < 2147483648 by omega), ki_n (show 32 < 2147483648 by omega), ki_n (show d < 2147483648 by omega)] at h_5
            try simp only [decide_eq_true_eq, decide_eq_false_iff_not, ki_n (show 17 < 2147483648 by omega), ki_n (show 32 < 2147483648 by omega), ki_n (show d < 2147483648 by omega)] at h_10
            unfold fitZ
            first | (split <;> first | omega | (split <;> first | omega | (simp_all; done) | (simp_all; omega))) | (simp_all; done) | (simp_all; omega)
          refine lv_istore_n (lv' := [(3, .int (nI 0)), (0, .ref (μ 0)), (1, .int (nI d)), (2, .int (bI kd))]) hx hb dX6_reason_42 rfl hl (by decide) rfl (fun ls hl => ?_)
          refine lv_aload_n hx hb dX6_reason_43 rfl (lv_at hl 1 rfl) ?_
          refine lv_iload_n hx hb dX6_reason_44 rfl (lv_at hl 2 rfl) ?_
          refine lv_sipush (v := nI 240) hx hb dX6_reason_45 (by decide) ?_
          refine kcalli (wc := [cM μ iK kn ln th sp bg fm le fi se re ca, xI g (μ 1) 288 (enc σ)]) (wr := []) (wn := fun (u : Unit) => [cM μ iK kn ln th sp bg fm le fi se re ca, xI g (μ 1) 288 (enc σ)]) F w [0, 1] [] [0, 1] rfl rfl rfl (fun _ => rfl)
            (fun hp => va_runV (As := [.int (nI d), .int (nI 240)]) (rest := []) F.1 (kX6_of l g μ iK kn ln th sp bg fm le fi se re ca (enc σ) d 240 H.size (by omega)) (cwV 2 hts gX6_reason_X6_of rfl rfl rfl ⟨rfl, hd_X6_of⟩ ⟨Nat.le_of_ble_eq_true rfl, Nat.le_of_ble_eq_true rfl⟩) ⟨hp.1, va_recv F.2.2.2.1.1 w.1 (q0 := 0) (ci := 6) rfl rfl, hp.2⟩ rfl rfl hl.1 rfl (lv_room (Nat.le_of_ble_eq_true rfl)) dX6_reason_48 ⟨Nat.le_of_ble_eq_true rfl, Nat.le_of_ble_eq_true rfl⟩)
            (fun r_11 _ H locs h_12 w => ?_)
          subst h_12
          refine ktopi (y := thZ σ d) (enc_H hd.1 hd.2) ?_
          refine lv_if_le (tgt := 58) hx hb dX6_reason_51 (by decide) (fun h_13 => ?_) (fun h_13 => ?_)
          · have hf9 : zF σ d = false := th_zero h_13
            refine lv_iload_n hx hb dX6_reason_58 rfl (lv_at hl 0 rfl) ?_
            refine lv_if_eq (tgt := 66) hx hb dX6_reason_59 (by decide) (fun h_14 => ?_) (fun h_14 => ?_)
            · have h_14 : 0 = 0 := (kc0_eq_t (by omega)).mp h_14
              refine lv_iconst (v := nI 0) hx hb dX6_reason_66 (by decide) ?_
              subst hA
              subst hQ
              exact kreti F w () [0, 1] rfl rfl (by show nI 0 = nI (reasZ σ d kd); rw [show reasZ σ d kd = 0 by simp [reasZ, h_3, hf9, hf8]]) (Nat.le_of_ble_eq_true rfl) (Nat.le_of_ble_eq_true rfl) dX6_reason_67
            · have h_14 : 0 ≠ 0 := (kc0_eq_f (by omega)).mp h_14
              omega
          · have hf9 : zF σ d = true := th_pos h_13
            refine lv_iconst (v := nI 2) hx hb dX6_reason_54 (by decide) ?_
            refine lv_goto (tgt := 67) hx hb dX6_reason_55 (by decide) ?_
            subst hA
            subst hQ
            exact kreti F w () [0, 1] rfl rfl (by show nI 2 = nI (reasZ σ d kd); rw [show reasZ σ d kd = 2 by simp [reasZ, h_3, hf9]]) (Nat.le_of_ble_eq_true rfl) (Nat.le_of_ble_eq_true rfl) dX6_reason_67
        · have h_10 : d ≤ 16 := (kc_gt_f (by omega) (by omega)).mp h_10
          refine lv_iconst (v := nI 1) hx hb dX6_reason_37 (by decide) ?_
          refine lv_goto (tgt := 42) hx hb dX6_reason_38 (by decide) ?_
          have hf8 : fitZ d kd = false := by
            try simp only [decide_eq_true_eq, decide_eq_false_iff_not, ki_n (show 17 < 2147483648 by omega), ki_n (show 32 < 2147483648 by omega), ki_n (show d < 2147483648 by omega)] at h_4
            try simp only [decide_eq_true_eq, decide_eq_false_iff_not, ki_n (show 17 < 2147483648 by omega), ki_n (show 32 < 2147483648 by omega), ki_n (show d < 2147483648 by omega)] at h_5
            try simp only [decide_eq_true_eq, decide_eq_false_iff_not, ki_n (show 17 < 2147483648 by omega), ki_n (show 32 < 2147483648 by omega), ki_n (show d < 2147483648 by omega)] at h_10
            unfold fitZ
            first | (split <;> first | omega | (split <;> first | omega | (simp_all; done) | (simp_all; omega))) | (simp_all; done) | (simp_all; omega)
          refine lv_istore_n (lv' := [(3, .int (nI 1)), (0, .ref (μ 0)), (1, .int (nI d)), (2, .int (bI kd))]) hx hb dX6_reason_42 rfl hl (by decide) rfl (fun ls hl => ?_)
          refine lv_aload_n hx hb dX6_reason_43 rfl (lv_at hl 1 rfl) ?_
          refine lv_iload_n hx hb dX6_reason_44 rfl (lv_at hl 2 rfl) ?_
          refine lv_sipush (v := nI 240) hx hb dX6_reason_45 (by decide) ?_
          refine kcalli (wc := [cM μ iK kn ln th sp bg fm le fi se re ca, xI g (μ 1) 288 (enc σ)]) (wr := []) (wn := fun (u : Unit) => [cM μ iK kn ln th sp bg fm le fi se re ca, xI g (μ 1) 288 (enc σ)]) F w [0, 1] [] [0, 1] rfl rfl rfl (fun _ => rfl)
            (fun hp => va_runV (As := [.int (nI d), .int (nI 240)]) (rest := []) F.1 (kX6_of l g μ iK kn ln th sp bg fm le fi se re ca (enc σ) d 240 H.size (by omega)) (cwV 2 hts gX6_reason_X6_of rfl rfl rfl ⟨rfl, hd_X6_of⟩ ⟨Nat.le_of_ble_eq_true rfl, Nat.le_of_ble_eq_true rfl⟩) ⟨hp.1, va_recv F.2.2.2.1.1 w.1 (q0 := 0) (ci := 6) rfl rfl, hp.2⟩ rfl rfl hl.1 rfl (lv_room (Nat.le_of_ble_eq_true rfl)) dX6_reason_48 ⟨Nat.le_of_ble_eq_true rfl, Nat.le_of_ble_eq_true rfl⟩)
            (fun r_15 _ H locs h_16 w => ?_)
          subst h_16
          refine ktopi (y := thZ σ d) (enc_H hd.1 hd.2) ?_
          refine lv_if_le (tgt := 58) hx hb dX6_reason_51 (by decide) (fun h_17 => ?_) (fun h_17 => ?_)
          · have hf9 : zF σ d = false := th_zero h_17
            refine lv_iload_n hx hb dX6_reason_58 rfl (lv_at hl 0 rfl) ?_
            refine lv_if_eq (tgt := 66) hx hb dX6_reason_59 (by decide) (fun h_18 => ?_) (fun h_18 => ?_)
            · have h_18 : 1 = 0 := (kc0_eq_t (by omega)).mp h_18
              omega
            · have h_18 : 1 ≠ 0 := (kc0_eq_f (by omega)).mp h_18
              refine lv_iconst (v := nI 3) hx hb dX6_reason_62 (by decide) ?_
              refine lv_goto (tgt := 67) hx hb dX6_reason_63 (by decide) ?_
              subst hA
              subst hQ
              exact kreti F w () [0, 1] rfl rfl (by show nI 3 = nI (reasZ σ d kd); rw [show reasZ σ d kd = 3 by simp [reasZ, h_3, hf9, hf8]]) (Nat.le_of_ble_eq_true rfl) (Nat.le_of_ble_eq_true rfl) dX6_reason_67
          · have hf9 : zF σ d = true := th_pos h_17
            refine lv_iconst (v := nI 2) hx hb dX6_reason_54 (by decide) ?_
            refine lv_goto (tgt := 67) hx hb dX6_reason_55 (by decide) ?_
            subst hA
            subst hQ
            exact kreti F w () [0, 1] rfl rfl (by show nI 2 = nI (reasZ σ d kd); rw [show reasZ σ d kd = 2 by simp [reasZ, h_3, hf9]]) (Nat.le_of_ble_eq_true rfl) (Nat.le_of_ble_eq_true rfl) dX6_reason_67
    · have h_4 : kd = false := bI_z.mp h_4
      refine lv_iload_n hx hb dX6_reason_15 rfl (lv_at hl 1 rfl) ?_
      refine lv_bipush (v := nI 17) hx hb dX6_reason_16 (by decide) ?_
      refine lv_bipush (v := nI 32) hx hb dX6_reason_18 (by decide) ?_
      refine kcalli (wc := []) (wr := [cM μ iK kn ln th sp bg fm le fi se re ca, xI g (μ 1) 288 (enc σ)]) (wn := fun (u : Unit) => [cM μ iK kn ln th sp bg fm le fi se re ca, xI g (μ 1) 288 (enc σ)]) F w [] [0, 1] [0, 1] rfl rfl rfl (fun _ => rfl)
        (fun hp => va_runS (As := [.int (nI d), .int (nI 17), .int (nI 32)]) (rest := []) F.1 (kX6_in l g (nI d) (nI 17) (nI 32) H.size ) (va_cwS 3 hts gX6_reason_X6_in rfl rfl rfl hd_X6_in ⟨Nat.le_of_ble_eq_true rfl, Nat.le_of_ble_eq_true rfl⟩) hp rfl rfl hl.1 rfl (lv_room (Nat.le_of_ble_eq_true rfl)) dX6_reason_20 ⟨Nat.le_of_ble_eq_true rfl, Nat.le_of_ble_eq_true rfl⟩)
        (fun r_19 _ H locs h_20 w => ?_)
      subst h_20
      refine lv_if_ne (tgt := 37) hx hb dX6_reason_23 (by decide) (fun h_21 => ?_) (fun h_21 => ?_)
      · have h_21 : (decide ((nI 17).toInt ≤ (nI d).toInt ∧ (nI d).toInt ≤ (nI 32).toInt)) = true := bI_o.mp h_21
        refine lv_iconst (v := nI 1) hx hb dX6_reason_37 (by decide) ?_
        refine lv_goto (tgt := 42) hx hb dX6_reason_38 (by decide) ?_
        have hf8 : fitZ d kd = false := by
          try simp only [decide_eq_true_eq, decide_eq_false_iff_not, ki_n (show 17 < 2147483648 by omega), ki_n (show 32 < 2147483648 by omega), ki_n (show d < 2147483648 by omega)] at h_4
          try simp only [decide_eq_true_eq, decide_eq_false_iff_not, ki_n (show 17 < 2147483648 by omega), ki_n (show 32 < 2147483648 by omega), ki_n (show d < 2147483648 by omega)] at h_21
          unfold fitZ
          first | (split <;> first | omega | (split <;> first | omega | (simp_all; done) | (simp_all; omega))) | (simp_all; done) | (simp_all; omega)
        refine lv_istore_n (lv' := [(3, .int (nI 1)), (0, .ref (μ 0)), (1, .int (nI d)), (2, .int (bI kd))]) hx hb dX6_reason_42 rfl hl (by decide) rfl (fun ls hl => ?_)
        refine lv_aload_n hx hb dX6_reason_43 rfl (lv_at hl 1 rfl) ?_
        refine lv_iload_n hx hb dX6_reason_44 rfl (lv_at hl 2 rfl) ?_
        refine lv_sipush (v := nI 240) hx hb dX6_reason_45 (by decide) ?_
        refine kcalli (wc := [cM μ iK kn ln th sp bg fm le fi se re ca, xI g (μ 1) 288 (enc σ)]) (wr := []) (wn := fun (u : Unit) => [cM μ iK kn ln th sp bg fm le fi se re ca, xI g (μ 1) 288 (enc σ)]) F w [0, 1] [] [0, 1] rfl rfl rfl (fun _ => rfl)
          (fun hp => va_runV (As := [.int (nI d), .int (nI 240)]) (rest := []) F.1 (kX6_of l g μ iK kn ln th sp bg fm le fi se re ca (enc σ) d 240 H.size (by omega)) (cwV 2 hts gX6_reason_X6_of rfl rfl rfl ⟨rfl, hd_X6_of⟩ ⟨Nat.le_of_ble_eq_true rfl, Nat.le_of_ble_eq_true rfl⟩) ⟨hp.1, va_recv F.2.2.2.1.1 w.1 (q0 := 0) (ci := 6) rfl rfl, hp.2⟩ rfl rfl hl.1 rfl (lv_room (Nat.le_of_ble_eq_true rfl)) dX6_reason_48 ⟨Nat.le_of_ble_eq_true rfl, Nat.le_of_ble_eq_true rfl⟩)
          (fun r_22 _ H locs h_23 w => ?_)
        subst h_23
        refine ktopi (y := thZ σ d) (enc_H hd.1 hd.2) ?_
        refine lv_if_le (tgt := 58) hx hb dX6_reason_51 (by decide) (fun h_24 => ?_) (fun h_24 => ?_)
        · have hf9 : zF σ d = false := th_zero h_24
          refine lv_iload_n hx hb dX6_reason_58 rfl (lv_at hl 0 rfl) ?_
          refine lv_if_eq (tgt := 66) hx hb dX6_reason_59 (by decide) (fun h_25 => ?_) (fun h_25 => ?_)
          · have h_25 : 1 = 0 := (kc0_eq_t (by omega)).mp h_25
            omega
          · have h_25 : 1 ≠ 0 := (kc0_eq_f (by omega)).mp h_25
            refine lv_iconst (v := nI 3) hx hb dX6_reason_62 (by decide) ?_
            refine lv_goto (tgt := 67) hx hb dX6_reason_63 (by decide) ?_
            subst hA
            subst hQ
            exact kreti F w () [0, 1] rfl rfl (by show nI 3 = nI (reasZ σ d kd); rw [show reasZ σ d kd = 3 by simp [reasZ, h_3, hf9, hf8]]) (Nat.le_of_ble_eq_true rfl) (Nat.le_of_ble_eq_true rfl) dX6_reason_67
        · have hf9 : zF σ d = true := th_pos h_24
          refine lv_iconst (v := nI 2) hx hb dX6_reason_54 (by decide) ?_
          refine lv_goto (tgt := 67) hx hb dX6_reason_55 (by decide) ?_
          subst hA
          subst hQ
          exact kreti F w () [0, 1] rfl rfl (by show nI 2 = nI (reasZ σ d kd); rw [show reasZ σ d kd = 2 by simp [reasZ, h_3, hf9]]) (Nat.le_of_ble_eq_true rfl) (Nat.le_of_ble_eq_true rfl) dX6_reason_67
      · have h_21 : (decide ((nI 17).toInt ≤ (nI d).toInt ∧ (nI d).toInt ≤ (nI 32).toInt)) = false := bI_z.mp h_21
        refine lv_iload_n hx hb dX6_reason_26 rfl (lv_at hl 2 rfl) ?_
        refine lv_iconst (v := nI 1) hx hb dX6_reason_27 (by decide) ?_
        refine lv_icmp_ne (tgt := 41) hx hb dX6_reason_28 (by decide) (fun h_26 => ?_) (fun h_26 => ?_)
        · have h_26 : kd = false := bI_n1.mp h_26
          refine lv_iconst (v := nI 0) hx hb dX6_reason_41 (by decide) ?_
          have hf8 : fitZ d kd = true := by
            try simp only [decide_eq_true_eq, decide_eq_false_iff_not, ki_n (show 17 < 2147483648 by omega), ki_n (show 32 < 2147483648 by omega), ki_n (show d < 2147483648 by omega)] at h_4
            try simp only [decide_eq_true_eq, decide_eq_false_iff_not, ki_n (show 17 < 2147483648 by omega), ki_n (show 32 < 2147483648 by omega), ki_n (show d < 2147483648 by omega)] at h_21
            try simp only [decide_eq_true_eq, decide_eq_false_iff_not, ki_n (show 17 < 2147483648 by omega), ki_n (show 32 < 2147483648 by omega), ki_n (show d < 2147483648 by omega)] at h_26
            unfold fitZ
            first | (split <;> first | omega | (split <;> first | omega | (simp_all; done) | (simp_all; omega))) | (simp_all; done) | (simp_all; omega)
          refine lv_istore_n (lv' := [(3, .int (nI 0)), (0, .ref (μ 0)), (1, .int (nI d)), (2, .int (bI kd))]) hx hb dX6_reason_42 rfl hl (by decide) rfl (fun ls hl => ?_)
          refine lv_aload_n hx hb dX6_reason_43 rfl (lv_at hl 1 rfl) ?_
          refine lv_iload_n hx hb dX6_reason_44 rfl (lv_at hl 2 rfl) ?_
          refine lv_sipush (v := nI 240) hx hb dX6_reason_45 (by decide) ?_
          refine kcalli (wc := [cM μ iK kn ln th sp bg fm le fi se re ca, xI g (μ 1) 288 (enc σ)]) (wr := []) (wn := fun (u : Unit) => [cM μ iK kn ln th sp bg fm le fi se re ca, xI g (μ 1) 288 (enc σ)]) F w [0, 1] [] [0, 1] rfl rfl rfl (fun _ => rfl)
            (fun hp => va_runV (As := [.int (nI d), .int (nI 240)]) (rest := []) F.1 (kX6_of l g μ iK kn ln th sp bg fm le fi se re ca (enc σ) d 240 H.size (by omega)) (cwV 2 hts gX6_reason_X6_of rfl rfl rfl ⟨rfl, hd_X6_of⟩ ⟨Nat.le_of_ble_eq_true rfl, Nat.le_of_ble_eq_true rfl⟩) ⟨hp.1, va_recv F.2.2.2.1.1 w.1 (q0 := 0) (ci := 6) rfl rfl, hp.2⟩ rfl rfl hl.1 rfl (lv_room (Nat.le_of_ble_eq_true rfl)) dX6_reason_48 ⟨Nat.le_of_ble_eq_true rfl, Nat.le_of_ble_eq_true rfl⟩)
            (fun r_27 _ H locs h_28 w => ?_)
          subst h_28
          refine ktopi (y := thZ σ d) (enc_H hd.1 hd.2) ?_
          refine lv_if_le (tgt := 58) hx hb dX6_reason_51 (by decide) (fun h_29 => ?_) (fun h_29 => ?_)
          · have hf9 : zF σ d = false := th_zero h_29
            refine lv_iload_n hx hb dX6_reason_58 rfl (lv_at hl 0 rfl) ?_
            refine lv_if_eq (tgt := 66) hx hb dX6_reason_59 (by decide) (fun h_30 => ?_) (fun h_30 => ?_)
            · have h_30 : 0 = 0 := (kc0_eq_t (by omega)).mp h_30
              refine lv_iconst (v := nI 0) hx hb dX6_reason_66 (by decide) ?_
              subst hA
              subst hQ
              exact kreti F w () [0, 1] rfl rfl (by show nI 0 = nI (reasZ σ d kd); rw [show reasZ σ d kd = 0 by simp [reasZ, h_3, hf9, hf8]]) (Nat.le_of_ble_eq_true rfl) (Nat.le_of_ble_eq_true rfl) dX6_reason_67
            · have h_30 : 0 ≠ 0 := (kc0_eq_f (by omega)).mp h_30
              omega
          · have hf9 : zF σ d = true := th_pos h_29
            refine lv_iconst (v := nI 2) hx hb dX6_reason_54 (by decide) ?_
            refine lv_goto (tgt := 67) hx hb dX6_reason_55 (by decide) ?_
            subst hA
            subst hQ
            exact kreti F w () [0, 1] rfl rfl (by show nI 2 = nI (reasZ σ d kd); rw [show reasZ σ d kd = 2 by simp [reasZ, h_3, hf9]]) (Nat.le_of_ble_eq_true rfl) (Nat.le_of_ble_eq_true rfl) dX6_reason_67
        · have h_26 : kd = true := bI_1.mp h_26
          refine lv_iload_n hx hb dX6_reason_31 rfl (lv_at hl 1 rfl) ?_
          refine lv_bipush (v := nI 16) hx hb dX6_reason_32 (by decide) ?_
          refine lv_icmp_gt (tgt := 41) hx hb dX6_reason_34 (by decide) (fun h_31 => ?_) (fun h_31 => ?_)
          · have h_31 : d > 16 := (kc_gt_t (by omega) (by omega)).mp h_31
            refine lv_iconst (v := nI 0) hx hb dX6_reason_41 (by decide) ?_
            have hf8 : fitZ d kd = true := by
              try simp only [decide_eq_true_eq, decide_eq_false_iff_not, ki_n (show 17 < 2147483648 by omega), ki_n (show 32 < 2147483648 by omega), ki_n (show d < 2147483648 by omega)] at h_4
              try simp only [decide_eq_true_eq, decide_eq_false_iff_not, ki_n (show 17 < 2147483648 by omega), ki_n (show 32 < 2147483648 by omega), ki_n (show d < 2147483648 by omega)] at h_21
              try simp only [decide_eq_true_eq, decide_eq_false_iff_not, ki_n (show 17 < 2147483648 by omega), ki_n (show 32 < 2147483648 by omega), ki_n (show d < 2147483648 by omega)] at h_26
              try simp only [decide_eq_true_eq, decide_eq_false_iff_not, ki_n (show 17 < 2147483648 by omega), ki_n (show 32 < 2147483648 by omega), ki_n (show d < 2147483648 by omega)] at h_31
              unfold fitZ
              first | (split <;> first | omega | (split <;> first | omega | (simp_all; done) | (simp_all; omega))) | (simp_all; done) | (simp_all; omega)
            refine lv_istore_n (lv' := [(3, .int (nI 0)), (0, .ref (μ 0)), (1, .int (nI d)), (2, .int (bI kd))]) hx hb dX6_reason_42 rfl hl (by decide) rfl (fun ls hl => ?_)
            refine lv_aload_n hx hb dX6_reason_43 rfl (lv_at hl 1 rfl) ?_
            refine lv_iload_n hx hb dX6_reason_44 rfl (lv_at hl 2 rfl) ?_
            refine lv_sipush (v := nI 240) hx hb dX6_reason_45 (by decide) ?_
            refine kcalli (wc := [cM μ iK kn ln th sp bg fm le fi se re ca, xI g (μ 1) 288 (enc σ)]) (wr := []) (wn := fun (u : Unit) => [cM μ iK kn ln th sp bg fm le fi se re ca, xI g (μ 1) 288 (enc σ)]) F w [0, 1] [] [0, 1] rfl rfl rfl (fun _ => rfl)
              (fun hp => va_runV (As := [.int (nI d), .int (nI 240)]) (rest := []) F.1 (kX6_of l g μ iK kn ln th sp bg fm le fi se re ca (enc σ) d 240 H.size (by omega)) (cwV 2 hts gX6_reason_X6_of rfl rfl rfl ⟨rfl, hd_X6_of⟩ ⟨Nat.le_of_ble_eq_true rfl, Nat.le_of_ble_eq_true rfl⟩) ⟨hp.1, va_recv F.2.2.2.1.1 w.1 (q0 := 0) (ci := 6) rfl rfl, hp.2⟩ rfl rfl hl.1 rfl (lv_room (Nat.le_of_ble_eq_true rfl)) dX6_reason_48 ⟨Nat.le_of_ble_eq_true rfl, Nat.le_of_ble_eq_true rfl⟩)
              (fun r_32 _ H locs h_33 w => ?_)
            subst h_33
            refine ktopi (y := thZ σ d) (enc_H hd.1 hd.2) ?_
            refine lv_if_le (tgt := 58) hx hb dX6_reason_51 (by decide) (fun h_34 => ?_) (fun h_34 => ?_)
            · have hf9 : zF σ d = false := th_zero h_34
              refine lv_iload_n hx hb dX6_reason_58 rfl (lv_at hl 0 rfl) ?_
              refine lv_if_eq (tgt := 66) hx hb dX6_reason_59 (by decide) (fun h_35 => ?_) (fun h_35 => ?_)
              · have h_35 : 0 = 0 := (kc0_eq_t (by omega)).mp h_35
                refine lv_iconst (v := nI 0) hx hb dX6_reason_66 (by decide) ?_
                subst hA
                subst hQ
                exact kreti F w () [0, 1] rfl rfl (by show nI 0 = nI (reasZ σ d kd); rw [show reasZ σ d kd = 0 by simp [reasZ, h_3, hf9, hf8]]) (Nat.le_of_ble_eq_true rfl) (Nat.le_of_ble_eq_true rfl) dX6_reason_67
              · have h_35 : 0 ≠ 0 := (kc0_eq_f (by omega)).mp h_35
                omega
            · have hf9 : zF σ d = true := th_pos h_34
              refine lv_iconst (v := nI 2) hx hb dX6_reason_54 (by decide) ?_
              refine lv_goto (tgt := 67) hx hb dX6_reason_55 (by decide) ?_
              subst hA
              subst hQ
              exact kreti F w () [0, 1] rfl rfl (by show nI 2 = nI (reasZ σ d kd); rw [show reasZ σ d kd = 2 by simp [reasZ, h_3, hf9]]) (Nat.le_of_ble_eq_true rfl) (Nat.le_of_ble_eq_true rfl) dX6_reason_67
          · have h_31 : d ≤ 16 := (kc_gt_f (by omega) (by omega)).mp h_31
            refine lv_iconst (v := nI 1) hx hb dX6_reason_37 (by decide) ?_
            refine lv_goto (tgt := 42) hx hb dX6_reason_38 (by decide) ?_
            have hf8 : fitZ d kd = false := by
              try simp only [decide_eq_true_eq, decide_eq_false_iff_not, ki_n (show 17 < 2147483648 by omega), ki_n (show 32 < 2147483648 by omega), ki_n (show d < 2147483648 by omega)] at h_4
              try simp only [decide_eq_true_eq, decide_eq_false_iff_not, ki_n (show 17 < 2147483648 by omega), ki_n (show 32 < 2147483648 by omega), ki_n (show d < 2147483648 by omega)] at h_21
              try simp only [decide_eq_true_eq, decide_eq_false_iff_not, ki_n (show 17 < 2147483648 by omega), ki_n (show 32 < 2147483648 by omega), ki_n (show d < 2147483648 by omega)] at h_26
              try simp only [decide_eq_true_eq, decide_eq_false_iff_not, ki_n (show 17 < 2147483648 by omega), ki_n (show 32 < 2147483648 by omega), ki_n (show d < 2147483648 by omega)] at h_31
              unfold fitZ
              first | (split <;> first | omega | (split <;> first | omega | (simp_all; done) | (simp_all; omega))) | (simp_all; done) | (simp_all; omega)
            refine lv_istore_n (lv' := [(3, .int (nI 1)), (0, .ref (μ 0)), (1, .int (nI d)), (2, .int (bI kd))]) hx hb dX6_reason_42 rfl hl (by decide) rfl (fun ls hl => ?_)
            refine lv_aload_n hx hb dX6_reason_43 rfl (lv_at hl 1 rfl) ?_
            refine lv_iload_n hx hb dX6_reason_44 rfl (lv_at hl 2 rfl) ?_
            refine lv_sipush (v := nI 240) hx hb dX6_reason_45 (by decide) ?_
            refine kcalli (wc := [cM μ iK kn ln th sp bg fm le fi se re ca, xI g (μ 1) 288 (enc σ)]) (wr := []) (wn := fun (u : Unit) => [cM μ iK kn ln th sp bg fm le fi se re ca, xI g (μ 1) 288 (enc σ)]) F w [0, 1] [] [0, 1] rfl rfl rfl (fun _ => rfl)
              (fun hp => va_runV (As := [.int (nI d), .int (nI 240)]) (rest := []) F.1 (kX6_of l g μ iK kn ln th sp bg fm le fi se re ca (enc σ) d 240 H.size (by omega)) (cwV 2 hts gX6_reason_X6_of rfl rfl rfl ⟨rfl, hd_X6_of⟩ ⟨Nat.le_of_ble_eq_true rfl, Nat.le_of_ble_eq_true rfl⟩) ⟨hp.1, va_recv F.2.2.2.1.1 w.1 (q0 := 0) (ci := 6) rfl rfl, hp.2⟩ rfl rfl hl.1 rfl (lv_room (Nat.le_of_ble_eq_true rfl)) dX6_reason_48 ⟨Nat.le_of_ble_eq_true rfl, Nat.le_of_ble_eq_true rfl⟩)
              (fun r_36 _ H locs h_37 w => ?_)
            subst h_37
            refine ktopi (y := thZ σ d) (enc_H hd.1 hd.2) ?_
            refine lv_if_le (tgt := 58) hx hb dX6_reason_51 (by decide) (fun h_38 => ?_) (fun h_38 => ?_)
            · have hf9 : zF σ d = false := th_zero h_38
              refine lv_iload_n hx hb dX6_reason_58 rfl (lv_at hl 0 rfl) ?_
              refine lv_if_eq (tgt := 66) hx hb dX6_reason_59 (by decide) (fun h_39 => ?_) (fun h_39 => ?_)
              · have h_39 : 1 = 0 := (kc0_eq_t (by omega)).mp h_39
                omega
              · have h_39 : 1 ≠ 0 := (kc0_eq_f (by omega)).mp h_39
                refine lv_iconst (v := nI 3) hx hb dX6_reason_62 (by decide) ?_
                refine lv_goto (tgt := 67) hx hb dX6_reason_63 (by decide) ?_
                subst hA
                subst hQ
                exact kreti F w () [0, 1] rfl rfl (by show nI 3 = nI (reasZ σ d kd); rw [show reasZ σ d kd = 3 by simp [reasZ, h_3, hf9, hf8]]) (Nat.le_of_ble_eq_true rfl) (Nat.le_of_ble_eq_true rfl) dX6_reason_67
            · have hf9 : zF σ d = true := th_pos h_38
              refine lv_iconst (v := nI 2) hx hb dX6_reason_54 (by decide) ?_
              refine lv_goto (tgt := 67) hx hb dX6_reason_55 (by decide) ?_
              subst hA
              subst hQ
              exact kreti F w () [0, 1] rfl rfl (by show nI 2 = nI (reasZ σ d kd); rw [show reasZ σ d kd = 2 by simp [reasZ, h_3, hf9]]) (Nat.le_of_ble_eq_true rfl) (Nat.le_of_ble_eq_true rfl) dX6_reason_67
  · have h_3 : (zO σ d) = false := bI_z.mp h_3
    refine lv_iconst (v := nI 1) hx hb dX6_reason_9 (by decide) ?_
    subst hA
    subst hQ
    exact kreti F w () [0, 1] rfl rfl (by show nI 1 = nI (reasZ σ d kd); rw [show reasZ σ d kd = 1 by simp [reasZ, h_3]]) (Nat.le_of_ble_eq_true rfl) (Nat.le_of_ble_eq_true rfl) dX6_reason_10
