/-! ===== the reference's reading of texts ===== -/
def hrZ (T : Nat → Int32) (L p : Nat) : Int32 := if p < L then T p else nI 0
theorem hr_eq {T : Nat → Int32} {L p : Nat} {c : Int32} (h0 : nI 0 ≠ c) (h1 : (-1) ≠ c) : hrZ T L p = c ↔ chZ T L p = c := by
  unfold hrZ chZ
  by_cases h : p < L
  · rw [if_pos h, if_pos h]
  · rw [if_neg h, if_neg h]; exact ⟨fun e => absurd e h0, fun e => absurd e h1⟩
theorem hr_dg {T : Nat → Int32} {L p : Nat} : decide ((nI 48).toInt ≤ (hrZ T L p).toInt ∧ (hrZ T L p).toInt ≤ (nI 57).toInt) = dgZ (chZ T L p) := by
  rw [ki_n (show 48 < 2147483648 by omega), ki_n (show 57 < 2147483648 by omega)]
  unfold hrZ chZ dgZ
  by_cases h : p < L
  · rw [if_pos h, if_pos h]; rfl
  · rw [if_neg h, if_neg h]; decide
theorem hr_ch {T : Nat → Int32} {L p : Nat} (h : dgZ (chZ T L p) = true) : hrZ T L p = chZ T L p := by
  unfold hrZ chZ at *
  by_cases hp : p < L
  · rw [if_pos hp, if_pos hp]
  · rw [if_neg hp] at h; exact absurd h (by decide)
theorem dv_first {T : Nat → Int32} {L p : Nat} (h : dgZ (chZ T L p) = true) : nI (10 * 0) + hrZ T L p - nI 48 = nI (dvZ (chZ T L p)) := by
  rw [hr_ch h]
  have := dvZ_acc h 0
  rw [show nI (0 * 10) = nI (10 * 0) from rfl, show 0 * 10 + dvZ (chZ T L p) = dvZ (chZ T L p) by omega] at this
  exact this
theorem dv_second {T : Nat → Int32} {L p v : Nat} (h : dgZ (chZ T L p) = true) : nI (10 * v) + hrZ T L p - nI 48 = nI (v * 10 + dvZ (chZ T L p)) := by
  rw [hr_ch h, Nat.mul_comm 10 v]
  exact dvZ_acc h v
theorem nI_nn {n : Nat} (h : n < 2147483648) : ¬ nI n < 0 := (kc0_lt_f h).mpr (by omega)
theorem bI_nn (b : Bool) : ¬ bI b < 0 := by cases b <;> decide
theorem cau_in {vb : Int32} {n1 n2 : Nat} {σ : Sg} (hv : vb ≠ nI 114) (h : cauZ vb n1 n2 σ = 0 ∨ cauZ vb n1 n2 σ = 2) : 1 ≤ n1 ∧ n1 ≤ 48 := by
  unfold cauZ at h
  rw [if_neg hv] at h
  by_cases hc : 1 ≤ n1 ∧ n1 ≤ 48
  · exact hc
  · rw [if_pos hc] at h; omega
theorem kdz_of {n : Nat} (h : n < 2147483648) (hk : nI n = 0 ∨ nI n = 1) : n ≤ 1 := by
  rcases hk with q | q
  · have := (kc0_eq_t h).mp q; omega
  · have q2 : nI n = nI 1 := q
    have := (nI_eq h (by omega)).mp q2; omega
theorem in_X6_here_X6 : ∀ w ∈ wsX60, w ∈ wsX6_here := by decide +kernel
abbrev rmX6_here : Room := { frames := 0, cells := 0, slots := 0, locals := 0 }
set_option maxHeartbeats 4000000 in
set_option maxRecDepth 100000 in
theorem kX6_here (l : Launch) (g : GG) (μ : Nat → Nat) (iK : Bool) (kn : Nat) (ln : Nat) (th : Nat) (sp : Nat) (bg : Nat) (fm : Bool) (le : Int32) (fi : Nat) (se : Nat) (re : Nat) (ca : Nat) (T : Nat → Int32) (sz : Nat) (hL : ln ≤ 60) (hsp : sp < 3000) : Met l yX6_here wsX6_here rmX6_here (va_Pc [.ref (μ 0)] (kPre g [cM μ iK kn ln th sp bg fm le fi se re ca, xI g (μ 6) 60 T] sz)) (va_Qi (fun (r : Int32) (u : Unit) => r = hrZ T ln sp) (kB g (va_A [cM μ iK kn ln th sp bg fm le fi se re ca, xI g (μ 6) 60 T] sz) (fun u => [cM μ iK kn ln th sp bg fm le fi se re ca, xI g (μ 6) 60 T])) (va_A [cM μ iK kn ln th sp bg fm le fi se re ca, xI g (μ 6) 60 T] sz)) 0 0 (va_A [cM μ iK kn ln th sp bg fm le fi se re ca, xI g (μ 6) 60 T] sz) := by
  refine kMet (cc := cX6_here) (maxL := 1) (ret := (some .int)) (own := RX6) (by decide) rfl rfl (Nat.le_of_ble_eq_true rfl) ?_
  intro p e s m args below meth c ls Q H locs A F w hl hnm hA hQ
  have hx := F.1.1
  have hb := F.1.2.1
  have hts := F.1.2.2.2.2
  have hl : lv_has ls 1 [(0, .ref (μ 0))] := hl
  refine lv_aload_n hx hb dX6_here_0 rfl (lv_at hl 0 rfl) ?_
  refine kget (fs := [.ref (μ 1), .ref (μ 2), .ref (μ 3), .ref (μ 4), .int (bI iK), .ref (μ 5), .int (nI kn), .ref (μ 6), .int (nI ln), .int (nI th), .int (nI sp), .int (nI bg), .int (bI fm), .int le, .int (nI fi), .int (nI se), .int (nI re), .int (nI ca)]) F w in_X6_here_X6 0 rfl rfl 10 (by decide) (by decide +kernel) rfl rfl dX6_here_1 ?_
  refine lv_aload_n hx hb dX6_here_4 rfl (lv_at hl 0 rfl) ?_
  refine kget (fs := [.ref (μ 1), .ref (μ 2), .ref (μ 3), .ref (μ 4), .int (bI iK), .ref (μ 5), .int (nI kn), .ref (μ 6), .int (nI ln), .int (nI th), .int (nI sp), .int (nI bg), .int (bI fm), .int le, .int (nI fi), .int (nI se), .int (nI re), .int (nI ca)]) F w in_X6_here_X6 0 rfl rfl 8 (by decide) (by decide +kernel) rfl rfl dX6_here_5 ?_
  refine lv_icmp_ge (tgt := 23) hx hb dX6_here_8 (by decide) (fun h_1 => ?_) (fun h_1 => ?_)
  · have h_1 : sp ≥ ln := (kc_ge_t (by omega) (by omega)).mp h_1
    refine lv_iconst (v := nI 0) hx hb dX6_here_23 (by decide) ?_
    refine ktopi (y := hrZ T ln sp) ((if_neg (by omega)).symm) ?_
    subst hA
    subst hQ
    exact kreti F w () [0, 1] rfl rfl (rfl) (Nat.le_of_ble_eq_true rfl) (Nat.le_of_ble_eq_true rfl) dX6_here_24
  · have h_1 : sp < ln := (kc_ge_f (by omega) (by omega)).mp h_1
    refine lv_aload_n hx hb dX6_here_11 rfl (lv_at hl 0 rfl) ?_
    refine kget (fs := [.ref (μ 1), .ref (μ 2), .ref (μ 3), .ref (μ 4), .int (bI iK), .ref (μ 5), .int (nI kn), .ref (μ 6), .int (nI ln), .int (nI th), .int (nI sp), .int (nI bg), .int (bI fm), .int le, .int (nI fi), .int (nI se), .int (nI re), .int (nI ca)]) F w in_X6_here_X6 0 rfl rfl 7 (by decide) (by decide +kernel) rfl rfl dX6_here_12 ?_
    refine lv_aload_n hx hb dX6_here_15 rfl (lv_at hl 0 rfl) ?_
    refine kget (fs := [.ref (μ 1), .ref (μ 2), .ref (μ 3), .ref (μ 4), .int (bI iK), .ref (μ 5), .int (nI kn), .ref (μ 6), .int (nI ln), .int (nI th), .int (nI sp), .int (nI bg), .int (bI fm), .int le, .int (nI fi), .int (nI se), .int (nI re), .int (nI ca)]) F w in_X6_here_X6 0 rfl rfl 10 (by decide) (by decide +kernel) rfl rfl dX6_here_16 ?_
    refine kiald (v := T sp) F w 1 rfl (vp_in_nI (by omega) (by omega)) (congrArg T (nI_clamp (n := sp) (by omega))) dX6_here_19 ?_
    refine lv_goto (tgt := 24) hx hb dX6_here_20 (by decide) ?_
    refine ktopi (y := hrZ T ln sp) ((if_pos h_1).symm) ?_
    subst hA
    subst hQ
    exact kreti F w () [0, 1] rfl rfl (rfl) (Nat.le_of_ble_eq_true rfl) (Nat.le_of_ble_eq_true rfl) dX6_here_24
theorem in_X6_takes_X6 : ∀ w ∈ wsX60, w ∈ wsX6_takes := by decide +kernel
abbrev rmX6_takes_11 : Room := { frames := 0, cells := 0, slots := 0, locals := 0 }
set_option maxHeartbeats 4000000 in
set_option maxRecDepth 100000 in
theorem kX6_takes_11 (l : Launch) (g : GG) (μ : Nat → Nat) (iK : Bool) (kn : Nat) (ln : Nat) (th : Nat) (sp : Nat) (bg : Nat) (fm : Bool) (le : Int32) (fi : Nat) (se : Nat) (re : Nat) (ca : Nat) (sz : Nat)  : Met l yX6_takes wsX6_takes rmX6_takes_11 (va_Pc [.ref (μ 0), .int (bI true)] (kPre g [cM μ iK kn ln th sp bg true le fi se re ca] sz)) (va_Qv (fun (u : Unit) => True) (kB g (va_A [cM μ iK kn ln th sp bg true le fi se re ca] sz) (fun u => [cM μ iK kn ln th (sp + 1) bg true le fi se re ca])) (va_A [cM μ iK kn ln th sp bg true le fi se re ca] sz)) 0 0 (va_A [cM μ iK kn ln th sp bg true le fi se re ca] sz) := by
  refine kMet (cc := cX6_takes) (maxL := 2) (ret := none) (own := RX6) (by decide) rfl rfl (Nat.le_of_ble_eq_true rfl) ?_
  intro p e s m args below meth c ls Q H locs A F w hl hnm hA hQ
  have hx := F.1.1
  have hb := F.1.2.1
  have hts := F.1.2.2.2.2
  have hl : lv_has ls 2 [(0, .ref (μ 0)), (1, .int (bI true))] := hl
  refine lv_aload_n hx hb dX6_takes_0 rfl (lv_at hl 0 rfl) ?_
  refine lv_aload_n hx hb dX6_takes_1 rfl (lv_at hl 0 rfl) ?_
  refine kget (fs := [.ref (μ 1), .ref (μ 2), .ref (μ 3), .ref (μ 4), .int (bI iK), .ref (μ 5), .int (nI kn), .ref (μ 6), .int (nI ln), .int (nI th), .int (nI sp), .int (nI bg), .int (bI true), .int le, .int (nI fi), .int (nI se), .int (nI re), .int (nI ca)]) F w in_X6_takes_X6 0 rfl rfl 12 (by decide) (by decide +kernel) rfl rfl dX6_takes_2 ?_
  refine lv_if_eq (tgt := 16) hx hb dX6_takes_5 (by decide) (fun h_1 => ?_) (fun h_1 => ?_)
  · have h_1 : true = false := bI_z.mp h_1
    exact absurd h_1 (by simp)
  · have h_1 : true = true := bI_o.mp h_1
    refine lv_iload_n hx hb dX6_takes_8 rfl (lv_at hl 1 rfl) ?_
    refine lv_if_eq (tgt := 16) hx hb dX6_takes_9 (by decide) (fun h_2 => ?_) (fun h_2 => ?_)
    · have h_2 : true = false := bI_z.mp h_2
      exact absurd h_2 (by simp)
    · have h_2 : true = true := bI_o.mp h_2
      refine lv_iconst (v := nI 1) hx hb dX6_takes_12 (by decide) ?_
      refine lv_goto (tgt := 17) hx hb dX6_takes_13 (by decide) ?_
      refine ktopi (y := bI true) (by decide) ?_
      refine kput (fs := [.ref (μ 1), .ref (μ 2), .ref (μ 3), .ref (μ 4), .int (bI iK), .ref (μ 5), .int (nI kn), .ref (μ 6), .int (nI ln), .int (nI th), .int (nI sp), .int (nI bg), .int (bI true), .int le, .int (nI fi), .int (nI se), .int (nI re), .int (nI ca)]) F w in_X6_takes_X6 tyX6_ok nmX6 0 rfl rfl 12 (by decide) (by decide +kernel) rfl rfl (kz_n _) (kz_f _) (Nat.le_of_ble_eq_true rfl) (wn := [cM μ iK kn ln th sp bg true le fi se re ca]) rfl dX6_takes_17 (fun H locs w => ?_)
      refine lv_aload_n hx hb dX6_takes_20 rfl (lv_at hl 0 rfl) ?_
      refine lv_dup hx hb dX6_takes_21 rfl ?_
      refine kget (fs := [.ref (μ 1), .ref (μ 2), .ref (μ 3), .ref (μ 4), .int (bI iK), .ref (μ 5), .int (nI kn), .ref (μ 6), .int (nI ln), .int (nI th), .int (nI sp), .int (nI bg), .int (bI true), .int le, .int (nI fi), .int (nI se), .int (nI re), .int (nI ca)]) F w in_X6_takes_X6 0 rfl rfl 10 (by decide) (by decide +kernel) rfl rfl dX6_takes_22 ?_
      refine lv_aload_n hx hb dX6_takes_25 rfl (lv_at hl 0 rfl) ?_
      refine kget (fs := [.ref (μ 1), .ref (μ 2), .ref (μ 3), .ref (μ 4), .int (bI iK), .ref (μ 5), .int (nI kn), .ref (μ 6), .int (nI ln), .int (nI th), .int (nI sp), .int (nI bg), .int (bI true), .int le, .int (nI fi), .int (nI se), .int (nI re), .int (nI ca)]) F w in_X6_takes_X6 0 rfl rfl 12 (by decide) (by decide +kernel) rfl rfl dX6_takes_26 ?_
      refine lv_if_eq (tgt := 36) hx hb dX6_takes_29 (by decide) (fun h_3 => ?_) (fun h_3 => ?_)
      · have h_3 : true = false := bI_z.mp h_3
        exact absurd h_3 (by simp)
      · have h_3 : true = true := bI_o.mp h_3
        refine lv_iconst (v := nI 1) hx hb dX6_takes_32 (by decide) ?_
        refine lv_goto (tgt := 37) hx hb dX6_takes_33 (by decide) ?_
        refine lv_iadd hx hb dX6_takes_37 ?_
        refine ktopi (y := nI (sp + 1)) (nI_add sp 1) ?_
        refine kput (fs := [.ref (μ 1), .ref (μ 2), .ref (μ 3), .ref (μ 4), .int (bI iK), .ref (μ 5), .int (nI kn), .ref (μ 6), .int (nI ln), .int (nI th), .int (nI sp), .int (nI bg), .int (bI true), .int le, .int (nI fi), .int (nI se), .int (nI re), .int (nI ca)]) F w in_X6_takes_X6 tyX6_ok nmX6 0 rfl rfl 10 (by decide) (by decide +kernel) rfl rfl (rfl) (rfl) (Nat.le_of_ble_eq_true rfl) (wn := [cM μ iK kn ln th (sp + 1) bg true le fi se re ca]) rfl dX6_takes_38 (fun H locs w => ?_)
        subst hA
        subst hQ
        exact kretv F w () [0] rfl rfl (trivial) (Nat.le_of_ble_eq_true rfl) (Nat.le_of_ble_eq_true rfl) dX6_takes_41
abbrev rmX6_takes_10 : Room := { frames := 0, cells := 0, slots := 0, locals := 0 }
set_option maxHeartbeats 4000000 in
set_option maxRecDepth 100000 in
theorem kX6_takes_10 (l : Launch) (g : GG) (μ : Nat → Nat) (iK : Bool) (kn : Nat) (ln : Nat) (th : Nat) (sp : Nat) (bg : Nat) (fm : Bool) (le : Int32) (fi : Nat) (se : Nat) (re : Nat) (ca : Nat) (sz : Nat)  : Met l yX6_takes wsX6_takes rmX6_takes_10 (va_Pc [.ref (μ 0), .int (bI false)] (kPre g [cM μ iK kn ln th sp bg true le fi se re ca] sz)) (va_Qv (fun (u : Unit) => True) (kB g (va_A [cM μ iK kn ln th sp bg true le fi se re ca] sz) (fun u => [cM μ iK kn ln th (sp + 0) bg false le fi se re ca])) (va_A [cM μ iK kn ln th sp bg true le fi se re ca] sz)) 0 0 (va_A [cM μ iK kn ln th sp bg true le fi se re ca] sz) := by
  refine kMet (cc := cX6_takes) (maxL := 2) (ret := none) (own := RX6) (by decide) rfl rfl (Nat.le_of_ble_eq_true rfl) ?_
  intro p e s m args below meth c ls Q H locs A F w hl hnm hA hQ
  have hx := F.1.1
  have hb := F.1.2.1
  have hts := F.1.2.2.2.2
  have hl : lv_has ls 2 [(0, .ref (μ 0)), (1, .int (bI false))] := hl
  refine lv_aload_n hx hb dX6_takes_0 rfl (lv_at hl 0 rfl) ?_
  refine lv_aload_n hx hb dX6_takes_1 rfl (lv_at hl 0 rfl) ?_
  refine kget (fs := [.ref (μ 1), .ref (μ 2), .ref (μ 3), .ref (μ 4), .int (bI iK), .ref (μ 5), .int (nI kn), .ref (μ 6), .int (nI ln), .int (nI th), .int (nI sp), .int (nI bg), .int (bI true), .int le, .int (nI fi), .int (nI se), .int (nI re), .int (nI ca)]) F w in_X6_takes_X6 0 rfl rfl 12 (by decide) (by decide +kernel) rfl rfl dX6_takes_2 ?_
  refine lv_if_eq (tgt := 16) hx hb dX6_takes_5 (by decide) (fun h_1 => ?_) (fun h_1 => ?_)
  · have h_1 : true = false := bI_z.mp h_1
    exact absurd h_1 (by simp)
  · have h_1 : true = true := bI_o.mp h_1
    refine lv_iload_n hx hb dX6_takes_8 rfl (lv_at hl 1 rfl) ?_
    refine lv_if_eq (tgt := 16) hx hb dX6_takes_9 (by decide) (fun h_2 => ?_) (fun h_2 => ?_)
    · have h_2 : false = false := bI_z.mp h_2
      refine lv_iconst (v := nI 0) hx hb dX6_takes_16 (by decide) ?_
      refine ktopi (y := bI false) (by decide) ?_
      refine kput (fs := [.ref (μ 1), .ref (μ 2), .ref (μ 3), .ref (μ 4), .int (bI iK), .ref (μ 5), .int (nI kn), .ref (μ 6), .int (nI ln), .int (nI th), .int (nI sp), .int (nI bg), .int (bI true), .int le, .int (nI fi), .int (nI se), .int (nI re), .int (nI ca)]) F w in_X6_takes_X6 tyX6_ok nmX6 0 rfl rfl 12 (by decide) (by decide +kernel) rfl rfl (kz_n _) (kz_f _) (Nat.le_of_ble_eq_true rfl) (wn := [cM μ iK kn ln th sp bg false le fi se re ca]) rfl dX6_takes_17 (fun H locs w => ?_)
      refine lv_aload_n hx hb dX6_takes_20 rfl (lv_at hl 0 rfl) ?_
      refine lv_dup hx hb dX6_takes_21 rfl ?_
      refine kget (fs := [.ref (μ 1), .ref (μ 2), .ref (μ 3), .ref (μ 4), .int (bI iK), .ref (μ 5), .int (nI kn), .ref (μ 6), .int (nI ln), .int (nI th), .int (nI sp), .int (nI bg), .int (bI false), .int le, .int (nI fi), .int (nI se), .int (nI re), .int (nI ca)]) F w in_X6_takes_X6 0 rfl rfl 10 (by decide) (by decide +kernel) rfl rfl dX6_takes_22 ?_
      refine lv_aload_n hx hb dX6_takes_25 rfl (lv_at hl 0 rfl) ?_
      refine kget (fs := [.ref (μ 1), .ref (μ 2), .ref (μ 3), .ref (μ 4), .int (bI iK), .ref (μ 5), .int (nI kn), .ref (μ 6), .int (nI ln), .int (nI th), .int (nI sp), .int (nI bg), .int (bI false), .int le, .int (nI fi), .int (nI se), .int (nI re), .int (nI ca)]) F w in_X6_takes_X6 0 rfl rfl 12 (by decide) (by decide +kernel) rfl rfl dX6_takes_26 ?_
      refine lv_if_eq (tgt := 36) hx hb dX6_takes_29 (by decide) (fun h_3 => ?_) (fun h_3 => ?_)
      · have h_3 : false = false := bI_z.mp h_3
        refine lv_iconst (v := nI 0) hx hb dX6_takes_36 (by decide) ?_
        refine lv_iadd hx hb dX6_takes_37 ?_
        refine ktopi (y := nI (sp + 0)) (nI_add sp 0) ?_
        refine kput (fs := [.ref (μ 1), .ref (μ 2), .ref (μ 3), .ref (μ 4), .int (bI iK), .ref (μ 5), .int (nI kn), .ref (μ 6), .int (nI ln), .int (nI th), .int (nI sp), .int (nI bg), .int (bI false), .int le, .int (nI fi), .int (nI se), .int (nI re), .int (nI ca)]) F w in_X6_takes_X6 tyX6_ok nmX6 0 rfl rfl 10 (by decide) (by decide +kernel) rfl rfl (rfl) (rfl) (Nat.le_of_ble_eq_true rfl) (wn := [cM μ iK kn ln th (sp + 0) bg false le fi se re ca]) rfl dX6_takes_38 (fun H locs w => ?_)
        subst hA
        subst hQ
        exact kretv F w () [0] rfl rfl (trivial) (Nat.le_of_ble_eq_true rfl) (Nat.le_of_ble_eq_true rfl) dX6_takes_41
      · have h_3 : false = true := bI_o.mp h_3
        exact absurd h_3 (by simp)
    · have h_2 : false = true := bI_o.mp h_2
      exact absurd h_2 (by simp)
abbrev rmX6_takes_0 : Room := { frames := 0, cells := 0, slots := 0, locals := 0 }
set_option maxHeartbeats 4000000 in
set_option maxRecDepth 100000 in
theorem kX6_takes_0 (l : Launch) (g : GG) (μ : Nat → Nat) (iK : Bool) (kn : Nat) (ln : Nat) (th : Nat) (sp : Nat) (bg : Nat) (fm : Bool) (le : Int32) (fi : Nat) (se : Nat) (re : Nat) (ca : Nat) (b : Bool) (sz : Nat)  : Met l yX6_takes wsX6_takes rmX6_takes_0 (va_Pc [.ref (μ 0), .int (bI b)] (kPre g [cM μ iK kn ln th sp bg false le fi se re ca] sz)) (va_Qv (fun (u : Unit) => True) (kB g (va_A [cM μ iK kn ln th sp bg false le fi se re ca] sz) (fun u => [cM μ iK kn ln th (sp + 0) bg false le fi se re ca])) (va_A [cM μ iK kn ln th sp bg false le fi se re ca] sz)) 0 0 (va_A [cM μ iK kn ln th sp bg false le fi se re ca] sz) := by
  refine kMet (cc := cX6_takes) (maxL := 2) (ret := none) (own := RX6) (by decide) rfl rfl (Nat.le_of_ble_eq_true rfl) ?_
  intro p e s m args below meth c ls Q H locs A F w hl hnm hA hQ
  have hx := F.1.1
  have hb := F.1.2.1
  have hts := F.1.2.2.2.2
  have hl : lv_has ls 2 [(0, .ref (μ 0)), (1, .int (bI b))] := hl
  refine lv_aload_n hx hb dX6_takes_0 rfl (lv_at hl 0 rfl) ?_
  refine lv_aload_n hx hb dX6_takes_1 rfl (lv_at hl 0 rfl) ?_
  refine kget (fs := [.ref (μ 1), .ref (μ 2), .ref (μ 3), .ref (μ 4), .int (bI iK), .ref (μ 5), .int (nI kn), .ref (μ 6), .int (nI ln), .int (nI th), .int (nI sp), .int (nI bg), .int (bI false), .int le, .int (nI fi), .int (nI se), .int (nI re), .int (nI ca)]) F w in_X6_takes_X6 0 rfl rfl 12 (by decide) (by decide +kernel) rfl rfl dX6_takes_2 ?_
  refine lv_if_eq (tgt := 16) hx hb dX6_takes_5 (by decide) (fun h_1 => ?_) (fun h_1 => ?_)
  · have h_1 : false = false := bI_z.mp h_1
    refine lv_iconst (v := nI 0) hx hb dX6_takes_16 (by decide) ?_
    refine ktopi (y := bI false) (by decide) ?_
    refine kput (fs := [.ref (μ 1), .ref (μ 2), .ref (μ 3), .ref (μ 4), .int (bI iK), .ref (μ 5), .int (nI kn), .ref (μ 6), .int (nI ln), .int (nI th), .int (nI sp), .int (nI bg), .int (bI false), .int le, .int (nI fi), .int (nI se), .int (nI re), .int (nI ca)]) F w in_X6_takes_X6 tyX6_ok nmX6 0 rfl rfl 12 (by decide) (by decide +kernel) rfl rfl (kz_n _) (kz_f _) (Nat.le_of_ble_eq_true rfl) (wn := [cM μ iK kn ln th sp bg false le fi se re ca]) rfl dX6_takes_17 (fun H locs w => ?_)
    refine lv_aload_n hx hb dX6_takes_20 rfl (lv_at hl 0 rfl) ?_
    refine lv_dup hx hb dX6_takes_21 rfl ?_
    refine kget (fs := [.ref (μ 1), .ref (μ 2), .ref (μ 3), .ref (μ 4), .int (bI iK), .ref (μ 5), .int (nI kn), .ref (μ 6), .int (nI ln), .int (nI th), .int (nI sp), .int (nI bg), .int (bI false), .int le, .int (nI fi), .int (nI se), .int (nI re), .int (nI ca)]) F w in_X6_takes_X6 0 rfl rfl 10 (by decide) (by decide +kernel) rfl rfl dX6_takes_22 ?_
    refine lv_aload_n hx hb dX6_takes_25 rfl (lv_at hl 0 rfl) ?_
    refine kget (fs := [.ref (μ 1), .ref (μ 2), .ref (μ 3), .ref (μ 4), .int (bI iK), .ref (μ 5), .int (nI kn), .ref (μ 6), .int (nI ln), .int (nI th), .int (nI sp), .int (nI bg), .int (bI false), .int le, .int (nI fi), .int (nI se), .int (nI re), .int (nI ca)]) F w in_X6_takes_X6 0 rfl rfl 12 (by decide) (by decide +kernel) rfl rfl dX6_takes_26 ?_
    refine lv_if_eq (tgt := 36) hx hb dX6_takes_29 (by decide) (fun h_2 => ?_) (fun h_2 => ?_)
    · have h_2 : false = false := bI_z.mp h_2
      refine lv_iconst (v := nI 0) hx hb dX6_takes_36 (by decide) ?_
      refine lv_iadd hx hb dX6_takes_37 ?_
      refine ktopi (y := nI (sp + 0)) (nI_add sp 0) ?_
      refine kput (fs := [.ref (μ 1), .ref (μ 2), .ref (μ 3), .ref (μ 4), .int (bI iK), .ref (μ 5), .int (nI kn), .ref (μ 6), .int (nI ln), .int (nI th), .int (nI sp), .int (nI bg), .int (bI false), .int le, .int (nI fi), .int (nI se), .int (nI re), .int (nI ca)]) F w in_X6_takes_X6 tyX6_ok nmX6 0 rfl rfl 10 (by decide) (by decide +kernel) rfl rfl (rfl) (rfl) (Nat.le_of_ble_eq_true rfl) (wn := [cM μ iK kn ln th (sp + 0) bg false le fi se re ca]) rfl dX6_takes_38 (fun H locs w => ?_)
      subst hA
      subst hQ
      exact kretv F w () [0] rfl rfl (trivial) (Nat.le_of_ble_eq_true rfl) (Nat.le_of_ble_eq_true rfl) dX6_takes_41
    · have h_2 : false = true := bI_o.mp h_2
      exact absurd h_2 (by simp)
  · have h_1 : false = true := bI_o.mp h_1
    exact absurd h_1 (by simp)
theorem in_X6_takesNumber_X6 : ∀ w ∈ wsX60, w ∈ wsX6_takesNumber := by decide +kernel
theorem hd_X6_here : yX6_here.cls ≠ "java/lang/invoke/MethodHandle" ∧ yX6_here.cls ≠ "java/lang/invoke/VarHandle" ∧ (parseMethodDescriptor yX6_here.desc).map (fun d => d.parameters.length) = some 0 := by decide +kernel
abbrev rmX6_takesNumber_k : Room := { frames := 1, cells := 0, slots := 0, locals := 22 }
set_option maxHeartbeats 4000000 in
set_option maxRecDepth 100000 in
theorem kX6_takesNumber_k (l : Launch) (g : GG) (μ : Nat → Nat) (iK : Bool) (kn : Nat) (ln : Nat) (th : Nat) (sp : Nat) (bg : Nat) (fm : Bool) (le : Int32) (fi : Nat) (se : Nat) (re : Nat) (ca : Nat) (T : Nat → Int32) (sz : Nat) (hL : ln ≤ 60) (hsp : sp < 2000) (hdg : dgZ (chZ T ln sp) = true) : Met l yX6_takesNumber wsX6_takesNumber rmX6_takesNumber_k (va_Pc [.ref (μ 0)] (kPre g [cM μ iK kn ln th sp bg true le fi se re ca, xI g (μ 6) 60 T] sz)) (va_Qi (fun (r : Int32) (u : Unit) => r = nI (nVz T ln sp)) (kB g (va_A [cM μ iK kn ln th sp bg true le fi se re ca, xI g (μ 6) 60 T] sz) (fun u => [cM μ iK kn ln th (nEz T ln sp) bg true le fi se re ca, xI g (μ 6) 60 T])) (va_A [cM μ iK kn ln th sp bg true le fi se re ca, xI g (μ 6) 60 T] sz)) 0 0 (va_A [cM μ iK kn ln th sp bg true le fi se re ca, xI g (μ 6) 60 T] sz) := by
  refine kMet (cc := cX6_takesNumber) (maxL := 3) (ret := (some .int)) (own := RX6) (by decide) rfl rfl (Nat.le_of_ble_eq_true rfl) ?_
  intro p e s m args below meth c ls Q H locs A F w hl hnm hA hQ
  have hx := F.1.1
  have hb := F.1.2.1
  have hts := F.1.2.2.2.2
  have hl : lv_has ls 3 [(0, .ref (μ 0))] := hl
  refine lv_iconst (v := nI 0) hx hb dX6_takesNumber_0 (by decide) ?_
  refine lv_istore_n (lv' := [(1, .int (nI 0)), (0, .ref (μ 0))]) hx hb dX6_takesNumber_1 rfl hl (by decide) rfl (fun ls hl => ?_)
  refine lv_iconst (v := nI 0) hx hb dX6_takesNumber_2 (by decide) ?_
  refine lv_istore_n (lv' := [(2, .int (nI 0)), (1, .int (nI 0)), (0, .ref (μ 0))]) hx hb dX6_takesNumber_3 rfl hl (by decide) rfl (fun ls hl => ?_)
  refine lv_aload_n hx hb dX6_takesNumber_4 rfl (lv_at hl 2 rfl) ?_
  refine kget (fs := [.ref (μ 1), .ref (μ 2), .ref (μ 3), .ref (μ 4), .int (bI iK), .ref (μ 5), .int (nI kn), .ref (μ 6), .int (nI ln), .int (nI th), .int (nI sp), .int (nI bg), .int (bI true), .int le, .int (nI fi), .int (nI se), .int (nI re), .int (nI ca)]) F w in_X6_takesNumber_X6 0 rfl rfl 12 (by decide) (by decide +kernel) rfl rfl dX6_takesNumber_5 ?_
  refine lv_if_eq (tgt := 59) hx hb dX6_takesNumber_8 (by decide) (fun h_1 => ?_) (fun h_1 => ?_)
  · have h_1 : true = false := bI_z.mp h_1
    exact absurd h_1 (by simp)
  · have h_1 : true = true := bI_o.mp h_1
    refine lv_iload_n hx hb dX6_takesNumber_11 rfl (lv_at hl 0 rfl) ?_
    refine lv_iconst (v := nI 2) hx hb dX6_takesNumber_12 (by decide) ?_
    refine lv_icmp_ge (tgt := 59) hx hb dX6_takesNumber_13 (by decide) (fun h_2 => ?_) (fun h_2 => ?_)
    · have h_2 : 0 ≥ 2 := (kc_ge_t (by omega) (by omega)).mp h_2
      omega
    · have h_2 : 0 < 2 := (kc_ge_f (by omega) (by omega)).mp h_2
      refine lv_aload_n hx hb dX6_takesNumber_16 rfl (lv_at hl 2 rfl) ?_
      refine kcalli (wc := [cM μ iK kn ln th sp bg true le fi se re ca, xI g (μ 6) 60 T]) (wr := []) (wn := fun (u : Unit) => [cM μ iK kn ln th sp bg true le fi se re ca, xI g (μ 6) 60 T]) F w [0, 1] [] [0, 1] rfl rfl rfl (fun _ => rfl)
        (fun hp => va_runV (As := []) (rest := []) F.1 (kX6_here l g μ iK kn ln th sp bg true le fi se re ca T H.size (by omega) (by omega)) (cwV 0 hts gX6_takesNumber_X6_here rfl rfl rfl ⟨rfl, hd_X6_here⟩ ⟨Nat.le_of_ble_eq_true rfl, Nat.le_of_ble_eq_true rfl⟩) ⟨hp.1, va_recv F.2.2.2.1.1 w.1 (q0 := 0) (ci := 6) rfl rfl, hp.2⟩ rfl rfl hl.1 rfl (lv_room (Nat.le_of_ble_eq_true rfl)) dX6_takesNumber_17 ⟨Nat.le_of_ble_eq_true rfl, Nat.le_of_ble_eq_true rfl⟩)
        (fun r_3 _ H locs h_4 w => ?_)
      subst h_4
      refine lv_bipush (v := nI 48) hx hb dX6_takesNumber_20 (by decide) ?_
      refine lv_bipush (v := nI 57) hx hb dX6_takesNumber_22 (by decide) ?_
      refine kcalli (wc := []) (wr := [cM μ iK kn ln th sp bg true le fi se re ca, xI g (μ 6) 60 T]) (wn := fun (u : Unit) => [cM μ iK kn ln th sp bg true le fi se re ca, xI g (μ 6) 60 T]) F w [] [0, 1] [0, 1] rfl rfl rfl (fun _ => rfl)
        (fun hp => va_runS (As := [.int (hrZ T ln sp), .int (nI 48), .int (nI 57)]) (rest := []) F.1 (kX6_in l g (hrZ T ln sp) (nI 48) (nI 57) H.size ) (va_cwS 3 hts gX6_takesNumber_X6_in rfl rfl rfl hd_X6_in ⟨Nat.le_of_ble_eq_true rfl, Nat.le_of_ble_eq_true rfl⟩) hp rfl rfl hl.1 rfl (lv_room (Nat.le_of_ble_eq_true rfl)) dX6_takesNumber_24 ⟨Nat.le_of_ble_eq_true rfl, Nat.le_of_ble_eq_true rfl⟩)
        (fun r_5 _ H locs h_6 w => ?_)
      subst h_6
      refine ktopi (y := bI (dgZ (chZ T ln sp))) (congrArg bI hr_dg) ?_
      refine lv_if_eq (tgt := 59) hx hb dX6_takesNumber_27 (by decide) (fun h_7 => ?_) (fun h_7 => ?_)
      · have h_7 : (dgZ (chZ T ln sp)) = false := bI_z.mp h_7
        rw [hdg] at h_7; cases h_7
      · have h_7 : (dgZ (chZ T ln sp)) = true := bI_o.mp h_7
        refine lv_bipush (v := nI 10) hx hb dX6_takesNumber_30 (by decide) ?_
        refine lv_iload_n hx hb dX6_takesNumber_32 rfl (lv_at hl 1 rfl) ?_
        refine lv_imul hx hb dX6_takesNumber_33 ?_
        refine ktopi (y := nI (10 * 0)) (pk_mul 10 0) ?_
        refine lv_aload_n hx hb dX6_takesNumber_34 rfl (lv_at hl 2 rfl) ?_
        refine kcalli (wc := [cM μ iK kn ln th sp bg true le fi se re ca, xI g (μ 6) 60 T]) (wr := []) (wn := fun (u : Unit) => [cM μ iK kn ln th sp bg true le fi se re ca, xI g (μ 6) 60 T]) F w [0, 1] [] [0, 1] rfl rfl rfl (fun _ => rfl)
          (fun hp => va_runV (As := []) (rest := [.int (nI (10 * 0))]) F.1 (kX6_here l g μ iK kn ln th sp bg true le fi se re ca T H.size (by omega) (by omega)) (cwV 0 hts gX6_takesNumber_X6_here rfl rfl rfl ⟨rfl, hd_X6_here⟩ ⟨Nat.le_of_ble_eq_true rfl, Nat.le_of_ble_eq_true rfl⟩) ⟨hp.1, va_recv F.2.2.2.1.1 w.1 (q0 := 0) (ci := 6) rfl rfl, hp.2⟩ rfl rfl hl.1 rfl (lv_room (Nat.le_of_ble_eq_true rfl)) dX6_takesNumber_35 ⟨Nat.le_of_ble_eq_true rfl, Nat.le_of_ble_eq_true rfl⟩)
          (fun r_8 _ H locs h_9 w => ?_)
        subst h_9
        refine lv_iadd hx hb dX6_takesNumber_38 ?_
        refine lv_bipush (v := nI 48) hx hb dX6_takesNumber_39 (by decide) ?_
        refine lv_isub hx hb dX6_takesNumber_41 ?_
        refine ktopi (y := nI (dvZ (chZ T ln sp))) (dv_first hdg) ?_
        have hdv := dvZ_le hdg
        refine lv_istore_n (lv' := [(1, .int (nI (dvZ (chZ T ln sp)))), (2, .int (nI 0)), (0, .ref (μ 0))]) hx hb dX6_takesNumber_42 rfl hl (by decide) rfl (fun ls hl => ?_)
        refine lv_iinc (v := nI 1) (lv' := [(2, .int (nI 1)), (1, .int (nI (dvZ (chZ T ln sp)))), (0, .ref (μ 0))]) hx hb dX6_takesNumber_43 hl (k := 1) rfl (nI_add 0 1) (by decide) rfl (fun ls hl => ?_)
        refine lv_aload_n hx hb dX6_takesNumber_46 rfl (lv_at hl 2 rfl) ?_
        refine lv_dup hx hb dX6_takesNumber_47 rfl ?_
        refine kget (fs := [.ref (μ 1), .ref (μ 2), .ref (μ 3), .ref (μ 4), .int (bI iK), .ref (μ 5), .int (nI kn), .ref (μ 6), .int (nI ln), .int (nI th), .int (nI sp), .int (nI bg), .int (bI true), .int le, .int (nI fi), .int (nI se), .int (nI re), .int (nI ca)]) F w in_X6_takesNumber_X6 0 rfl rfl 10 (by decide) (by decide +kernel) rfl rfl dX6_takesNumber_48 ?_
        refine lv_iconst (v := nI 1) hx hb dX6_takesNumber_51 (by decide) ?_
        refine lv_iadd hx hb dX6_takesNumber_52 ?_
        refine ktopi (y := nI (sp + 1)) (nI_add sp 1) ?_
        refine kput (fs := [.ref (μ 1), .ref (μ 2), .ref (μ 3), .ref (μ 4), .int (bI iK), .ref (μ 5), .int (nI kn), .ref (μ 6), .int (nI ln), .int (nI th), .int (nI sp), .int (nI bg), .int (bI true), .int le, .int (nI fi), .int (nI se), .int (nI re), .int (nI ca)]) F w in_X6_takesNumber_X6 tyX6_ok nmX6 0 rfl rfl 10 (by decide) (by decide +kernel) rfl rfl (rfl) (rfl) (Nat.le_of_ble_eq_true rfl) (wn := [cM μ iK kn ln th (sp + 1) bg true le fi se re ca, xI g (μ 6) 60 T]) rfl dX6_takesNumber_53 (fun H locs w => ?_)
        refine lv_goto (tgt := 4) hx hb dX6_takesNumber_56 (by decide) ?_
        refine lv_aload_n hx hb dX6_takesNumber_4 rfl (lv_at hl 2 rfl) ?_
        refine kget (fs := [.ref (μ 1), .ref (μ 2), .ref (μ 3), .ref (μ 4), .int (bI iK), .ref (μ 5), .int (nI kn), .ref (μ 6), .int (nI ln), .int (nI th), .int (nI (sp + 1)), .int (nI bg), .int (bI true), .int le, .int (nI fi), .int (nI se), .int (nI re), .int (nI ca)]) F w in_X6_takesNumber_X6 0 rfl rfl 12 (by decide) (by decide +kernel) rfl rfl dX6_takesNumber_5 ?_
        refine lv_if_eq (tgt := 59) hx hb dX6_takesNumber_8 (by decide) (fun h_10 => ?_) (fun h_10 => ?_)
        · have h_10 : true = false := bI_z.mp h_10
          exact absurd h_10 (by simp)
        · have h_10 : true = true := bI_o.mp h_10
          refine lv_iload_n hx hb dX6_takesNumber_11 rfl (lv_at hl 0 rfl) ?_
          refine lv_iconst (v := nI 2) hx hb dX6_takesNumber_12 (by decide) ?_
          refine lv_icmp_ge (tgt := 59) hx hb dX6_takesNumber_13 (by decide) (fun h_11 => ?_) (fun h_11 => ?_)
          · have h_11 : 1 ≥ 2 := (kc_ge_t (by omega) (by omega)).mp h_11
            omega
          · have h_11 : 1 < 2 := (kc_ge_f (by omega) (by omega)).mp h_11
            refine lv_aload_n hx hb dX6_takesNumber_16 rfl (lv_at hl 2 rfl) ?_
            refine kcalli (wc := [cM μ iK kn ln th (sp + 1) bg true le fi se re ca, xI g (μ 6) 60 T]) (wr := []) (wn := fun (u : Unit) => [cM μ iK kn ln th (sp + 1) bg true le fi se re ca, xI g (μ 6) 60 T]) F w [0, 1] [] [0, 1] rfl rfl rfl (fun _ => rfl)
              (fun hp => va_runV (As := []) (rest := []) F.1 (kX6_here l g μ iK kn ln th (sp + 1) bg true le fi se re ca T H.size (by omega) (by omega)) (cwV 0 hts gX6_takesNumber_X6_here rfl rfl rfl ⟨rfl, hd_X6_here⟩ ⟨Nat.le_of_ble_eq_true rfl, Nat.le_of_ble_eq_true rfl⟩) ⟨hp.1, va_recv F.2.2.2.1.1 w.1 (q0 := 0) (ci := 6) rfl rfl, hp.2⟩ rfl rfl hl.1 rfl (lv_room (Nat.le_of_ble_eq_true rfl)) dX6_takesNumber_17 ⟨Nat.le_of_ble_eq_true rfl, Nat.le_of_ble_eq_true rfl⟩)
              (fun r_12 _ H locs h_13 w => ?_)
            subst h_13
            refine lv_bipush (v := nI 48) hx hb dX6_takesNumber_20 (by decide) ?_
            refine lv_bipush (v := nI 57) hx hb dX6_takesNumber_22 (by decide) ?_
            refine kcalli (wc := []) (wr := [cM μ iK kn ln th (sp + 1) bg true le fi se re ca, xI g (μ 6) 60 T]) (wn := fun (u : Unit) => [cM μ iK kn ln th (sp + 1) bg true le fi se re ca, xI g (μ 6) 60 T]) F w [] [0, 1] [0, 1] rfl rfl rfl (fun _ => rfl)
              (fun hp => va_runS (As := [.int (hrZ T ln (sp + 1)), .int (nI 48), .int (nI 57)]) (rest := []) F.1 (kX6_in l g (hrZ T ln (sp + 1)) (nI 48) (nI 57) H.size ) (va_cwS 3 hts gX6_takesNumber_X6_in rfl rfl rfl hd_X6_in ⟨Nat.le_of_ble_eq_true rfl, Nat.le_of_ble_eq_true rfl⟩) hp rfl rfl hl.1 rfl (lv_room (Nat.le_of_ble_eq_true rfl)) dX6_takesNumber_24 ⟨Nat.le_of_ble_eq_true rfl, Nat.le_of_ble_eq_true rfl⟩)
              (fun r_14 _ H locs h_15 w => ?_)
            subst h_15
            refine ktopi (y := bI (dgZ (chZ T ln (sp + 1)))) (congrArg bI hr_dg) ?_
            refine lv_if_eq (tgt := 59) hx hb dX6_takesNumber_27 (by decide) (fun h_16 => ?_) (fun h_16 => ?_)
            · have h_16 : (dgZ (chZ T ln (sp + 1))) = false := bI_z.mp h_16
              have e1 : nVz T ln sp = dvZ (chZ T ln sp) := if_neg (by rw [h_16]; decide)
              have e2 : nEz T ln sp = sp + 1 := if_neg (by rw [h_16]; decide)
              refine lv_aload_n hx hb dX6_takesNumber_59 rfl (lv_at hl 2 rfl) ?_
              refine lv_aload_n hx hb dX6_takesNumber_60 rfl (lv_at hl 2 rfl) ?_
              refine kget (fs := [.ref (μ 1), .ref (μ 2), .ref (μ 3), .ref (μ 4), .int (bI iK), .ref (μ 5), .int (nI kn), .ref (μ 6), .int (nI ln), .int (nI th), .int (nI (sp + 1)), .int (nI bg), .int (bI true), .int le, .int (nI fi), .int (nI se), .int (nI re), .int (nI ca)]) F w in_X6_takesNumber_X6 0 rfl rfl 12 (by decide) (by decide +kernel) rfl rfl dX6_takesNumber_61 ?_
              refine lv_if_eq (tgt := 75) hx hb dX6_takesNumber_64 (by decide) (fun h_17 => ?_) (fun h_17 => ?_)
              · have h_17 : true = false := bI_z.mp h_17
                exact absurd h_17 (by simp)
              · have h_17 : true = true := bI_o.mp h_17
                refine lv_iload_n hx hb dX6_takesNumber_67 rfl (lv_at hl 0 rfl) ?_
                refine lv_if_le (tgt := 75) hx hb dX6_takesNumber_68 (by decide) (fun h_18 => ?_) (fun h_18 => ?_)
                · have h_18 : 1 ≤ 0 := (kc0_le_t (by omega)).mp h_18
                  omega
                · have h_18 : 1 > 0 := (kc0_le_f (by omega)).mp h_18
                  refine lv_iconst (v := nI 1) hx hb dX6_takesNumber_71 (by decide) ?_
                  refine lv_goto (tgt := 76) hx hb dX6_takesNumber_72 (by decide) ?_
                  refine ktopi (y := bI true) (by decide) ?_
                  refine kput (fs := [.ref (μ 1), .ref (μ 2), .ref (μ 3), .ref (μ 4), .int (bI iK), .ref (μ 5), .int (nI kn), .ref (μ 6), .int (nI ln), .int (nI th), .int (nI (sp + 1)), .int (nI bg), .int (bI true), .int le, .int (nI fi), .int (nI se), .int (nI re), .int (nI ca)]) F w in_X6_takesNumber_X6 tyX6_ok nmX6 0 rfl rfl 12 (by decide) (by decide +kernel) rfl rfl (kz_n _) (kz_f _) (Nat.le_of_ble_eq_true rfl) (wn := [cM μ iK kn ln th (sp + 1) bg true le fi se re ca, xI g (μ 6) 60 T]) rfl dX6_takesNumber_76 (fun H locs w => ?_)
                  refine lv_iload_n hx hb dX6_takesNumber_79 rfl (lv_at hl 1 rfl) ?_
                  refine ktopi (y := nI (nVz T ln sp)) (by rw [e1]) ?_
                  have w : kW g A s [cM μ iK kn ln th (nEz T ln sp) bg true le fi se re ca, xI g (μ 6) 60 T] H locs := by
                    have w := w
                    rw [e2]; exact w
                  subst hA
                  subst hQ
                  exact kreti F w () [0, 1] rfl rfl (rfl) (Nat.le_of_ble_eq_true rfl) (Nat.le_of_ble_eq_true rfl) dX6_takesNumber_80
            · have h_16 : (dgZ (chZ T ln (sp + 1))) = true := bI_o.mp h_16
              have e1 : nVz T ln sp = dvZ (chZ T ln sp) * 10 + dvZ (chZ T ln (sp + 1)) := if_pos h_16
              have e2 : nEz T ln sp = sp + 2 := if_pos h_16
              refine lv_bipush (v := nI 10) hx hb dX6_takesNumber_30 (by decide) ?_
              refine lv_iload_n hx hb dX6_takesNumber_32 rfl (lv_at hl 1 rfl) ?_
              refine lv_imul hx hb dX6_takesNumber_33 ?_
              refine ktopi (y := nI (10 * (dvZ (chZ T ln sp)))) (pk_mul 10 (dvZ (chZ T ln sp))) ?_
              refine lv_aload_n hx hb dX6_takesNumber_34 rfl (lv_at hl 2 rfl) ?_
              refine kcalli (wc := [cM μ iK kn ln th (sp + 1) bg true le fi se re ca, xI g (μ 6) 60 T]) (wr := []) (wn := fun (u : Unit) => [cM μ iK kn ln th (sp + 1) bg true le fi se re ca, xI g (μ 6) 60 T]) F w [0, 1] [] [0, 1] rfl rfl rfl (fun _ => rfl)
                (fun hp => va_runV (As := []) (rest := [.int (nI (10 * (dvZ (chZ T ln sp))))]) F.1 (kX6_here l g μ iK kn ln th (sp + 1) bg true le fi se re ca T H.size (by omega) (by omega)) (cwV 0 hts gX6_takesNumber_X6_here rfl rfl rfl ⟨rfl, hd_X6_here⟩ ⟨Nat.le_of_ble_eq_true rfl, Nat.le_of_ble_eq_true rfl⟩) ⟨hp.1, va_recv F.2.2.2.1.1 w.1 (q0 := 0) (ci := 6) rfl rfl, hp.2⟩ rfl rfl hl.1 rfl (lv_room (Nat.le_of_ble_eq_true rfl)) dX6_takesNumber_35 ⟨Nat.le_of_ble_eq_true rfl, Nat.le_of_ble_eq_true rfl⟩)
                (fun r_19 _ H locs h_20 w => ?_)
              subst h_20
              refine lv_iadd hx hb dX6_takesNumber_38 ?_
              refine lv_bipush (v := nI 48) hx hb dX6_takesNumber_39 (by decide) ?_
              refine lv_isub hx hb dX6_takesNumber_41 ?_
              refine ktopi (y := nI (dvZ (chZ T ln sp) * 10 + dvZ (chZ T ln (sp + 1)))) (dv_second h_16) ?_
              refine lv_istore_n (lv' := [(1, .int (nI (dvZ (chZ T ln sp) * 10 + dvZ (chZ T ln (sp + 1))))), (2, .int (nI 1)), (0, .ref (μ 0))]) hx hb dX6_takesNumber_42 rfl hl (by decide) rfl (fun ls hl => ?_)
              refine lv_iinc (v := nI 2) (lv' := [(2, .int (nI 2)), (1, .int (nI (dvZ (chZ T ln sp) * 10 + dvZ (chZ T ln (sp + 1))))), (0, .ref (μ 0))]) hx hb dX6_takesNumber_43 hl (k := 1) rfl (nI_add 1 1) (by decide) rfl (fun ls hl => ?_)
              refine lv_aload_n hx hb dX6_takesNumber_46 rfl (lv_at hl 2 rfl) ?_
              refine lv_dup hx hb dX6_takesNumber_47 rfl ?_
              refine kget (fs := [.ref (μ 1), .ref (μ 2), .ref (μ 3), .ref (μ 4), .int (bI iK), .ref (μ 5), .int (nI kn), .ref (μ 6), .int (nI ln), .int (nI th), .int (nI (sp + 1)), .int (nI bg), .int (bI true), .int le, .int (nI fi), .int (nI se), .int (nI re), .int (nI ca)]) F w in_X6_takesNumber_X6 0 rfl rfl 10 (by decide) (by decide +kernel) rfl rfl dX6_takesNumber_48 ?_
              refine lv_iconst (v := nI 1) hx hb dX6_takesNumber_51 (by decide) ?_
              refine lv_iadd hx hb dX6_takesNumber_52 ?_
              refine ktopi (y := nI (sp + 1 + 1)) (nI_add (sp + 1) 1) ?_
              refine kput (fs := [.ref (μ 1), .ref (μ 2), .ref (μ 3), .ref (μ 4), .int (bI iK), .ref (μ 5), .int (nI kn), .ref (μ 6), .int (nI ln), .int (nI th), .int (nI (sp + 1)), .int (nI bg), .int (bI true), .int le, .int (nI fi), .int (nI se), .int (nI re), .int (nI ca)]) F w in_X6_takesNumber_X6 tyX6_ok nmX6 0 rfl rfl 10 (by decide) (by decide +kernel) rfl rfl (rfl) (rfl) (Nat.le_of_ble_eq_true rfl) (wn := [cM μ iK kn ln th (sp + 1 + 1) bg true le fi se re ca, xI g (μ 6) 60 T]) rfl dX6_takesNumber_53 (fun H locs w => ?_)
              refine lv_goto (tgt := 4) hx hb dX6_takesNumber_56 (by decide) ?_
              refine lv_aload_n hx hb dX6_takesNumber_4 rfl (lv_at hl 2 rfl) ?_
              refine kget (fs := [.ref (μ 1), .ref (μ 2), .ref (μ 3), .ref (μ 4), .int (bI iK), .ref (μ 5), .int (nI kn), .ref (μ 6), .int (nI ln), .int (nI th), .int (nI (sp + 1 + 1)), .int (nI bg), .int (bI true), .int le, .int (nI fi), .int (nI se), .int (nI re), .int (nI ca)]) F w in_X6_takesNumber_X6 0 rfl rfl 12 (by decide) (by decide +kernel) rfl rfl dX6_takesNumber_5 ?_
              refine lv_if_eq (tgt := 59) hx hb dX6_takesNumber_8 (by decide) (fun h_21 => ?_) (fun h_21 => ?_)
              · have h_21 : true = false := bI_z.mp h_21
                exact absurd h_21 (by simp)
              · have h_21 : true = true := bI_o.mp h_21
                refine lv_iload_n hx hb dX6_takesNumber_11 rfl (lv_at hl 0 rfl) ?_
                refine lv_iconst (v := nI 2) hx hb dX6_takesNumber_12 (by decide) ?_
                refine lv_icmp_ge (tgt := 59) hx hb dX6_takesNumber_13 (by decide) (fun h_22 => ?_) (fun h_22 => ?_)
                · have h_22 : 2 ≥ 2 := (kc_ge_t (by omega) (by omega)).mp h_22
                  refine lv_aload_n hx hb dX6_takesNumber_59 rfl (lv_at hl 2 rfl) ?_
                  refine lv_aload_n hx hb dX6_takesNumber_60 rfl (lv_at hl 2 rfl) ?_
                  refine kget (fs := [.ref (μ 1), .ref (μ 2), .ref (μ 3), .ref (μ 4), .int (bI iK), .ref (μ 5), .int (nI kn), .ref (μ 6), .int (nI ln), .int (nI th), .int (nI (sp + 1 + 1)), .int (nI bg), .int (bI true), .int le, .int (nI fi), .int (nI se), .int (nI re), .int (nI ca)]) F w in_X6_takesNumber_X6 0 rfl rfl 12 (by decide) (by decide +kernel) rfl rfl dX6_takesNumber_61 ?_
                  refine lv_if_eq (tgt := 75) hx hb dX6_takesNumber_64 (by decide) (fun h_23 => ?_) (fun h_23 => ?_)
                  · have h_23 : true = false := bI_z.mp h_23
                    exact absurd h_23 (by simp)
                  · have h_23 : true = true := bI_o.mp h_23
                    refine lv_iload_n hx hb dX6_takesNumber_67 rfl (lv_at hl 0 rfl) ?_
                    refine lv_if_le (tgt := 75) hx hb dX6_takesNumber_68 (by decide) (fun h_24 => ?_) (fun h_24 => ?_)
                    · have h_24 : 2 ≤ 0 := (kc0_le_t (by omega)).mp h_24
                      omega
                    · have h_24 : 2 > 0 := (kc0_le_f (by omega)).mp h_24
                      refine lv_iconst (v := nI 1) hx hb dX6_takesNumber_71 (by decide) ?_
                      refine lv_goto (tgt := 76) hx hb dX6_takesNumber_72 (by decide) ?_
                      refine ktopi (y := bI true) (by decide) ?_
                      refine kput (fs := [.ref (μ 1), .ref (μ 2), .ref (μ 3), .ref (μ 4), .int (bI iK), .ref (μ 5), .int (nI kn), .ref (μ 6), .int (nI ln), .int (nI th), .int (nI (sp + 1 + 1)), .int (nI bg), .int (bI true), .int le, .int (nI fi), .int (nI se), .int (nI re), .int (nI ca)]) F w in_X6_takesNumber_X6 tyX6_ok nmX6 0 rfl rfl 12 (by decide) (by decide +kernel) rfl rfl (kz_n _) (kz_f _) (Nat.le_of_ble_eq_true rfl) (wn := [cM μ iK kn ln th (sp + 1 + 1) bg true le fi se re ca, xI g (μ 6) 60 T]) rfl dX6_takesNumber_76 (fun H locs w => ?_)
                      refine lv_iload_n hx hb dX6_takesNumber_79 rfl (lv_at hl 1 rfl) ?_
                      refine ktopi (y := nI (nVz T ln sp)) (by rw [e1]) ?_
                      have w : kW g A s [cM μ iK kn ln th (nEz T ln sp) bg true le fi se re ca, xI g (μ 6) 60 T] H locs := by
                        have w := w
                        rw [e2]; exact w
                      subst hA
                      subst hQ
                      exact kreti F w () [0, 1] rfl rfl (rfl) (Nat.le_of_ble_eq_true rfl) (Nat.le_of_ble_eq_true rfl) dX6_takesNumber_80
                · have h_22 : 2 < 2 := (kc_ge_f (by omega) (by omega)).mp h_22
                  omega
abbrev rmX6_takesNumber_n : Room := { frames := 1, cells := 0, slots := 0, locals := 22 }
set_option maxHeartbeats 4000000 in
set_option maxRecDepth 100000 in
theorem kX6_takesNumber_n (l : Launch) (g : GG) (μ : Nat → Nat) (iK : Bool) (kn : Nat) (ln : Nat) (th : Nat) (sp : Nat) (bg : Nat) (fm : Bool) (le : Int32) (fi : Nat) (se : Nat) (re : Nat) (ca : Nat) (T : Nat → Int32) (sz : Nat) (hL : ln ≤ 60) (hsp : sp < 2000) (hdg : dgZ (chZ T ln sp) = false) : Met l yX6_takesNumber wsX6_takesNumber rmX6_takesNumber_n (va_Pc [.ref (μ 0)] (kPre g [cM μ iK kn ln th sp bg true le fi se re ca, xI g (μ 6) 60 T] sz)) (va_Qi (fun (r : Int32) (u : Unit) => r = nI 0) (kB g (va_A [cM μ iK kn ln th sp bg true le fi se re ca, xI g (μ 6) 60 T] sz) (fun u => [cM μ iK kn ln th sp bg false le fi se re ca, xI g (μ 6) 60 T])) (va_A [cM μ iK kn ln th sp bg true le fi se re ca, xI g (μ 6) 60 T] sz)) 0 0 (va_A [cM μ iK kn ln th sp bg true le fi se re ca, xI g (μ 6) 60 T] sz) := by
  refine kMet (cc := cX6_takesNumber) (maxL := 3) (ret := (some .int)) (own := RX6) (by decide) rfl rfl (Nat.le_of_ble_eq_true rfl) ?_
  intro p e s m args below meth c ls Q H locs A F w hl hnm hA hQ
  have hx := F.1.1
  have hb := F.1.2.1
  have hts := F.1.2.2.2.2
  have hl : lv_has ls 3 [(0, .ref (μ 0))] := hl
  refine lv_iconst (v := nI 0) hx hb dX6_takesNumber_0 (by decide) ?_
  refine lv_istore_n (lv' := [(1, .int (nI 0)), (0, .ref (μ 0))]) hx hb dX6_takesNumber_1 rfl hl (by decide) rfl (fun ls hl => ?_)
  refine lv_iconst (v := nI 0) hx hb dX6_takesNumber_2 (by decide) ?_
  refine lv_istore_n (lv' := [(2, .int (nI 0)), (1, .int (nI 0)), (0, .ref (μ 0))]) hx hb dX6_takesNumber_3 rfl hl (by decide) rfl (fun ls hl => ?_)
  refine lv_aload_n hx hb dX6_takesNumber_4 rfl (lv_at hl 2 rfl) ?_
  refine kget (fs := [.ref (μ 1), .ref (μ 2), .ref (μ 3), .ref (μ 4), .int (bI iK), .ref (μ 5), .int (nI kn), .ref (μ 6), .int (nI ln), .int (nI th), .int (nI sp), .int (nI bg), .int (bI true), .int le, .int (nI fi), .int (nI se), .int (nI re), .int (nI ca)]) F w in_X6_takesNumber_X6 0 rfl rfl 12 (by decide) (by decide +kernel) rfl rfl dX6_takesNumber_5 ?_
  refine lv_if_eq (tgt := 59) hx hb dX6_takesNumber_8 (by decide) (fun h_1 => ?_) (fun h_1 => ?_)
  · have h_1 : true = false := bI_z.mp h_1
    exact absurd h_1 (by simp)
  · have h_1 : true = true := bI_o.mp h_1
    refine lv_iload_n hx hb dX6_takesNumber_11 rfl (lv_at hl 0 rfl) ?_
    refine lv_iconst (v := nI 2) hx hb dX6_takesNumber_12 (by decide) ?_
    refine lv_icmp_ge (tgt := 59) hx hb dX6_takesNumber_13 (by decide) (fun h_2 => ?_) (fun h_2 => ?_)
    · have h_2 : 0 ≥ 2 := (kc_ge_t (by omega) (by omega)).mp h_2
      omega
    · have h_2 : 0 < 2 := (kc_ge_f (by omega) (by omega)).mp h_2
      refine lv_aload_n hx hb dX6_takesNumber_16 rfl (lv_at hl 2 rfl) ?_
      refine kcalli (wc := [cM μ iK kn ln th sp bg true le fi se re ca, xI g (μ 6) 60 T]) (wr := []) (wn := fun (u : Unit) => [cM μ iK kn ln th sp bg true le fi se re ca, xI g (μ 6) 60 T]) F w [0, 1] [] [0, 1] rfl rfl rfl (fun _ => rfl)
        (fun hp => va_runV (As := []) (rest := []) F.1 (kX6_here l g μ iK kn ln th sp bg true le fi se re ca T H.size (by omega) (by omega)) (cwV 0 hts gX6_takesNumber_X6_here rfl rfl rfl ⟨rfl, hd_X6_here⟩ ⟨Nat.le_of_ble_eq_true rfl, Nat.le_of_ble_eq_true rfl⟩) ⟨hp.1, va_recv F.2.2.2.1.1 w.1 (q0 := 0) (ci := 6) rfl rfl, hp.2⟩ rfl rfl hl.1 rfl (lv_room (Nat.le_of_ble_eq_true rfl)) dX6_takesNumber_17 ⟨Nat.le_of_ble_eq_true rfl, Nat.le_of_ble_eq_true rfl⟩)
        (fun r_3 _ H locs h_4 w => ?_)
      subst h_4
      refine lv_bipush (v := nI 48) hx hb dX6_takesNumber_20 (by decide) ?_
      refine lv_bipush (v := nI 57) hx hb dX6_takesNumber_22 (by decide) ?_
      refine kcalli (wc := []) (wr := [cM μ iK kn ln th sp bg true le fi se re ca, xI g (μ 6) 60 T]) (wn := fun (u : Unit) => [cM μ iK kn ln th sp bg true le fi se re ca, xI g (μ 6) 60 T]) F w [] [0, 1] [0, 1] rfl rfl rfl (fun _ => rfl)
        (fun hp => va_runS (As := [.int (hrZ T ln sp), .int (nI 48), .int (nI 57)]) (rest := []) F.1 (kX6_in l g (hrZ T ln sp) (nI 48) (nI 57) H.size ) (va_cwS 3 hts gX6_takesNumber_X6_in rfl rfl rfl hd_X6_in ⟨Nat.le_of_ble_eq_true rfl, Nat.le_of_ble_eq_true rfl⟩) hp rfl rfl hl.1 rfl (lv_room (Nat.le_of_ble_eq_true rfl)) dX6_takesNumber_24 ⟨Nat.le_of_ble_eq_true rfl, Nat.le_of_ble_eq_true rfl⟩)
        (fun r_5 _ H locs h_6 w => ?_)
      subst h_6
      refine ktopi (y := bI (dgZ (chZ T ln sp))) (congrArg bI hr_dg) ?_
      refine lv_if_eq (tgt := 59) hx hb dX6_takesNumber_27 (by decide) (fun h_7 => ?_) (fun h_7 => ?_)
      · have h_7 : (dgZ (chZ T ln sp)) = false := bI_z.mp h_7
        refine lv_aload_n hx hb dX6_takesNumber_59 rfl (lv_at hl 2 rfl) ?_
        refine lv_aload_n hx hb dX6_takesNumber_60 rfl (lv_at hl 2 rfl) ?_
        refine kget (fs := [.ref (μ 1), .ref (μ 2), .ref (μ 3), .ref (μ 4), .int (bI iK), .ref (μ 5), .int (nI kn), .ref (μ 6), .int (nI ln), .int (nI th), .int (nI sp), .int (nI bg), .int (bI true), .int le, .int (nI fi), .int (nI se), .int (nI re), .int (nI ca)]) F w in_X6_takesNumber_X6 0 rfl rfl 12 (by decide) (by decide +kernel) rfl rfl dX6_takesNumber_61 ?_
        refine lv_if_eq (tgt := 75) hx hb dX6_takesNumber_64 (by decide) (fun h_8 => ?_) (fun h_8 => ?_)
        · have h_8 : true = false := bI_z.mp h_8
          exact absurd h_8 (by simp)
        · have h_8 : true = true := bI_o.mp h_8
          refine lv_iload_n hx hb dX6_takesNumber_67 rfl (lv_at hl 0 rfl) ?_
          refine lv_if_le (tgt := 75) hx hb dX6_takesNumber_68 (by decide) (fun h_9 => ?_) (fun h_9 => ?_)
          · have h_9 : 0 ≤ 0 := (kc0_le_t (by omega)).mp h_9
            refine lv_iconst (v := nI 0) hx hb dX6_takesNumber_75 (by decide) ?_
            refine ktopi (y := bI false) (by decide) ?_
            refine kput (fs := [.ref (μ 1), .ref (μ 2), .ref (μ 3), .ref (μ 4), .int (bI iK), .ref (μ 5), .int (nI kn), .ref (μ 6), .int (nI ln), .int (nI th), .int (nI sp), .int (nI bg), .int (bI true), .int le, .int (nI fi), .int (nI se), .int (nI re), .int (nI ca)]) F w in_X6_takesNumber_X6 tyX6_ok nmX6 0 rfl rfl 12 (by decide) (by decide +kernel) rfl rfl (kz_n _) (kz_f _) (Nat.le_of_ble_eq_true rfl) (wn := [cM μ iK kn ln th sp bg false le fi se re ca, xI g (μ 6) 60 T]) rfl dX6_takesNumber_76 (fun H locs w => ?_)
            refine lv_iload_n hx hb dX6_takesNumber_79 rfl (lv_at hl 1 rfl) ?_
            subst hA
            subst hQ
            exact kreti F w () [0, 1] rfl rfl (rfl) (Nat.le_of_ble_eq_true rfl) (Nat.le_of_ble_eq_true rfl) dX6_takesNumber_80
          · have h_9 : 0 > 0 := (kc0_le_f (by omega)).mp h_9
            omega
      · have h_7 : (dgZ (chZ T ln sp)) = true := bI_o.mp h_7
        rw [hdg] at h_7; cases h_7
abbrev rmX6_takesNumber_0 : Room := { frames := 0, cells := 0, slots := 0, locals := 0 }
set_option maxHeartbeats 4000000 in
set_option maxRecDepth 100000 in
theorem kX6_takesNumber_0 (l : Launch) (g : GG) (μ : Nat → Nat) (iK : Bool) (kn : Nat) (ln : Nat) (th : Nat) (sp : Nat) (bg : Nat) (fm : Bool) (le : Int32) (fi : Nat) (se : Nat) (re : Nat) (ca : Nat) (sz : Nat)  : Met l yX6_takesNumber wsX6_takesNumber rmX6_takesNumber_0 (va_Pc [.ref (μ 0)] (kPre g [cM μ iK kn ln th sp bg false le fi se re ca] sz)) (va_Qi (fun (r : Int32) (u : Unit) => r = nI 0) (kB g (va_A [cM μ iK kn ln th sp bg false le fi se re ca] sz) (fun u => [cM μ iK kn ln th sp bg false le fi se re ca])) (va_A [cM μ iK kn ln th sp bg false le fi se re ca] sz)) 0 0 (va_A [cM μ iK kn ln th sp bg false le fi se re ca] sz) := by
  refine kMet (cc := cX6_takesNumber) (maxL := 3) (ret := (some .int)) (own := RX6) (by decide) rfl rfl (Nat.le_of_ble_eq_true rfl) ?_
  intro p e s m args below meth c ls Q H locs A F w hl hnm hA hQ
  have hx := F.1.1
  have hb := F.1.2.1
  have hts := F.1.2.2.2.2
  have hl : lv_has ls 3 [(0, .ref (μ 0))] := hl
  refine lv_iconst (v := nI 0) hx hb dX6_takesNumber_0 (by decide) ?_
  refine lv_istore_n (lv' := [(1, .int (nI 0)), (0, .ref (μ 0))]) hx hb dX6_takesNumber_1 rfl hl (by decide) rfl (fun ls hl => ?_)
  refine lv_iconst (v := nI 0) hx hb dX6_takesNumber_2 (by decide) ?_
  refine lv_istore_n (lv' := [(2, .int (nI 0)), (1, .int (nI 0)), (0, .ref (μ 0))]) hx hb dX6_takesNumber_3 rfl hl (by decide) rfl (fun ls hl => ?_)
  refine lv_aload_n hx hb dX6_takesNumber_4 rfl (lv_at hl 2 rfl) ?_
  refine kget (fs := [.ref (μ 1), .ref (μ 2), .ref (μ 3), .ref (μ 4), .int (bI iK), .ref (μ 5), .int (nI kn), .ref (μ 6), .int (nI ln), .int (nI th), .int (nI sp), .int (nI bg), .int (bI false), .int le, .int (nI fi), .int (nI se), .int (nI re), .int (nI ca)]) F w in_X6_takesNumber_X6 0 rfl rfl 12 (by decide) (by decide +kernel) rfl rfl dX6_takesNumber_5 ?_
  refine lv_if_eq (tgt := 59) hx hb dX6_takesNumber_8 (by decide) (fun h_1 => ?_) (fun h_1 => ?_)
  · have h_1 : false = false := bI_z.mp h_1
    refine lv_aload_n hx hb dX6_takesNumber_59 rfl (lv_at hl 2 rfl) ?_
    refine lv_aload_n hx hb dX6_takesNumber_60 rfl (lv_at hl 2 rfl) ?_
    refine kget (fs := [.ref (μ 1), .ref (μ 2), .ref (μ 3), .ref (μ 4), .int (bI iK), .ref (μ 5), .int (nI kn), .ref (μ 6), .int (nI ln), .int (nI th), .int (nI sp), .int (nI bg), .int (bI false), .int le, .int (nI fi), .int (nI se), .int (nI re), .int (nI ca)]) F w in_X6_takesNumber_X6 0 rfl rfl 12 (by decide) (by decide +kernel) rfl rfl dX6_takesNumber_61 ?_
    refine lv_if_eq (tgt := 75) hx hb dX6_takesNumber_64 (by decide) (fun h_2 => ?_) (fun h_2 => ?_)
    · have h_2 : false = false := bI_z.mp h_2
      refine lv_iconst (v := nI 0) hx hb dX6_takesNumber_75 (by decide) ?_
      refine ktopi (y := bI false) (by decide) ?_
      refine kput (fs := [.ref (μ 1), .ref (μ 2), .ref (μ 3), .ref (μ 4), .int (bI iK), .ref (μ 5), .int (nI kn), .ref (μ 6), .int (nI ln), .int (nI th), .int (nI sp), .int (nI bg), .int (bI false), .int le, .int (nI fi), .int (nI se), .int (nI re), .int (nI ca)]) F w in_X6_takesNumber_X6 tyX6_ok nmX6 0 rfl rfl 12 (by decide) (by decide +kernel) rfl rfl (kz_n _) (kz_f _) (Nat.le_of_ble_eq_true rfl) (wn := [cM μ iK kn ln th sp bg false le fi se re ca]) rfl dX6_takesNumber_76 (fun H locs w => ?_)
      refine lv_iload_n hx hb dX6_takesNumber_79 rfl (lv_at hl 1 rfl) ?_
      subst hA
      subst hQ
      exact kreti F w () [0] rfl rfl (rfl) (Nat.le_of_ble_eq_true rfl) (Nat.le_of_ble_eq_true rfl) dX6_takesNumber_80
    · have h_2 : false = true := bI_o.mp h_2
      exact absurd h_2 (by simp)
  · have h_1 : false = true := bI_o.mp h_1
    exact absurd h_1 (by simp)
theorem in_X6_takesOrder_X6 : ∀ w ∈ wsX60, w ∈ wsX6_takesOrder := by decide +kernel
theorem hd_X6_takes : yX6_takes.cls ≠ "java/lang/invoke/MethodHandle" ∧ yX6_takes.cls ≠ "java/lang/invoke/VarHandle" ∧ (parseMethodDescriptor yX6_takes.desc).map (fun d => d.parameters.length) = some 1 := by decide +kernel
theorem hd_X6_takesNumber : yX6_takesNumber.cls ≠ "java/lang/invoke/MethodHandle" ∧ yX6_takesNumber.cls ≠ "java/lang/invoke/VarHandle" ∧ (parseMethodDescriptor yX6_takesNumber.desc).map (fun d => d.parameters.length) = some 0 := by decide +kernel
abbrev rmX6_takesOrder : Room := { frames := 2, cells := 0, slots := 0, locals := 44 }
set_option maxHeartbeats 4000000 in
set_option maxRecDepth 100000 in
theorem kX6_takesOrder (l : Launch) (g : GG) (μ : Nat → Nat) (iK : Bool) (kn : Nat) (ln : Nat) (th : Nat) (sp : Nat) (bg : Nat) (fm : Bool) (le : Int32) (fi : Nat) (se : Nat) (re : Nat) (ca : Nat) (T : Nat → Int32) (sz : Nat) (hL : ln ≤ 60) (hsp : sp < 1000) : Met l yX6_takesOrder wsX6_takesOrder rmX6_takesOrder (va_Pc [.ref (μ 0)] (kPre g [cM μ iK kn ln th sp bg fm le fi se re ca, xI g (μ 6) 60 T] sz)) (va_Qv (fun (u : Nat × Nat) => pOK T ln sp = true → u.1 = pN1 T ln sp ∧ (twZ (chZ T ln sp) = true → u.2 = pN2x T ln sp)) (kB g (va_A [cM μ iK kn ln th sp bg fm le fi se re ca, xI g (μ 6) 60 T] sz) (fun u => [cM μ iK kn ln th (pE T ln sp) sp (pOK T ln sp) (hrZ T ln sp) u.1 u.2 re ca, xI g (μ 6) 60 T])) (va_A [cM μ iK kn ln th sp bg fm le fi se re ca, xI g (μ 6) 60 T] sz)) 0 0 (va_A [cM μ iK kn ln th sp bg fm le fi se re ca, xI g (μ 6) 60 T] sz) := by
  refine kMet (cc := cX6_takesOrder) (maxL := 2) (ret := none) (own := RX6) (by decide) rfl rfl (Nat.le_of_ble_eq_true rfl) ?_
  intro p e s m args below meth c ls Q H locs A F w hl hnm hA hQ
  have hx := F.1.1
  have hb := F.1.2.1
  have hts := F.1.2.2.2.2
  have hl : lv_has ls 2 [(0, .ref (μ 0))] := hl
  refine lv_aload_n hx hb dX6_takesOrder_0 rfl (lv_at hl 0 rfl) ?_
  refine lv_aload_n hx hb dX6_takesOrder_1 rfl (lv_at hl 0 rfl) ?_
  refine kget (fs := [.ref (μ 1), .ref (μ 2), .ref (μ 3), .ref (μ 4), .int (bI iK), .ref (μ 5), .int (nI kn), .ref (μ 6), .int (nI ln), .int (nI th), .int (nI sp), .int (nI bg), .int (bI fm), .int le, .int (nI fi), .int (nI se), .int (nI re), .int (nI ca)]) F w in_X6_takesOrder_X6 0 rfl rfl 10 (by decide) (by decide +kernel) rfl rfl dX6_takesOrder_2 ?_
  refine kput (fs := [.ref (μ 1), .ref (μ 2), .ref (μ 3), .ref (μ 4), .int (bI iK), .ref (μ 5), .int (nI kn), .ref (μ 6), .int (nI ln), .int (nI th), .int (nI sp), .int (nI bg), .int (bI fm), .int le, .int (nI fi), .int (nI se), .int (nI re), .int (nI ca)]) F w in_X6_takesOrder_X6 tyX6_ok nmX6 0 rfl rfl 11 (by decide) (by decide +kernel) rfl rfl (rfl) (rfl) (Nat.le_of_ble_eq_true rfl) (wn := [cM μ iK kn ln th sp sp fm le fi se re ca, xI g (μ 6) 60 T]) rfl dX6_takesOrder_5 (fun H locs w => ?_)
  refine lv_aload_n hx hb dX6_takesOrder_8 rfl (lv_at hl 0 rfl) ?_
  refine lv_iconst (v := nI 1) hx hb dX6_takesOrder_9 (by decide) ?_
  refine ktopi (y := bI true) (by decide) ?_
  refine kput (fs := [.ref (μ 1), .ref (μ 2), .ref (μ 3), .ref (μ 4), .int (bI iK), .ref (μ 5), .int (nI kn), .ref (μ 6), .int (nI ln), .int (nI th), .int (nI sp), .int (nI sp), .int (bI fm), .int le, .int (nI fi), .int (nI se), .int (nI re), .int (nI ca)]) F w in_X6_takesOrder_X6 tyX6_ok nmX6 0 rfl rfl 12 (by decide) (by decide +kernel) rfl rfl (kz_n _) (kz_f _) (Nat.le_of_ble_eq_true rfl) (wn := [cM μ iK kn ln th sp sp true le fi se re ca, xI g (μ 6) 60 T]) rfl dX6_takesOrder_10 (fun H locs w => ?_)
  refine lv_aload_n hx hb dX6_takesOrder_13 rfl (lv_at hl 0 rfl) ?_
  refine lv_aload_n hx hb dX6_takesOrder_14 rfl (lv_at hl 0 rfl) ?_
  refine kcalli (wc := [cM μ iK kn ln th sp sp true le fi se re ca, xI g (μ 6) 60 T]) (wr := []) (wn := fun (u : Unit) => [cM μ iK kn ln th sp sp true le fi se re ca, xI g (μ 6) 60 T]) F w [0, 1] [] [0, 1] rfl rfl rfl (fun _ => rfl)
    (fun hp => va_runV (As := []) (rest := [.ref (μ 0)]) F.1 (kX6_here l g μ iK kn ln th sp sp true le fi se re ca T H.size (by omega) (by omega)) (cwV 0 hts gX6_takesOrder_X6_here rfl rfl rfl ⟨rfl, hd_X6_here⟩ ⟨Nat.le_of_ble_eq_true rfl, Nat.le_of_ble_eq_true rfl⟩) ⟨hp.1, va_recv F.2.2.2.1.1 w.1 (q0 := 0) (ci := 6) rfl rfl, hp.2⟩ rfl rfl hl.1 rfl (lv_room (Nat.le_of_ble_eq_true rfl)) dX6_takesOrder_15 ⟨Nat.le_of_ble_eq_true rfl, Nat.le_of_ble_eq_true rfl⟩)
    (fun r_1 _ H locs h_2 w => ?_)
  subst h_2
  refine kput (fs := [.ref (μ 1), .ref (μ 2), .ref (μ 3), .ref (μ 4), .int (bI iK), .ref (μ 5), .int (nI kn), .ref (μ 6), .int (nI ln), .int (nI th), .int (nI sp), .int (nI sp), .int (bI true), .int le, .int (nI fi), .int (nI se), .int (nI re), .int (nI ca)]) F w in_X6_takesOrder_X6 tyX6_ok nmX6 0 rfl rfl 13 (by decide) (by decide +kernel) rfl rfl (rfl) (rfl) (Nat.le_of_ble_eq_true rfl) (wn := [cM μ iK kn ln th sp sp true (hrZ T ln sp) fi se re ca, xI g (μ 6) 60 T]) rfl dX6_takesOrder_18 (fun H locs w => ?_)
  refine lv_aload_n hx hb dX6_takesOrder_21 rfl (lv_at hl 0 rfl) ?_
  refine kget (fs := [.ref (μ 1), .ref (μ 2), .ref (μ 3), .ref (μ 4), .int (bI iK), .ref (μ 5), .int (nI kn), .ref (μ 6), .int (nI ln), .int (nI th), .int (nI sp), .int (nI sp), .int (bI true), .int (hrZ T ln sp), .int (nI fi), .int (nI se), .int (nI re), .int (nI ca)]) F w in_X6_takesOrder_X6 0 rfl rfl 13 (by decide) (by decide +kernel) rfl rfl dX6_takesOrder_22 ?_
  refine lv_bipush (v := nI 114) hx hb dX6_takesOrder_25 (by decide) ?_
  refine lv_icmp_eq (tgt := 39) hx hb dX6_takesOrder_27 (by decide) (fun h_3 => ?_) (fun h_3 => ?_)
  · have h_3 : chZ T ln sp = nI 114 := (hr_eq (by decide) (by decide)).mp h_3
    have hv9 : vbZ (chZ T ln sp) = true := by rw [h_3]; decide
    have ht1 : twZ (chZ T ln sp) = true := by rw [h_3]; decide
    refine lv_iconst (v := nI 1) hx hb dX6_takesOrder_39 (by decide) ?_
    refine lv_goto (tgt := 44) hx hb dX6_takesOrder_40 (by decide) ?_
    refine lv_istore_n (lv' := [(1, .int (nI 1)), (0, .ref (μ 0))]) hx hb dX6_takesOrder_44 rfl hl (by decide) rfl (fun ls hl => ?_)
    refine lv_aload_n hx hb dX6_takesOrder_45 rfl (lv_at hl 1 rfl) ?_
    refine lv_iload_n hx hb dX6_takesOrder_46 rfl (lv_at hl 0 rfl) ?_
    refine lv_if_ne (tgt := 77) hx hb dX6_takesOrder_47 (by decide) (fun h_4 => ?_) (fun h_4 => ?_)
    · have h_4 : 1 ≠ 0 := (kc0_ne_t (by omega)).mp h_4
      refine lv_iconst (v := nI 1) hx hb dX6_takesOrder_77 (by decide) ?_
      refine lv_goto (tgt := 82) hx hb dX6_takesOrder_78 (by decide) ?_
      refine ktopi (y := bI true) (by decide) ?_
      refine kcallv (wc := [cM μ iK kn ln th sp sp true (hrZ T ln sp) fi se re ca]) (wr := [xI g (μ 6) 60 T]) (wn := fun (u : Unit) => [cM μ iK kn ln th (sp + 1) sp true (hrZ T ln sp) fi se re ca, xI g (μ 6) 60 T]) F w [0] [1] [1, 0] rfl rfl rfl (fun _ => rfl)
        (fun hp => va_runV (As := [.int (bI true)]) (rest := []) F.1 (kX6_takes_11 l g μ iK kn ln th sp sp false (hrZ T ln sp) fi se re ca H.size ) (cwV 1 hts gX6_takesOrder_X6_takes rfl rfl rfl ⟨rfl, hd_X6_takes⟩ ⟨Nat.le_of_ble_eq_true rfl, Nat.le_of_ble_eq_true rfl⟩) ⟨hp.1, va_recv F.2.2.2.1.1 w.1 (q0 := 0) (ci := 6) rfl rfl, hp.2⟩ rfl rfl hl.1 rfl (lv_room (Nat.le_of_ble_eq_true rfl)) dX6_takesOrder_82 ⟨Nat.le_of_ble_eq_true rfl, Nat.le_of_ble_eq_true rfl⟩)
        (fun _ H locs h_6 w => ?_)
      refine lv_aload_n hx hb dX6_takesOrder_85 rfl (lv_at hl 1 rfl) ?_
      refine lv_aload_n hx hb dX6_takesOrder_86 rfl (lv_at hl 1 rfl) ?_
      rcases (show dgZ (chZ T ln (sp + 1)) = false ∨ dgZ (chZ T ln (sp + 1)) = true from by cases dgZ (chZ T ln (sp + 1)) <;> simp) with h_8 | h_8
      · skip
        refine kcalli (wc := [cM μ iK kn ln th (sp + 1) sp true (hrZ T ln sp) fi se re ca, xI g (μ 6) 60 T]) (wr := []) (wn := fun (u : Unit) => [cM μ iK kn ln th (sp + 1) sp false (hrZ T ln sp) fi se re ca, xI g (μ 6) 60 T]) F w [0, 1] [] [0, 1] rfl rfl rfl (fun _ => rfl)
          (fun hp => va_runV (As := []) (rest := [.ref (μ 0)]) F.1 (kX6_takesNumber_n l g μ iK kn ln th (sp + 1) sp false (hrZ T ln sp) fi se re ca T H.size (by omega) (by omega) h_8) (cwV 0 hts gX6_takesOrder_X6_takesNumber rfl rfl rfl ⟨rfl, hd_X6_takesNumber⟩ ⟨Nat.le_of_ble_eq_true rfl, Nat.le_of_ble_eq_true rfl⟩) ⟨hp.1, va_recv F.2.2.2.1.1 w.1 (q0 := 0) (ci := 6) rfl rfl, hp.2⟩ rfl rfl hl.1 rfl (lv_room (Nat.le_of_ble_eq_true rfl)) dX6_takesOrder_87 ⟨Nat.le_of_ble_eq_true rfl, Nat.le_of_ble_eq_true rfl⟩)
          (fun r_9 _ H locs h_10 w => ?_)
        subst h_10
        refine kput (fs := [.ref (μ 1), .ref (μ 2), .ref (μ 3), .ref (μ 4), .int (bI iK), .ref (μ 5), .int (nI kn), .ref (μ 6), .int (nI ln), .int (nI th), .int (nI (sp + 1)), .int (nI sp), .int (bI false), .int (hrZ T ln sp), .int (nI fi), .int (nI se), .int (nI re), .int (nI ca)]) F w in_X6_takesOrder_X6 tyX6_ok nmX6 0 rfl rfl 14 (by decide) (by decide +kernel) rfl rfl (rfl) (rfl) (Nat.le_of_ble_eq_true rfl) (wn := [cM μ iK kn ln th (sp + 1) sp false (hrZ T ln sp) 0 se re ca, xI g (μ 6) 60 T]) rfl dX6_takesOrder_90 (fun H locs w => ?_)
        refine lv_iload_n hx hb dX6_takesOrder_93 rfl (lv_at hl 0 rfl) ?_
        refine lv_if_eq (tgt := 123) hx hb dX6_takesOrder_94 (by decide) (fun h_11 => ?_) (fun h_11 => ?_)
        · have h_11 : 1 = 0 := (kc0_eq_t (by omega)).mp h_11
          omega
        · have h_11 : 1 ≠ 0 := (kc0_eq_f (by omega)).mp h_11
          refine lv_aload_n hx hb dX6_takesOrder_97 rfl (lv_at hl 1 rfl) ?_
          refine lv_aload_n hx hb dX6_takesOrder_98 rfl (lv_at hl 1 rfl) ?_
          refine kcalli (wc := [cM μ iK kn ln th (sp + 1) sp false (hrZ T ln sp) 0 se re ca, xI g (μ 6) 60 T]) (wr := []) (wn := fun (u : Unit) => [cM μ iK kn ln th (sp + 1) sp false (hrZ T ln sp) 0 se re ca, xI g (μ 6) 60 T]) F w [0, 1] [] [0, 1] rfl rfl rfl (fun _ => rfl)
            (fun hp => va_runV (As := []) (rest := [.ref (μ 0)]) F.1 (kX6_here l g μ iK kn ln th (sp + 1) sp false (hrZ T ln sp) 0 se re ca T H.size (by omega) (by omega)) (cwV 0 hts gX6_takesOrder_X6_here rfl rfl rfl ⟨rfl, hd_X6_here⟩ ⟨Nat.le_of_ble_eq_true rfl, Nat.le_of_ble_eq_true rfl⟩) ⟨hp.1, va_recv F.2.2.2.1.1 w.1 (q0 := 0) (ci := 6) rfl rfl, hp.2⟩ rfl rfl hl.1 rfl (lv_room (Nat.le_of_ble_eq_true rfl)) dX6_takesOrder_99 ⟨Nat.le_of_ble_eq_true rfl, Nat.le_of_ble_eq_true rfl⟩)
            (fun r_12 _ H locs h_13 w => ?_)
          subst h_13
          refine lv_bipush (v := nI 44) hx hb dX6_takesOrder_102 (by decide) ?_
          refine lv_icmp_ne (tgt := 111) hx hb dX6_takesOrder_104 (by decide) (fun h_14 => ?_) (fun h_14 => ?_)
          · have h_14 : ¬ chZ T ln (sp + 1) = nI 44 := fun hc => h_14 ((hr_eq (by decide) (by decide)).mpr hc)
            refine lv_iconst (v := nI 0) hx hb dX6_takesOrder_111 (by decide) ?_
            refine ktopi (y := bI false) (by decide) ?_
            refine kcallv (wc := [cM μ iK kn ln th (sp + 1) sp false (hrZ T ln sp) 0 se re ca]) (wr := [xI g (μ 6) 60 T]) (wn := fun (u : Unit) => [cM μ iK kn ln th (sp + 1 + 0) sp false (hrZ T ln sp) 0 se re ca, xI g (μ 6) 60 T]) F w [0] [1] [1, 0] rfl rfl rfl (fun _ => rfl)
              (fun hp => va_runV (As := [.int (bI false)]) (rest := []) F.1 (kX6_takes_0 l g μ iK kn ln th (sp + 1) sp false (hrZ T ln sp) 0 se re ca false H.size ) (cwV 1 hts gX6_takesOrder_X6_takes rfl rfl rfl ⟨rfl, hd_X6_takes⟩ ⟨Nat.le_of_ble_eq_true rfl, Nat.le_of_ble_eq_true rfl⟩) ⟨hp.1, va_recv F.2.2.2.1.1 w.1 (q0 := 0) (ci := 6) rfl rfl, hp.2⟩ rfl rfl hl.1 rfl (lv_room (Nat.le_of_ble_eq_true rfl)) dX6_takesOrder_112 ⟨Nat.le_of_ble_eq_true rfl, Nat.le_of_ble_eq_true rfl⟩)
              (fun _ H locs h_16 w => ?_)
            refine lv_aload_n hx hb dX6_takesOrder_115 rfl (lv_at hl 1 rfl) ?_
            refine lv_aload_n hx hb dX6_takesOrder_116 rfl (lv_at hl 1 rfl) ?_
            refine kcalli (wc := [cM μ iK kn ln th (sp + 1 + 0) sp false (hrZ T ln sp) 0 se re ca]) (wr := [xI g (μ 6) 60 T]) (wn := fun (u : Unit) => [cM μ iK kn ln th (sp + 1 + 0) sp false (hrZ T ln sp) 0 se re ca, xI g (μ 6) 60 T]) F w [0] [1] [1, 0] rfl rfl rfl (fun _ => rfl)
              (fun hp => va_runV (As := []) (rest := [.ref (μ 0)]) F.1 (kX6_takesNumber_0 l g μ iK kn ln th (sp + 1 + 0) sp false (hrZ T ln sp) 0 se re ca H.size ) (cwV 0 hts gX6_takesOrder_X6_takesNumber rfl rfl rfl ⟨rfl, hd_X6_takesNumber⟩ ⟨Nat.le_of_ble_eq_true rfl, Nat.le_of_ble_eq_true rfl⟩) ⟨hp.1, va_recv F.2.2.2.1.1 w.1 (q0 := 0) (ci := 6) rfl rfl, hp.2⟩ rfl rfl hl.1 rfl (lv_room (Nat.le_of_ble_eq_true rfl)) dX6_takesOrder_117 ⟨Nat.le_of_ble_eq_true rfl, Nat.le_of_ble_eq_true rfl⟩)
              (fun r_17 _ H locs h_18 w => ?_)
            subst h_18
            refine kput (fs := [.ref (μ 1), .ref (μ 2), .ref (μ 3), .ref (μ 4), .int (bI iK), .ref (μ 5), .int (nI kn), .ref (μ 6), .int (nI ln), .int (nI th), .int (nI (sp + 1 + 0)), .int (nI sp), .int (bI false), .int (hrZ T ln sp), .int (nI 0), .int (nI se), .int (nI re), .int (nI ca)]) F w in_X6_takesOrder_X6 tyX6_ok nmX6 0 rfl rfl 15 (by decide) (by decide +kernel) rfl rfl (rfl) (rfl) (Nat.le_of_ble_eq_true rfl) (wn := [cM μ iK kn ln th (sp + 1 + 0) sp false (hrZ T ln sp) 0 0 re ca, xI g (μ 6) 60 T]) rfl dX6_takesOrder_120 (fun H locs w => ?_)
            refine lv_aload_n hx hb dX6_takesOrder_123 rfl (lv_at hl 1 rfl) ?_
            refine lv_aload_n hx hb dX6_takesOrder_124 rfl (lv_at hl 1 rfl) ?_
            refine kcalli (wc := [cM μ iK kn ln th (sp + 1 + 0) sp false (hrZ T ln sp) 0 0 re ca, xI g (μ 6) 60 T]) (wr := []) (wn := fun (u : Unit) => [cM μ iK kn ln th (sp + 1 + 0) sp false (hrZ T ln sp) 0 0 re ca, xI g (μ 6) 60 T]) F w [0, 1] [] [0, 1] rfl rfl rfl (fun _ => rfl)
              (fun hp => va_runV (As := []) (rest := [.ref (μ 0)]) F.1 (kX6_here l g μ iK kn ln th (sp + 1 + 0) sp false (hrZ T ln sp) 0 0 re ca T H.size (by omega) (by omega)) (cwV 0 hts gX6_takesOrder_X6_here rfl rfl rfl ⟨rfl, hd_X6_here⟩ ⟨Nat.le_of_ble_eq_true rfl, Nat.le_of_ble_eq_true rfl⟩) ⟨hp.1, va_recv F.2.2.2.1.1 w.1 (q0 := 0) (ci := 6) rfl rfl, hp.2⟩ rfl rfl hl.1 rfl (lv_room (Nat.le_of_ble_eq_true rfl)) dX6_takesOrder_125 ⟨Nat.le_of_ble_eq_true rfl, Nat.le_of_ble_eq_true rfl⟩)
              (fun r_19 _ H locs h_20 w => ?_)
            subst h_20
            refine lv_bipush (v := nI 59) hx hb dX6_takesOrder_128 (by decide) ?_
            refine lv_icmp_ne (tgt := 137) hx hb dX6_takesOrder_130 (by decide) (fun h_21 => ?_) (fun h_21 => ?_)
            · have h_21 : ¬ chZ T ln (sp + 1 + 0) = nI 59 := fun hc => h_21 ((hr_eq (by decide) (by decide)).mpr hc)
              refine lv_iconst (v := nI 0) hx hb dX6_takesOrder_137 (by decide) ?_
              refine ktopi (y := bI false) (by decide) ?_
              refine kcallv (wc := [cM μ iK kn ln th (sp + 1 + 0) sp false (hrZ T ln sp) 0 0 re ca]) (wr := [xI g (μ 6) 60 T]) (wn := fun (u : Unit) => [cM μ iK kn ln th (sp + 1 + 0 + 0) sp false (hrZ T ln sp) 0 0 re ca, xI g (μ 6) 60 T]) F w [0] [1] [1, 0] rfl rfl rfl (fun _ => rfl)
                (fun hp => va_runV (As := [.int (bI false)]) (rest := []) F.1 (kX6_takes_0 l g μ iK kn ln th (sp + 1 + 0) sp false (hrZ T ln sp) 0 0 re ca false H.size ) (cwV 1 hts gX6_takesOrder_X6_takes rfl rfl rfl ⟨rfl, hd_X6_takes⟩ ⟨Nat.le_of_ble_eq_true rfl, Nat.le_of_ble_eq_true rfl⟩) ⟨hp.1, va_recv F.2.2.2.1.1 w.1 (q0 := 0) (ci := 6) rfl rfl, hp.2⟩ rfl rfl hl.1 rfl (lv_room (Nat.le_of_ble_eq_true rfl)) dX6_takesOrder_138 ⟨Nat.le_of_ble_eq_true rfl, Nat.le_of_ble_eq_true rfl⟩)
                (fun _ H locs h_23 w => ?_)
              have hok : pOK T ln sp = false := by unfold pOK; simp [hv9, ht1, h_8]
              have hpe : pE T ln sp = sp + 1 := by unfold pE; simp [hv9, ht1, h_8]
              have w : kW g A s [cM μ iK kn ln th (pE T ln sp) sp (pOK T ln sp) (hrZ T ln sp) 0 0 re ca, xI g (μ 6) 60 T] H locs := by
                have w := w
                rw [hpe, hok]; exact w
              subst hA
              subst hQ
              exact kretv F w (0, 0) [0, 1] rfl rfl (fun hc => absurd (hok.symm.trans hc) (by decide)) (Nat.le_of_ble_eq_true rfl) (Nat.le_of_ble_eq_true rfl) dX6_takesOrder_141
            · have h_21 : chZ T ln (sp + 1 + 0) = nI 59 := (hr_eq (by decide) (by decide)).mp h_21
              refine lv_iconst (v := nI 1) hx hb dX6_takesOrder_133 (by decide) ?_
              refine lv_goto (tgt := 138) hx hb dX6_takesOrder_134 (by decide) ?_
              refine ktopi (y := bI true) (by decide) ?_
              refine kcallv (wc := [cM μ iK kn ln th (sp + 1 + 0) sp false (hrZ T ln sp) 0 0 re ca]) (wr := [xI g (μ 6) 60 T]) (wn := fun (u : Unit) => [cM μ iK kn ln th (sp + 1 + 0 + 0) sp false (hrZ T ln sp) 0 0 re ca, xI g (μ 6) 60 T]) F w [0] [1] [1, 0] rfl rfl rfl (fun _ => rfl)
                (fun hp => va_runV (As := [.int (bI true)]) (rest := []) F.1 (kX6_takes_0 l g μ iK kn ln th (sp + 1 + 0) sp false (hrZ T ln sp) 0 0 re ca true H.size ) (cwV 1 hts gX6_takesOrder_X6_takes rfl rfl rfl ⟨rfl, hd_X6_takes⟩ ⟨Nat.le_of_ble_eq_true rfl, Nat.le_of_ble_eq_true rfl⟩) ⟨hp.1, va_recv F.2.2.2.1.1 w.1 (q0 := 0) (ci := 6) rfl rfl, hp.2⟩ rfl rfl hl.1 rfl (lv_room (Nat.le_of_ble_eq_true rfl)) dX6_takesOrder_138 ⟨Nat.le_of_ble_eq_true rfl, Nat.le_of_ble_eq_true rfl⟩)
                (fun _ H locs h_25 w => ?_)
              have hok : pOK T ln sp = false := by unfold pOK; simp [hv9, ht1, h_8]
              have hpe : pE T ln sp = sp + 1 := by unfold pE; simp [hv9, ht1, h_8]
              have w : kW g A s [cM μ iK kn ln th (pE T ln sp) sp (pOK T ln sp) (hrZ T ln sp) 0 0 re ca, xI g (μ 6) 60 T] H locs := by
                have w := w
                rw [hpe, hok]; exact w
              subst hA
              subst hQ
              exact kretv F w (0, 0) [0, 1] rfl rfl (fun hc => absurd (hok.symm.trans hc) (by decide)) (Nat.le_of_ble_eq_true rfl) (Nat.le_of_ble_eq_true rfl) dX6_takesOrder_141
          · have h_14 : chZ T ln (sp + 1) = nI 44 := (hr_eq (by decide) (by decide)).mp h_14
            refine lv_iconst (v := nI 1) hx hb dX6_takesOrder_107 (by decide) ?_
            refine lv_goto (tgt := 112) hx hb dX6_takesOrder_108 (by decide) ?_
            refine ktopi (y := bI true) (by decide) ?_
            refine kcallv (wc := [cM μ iK kn ln th (sp + 1) sp false (hrZ T ln sp) 0 se re ca]) (wr := [xI g (μ 6) 60 T]) (wn := fun (u : Unit) => [cM μ iK kn ln th (sp + 1 + 0) sp false (hrZ T ln sp) 0 se re ca, xI g (μ 6) 60 T]) F w [0] [1] [1, 0] rfl rfl rfl (fun _ => rfl)
              (fun hp => va_runV (As := [.int (bI true)]) (rest := []) F.1 (kX6_takes_0 l g μ iK kn ln th (sp + 1) sp false (hrZ T ln sp) 0 se re ca true H.size ) (cwV 1 hts gX6_takesOrder_X6_takes rfl rfl rfl ⟨rfl, hd_X6_takes⟩ ⟨Nat.le_of_ble_eq_true rfl, Nat.le_of_ble_eq_true rfl⟩) ⟨hp.1, va_recv F.2.2.2.1.1 w.1 (q0 := 0) (ci := 6) rfl rfl, hp.2⟩ rfl rfl hl.1 rfl (lv_room (Nat.le_of_ble_eq_true rfl)) dX6_takesOrder_112 ⟨Nat.le_of_ble_eq_true rfl, Nat.le_of_ble_eq_true rfl⟩)
              (fun _ H locs h_27 w => ?_)
            refine lv_aload_n hx hb dX6_takesOrder_115 rfl (lv_at hl 1 rfl) ?_
            refine lv_aload_n hx hb dX6_takesOrder_116 rfl (lv_at hl 1 rfl) ?_
            refine kcalli (wc := [cM μ iK kn ln th (sp + 1 + 0) sp false (hrZ T ln sp) 0 se re ca]) (wr := [xI g (μ 6) 60 T]) (wn := fun (u : Unit) => [cM μ iK kn ln th (sp + 1 + 0) sp false (hrZ T ln sp) 0 se re ca, xI g (μ 6) 60 T]) F w [0] [1] [1, 0] rfl rfl rfl (fun _ => rfl)
              (fun hp => va_runV (As := []) (rest := [.ref (μ 0)]) F.1 (kX6_takesNumber_0 l g μ iK kn ln th (sp + 1 + 0) sp false (hrZ T ln sp) 0 se re ca H.size ) (cwV 0 hts gX6_takesOrder_X6_takesNumber rfl rfl rfl ⟨rfl, hd_X6_takesNumber⟩ ⟨Nat.le_of_ble_eq_true rfl, Nat.le_of_ble_eq_true rfl⟩) ⟨hp.1, va_recv F.2.2.2.1.1 w.1 (q0 := 0) (ci := 6) rfl rfl, hp.2⟩ rfl rfl hl.1 rfl (lv_room (Nat.le_of_ble_eq_true rfl)) dX6_takesOrder_117 ⟨Nat.le_of_ble_eq_true rfl, Nat.le_of_ble_eq_true rfl⟩)
              (fun r_28 _ H locs h_29 w => ?_)
            subst h_29
            refine kput (fs := [.ref (μ 1), .ref (μ 2), .ref (μ 3), .ref (μ 4), .int (bI iK), .ref (μ 5), .int (nI kn), .ref (μ 6), .int (nI ln), .int (nI th), .int (nI (sp + 1 + 0)), .int (nI sp), .int (bI false), .int (hrZ T ln sp), .int (nI 0), .int (nI se), .int (nI re), .int (nI ca)]) F w in_X6_takesOrder_X6 tyX6_ok nmX6 0 rfl rfl 15 (by decide) (by decide +kernel) rfl rfl (rfl) (rfl) (Nat.le_of_ble_eq_true rfl) (wn := [cM μ iK kn ln th (sp + 1 + 0) sp false (hrZ T ln sp) 0 0 re ca, xI g (μ 6) 60 T]) rfl dX6_takesOrder_120 (fun H locs w => ?_)
            refine lv_aload_n hx hb dX6_takesOrder_123 rfl (lv_at hl 1 rfl) ?_
            refine lv_aload_n hx hb dX6_takesOrder_124 rfl (lv_at hl 1 rfl) ?_
            refine kcalli (wc := [cM μ iK kn ln th (sp + 1 + 0) sp false (hrZ T ln sp) 0 0 re ca, xI g (μ 6) 60 T]) (wr := []) (wn := fun (u : Unit) => [cM μ iK kn ln th (sp + 1 + 0) sp false (hrZ T ln sp) 0 0 re ca, xI g (μ 6) 60 T]) F w [0, 1] [] [0, 1] rfl rfl rfl (fun _ => rfl)
              (fun hp => va_runV (As := []) (rest := [.ref (μ 0)]) F.1 (kX6_here l g μ iK kn ln th (sp + 1 + 0) sp false (hrZ T ln sp) 0 0 re ca T H.size (by omega) (by omega)) (cwV 0 hts gX6_takesOrder_X6_here rfl rfl rfl ⟨rfl, hd_X6_here⟩ ⟨Nat.le_of_ble_eq_true rfl, Nat.le_of_ble_eq_true rfl⟩) ⟨hp.1, va_recv F.2.2.2.1.1 w.1 (q0 := 0) (ci := 6) rfl rfl, hp.2⟩ rfl rfl hl.1 rfl (lv_room (Nat.le_of_ble_eq_true rfl)) dX6_takesOrder_125 ⟨Nat.le_of_ble_eq_true rfl, Nat.le_of_ble_eq_true rfl⟩)
              (fun r_30 _ H locs h_31 w => ?_)
            subst h_31
            refine lv_bipush (v := nI 59) hx hb dX6_takesOrder_128 (by decide) ?_
            refine lv_icmp_ne (tgt := 137) hx hb dX6_takesOrder_130 (by decide) (fun h_32 => ?_) (fun h_32 => ?_)
            · have h_32 : ¬ chZ T ln (sp + 1 + 0) = nI 59 := fun hc => h_32 ((hr_eq (by decide) (by decide)).mpr hc)
              refine lv_iconst (v := nI 0) hx hb dX6_takesOrder_137 (by decide) ?_
              refine ktopi (y := bI false) (by decide) ?_
              refine kcallv (wc := [cM μ iK kn ln th (sp + 1 + 0) sp false (hrZ T ln sp) 0 0 re ca]) (wr := [xI g (μ 6) 60 T]) (wn := fun (u : Unit) => [cM μ iK kn ln th (sp + 1 + 0 + 0) sp false (hrZ T ln sp) 0 0 re ca, xI g (μ 6) 60 T]) F w [0] [1] [1, 0] rfl rfl rfl (fun _ => rfl)
                (fun hp => va_runV (As := [.int (bI false)]) (rest := []) F.1 (kX6_takes_0 l g μ iK kn ln th (sp + 1 + 0) sp false (hrZ T ln sp) 0 0 re ca false H.size ) (cwV 1 hts gX6_takesOrder_X6_takes rfl rfl rfl ⟨rfl, hd_X6_takes⟩ ⟨Nat.le_of_ble_eq_true rfl, Nat.le_of_ble_eq_true rfl⟩) ⟨hp.1, va_recv F.2.2.2.1.1 w.1 (q0 := 0) (ci := 6) rfl rfl, hp.2⟩ rfl rfl hl.1 rfl (lv_room (Nat.le_of_ble_eq_true rfl)) dX6_takesOrder_138 ⟨Nat.le_of_ble_eq_true rfl, Nat.le_of_ble_eq_true rfl⟩)
                (fun _ H locs h_34 w => ?_)
              have hok : pOK T ln sp = false := by unfold pOK; simp [hv9, ht1, h_8]
              have hpe : pE T ln sp = sp + 1 := by unfold pE; simp [hv9, ht1, h_8]
              have w : kW g A s [cM μ iK kn ln th (pE T ln sp) sp (pOK T ln sp) (hrZ T ln sp) 0 0 re ca, xI g (μ 6) 60 T] H locs := by
                have w := w
                rw [hpe, hok]; exact w
              subst hA
              subst hQ
              exact kretv F w (0, 0) [0, 1] rfl rfl (fun hc => absurd (hok.symm.trans hc) (by decide)) (Nat.le_of_ble_eq_true rfl) (Nat.le_of_ble_eq_true rfl) dX6_takesOrder_141
            · have h_32 : chZ T ln (sp + 1 + 0) = nI 59 := (hr_eq (by decide) (by decide)).mp h_32
              refine lv_iconst (v := nI 1) hx hb dX6_takesOrder_133 (by decide) ?_
              refine lv_goto (tgt := 138) hx hb dX6_takesOrder_134 (by decide) ?_
              refine ktopi (y := bI true) (by decide) ?_
              refine kcallv (wc := [cM μ iK kn ln th (sp + 1 + 0) sp false (hrZ T ln sp) 0 0 re ca]) (wr := [xI g (μ 6) 60 T]) (wn := fun (u : Unit) => [cM μ iK kn ln th (sp + 1 + 0 + 0) sp false (hrZ T ln sp) 0 0 re ca, xI g (μ 6) 60 T]) F w [0] [1] [1, 0] rfl rfl rfl (fun _ => rfl)
                (fun hp => va_runV (As := [.int (bI true)]) (rest := []) F.1 (kX6_takes_0 l g μ iK kn ln th (sp + 1 + 0) sp false (hrZ T ln sp) 0 0 re ca true H.size ) (cwV 1 hts gX6_takesOrder_X6_takes rfl rfl rfl ⟨rfl, hd_X6_takes⟩ ⟨Nat.le_of_ble_eq_true rfl, Nat.le_of_ble_eq_true rfl⟩) ⟨hp.1, va_recv F.2.2.2.1.1 w.1 (q0 := 0) (ci := 6) rfl rfl, hp.2⟩ rfl rfl hl.1 rfl (lv_room (Nat.le_of_ble_eq_true rfl)) dX6_takesOrder_138 ⟨Nat.le_of_ble_eq_true rfl, Nat.le_of_ble_eq_true rfl⟩)
                (fun _ H locs h_36 w => ?_)
              have hok : pOK T ln sp = false := by unfold pOK; simp [hv9, ht1, h_8]
              have hpe : pE T ln sp = sp + 1 := by unfold pE; simp [hv9, ht1, h_8]
              have w : kW g A s [cM μ iK kn ln th (pE T ln sp) sp (pOK T ln sp) (hrZ T ln sp) 0 0 re ca, xI g (μ 6) 60 T] H locs := by
                have w := w
                rw [hpe, hok]; exact w
              subst hA
              subst hQ
              exact kretv F w (0, 0) [0, 1] rfl rfl (fun hc => absurd (hok.symm.trans hc) (by decide)) (Nat.le_of_ble_eq_true rfl) (Nat.le_of_ble_eq_true rfl) dX6_takesOrder_141
      · skip
        refine kcalli (wc := [cM μ iK kn ln th (sp + 1) sp true (hrZ T ln sp) fi se re ca, xI g (μ 6) 60 T]) (wr := []) (wn := fun (u : Unit) => [cM μ iK kn ln th (nEz T ln (sp + 1)) sp true (hrZ T ln sp) fi se re ca, xI g (μ 6) 60 T]) F w [0, 1] [] [0, 1] rfl rfl rfl (fun _ => rfl)
          (fun hp => va_runV (As := []) (rest := [.ref (μ 0)]) F.1 (kX6_takesNumber_k l g μ iK kn ln th (sp + 1) sp false (hrZ T ln sp) fi se re ca T H.size (by omega) (by omega) h_8) (cwV 0 hts gX6_takesOrder_X6_takesNumber rfl rfl rfl ⟨rfl, hd_X6_takesNumber⟩ ⟨Nat.le_of_ble_eq_true rfl, Nat.le_of_ble_eq_true rfl⟩) ⟨hp.1, va_recv F.2.2.2.1.1 w.1 (q0 := 0) (ci := 6) rfl rfl, hp.2⟩ rfl rfl hl.1 rfl (lv_room (Nat.le_of_ble_eq_true rfl)) dX6_takesOrder_87 ⟨Nat.le_of_ble_eq_true rfl, Nat.le_of_ble_eq_true rfl⟩)
          (fun r_37 _ H locs h_38 w => ?_)
        subst h_38
        have hz9 := nEz_le (T := T) (L := ln) (p := sp + 1)
        refine kput (fs := [.ref (μ 1), .ref (μ 2), .ref (μ 3), .ref (μ 4), .int (bI iK), .ref (μ 5), .int (nI kn), .ref (μ 6), .int (nI ln), .int (nI th), .int (nI (nEz T ln (sp + 1))), .int (nI sp), .int (bI true), .int (hrZ T ln sp), .int (nI fi), .int (nI se), .int (nI re), .int (nI ca)]) F w in_X6_takesOrder_X6 tyX6_ok nmX6 0 rfl rfl 14 (by decide) (by decide +kernel) rfl rfl (rfl) (rfl) (Nat.le_of_ble_eq_true rfl) (wn := [cM μ iK kn ln th (nEz T ln (sp + 1)) sp true (hrZ T ln sp) (nVz T ln (sp + 1)) se re ca, xI g (μ 6) 60 T]) rfl dX6_takesOrder_90 (fun H locs w => ?_)
        refine lv_iload_n hx hb dX6_takesOrder_93 rfl (lv_at hl 0 rfl) ?_
        refine lv_if_eq (tgt := 123) hx hb dX6_takesOrder_94 (by decide) (fun h_39 => ?_) (fun h_39 => ?_)
        · have h_39 : 1 = 0 := (kc0_eq_t (by omega)).mp h_39
          omega
        · have h_39 : 1 ≠ 0 := (kc0_eq_f (by omega)).mp h_39
          refine lv_aload_n hx hb dX6_takesOrder_97 rfl (lv_at hl 1 rfl) ?_
          refine lv_aload_n hx hb dX6_takesOrder_98 rfl (lv_at hl 1 rfl) ?_
          refine kcalli (wc := [cM μ iK kn ln th (nEz T ln (sp + 1)) sp true (hrZ T ln sp) (nVz T ln (sp + 1)) se re ca, xI g (μ 6) 60 T]) (wr := []) (wn := fun (u : Unit) => [cM μ iK kn ln th (nEz T ln (sp + 1)) sp true (hrZ T ln sp) (nVz T ln (sp + 1)) se re ca, xI g (μ 6) 60 T]) F w [0, 1] [] [0, 1] rfl rfl rfl (fun _ => rfl)
            (fun hp => va_runV (As := []) (rest := [.ref (μ 0)]) F.1 (kX6_here l g μ iK kn ln th (nEz T ln (sp + 1)) sp true (hrZ T ln sp) (nVz T ln (sp + 1)) se re ca T H.size (by omega) (by omega)) (cwV 0 hts gX6_takesOrder_X6_here rfl rfl rfl ⟨rfl, hd_X6_here⟩ ⟨Nat.le_of_ble_eq_true rfl, Nat.le_of_ble_eq_true rfl⟩) ⟨hp.1, va_recv F.2.2.2.1.1 w.1 (q0 := 0) (ci := 6) rfl rfl, hp.2⟩ rfl rfl hl.1 rfl (lv_room (Nat.le_of_ble_eq_true rfl)) dX6_takesOrder_99 ⟨Nat.le_of_ble_eq_true rfl, Nat.le_of_ble_eq_true rfl⟩)
            (fun r_40 _ H locs h_41 w => ?_)
          subst h_41
          refine lv_bipush (v := nI 44) hx hb dX6_takesOrder_102 (by decide) ?_
          refine lv_icmp_ne (tgt := 111) hx hb dX6_takesOrder_104 (by decide) (fun h_42 => ?_) (fun h_42 => ?_)
          · have h_42 : ¬ chZ T ln (nEz T ln (sp + 1)) = nI 44 := fun hc => h_42 ((hr_eq (by decide) (by decide)).mpr hc)
            refine lv_iconst (v := nI 0) hx hb dX6_takesOrder_111 (by decide) ?_
            refine ktopi (y := bI false) (by decide) ?_
            refine kcallv (wc := [cM μ iK kn ln th (nEz T ln (sp + 1)) sp true (hrZ T ln sp) (nVz T ln (sp + 1)) se re ca]) (wr := [xI g (μ 6) 60 T]) (wn := fun (u : Unit) => [cM μ iK kn ln th ((nEz T ln (sp + 1)) + 0) sp false (hrZ T ln sp) (nVz T ln (sp + 1)) se re ca, xI g (μ 6) 60 T]) F w [0] [1] [1, 0] rfl rfl rfl (fun _ => rfl)
              (fun hp => va_runV (As := [.int (bI false)]) (rest := []) F.1 (kX6_takes_10 l g μ iK kn ln th (nEz T ln (sp + 1)) sp false (hrZ T ln sp) (nVz T ln (sp + 1)) se re ca H.size ) (cwV 1 hts gX6_takesOrder_X6_takes rfl rfl rfl ⟨rfl, hd_X6_takes⟩ ⟨Nat.le_of_ble_eq_true rfl, Nat.le_of_ble_eq_true rfl⟩) ⟨hp.1, va_recv F.2.2.2.1.1 w.1 (q0 := 0) (ci := 6) rfl rfl, hp.2⟩ rfl rfl hl.1 rfl (lv_room (Nat.le_of_ble_eq_true rfl)) dX6_takesOrder_112 ⟨Nat.le_of_ble_eq_true rfl, Nat.le_of_ble_eq_true rfl⟩)
              (fun _ H locs h_44 w => ?_)
            refine lv_aload_n hx hb dX6_takesOrder_115 rfl (lv_at hl 1 rfl) ?_
            refine lv_aload_n hx hb dX6_takesOrder_116 rfl (lv_at hl 1 rfl) ?_
            refine kcalli (wc := [cM μ iK kn ln th ((nEz T ln (sp + 1)) + 0) sp false (hrZ T ln sp) (nVz T ln (sp + 1)) se re ca]) (wr := [xI g (μ 6) 60 T]) (wn := fun (u : Unit) => [cM μ iK kn ln th ((nEz T ln (sp + 1)) + 0) sp false (hrZ T ln sp) (nVz T ln (sp + 1)) se re ca, xI g (μ 6) 60 T]) F w [0] [1] [1, 0] rfl rfl rfl (fun _ => rfl)
              (fun hp => va_runV (As := []) (rest := [.ref (μ 0)]) F.1 (kX6_takesNumber_0 l g μ iK kn ln th ((nEz T ln (sp + 1)) + 0) sp false (hrZ T ln sp) (nVz T ln (sp + 1)) se re ca H.size ) (cwV 0 hts gX6_takesOrder_X6_takesNumber rfl rfl rfl ⟨rfl, hd_X6_takesNumber⟩ ⟨Nat.le_of_ble_eq_true rfl, Nat.le_of_ble_eq_true rfl⟩) ⟨hp.1, va_recv F.2.2.2.1.1 w.1 (q0 := 0) (ci := 6) rfl rfl, hp.2⟩ rfl rfl hl.1 rfl (lv_room (Nat.le_of_ble_eq_true rfl)) dX6_takesOrder_117 ⟨Nat.le_of_ble_eq_true rfl, Nat.le_of_ble_eq_true rfl⟩)
              (fun r_45 _ H locs h_46 w => ?_)
            subst h_46
            refine kput (fs := [.ref (μ 1), .ref (μ 2), .ref (μ 3), .ref (μ 4), .int (bI iK), .ref (μ 5), .int (nI kn), .ref (μ 6), .int (nI ln), .int (nI th), .int (nI ((nEz T ln (sp + 1)) + 0)), .int (nI sp), .int (bI false), .int (hrZ T ln sp), .int (nI (nVz T ln (sp + 1))), .int (nI se), .int (nI re), .int (nI ca)]) F w in_X6_takesOrder_X6 tyX6_ok nmX6 0 rfl rfl 15 (by decide) (by decide +kernel) rfl rfl (rfl) (rfl) (Nat.le_of_ble_eq_true rfl) (wn := [cM μ iK kn ln th ((nEz T ln (sp + 1)) + 0) sp false (hrZ T ln sp) (nVz T ln (sp + 1)) 0 re ca, xI g (μ 6) 60 T]) rfl dX6_takesOrder_120 (fun H locs w => ?_)
            refine lv_aload_n hx hb dX6_takesOrder_123 rfl (lv_at hl 1 rfl) ?_
            refine lv_aload_n hx hb dX6_takesOrder_124 rfl (lv_at hl 1 rfl) ?_
            refine kcalli (wc := [cM μ iK kn ln th ((nEz T ln (sp + 1)) + 0) sp false (hrZ T ln sp) (nVz T ln (sp + 1)) 0 re ca, xI g (μ 6) 60 T]) (wr := []) (wn := fun (u : Unit) => [cM μ iK kn ln th ((nEz T ln (sp + 1)) + 0) sp false (hrZ T ln sp) (nVz T ln (sp + 1)) 0 re ca, xI g (μ 6) 60 T]) F w [0, 1] [] [0, 1] rfl rfl rfl (fun _ => rfl)
              (fun hp => va_runV (As := []) (rest := [.ref (μ 0)]) F.1 (kX6_here l g μ iK kn ln th ((nEz T ln (sp + 1)) + 0) sp false (hrZ T ln sp) (nVz T ln (sp + 1)) 0 re ca T H.size (by omega) (by omega)) (cwV 0 hts gX6_takesOrder_X6_here rfl rfl rfl ⟨rfl, hd_X6_here⟩ ⟨Nat.le_of_ble_eq_true rfl, Nat.le_of_ble_eq_true rfl⟩) ⟨hp.1, va_recv F.2.2.2.1.1 w.1 (q0 := 0) (ci := 6) rfl rfl, hp.2⟩ rfl rfl hl.1 rfl (lv_room (Nat.le_of_ble_eq_true rfl)) dX6_takesOrder_125 ⟨Nat.le_of_ble_eq_true rfl, Nat.le_of_ble_eq_true rfl⟩)
              (fun r_47 _ H locs h_48 w => ?_)
            subst h_48
            refine lv_bipush (v := nI 59) hx hb dX6_takesOrder_128 (by decide) ?_
            refine lv_icmp_ne (tgt := 137) hx hb dX6_takesOrder_130 (by decide) (fun h_49 => ?_) (fun h_49 => ?_)
            · have h_49 : ¬ chZ T ln ((nEz T ln (sp + 1)) + 0) = nI 59 := fun hc => h_49 ((hr_eq (by decide) (by decide)).mpr hc)
              refine lv_iconst (v := nI 0) hx hb dX6_takesOrder_137 (by decide) ?_
              refine ktopi (y := bI false) (by decide) ?_
              refine kcallv (wc := [cM μ iK kn ln th ((nEz T ln (sp + 1)) + 0) sp false (hrZ T ln sp) (nVz T ln (sp + 1)) 0 re ca]) (wr := [xI g (μ 6) 60 T]) (wn := fun (u : Unit) => [cM μ iK kn ln th (((nEz T ln (sp + 1)) + 0) + 0) sp false (hrZ T ln sp) (nVz T ln (sp + 1)) 0 re ca, xI g (μ 6) 60 T]) F w [0] [1] [1, 0] rfl rfl rfl (fun _ => rfl)
                (fun hp => va_runV (As := [.int (bI false)]) (rest := []) F.1 (kX6_takes_0 l g μ iK kn ln th ((nEz T ln (sp + 1)) + 0) sp false (hrZ T ln sp) (nVz T ln (sp + 1)) 0 re ca false H.size ) (cwV 1 hts gX6_takesOrder_X6_takes rfl rfl rfl ⟨rfl, hd_X6_takes⟩ ⟨Nat.le_of_ble_eq_true rfl, Nat.le_of_ble_eq_true rfl⟩) ⟨hp.1, va_recv F.2.2.2.1.1 w.1 (q0 := 0) (ci := 6) rfl rfl, hp.2⟩ rfl rfl hl.1 rfl (lv_room (Nat.le_of_ble_eq_true rfl)) dX6_takesOrder_138 ⟨Nat.le_of_ble_eq_true rfl, Nat.le_of_ble_eq_true rfl⟩)
                (fun _ H locs h_51 w => ?_)
              have hok : pOK T ln sp = false := by unfold pOK; simp [hv9, ht1, h_8, h_42]
              have hpe : pE T ln sp = ((nEz T ln (sp + 1)) + 0) := by unfold pE; simp [hv9, ht1, h_8, h_42]
              have w : kW g A s [cM μ iK kn ln th (pE T ln sp) sp (pOK T ln sp) (hrZ T ln sp) (nVz T ln (sp + 1)) 0 re ca, xI g (μ 6) 60 T] H locs := by
                have w := w
                rw [hpe, hok]; exact w
              subst hA
              subst hQ
              exact kretv F w (nVz T ln (sp + 1), 0) [0, 1] rfl rfl (fun hc => absurd (hok.symm.trans hc) (by decide)) (Nat.le_of_ble_eq_true rfl) (Nat.le_of_ble_eq_true rfl) dX6_takesOrder_141
            · have h_49 : chZ T ln ((nEz T ln (sp + 1)) + 0) = nI 59 := (hr_eq (by decide) (by decide)).mp h_49
              refine lv_iconst (v := nI 1) hx hb dX6_takesOrder_133 (by decide) ?_
              refine lv_goto (tgt := 138) hx hb dX6_takesOrder_134 (by decide) ?_
              refine ktopi (y := bI true) (by decide) ?_
              refine kcallv (wc := [cM μ iK kn ln th ((nEz T ln (sp + 1)) + 0) sp false (hrZ T ln sp) (nVz T ln (sp + 1)) 0 re ca]) (wr := [xI g (μ 6) 60 T]) (wn := fun (u : Unit) => [cM μ iK kn ln th (((nEz T ln (sp + 1)) + 0) + 0) sp false (hrZ T ln sp) (nVz T ln (sp + 1)) 0 re ca, xI g (μ 6) 60 T]) F w [0] [1] [1, 0] rfl rfl rfl (fun _ => rfl)
                (fun hp => va_runV (As := [.int (bI true)]) (rest := []) F.1 (kX6_takes_0 l g μ iK kn ln th ((nEz T ln (sp + 1)) + 0) sp false (hrZ T ln sp) (nVz T ln (sp + 1)) 0 re ca true H.size ) (cwV 1 hts gX6_takesOrder_X6_takes rfl rfl rfl ⟨rfl, hd_X6_takes⟩ ⟨Nat.le_of_ble_eq_true rfl, Nat.le_of_ble_eq_true rfl⟩) ⟨hp.1, va_recv F.2.2.2.1.1 w.1 (q0 := 0) (ci := 6) rfl rfl, hp.2⟩ rfl rfl hl.1 rfl (lv_room (Nat.le_of_ble_eq_true rfl)) dX6_takesOrder_138 ⟨Nat.le_of_ble_eq_true rfl, Nat.le_of_ble_eq_true rfl⟩)
                (fun _ H locs h_53 w => ?_)
              have hok : pOK T ln sp = false := by unfold pOK; simp [hv9, ht1, h_8, h_42]
              have hpe : pE T ln sp = ((nEz T ln (sp + 1)) + 0) := by unfold pE; simp [hv9, ht1, h_8, h_42]
              have w : kW g A s [cM μ iK kn ln th (pE T ln sp) sp (pOK T ln sp) (hrZ T ln sp) (nVz T ln (sp + 1)) 0 re ca, xI g (μ 6) 60 T] H locs := by
                have w := w
                rw [hpe, hok]; exact w
              subst hA
              subst hQ
              exact kretv F w (nVz T ln (sp + 1), 0) [0, 1] rfl rfl (fun hc => absurd (hok.symm.trans hc) (by decide)) (Nat.le_of_ble_eq_true rfl) (Nat.le_of_ble_eq_true rfl) dX6_takesOrder_141
          · have h_42 : chZ T ln (nEz T ln (sp + 1)) = nI 44 := (hr_eq (by decide) (by decide)).mp h_42
            refine lv_iconst (v := nI 1) hx hb dX6_takesOrder_107 (by decide) ?_
            refine lv_goto (tgt := 112) hx hb dX6_takesOrder_108 (by decide) ?_
            refine ktopi (y := bI true) (by decide) ?_
            refine kcallv (wc := [cM μ iK kn ln th (nEz T ln (sp + 1)) sp true (hrZ T ln sp) (nVz T ln (sp + 1)) se re ca]) (wr := [xI g (μ 6) 60 T]) (wn := fun (u : Unit) => [cM μ iK kn ln th ((nEz T ln (sp + 1)) + 1) sp true (hrZ T ln sp) (nVz T ln (sp + 1)) se re ca, xI g (μ 6) 60 T]) F w [0] [1] [1, 0] rfl rfl rfl (fun _ => rfl)
              (fun hp => va_runV (As := [.int (bI true)]) (rest := []) F.1 (kX6_takes_11 l g μ iK kn ln th (nEz T ln (sp + 1)) sp false (hrZ T ln sp) (nVz T ln (sp + 1)) se re ca H.size ) (cwV 1 hts gX6_takesOrder_X6_takes rfl rfl rfl ⟨rfl, hd_X6_takes⟩ ⟨Nat.le_of_ble_eq_true rfl, Nat.le_of_ble_eq_true rfl⟩) ⟨hp.1, va_recv F.2.2.2.1.1 w.1 (q0 := 0) (ci := 6) rfl rfl, hp.2⟩ rfl rfl hl.1 rfl (lv_room (Nat.le_of_ble_eq_true rfl)) dX6_takesOrder_112 ⟨Nat.le_of_ble_eq_true rfl, Nat.le_of_ble_eq_true rfl⟩)
              (fun _ H locs h_55 w => ?_)
            refine lv_aload_n hx hb dX6_takesOrder_115 rfl (lv_at hl 1 rfl) ?_
            refine lv_aload_n hx hb dX6_takesOrder_116 rfl (lv_at hl 1 rfl) ?_
            rcases (show dgZ (chZ T ln ((nEz T ln (sp + 1)) + 1)) = false ∨ dgZ (chZ T ln ((nEz T ln (sp + 1)) + 1)) = true from by cases dgZ (chZ T ln ((nEz T ln (sp + 1)) + 1)) <;> simp) with h_57 | h_57
            · skip
              refine kcalli (wc := [cM μ iK kn ln th ((nEz T ln (sp + 1)) + 1) sp true (hrZ T ln sp) (nVz T ln (sp + 1)) se re ca, xI g (μ 6) 60 T]) (wr := []) (wn := fun (u : Unit) => [cM μ iK kn ln th ((nEz T ln (sp + 1)) + 1) sp false (hrZ T ln sp) (nVz T ln (sp + 1)) se re ca, xI g (μ 6) 60 T]) F w [0, 1] [] [0, 1] rfl rfl rfl (fun _ => rfl)
                (fun hp => va_runV (As := []) (rest := [.ref (μ 0)]) F.1 (kX6_takesNumber_n l g μ iK kn ln th ((nEz T ln (sp + 1)) + 1) sp false (hrZ T ln sp) (nVz T ln (sp + 1)) se re ca T H.size (by omega) (by omega) h_57) (cwV 0 hts gX6_takesOrder_X6_takesNumber rfl rfl rfl ⟨rfl, hd_X6_takesNumber⟩ ⟨Nat.le_of_ble_eq_true rfl, Nat.le_of_ble_eq_true rfl⟩) ⟨hp.1, va_recv F.2.2.2.1.1 w.1 (q0 := 0) (ci := 6) rfl rfl, hp.2⟩ rfl rfl hl.1 rfl (lv_room (Nat.le_of_ble_eq_true rfl)) dX6_takesOrder_117 ⟨Nat.le_of_ble_eq_true rfl, Nat.le_of_ble_eq_true rfl⟩)
                (fun r_58 _ H locs h_59 w => ?_)
              subst h_59
              refine kput (fs := [.ref (μ 1), .ref (μ 2), .ref (μ 3), .ref (μ 4), .int (bI iK), .ref (μ 5), .int (nI kn), .ref (μ 6), .int (nI ln), .int (nI th), .int (nI ((nEz T ln (sp + 1)) + 1)), .int (nI sp), .int (bI false), .int (hrZ T ln sp), .int (nI (nVz T ln (sp + 1))), .int (nI se), .int (nI re), .int (nI ca)]) F w in_X6_takesOrder_X6 tyX6_ok nmX6 0 rfl rfl 15 (by decide) (by decide +kernel) rfl rfl (rfl) (rfl) (Nat.le_of_ble_eq_true rfl) (wn := [cM μ iK kn ln th ((nEz T ln (sp + 1)) + 1) sp false (hrZ T ln sp) (nVz T ln (sp + 1)) 0 re ca, xI g (μ 6) 60 T]) rfl dX6_takesOrder_120 (fun H locs w => ?_)
              refine lv_aload_n hx hb dX6_takesOrder_123 rfl (lv_at hl 1 rfl) ?_
              refine lv_aload_n hx hb dX6_takesOrder_124 rfl (lv_at hl 1 rfl) ?_
              refine kcalli (wc := [cM μ iK kn ln th ((nEz T ln (sp + 1)) + 1) sp false (hrZ T ln sp) (nVz T ln (sp + 1)) 0 re ca, xI g (μ 6) 60 T]) (wr := []) (wn := fun (u : Unit) => [cM μ iK kn ln th ((nEz T ln (sp + 1)) + 1) sp false (hrZ T ln sp) (nVz T ln (sp + 1)) 0 re ca, xI g (μ 6) 60 T]) F w [0, 1] [] [0, 1] rfl rfl rfl (fun _ => rfl)
                (fun hp => va_runV (As := []) (rest := [.ref (μ 0)]) F.1 (kX6_here l g μ iK kn ln th ((nEz T ln (sp + 1)) + 1) sp false (hrZ T ln sp) (nVz T ln (sp + 1)) 0 re ca T H.size (by omega) (by omega)) (cwV 0 hts gX6_takesOrder_X6_here rfl rfl rfl ⟨rfl, hd_X6_here⟩ ⟨Nat.le_of_ble_eq_true rfl, Nat.le_of_ble_eq_true rfl⟩) ⟨hp.1, va_recv F.2.2.2.1.1 w.1 (q0 := 0) (ci := 6) rfl rfl, hp.2⟩ rfl rfl hl.1 rfl (lv_room (Nat.le_of_ble_eq_true rfl)) dX6_takesOrder_125 ⟨Nat.le_of_ble_eq_true rfl, Nat.le_of_ble_eq_true rfl⟩)
                (fun r_60 _ H locs h_61 w => ?_)
              subst h_61
              refine lv_bipush (v := nI 59) hx hb dX6_takesOrder_128 (by decide) ?_
              refine lv_icmp_ne (tgt := 137) hx hb dX6_takesOrder_130 (by decide) (fun h_62 => ?_) (fun h_62 => ?_)
              · have h_62 : ¬ chZ T ln ((nEz T ln (sp + 1)) + 1) = nI 59 := fun hc => h_62 ((hr_eq (by decide) (by decide)).mpr hc)
                refine lv_iconst (v := nI 0) hx hb dX6_takesOrder_137 (by decide) ?_
                refine ktopi (y := bI false) (by decide) ?_
                refine kcallv (wc := [cM μ iK kn ln th ((nEz T ln (sp + 1)) + 1) sp false (hrZ T ln sp) (nVz T ln (sp + 1)) 0 re ca]) (wr := [xI g (μ 6) 60 T]) (wn := fun (u : Unit) => [cM μ iK kn ln th (((nEz T ln (sp + 1)) + 1) + 0) sp false (hrZ T ln sp) (nVz T ln (sp + 1)) 0 re ca, xI g (μ 6) 60 T]) F w [0] [1] [1, 0] rfl rfl rfl (fun _ => rfl)
                  (fun hp => va_runV (As := [.int (bI false)]) (rest := []) F.1 (kX6_takes_0 l g μ iK kn ln th ((nEz T ln (sp + 1)) + 1) sp false (hrZ T ln sp) (nVz T ln (sp + 1)) 0 re ca false H.size ) (cwV 1 hts gX6_takesOrder_X6_takes rfl rfl rfl ⟨rfl, hd_X6_takes⟩ ⟨Nat.le_of_ble_eq_true rfl, Nat.le_of_ble_eq_true rfl⟩) ⟨hp.1, va_recv F.2.2.2.1.1 w.1 (q0 := 0) (ci := 6) rfl rfl, hp.2⟩ rfl rfl hl.1 rfl (lv_room (Nat.le_of_ble_eq_true rfl)) dX6_takesOrder_138 ⟨Nat.le_of_ble_eq_true rfl, Nat.le_of_ble_eq_true rfl⟩)
                  (fun _ H locs h_64 w => ?_)
                have hok : pOK T ln sp = false := by unfold pOK; simp [hv9, ht1, h_8, h_42, h_57]
                have hpe : pE T ln sp = ((nEz T ln (sp + 1)) + 1) := by unfold pE; simp [hv9, ht1, h_8, h_42, h_57]
                have w : kW g A s [cM μ iK kn ln th (pE T ln sp) sp (pOK T ln sp) (hrZ T ln sp) (nVz T ln (sp + 1)) 0 re ca, xI g (μ 6) 60 T] H locs := by
                  have w := w
                  rw [hpe, hok]; exact w
                subst hA
                subst hQ
                exact kretv F w (nVz T ln (sp + 1), 0) [0, 1] rfl rfl (fun hc => absurd (hok.symm.trans hc) (by decide)) (Nat.le_of_ble_eq_true rfl) (Nat.le_of_ble_eq_true rfl) dX6_takesOrder_141
              · have h_62 : chZ T ln ((nEz T ln (sp + 1)) + 1) = nI 59 := (hr_eq (by decide) (by decide)).mp h_62
                refine lv_iconst (v := nI 1) hx hb dX6_takesOrder_133 (by decide) ?_
                refine lv_goto (tgt := 138) hx hb dX6_takesOrder_134 (by decide) ?_
                refine ktopi (y := bI true) (by decide) ?_
                refine kcallv (wc := [cM μ iK kn ln th ((nEz T ln (sp + 1)) + 1) sp false (hrZ T ln sp) (nVz T ln (sp + 1)) 0 re ca]) (wr := [xI g (μ 6) 60 T]) (wn := fun (u : Unit) => [cM μ iK kn ln th (((nEz T ln (sp + 1)) + 1) + 0) sp false (hrZ T ln sp) (nVz T ln (sp + 1)) 0 re ca, xI g (μ 6) 60 T]) F w [0] [1] [1, 0] rfl rfl rfl (fun _ => rfl)
                  (fun hp => va_runV (As := [.int (bI true)]) (rest := []) F.1 (kX6_takes_0 l g μ iK kn ln th ((nEz T ln (sp + 1)) + 1) sp false (hrZ T ln sp) (nVz T ln (sp + 1)) 0 re ca true H.size ) (cwV 1 hts gX6_takesOrder_X6_takes rfl rfl rfl ⟨rfl, hd_X6_takes⟩ ⟨Nat.le_of_ble_eq_true rfl, Nat.le_of_ble_eq_true rfl⟩) ⟨hp.1, va_recv F.2.2.2.1.1 w.1 (q0 := 0) (ci := 6) rfl rfl, hp.2⟩ rfl rfl hl.1 rfl (lv_room (Nat.le_of_ble_eq_true rfl)) dX6_takesOrder_138 ⟨Nat.le_of_ble_eq_true rfl, Nat.le_of_ble_eq_true rfl⟩)
                  (fun _ H locs h_66 w => ?_)
                have hok : pOK T ln sp = false := by unfold pOK; simp [hv9, ht1, h_8, h_42, h_57]
                have hpe : pE T ln sp = ((nEz T ln (sp + 1)) + 1) := by unfold pE; simp [hv9, ht1, h_8, h_42, h_57]
                have w : kW g A s [cM μ iK kn ln th (pE T ln sp) sp (pOK T ln sp) (hrZ T ln sp) (nVz T ln (sp + 1)) 0 re ca, xI g (μ 6) 60 T] H locs := by
                  have w := w
                  rw [hpe, hok]; exact w
                subst hA
                subst hQ
                exact kretv F w (nVz T ln (sp + 1), 0) [0, 1] rfl rfl (fun hc => absurd (hok.symm.trans hc) (by decide)) (Nat.le_of_ble_eq_true rfl) (Nat.le_of_ble_eq_true rfl) dX6_takesOrder_141
            · skip
              refine kcalli (wc := [cM μ iK kn ln th ((nEz T ln (sp + 1)) + 1) sp true (hrZ T ln sp) (nVz T ln (sp + 1)) se re ca, xI g (μ 6) 60 T]) (wr := []) (wn := fun (u : Unit) => [cM μ iK kn ln th (nEz T ln ((nEz T ln (sp + 1)) + 1)) sp true (hrZ T ln sp) (nVz T ln (sp + 1)) se re ca, xI g (μ 6) 60 T]) F w [0, 1] [] [0, 1] rfl rfl rfl (fun _ => rfl)
                (fun hp => va_runV (As := []) (rest := [.ref (μ 0)]) F.1 (kX6_takesNumber_k l g μ iK kn ln th ((nEz T ln (sp + 1)) + 1) sp false (hrZ T ln sp) (nVz T ln (sp + 1)) se re ca T H.size (by omega) (by omega) h_57) (cwV 0 hts gX6_takesOrder_X6_takesNumber rfl rfl rfl ⟨rfl, hd_X6_takesNumber⟩ ⟨Nat.le_of_ble_eq_true rfl, Nat.le_of_ble_eq_true rfl⟩) ⟨hp.1, va_recv F.2.2.2.1.1 w.1 (q0 := 0) (ci := 6) rfl rfl, hp.2⟩ rfl rfl hl.1 rfl (lv_room (Nat.le_of_ble_eq_true rfl)) dX6_takesOrder_117 ⟨Nat.le_of_ble_eq_true rfl, Nat.le_of_ble_eq_true rfl⟩)
                (fun r_67 _ H locs h_68 w => ?_)
              subst h_68
              have hz9 := nEz_le (T := T) (L := ln) (p := (nEz T ln (sp + 1)) + 1)
              refine kput (fs := [.ref (μ 1), .ref (μ 2), .ref (μ 3), .ref (μ 4), .int (bI iK), .ref (μ 5), .int (nI kn), .ref (μ 6), .int (nI ln), .int (nI th), .int (nI (nEz T ln ((nEz T ln (sp + 1)) + 1))), .int (nI sp), .int (bI true), .int (hrZ T ln sp), .int (nI (nVz T ln (sp + 1))), .int (nI se), .int (nI re), .int (nI ca)]) F w in_X6_takesOrder_X6 tyX6_ok nmX6 0 rfl rfl 15 (by decide) (by decide +kernel) rfl rfl (rfl) (rfl) (Nat.le_of_ble_eq_true rfl) (wn := [cM μ iK kn ln th (nEz T ln ((nEz T ln (sp + 1)) + 1)) sp true (hrZ T ln sp) (nVz T ln (sp + 1)) (nVz T ln ((nEz T ln (sp + 1)) + 1)) re ca, xI g (μ 6) 60 T]) rfl dX6_takesOrder_120 (fun H locs w => ?_)
              refine lv_aload_n hx hb dX6_takesOrder_123 rfl (lv_at hl 1 rfl) ?_
              refine lv_aload_n hx hb dX6_takesOrder_124 rfl (lv_at hl 1 rfl) ?_
              refine kcalli (wc := [cM μ iK kn ln th (nEz T ln ((nEz T ln (sp + 1)) + 1)) sp true (hrZ T ln sp) (nVz T ln (sp + 1)) (nVz T ln ((nEz T ln (sp + 1)) + 1)) re ca, xI g (μ 6) 60 T]) (wr := []) (wn := fun (u : Unit) => [cM μ iK kn ln th (nEz T ln ((nEz T ln (sp + 1)) + 1)) sp true (hrZ T ln sp) (nVz T ln (sp + 1)) (nVz T ln ((nEz T ln (sp + 1)) + 1)) re ca, xI g (μ 6) 60 T]) F w [0, 1] [] [0, 1] rfl rfl rfl (fun _ => rfl)
                (fun hp => va_runV (As := []) (rest := [.ref (μ 0)]) F.1 (kX6_here l g μ iK kn ln th (nEz T ln ((nEz T ln (sp + 1)) + 1)) sp true (hrZ T ln sp) (nVz T ln (sp + 1)) (nVz T ln ((nEz T ln (sp + 1)) + 1)) re ca T H.size (by omega) (by omega)) (cwV 0 hts gX6_takesOrder_X6_here rfl rfl rfl ⟨rfl, hd_X6_here⟩ ⟨Nat.le_of_ble_eq_true rfl, Nat.le_of_ble_eq_true rfl⟩) ⟨hp.1, va_recv F.2.2.2.1.1 w.1 (q0 := 0) (ci := 6) rfl rfl, hp.2⟩ rfl rfl hl.1 rfl (lv_room (Nat.le_of_ble_eq_true rfl)) dX6_takesOrder_125 ⟨Nat.le_of_ble_eq_true rfl, Nat.le_of_ble_eq_true rfl⟩)
                (fun r_69 _ H locs h_70 w => ?_)
              subst h_70
              refine lv_bipush (v := nI 59) hx hb dX6_takesOrder_128 (by decide) ?_
              refine lv_icmp_ne (tgt := 137) hx hb dX6_takesOrder_130 (by decide) (fun h_71 => ?_) (fun h_71 => ?_)
              · have h_71 : ¬ chZ T ln (nEz T ln ((nEz T ln (sp + 1)) + 1)) = nI 59 := fun hc => h_71 ((hr_eq (by decide) (by decide)).mpr hc)
                refine lv_iconst (v := nI 0) hx hb dX6_takesOrder_137 (by decide) ?_
                refine ktopi (y := bI false) (by decide) ?_
                refine kcallv (wc := [cM μ iK kn ln th (nEz T ln ((nEz T ln (sp + 1)) + 1)) sp true (hrZ T ln sp) (nVz T ln (sp + 1)) (nVz T ln ((nEz T ln (sp + 1)) + 1)) re ca]) (wr := [xI g (μ 6) 60 T]) (wn := fun (u : Unit) => [cM μ iK kn ln th ((nEz T ln ((nEz T ln (sp + 1)) + 1)) + 0) sp false (hrZ T ln sp) (nVz T ln (sp + 1)) (nVz T ln ((nEz T ln (sp + 1)) + 1)) re ca, xI g (μ 6) 60 T]) F w [0] [1] [1, 0] rfl rfl rfl (fun _ => rfl)
                  (fun hp => va_runV (As := [.int (bI false)]) (rest := []) F.1 (kX6_takes_10 l g μ iK kn ln th (nEz T ln ((nEz T ln (sp + 1)) + 1)) sp false (hrZ T ln sp) (nVz T ln (sp + 1)) (nVz T ln ((nEz T ln (sp + 1)) + 1)) re ca H.size ) (cwV 1 hts gX6_takesOrder_X6_takes rfl rfl rfl ⟨rfl, hd_X6_takes⟩ ⟨Nat.le_of_ble_eq_true rfl, Nat.le_of_ble_eq_true rfl⟩) ⟨hp.1, va_recv F.2.2.2.1.1 w.1 (q0 := 0) (ci := 6) rfl rfl, hp.2⟩ rfl rfl hl.1 rfl (lv_room (Nat.le_of_ble_eq_true rfl)) dX6_takesOrder_138 ⟨Nat.le_of_ble_eq_true rfl, Nat.le_of_ble_eq_true rfl⟩)
                  (fun _ H locs h_73 w => ?_)
                have hok : pOK T ln sp = false := by unfold pOK; simp [hv9, ht1, h_8, h_42, h_57, h_71]
                have hpe : pE T ln sp = (nEz T ln ((nEz T ln (sp + 1)) + 1)) := by unfold pE; simp [hv9, ht1, h_8, h_42, h_57, h_71]
                have w : kW g A s [cM μ iK kn ln th (pE T ln sp) sp (pOK T ln sp) (hrZ T ln sp) (nVz T ln (sp + 1)) (nVz T ln ((nEz T ln (sp + 1)) + 1)) re ca, xI g (μ 6) 60 T] H locs := by
                  have w := w
                  rw [hpe, hok]; exact w
                subst hA
                subst hQ
                exact kretv F w (nVz T ln (sp + 1), nVz T ln ((nEz T ln (sp + 1)) + 1)) [0, 1] rfl rfl (fun hc => absurd (hok.symm.trans hc) (by decide)) (Nat.le_of_ble_eq_true rfl) (Nat.le_of_ble_eq_true rfl) dX6_takesOrder_141
              · have h_71 : chZ T ln (nEz T ln ((nEz T ln (sp + 1)) + 1)) = nI 59 := (hr_eq (by decide) (by decide)).mp h_71
                refine lv_iconst (v := nI 1) hx hb dX6_takesOrder_133 (by decide) ?_
                refine lv_goto (tgt := 138) hx hb dX6_takesOrder_134 (by decide) ?_
                refine ktopi (y := bI true) (by decide) ?_
                refine kcallv (wc := [cM μ iK kn ln th (nEz T ln ((nEz T ln (sp + 1)) + 1)) sp true (hrZ T ln sp) (nVz T ln (sp + 1)) (nVz T ln ((nEz T ln (sp + 1)) + 1)) re ca]) (wr := [xI g (μ 6) 60 T]) (wn := fun (u : Unit) => [cM μ iK kn ln th ((nEz T ln ((nEz T ln (sp + 1)) + 1)) + 1) sp true (hrZ T ln sp) (nVz T ln (sp + 1)) (nVz T ln ((nEz T ln (sp + 1)) + 1)) re ca, xI g (μ 6) 60 T]) F w [0] [1] [1, 0] rfl rfl rfl (fun _ => rfl)
                  (fun hp => va_runV (As := [.int (bI true)]) (rest := []) F.1 (kX6_takes_11 l g μ iK kn ln th (nEz T ln ((nEz T ln (sp + 1)) + 1)) sp false (hrZ T ln sp) (nVz T ln (sp + 1)) (nVz T ln ((nEz T ln (sp + 1)) + 1)) re ca H.size ) (cwV 1 hts gX6_takesOrder_X6_takes rfl rfl rfl ⟨rfl, hd_X6_takes⟩ ⟨Nat.le_of_ble_eq_true rfl, Nat.le_of_ble_eq_true rfl⟩) ⟨hp.1, va_recv F.2.2.2.1.1 w.1 (q0 := 0) (ci := 6) rfl rfl, hp.2⟩ rfl rfl hl.1 rfl (lv_room (Nat.le_of_ble_eq_true rfl)) dX6_takesOrder_138 ⟨Nat.le_of_ble_eq_true rfl, Nat.le_of_ble_eq_true rfl⟩)
                  (fun _ H locs h_75 w => ?_)
                have hok : pOK T ln sp = true := by unfold pOK; simp [hv9, ht1, h_8, h_42, h_57, h_71]
                have hpe : pE T ln sp = (nEz T ln ((nEz T ln (sp + 1)) + 1)) + 1 := by unfold pE; simp [hv9, ht1, h_8, h_42, h_57, h_71]
                have w : kW g A s [cM μ iK kn ln th (pE T ln sp) sp (pOK T ln sp) (hrZ T ln sp) (nVz T ln (sp + 1)) (nVz T ln ((nEz T ln (sp + 1)) + 1)) re ca, xI g (μ 6) 60 T] H locs := by
                  have w := w
                  rw [hpe, hok]; exact w
                subst hA
                subst hQ
                exact kretv F w (nVz T ln (sp + 1), nVz T ln ((nEz T ln (sp + 1)) + 1)) [0, 1] rfl rfl (fun _ => ⟨rfl, fun ht => (if_pos ht).symm⟩) (Nat.le_of_ble_eq_true rfl) (Nat.le_of_ble_eq_true rfl) dX6_takesOrder_141
    · have h_4 : 1 = 0 := (kc0_ne_f (by omega)).mp h_4
      omega
  · have h_3 : ¬ chZ T ln sp = nI 114 := fun hc => h_3 ((hr_eq (by decide) (by decide)).mpr hc)
    refine lv_aload_n hx hb dX6_takesOrder_30 rfl (lv_at hl 0 rfl) ?_
    refine kget (fs := [.ref (μ 1), .ref (μ 2), .ref (μ 3), .ref (μ 4), .int (bI iK), .ref (μ 5), .int (nI kn), .ref (μ 6), .int (nI ln), .int (nI th), .int (nI sp), .int (nI sp), .int (bI true), .int (hrZ T ln sp), .int (nI fi), .int (nI se), .int (nI re), .int (nI ca)]) F w in_X6_takesOrder_X6 0 rfl rfl 13 (by decide) (by decide +kernel) rfl rfl dX6_takesOrder_31 ?_
    refine lv_bipush (v := nI 116) hx hb dX6_takesOrder_34 (by decide) ?_
    refine lv_icmp_ne (tgt := 43) hx hb dX6_takesOrder_36 (by decide) (fun h_76 => ?_) (fun h_76 => ?_)
    · have h_76 : ¬ chZ T ln sp = nI 116 := fun hc => h_76 ((hr_eq (by decide) (by decide)).mpr hc)
      refine lv_iconst (v := nI 0) hx hb dX6_takesOrder_43 (by decide) ?_
      refine lv_istore_n (lv' := [(1, .int (nI 0)), (0, .ref (μ 0))]) hx hb dX6_takesOrder_44 rfl hl (by decide) rfl (fun ls hl => ?_)
      refine lv_aload_n hx hb dX6_takesOrder_45 rfl (lv_at hl 1 rfl) ?_
      refine lv_iload_n hx hb dX6_takesOrder_46 rfl (lv_at hl 0 rfl) ?_
      refine lv_if_ne (tgt := 77) hx hb dX6_takesOrder_47 (by decide) (fun h_77 => ?_) (fun h_77 => ?_)
      · have h_77 : 0 ≠ 0 := (kc0_ne_t (by omega)).mp h_77
        omega
      · have h_77 : 0 = 0 := (kc0_ne_f (by omega)).mp h_77
        refine lv_aload_n hx hb dX6_takesOrder_50 rfl (lv_at hl 1 rfl) ?_
        refine kget (fs := [.ref (μ 1), .ref (μ 2), .ref (μ 3), .ref (μ 4), .int (bI iK), .ref (μ 5), .int (nI kn), .ref (μ 6), .int (nI ln), .int (nI th), .int (nI sp), .int (nI sp), .int (bI true), .int (hrZ T ln sp), .int (nI fi), .int (nI se), .int (nI re), .int (nI ca)]) F w in_X6_takesOrder_X6 0 rfl rfl 13 (by decide) (by decide +kernel) rfl rfl dX6_takesOrder_51 ?_
        refine lv_bipush (v := nI 112) hx hb dX6_takesOrder_54 (by decide) ?_
        refine lv_icmp_eq (tgt := 77) hx hb dX6_takesOrder_56 (by decide) (fun h_78 => ?_) (fun h_78 => ?_)
        · have h_78 : chZ T ln sp = nI 112 := (hr_eq (by decide) (by decide)).mp h_78
          have hv9 : vbZ (chZ T ln sp) = true := by rw [h_78]; decide
          have ht0 : twZ (chZ T ln sp) = false := by rw [h_78]; decide
          refine lv_iconst (v := nI 1) hx hb dX6_takesOrder_77 (by decide) ?_
          refine lv_goto (tgt := 82) hx hb dX6_takesOrder_78 (by decide) ?_
          refine ktopi (y := bI true) (by decide) ?_
          refine kcallv (wc := [cM μ iK kn ln th sp sp true (hrZ T ln sp) fi se re ca]) (wr := [xI g (μ 6) 60 T]) (wn := fun (u : Unit) => [cM μ iK kn ln th (sp + 1) sp true (hrZ T ln sp) fi se re ca, xI g (μ 6) 60 T]) F w [0] [1] [1, 0] rfl rfl rfl (fun _ => rfl)
            (fun hp => va_runV (As := [.int (bI true)]) (rest := []) F.1 (kX6_takes_11 l g μ iK kn ln th sp sp false (hrZ T ln sp) fi se re ca H.size ) (cwV 1 hts gX6_takesOrder_X6_takes rfl rfl rfl ⟨rfl, hd_X6_takes⟩ ⟨Nat.le_of_ble_eq_true rfl, Nat.le_of_ble_eq_true rfl⟩) ⟨hp.1, va_recv F.2.2.2.1.1 w.1 (q0 := 0) (ci := 6) rfl rfl, hp.2⟩ rfl rfl hl.1 rfl (lv_room (Nat.le_of_ble_eq_true rfl)) dX6_takesOrder_82 ⟨Nat.le_of_ble_eq_true rfl, Nat.le_of_ble_eq_true rfl⟩)
            (fun _ H locs h_80 w => ?_)
          refine lv_aload_n hx hb dX6_takesOrder_85 rfl (lv_at hl 1 rfl) ?_
          refine lv_aload_n hx hb dX6_takesOrder_86 rfl (lv_at hl 1 rfl) ?_
          rcases (show dgZ (chZ T ln (sp + 1)) = false ∨ dgZ (chZ T ln (sp + 1)) = true from by cases dgZ (chZ T ln (sp + 1)) <;> simp) with h_82 | h_82
          · skip
            refine kcalli (wc := [cM μ iK kn ln th (sp + 1) sp true (hrZ T ln sp) fi se re ca, xI g (μ 6) 60 T]) (wr := []) (wn := fun (u : Unit) => [cM μ iK kn ln th (sp + 1) sp false (hrZ T ln sp) fi se re ca, xI g (μ 6) 60 T]) F w [0, 1] [] [0, 1] rfl rfl rfl (fun _ => rfl)
              (fun hp => va_runV (As := []) (rest := [.ref (μ 0)]) F.1 (kX6_takesNumber_n l g μ iK kn ln th (sp + 1) sp false (hrZ T ln sp) fi se re ca T H.size (by omega) (by omega) h_82) (cwV 0 hts gX6_takesOrder_X6_takesNumber rfl rfl rfl ⟨rfl, hd_X6_takesNumber⟩ ⟨Nat.le_of_ble_eq_true rfl, Nat.le_of_ble_eq_true rfl⟩) ⟨hp.1, va_recv F.2.2.2.1.1 w.1 (q0 := 0) (ci := 6) rfl rfl, hp.2⟩ rfl rfl hl.1 rfl (lv_room (Nat.le_of_ble_eq_true rfl)) dX6_takesOrder_87 ⟨Nat.le_of_ble_eq_true rfl, Nat.le_of_ble_eq_true rfl⟩)
              (fun r_83 _ H locs h_84 w => ?_)
            subst h_84
            refine kput (fs := [.ref (μ 1), .ref (μ 2), .ref (μ 3), .ref (μ 4), .int (bI iK), .ref (μ 5), .int (nI kn), .ref (μ 6), .int (nI ln), .int (nI th), .int (nI (sp + 1)), .int (nI sp), .int (bI false), .int (hrZ T ln sp), .int (nI fi), .int (nI se), .int (nI re), .int (nI ca)]) F w in_X6_takesOrder_X6 tyX6_ok nmX6 0 rfl rfl 14 (by decide) (by decide +kernel) rfl rfl (rfl) (rfl) (Nat.le_of_ble_eq_true rfl) (wn := [cM μ iK kn ln th (sp + 1) sp false (hrZ T ln sp) 0 se re ca, xI g (μ 6) 60 T]) rfl dX6_takesOrder_90 (fun H locs w => ?_)
            refine lv_iload_n hx hb dX6_takesOrder_93 rfl (lv_at hl 0 rfl) ?_
            refine lv_if_eq (tgt := 123) hx hb dX6_takesOrder_94 (by decide) (fun h_85 => ?_) (fun h_85 => ?_)
            · have h_85 : 0 = 0 := (kc0_eq_t (by omega)).mp h_85
              refine lv_aload_n hx hb dX6_takesOrder_123 rfl (lv_at hl 1 rfl) ?_
              refine lv_aload_n hx hb dX6_takesOrder_124 rfl (lv_at hl 1 rfl) ?_
              refine kcalli (wc := [cM μ iK kn ln th (sp + 1) sp false (hrZ T ln sp) 0 se re ca, xI g (μ 6) 60 T]) (wr := []) (wn := fun (u : Unit) => [cM μ iK kn ln th (sp + 1) sp false (hrZ T ln sp) 0 se re ca, xI g (μ 6) 60 T]) F w [0, 1] [] [0, 1] rfl rfl rfl (fun _ => rfl)
                (fun hp => va_runV (As := []) (rest := [.ref (μ 0)]) F.1 (kX6_here l g μ iK kn ln th (sp + 1) sp false (hrZ T ln sp) 0 se re ca T H.size (by omega) (by omega)) (cwV 0 hts gX6_takesOrder_X6_here rfl rfl rfl ⟨rfl, hd_X6_here⟩ ⟨Nat.le_of_ble_eq_true rfl, Nat.le_of_ble_eq_true rfl⟩) ⟨hp.1, va_recv F.2.2.2.1.1 w.1 (q0 := 0) (ci := 6) rfl rfl, hp.2⟩ rfl rfl hl.1 rfl (lv_room (Nat.le_of_ble_eq_true rfl)) dX6_takesOrder_125 ⟨Nat.le_of_ble_eq_true rfl, Nat.le_of_ble_eq_true rfl⟩)
                (fun r_86 _ H locs h_87 w => ?_)
              subst h_87
              refine lv_bipush (v := nI 59) hx hb dX6_takesOrder_128 (by decide) ?_
              refine lv_icmp_ne (tgt := 137) hx hb dX6_takesOrder_130 (by decide) (fun h_88 => ?_) (fun h_88 => ?_)
              · have h_88 : ¬ chZ T ln (sp + 1) = nI 59 := fun hc => h_88 ((hr_eq (by decide) (by decide)).mpr hc)
                refine lv_iconst (v := nI 0) hx hb dX6_takesOrder_137 (by decide) ?_
                refine ktopi (y := bI false) (by decide) ?_
                refine kcallv (wc := [cM μ iK kn ln th (sp + 1) sp false (hrZ T ln sp) 0 se re ca]) (wr := [xI g (μ 6) 60 T]) (wn := fun (u : Unit) => [cM μ iK kn ln th (sp + 1 + 0) sp false (hrZ T ln sp) 0 se re ca, xI g (μ 6) 60 T]) F w [0] [1] [1, 0] rfl rfl rfl (fun _ => rfl)
                  (fun hp => va_runV (As := [.int (bI false)]) (rest := []) F.1 (kX6_takes_0 l g μ iK kn ln th (sp + 1) sp false (hrZ T ln sp) 0 se re ca false H.size ) (cwV 1 hts gX6_takesOrder_X6_takes rfl rfl rfl ⟨rfl, hd_X6_takes⟩ ⟨Nat.le_of_ble_eq_true rfl, Nat.le_of_ble_eq_true rfl⟩) ⟨hp.1, va_recv F.2.2.2.1.1 w.1 (q0 := 0) (ci := 6) rfl rfl, hp.2⟩ rfl rfl hl.1 rfl (lv_room (Nat.le_of_ble_eq_true rfl)) dX6_takesOrder_138 ⟨Nat.le_of_ble_eq_true rfl, Nat.le_of_ble_eq_true rfl⟩)
                  (fun _ H locs h_90 w => ?_)
                have hok : pOK T ln sp = false := by unfold pOK; simp [hv9, ht0, h_82]
                have hpe : pE T ln sp = sp + 1 := by unfold pE; simp [hv9, ht0, h_82]
                have w : kW g A s [cM μ iK kn ln th (pE T ln sp) sp (pOK T ln sp) (hrZ T ln sp) 0 se re ca, xI g (μ 6) 60 T] H locs := by
                  have w := w
                  rw [hpe, hok]; exact w
                subst hA
                subst hQ
                exact kretv F w (0, se) [0, 1] rfl rfl (fun hc => absurd (hok.symm.trans hc) (by decide)) (Nat.le_of_ble_eq_true rfl) (Nat.le_of_ble_eq_true rfl) dX6_takesOrder_141
              · have h_88 : chZ T ln (sp + 1) = nI 59 := (hr_eq (by decide) (by decide)).mp h_88
                refine lv_iconst (v := nI 1) hx hb dX6_takesOrder_133 (by decide) ?_
                refine lv_goto (tgt := 138) hx hb dX6_takesOrder_134 (by decide) ?_
                refine ktopi (y := bI true) (by decide) ?_
                refine kcallv (wc := [cM μ iK kn ln th (sp + 1) sp false (hrZ T ln sp) 0 se re ca]) (wr := [xI g (μ 6) 60 T]) (wn := fun (u : Unit) => [cM μ iK kn ln th (sp + 1 + 0) sp false (hrZ T ln sp) 0 se re ca, xI g (μ 6) 60 T]) F w [0] [1] [1, 0] rfl rfl rfl (fun _ => rfl)
                  (fun hp => va_runV (As := [.int (bI true)]) (rest := []) F.1 (kX6_takes_0 l g μ iK kn ln th (sp + 1) sp false (hrZ T ln sp) 0 se re ca true H.size ) (cwV 1 hts gX6_takesOrder_X6_takes rfl rfl rfl ⟨rfl, hd_X6_takes⟩ ⟨Nat.le_of_ble_eq_true rfl, Nat.le_of_ble_eq_true rfl⟩) ⟨hp.1, va_recv F.2.2.2.1.1 w.1 (q0 := 0) (ci := 6) rfl rfl, hp.2⟩ rfl rfl hl.1 rfl (lv_room (Nat.le_of_ble_eq_true rfl)) dX6_takesOrder_138 ⟨Nat.le_of_ble_eq_true rfl, Nat.le_of_ble_eq_true rfl⟩)
                  (fun _ H locs h_92 w => ?_)
                have hok : pOK T ln sp = false := by unfold pOK; simp [hv9, ht0, h_82]
                have hpe : pE T ln sp = sp + 1 := by unfold pE; simp [hv9, ht0, h_82]
                have w : kW g A s [cM μ iK kn ln th (pE T ln sp) sp (pOK T ln sp) (hrZ T ln sp) 0 se re ca, xI g (μ 6) 60 T] H locs := by
                  have w := w
                  rw [hpe, hok]; exact w
                subst hA
                subst hQ
                exact kretv F w (0, se) [0, 1] rfl rfl (fun hc => absurd (hok.symm.trans hc) (by decide)) (Nat.le_of_ble_eq_true rfl) (Nat.le_of_ble_eq_true rfl) dX6_takesOrder_141
            · have h_85 : 0 ≠ 0 := (kc0_eq_f (by omega)).mp h_85
              omega
          · skip
            refine kcalli (wc := [cM μ iK kn ln th (sp + 1) sp true (hrZ T ln sp) fi se re ca, xI g (μ 6) 60 T]) (wr := []) (wn := fun (u : Unit) => [cM μ iK kn ln th (nEz T ln (sp + 1)) sp true (hrZ T ln sp) fi se re ca, xI g (μ 6) 60 T]) F w [0, 1] [] [0, 1] rfl rfl rfl (fun _ => rfl)
              (fun hp => va_runV (As := []) (rest := [.ref (μ 0)]) F.1 (kX6_takesNumber_k l g μ iK kn ln th (sp + 1) sp false (hrZ T ln sp) fi se re ca T H.size (by omega) (by omega) h_82) (cwV 0 hts gX6_takesOrder_X6_takesNumber rfl rfl rfl ⟨rfl, hd_X6_takesNumber⟩ ⟨Nat.le_of_ble_eq_true rfl, Nat.le_of_ble_eq_true rfl⟩) ⟨hp.1, va_recv F.2.2.2.1.1 w.1 (q0 := 0) (ci := 6) rfl rfl, hp.2⟩ rfl rfl hl.1 rfl (lv_room (Nat.le_of_ble_eq_true rfl)) dX6_takesOrder_87 ⟨Nat.le_of_ble_eq_true rfl, Nat.le_of_ble_eq_true rfl⟩)
              (fun r_93 _ H locs h_94 w => ?_)
            subst h_94
            have hz9 := nEz_le (T := T) (L := ln) (p := sp + 1)
            refine kput (fs := [.ref (μ 1), .ref (μ 2), .ref (μ 3), .ref (μ 4), .int (bI iK), .ref (μ 5), .int (nI kn), .ref (μ 6), .int (nI ln), .int (nI th), .int (nI (nEz T ln (sp + 1))), .int (nI sp), .int (bI true), .int (hrZ T ln sp), .int (nI fi), .int (nI se), .int (nI re), .int (nI ca)]) F w in_X6_takesOrder_X6 tyX6_ok nmX6 0 rfl rfl 14 (by decide) (by decide +kernel) rfl rfl (rfl) (rfl) (Nat.le_of_ble_eq_true rfl) (wn := [cM μ iK kn ln th (nEz T ln (sp + 1)) sp true (hrZ T ln sp) (nVz T ln (sp + 1)) se re ca, xI g (μ 6) 60 T]) rfl dX6_takesOrder_90 (fun H locs w => ?_)
            refine lv_iload_n hx hb dX6_takesOrder_93 rfl (lv_at hl 0 rfl) ?_
            refine lv_if_eq (tgt := 123) hx hb dX6_takesOrder_94 (by decide) (fun h_95 => ?_) (fun h_95 => ?_)
            · have h_95 : 0 = 0 := (kc0_eq_t (by omega)).mp h_95
              refine lv_aload_n hx hb dX6_takesOrder_123 rfl (lv_at hl 1 rfl) ?_
              refine lv_aload_n hx hb dX6_takesOrder_124 rfl (lv_at hl 1 rfl) ?_
              refine kcalli (wc := [cM μ iK kn ln th (nEz T ln (sp + 1)) sp true (hrZ T ln sp) (nVz T ln (sp + 1)) se re ca, xI g (μ 6) 60 T]) (wr := []) (wn := fun (u : Unit) => [cM μ iK kn ln th (nEz T ln (sp + 1)) sp true (hrZ T ln sp) (nVz T ln (sp + 1)) se re ca, xI g (μ 6) 60 T]) F w [0, 1] [] [0, 1] rfl rfl rfl (fun _ => rfl)
                (fun hp => va_runV (As := []) (rest := [.ref (μ 0)]) F.1 (kX6_here l g μ iK kn ln th (nEz T ln (sp + 1)) sp true (hrZ T ln sp) (nVz T ln (sp + 1)) se re ca T H.size (by omega) (by omega)) (cwV 0 hts gX6_takesOrder_X6_here rfl rfl rfl ⟨rfl, hd_X6_here⟩ ⟨Nat.le_of_ble_eq_true rfl, Nat.le_of_ble_eq_true rfl⟩) ⟨hp.1, va_recv F.2.2.2.1.1 w.1 (q0 := 0) (ci := 6) rfl rfl, hp.2⟩ rfl rfl hl.1 rfl (lv_room (Nat.le_of_ble_eq_true rfl)) dX6_takesOrder_125 ⟨Nat.le_of_ble_eq_true rfl, Nat.le_of_ble_eq_true rfl⟩)
                (fun r_96 _ H locs h_97 w => ?_)
              subst h_97
              refine lv_bipush (v := nI 59) hx hb dX6_takesOrder_128 (by decide) ?_
              refine lv_icmp_ne (tgt := 137) hx hb dX6_takesOrder_130 (by decide) (fun h_98 => ?_) (fun h_98 => ?_)
              · have h_98 : ¬ chZ T ln (nEz T ln (sp + 1)) = nI 59 := fun hc => h_98 ((hr_eq (by decide) (by decide)).mpr hc)
                refine lv_iconst (v := nI 0) hx hb dX6_takesOrder_137 (by decide) ?_
                refine ktopi (y := bI false) (by decide) ?_
                refine kcallv (wc := [cM μ iK kn ln th (nEz T ln (sp + 1)) sp true (hrZ T ln sp) (nVz T ln (sp + 1)) se re ca]) (wr := [xI g (μ 6) 60 T]) (wn := fun (u : Unit) => [cM μ iK kn ln th ((nEz T ln (sp + 1)) + 0) sp false (hrZ T ln sp) (nVz T ln (sp + 1)) se re ca, xI g (μ 6) 60 T]) F w [0] [1] [1, 0] rfl rfl rfl (fun _ => rfl)
                  (fun hp => va_runV (As := [.int (bI false)]) (rest := []) F.1 (kX6_takes_10 l g μ iK kn ln th (nEz T ln (sp + 1)) sp false (hrZ T ln sp) (nVz T ln (sp + 1)) se re ca H.size ) (cwV 1 hts gX6_takesOrder_X6_takes rfl rfl rfl ⟨rfl, hd_X6_takes⟩ ⟨Nat.le_of_ble_eq_true rfl, Nat.le_of_ble_eq_true rfl⟩) ⟨hp.1, va_recv F.2.2.2.1.1 w.1 (q0 := 0) (ci := 6) rfl rfl, hp.2⟩ rfl rfl hl.1 rfl (lv_room (Nat.le_of_ble_eq_true rfl)) dX6_takesOrder_138 ⟨Nat.le_of_ble_eq_true rfl, Nat.le_of_ble_eq_true rfl⟩)
                  (fun _ H locs h_100 w => ?_)
                have hok : pOK T ln sp = false := by unfold pOK; simp [hv9, ht0, h_82, h_98]
                have hpe : pE T ln sp = (nEz T ln (sp + 1)) := by unfold pE; simp [hv9, ht0, h_82, h_98]
                have w : kW g A s [cM μ iK kn ln th (pE T ln sp) sp (pOK T ln sp) (hrZ T ln sp) (nVz T ln (sp + 1)) se re ca, xI g (μ 6) 60 T] H locs := by
                  have w := w
                  rw [hpe, hok]; exact w
                subst hA
                subst hQ
                exact kretv F w (nVz T ln (sp + 1), se) [0, 1] rfl rfl (fun hc => absurd (hok.symm.trans hc) (by decide)) (Nat.le_of_ble_eq_true rfl) (Nat.le_of_ble_eq_true rfl) dX6_takesOrder_141
              · have h_98 : chZ T ln (nEz T ln (sp + 1)) = nI 59 := (hr_eq (by decide) (by decide)).mp h_98
                refine lv_iconst (v := nI 1) hx hb dX6_takesOrder_133 (by decide) ?_
                refine lv_goto (tgt := 138) hx hb dX6_takesOrder_134 (by decide) ?_
                refine ktopi (y := bI true) (by decide) ?_
                refine kcallv (wc := [cM μ iK kn ln th (nEz T ln (sp + 1)) sp true (hrZ T ln sp) (nVz T ln (sp + 1)) se re ca]) (wr := [xI g (μ 6) 60 T]) (wn := fun (u : Unit) => [cM μ iK kn ln th ((nEz T ln (sp + 1)) + 1) sp true (hrZ T ln sp) (nVz T ln (sp + 1)) se re ca, xI g (μ 6) 60 T]) F w [0] [1] [1, 0] rfl rfl rfl (fun _ => rfl)
                  (fun hp => va_runV (As := [.int (bI true)]) (rest := []) F.1 (kX6_takes_11 l g μ iK kn ln th (nEz T ln (sp + 1)) sp false (hrZ T ln sp) (nVz T ln (sp + 1)) se re ca H.size ) (cwV 1 hts gX6_takesOrder_X6_takes rfl rfl rfl ⟨rfl, hd_X6_takes⟩ ⟨Nat.le_of_ble_eq_true rfl, Nat.le_of_ble_eq_true rfl⟩) ⟨hp.1, va_recv F.2.2.2.1.1 w.1 (q0 := 0) (ci := 6) rfl rfl, hp.2⟩ rfl rfl hl.1 rfl (lv_room (Nat.le_of_ble_eq_true rfl)) dX6_takesOrder_138 ⟨Nat.le_of_ble_eq_true rfl, Nat.le_of_ble_eq_true rfl⟩)
                  (fun _ H locs h_102 w => ?_)
                have hok : pOK T ln sp = true := by unfold pOK; simp [hv9, ht0, h_82, h_98]
                have hpe : pE T ln sp = (nEz T ln (sp + 1)) + 1 := by unfold pE; simp [hv9, ht0, h_82, h_98]
                have w : kW g A s [cM μ iK kn ln th (pE T ln sp) sp (pOK T ln sp) (hrZ T ln sp) (nVz T ln (sp + 1)) se re ca, xI g (μ 6) 60 T] H locs := by
                  have w := w
                  rw [hpe, hok]; exact w
                subst hA
                subst hQ
                exact kretv F w (nVz T ln (sp + 1), se) [0, 1] rfl rfl (fun _ => ⟨rfl, fun ht => absurd ht (by rw [ht0]; decide)⟩) (Nat.le_of_ble_eq_true rfl) (Nat.le_of_ble_eq_true rfl) dX6_takesOrder_141
            · have h_95 : 0 ≠ 0 := (kc0_eq_f (by omega)).mp h_95
              omega
        · have h_78 : ¬ chZ T ln sp = nI 112 := fun hc => h_78 ((hr_eq (by decide) (by decide)).mpr hc)
          refine lv_aload_n hx hb dX6_takesOrder_59 rfl (lv_at hl 1 rfl) ?_
          refine kget (fs := [.ref (μ 1), .ref (μ 2), .ref (μ 3), .ref (μ 4), .int (bI iK), .ref (μ 5), .int (nI kn), .ref (μ 6), .int (nI ln), .int (nI th), .int (nI sp), .int (nI sp), .int (bI true), .int (hrZ T ln sp), .int (nI fi), .int (nI se), .int (nI re), .int (nI ca)]) F w in_X6_takesOrder_X6 0 rfl rfl 13 (by decide) (by decide +kernel) rfl rfl dX6_takesOrder_60 ?_
          refine lv_bipush (v := nI 100) hx hb dX6_takesOrder_63 (by decide) ?_
          refine lv_icmp_eq (tgt := 77) hx hb dX6_takesOrder_65 (by decide) (fun h_103 => ?_) (fun h_103 => ?_)
          · have h_103 : chZ T ln sp = nI 100 := (hr_eq (by decide) (by decide)).mp h_103
            have hv9 : vbZ (chZ T ln sp) = true := by rw [h_103]; decide
            have ht0 : twZ (chZ T ln sp) = false := by rw [h_103]; decide
            refine lv_iconst (v := nI 1) hx hb dX6_takesOrder_77 (by decide) ?_
            refine lv_goto (tgt := 82) hx hb dX6_takesOrder_78 (by decide) ?_
            refine ktopi (y := bI true) (by decide) ?_
            refine kcallv (wc := [cM μ iK kn ln th sp sp true (hrZ T ln sp) fi se re ca]) (wr := [xI g (μ 6) 60 T]) (wn := fun (u : Unit) => [cM μ iK kn ln th (sp + 1) sp true (hrZ T ln sp) fi se re ca, xI g (μ 6) 60 T]) F w [0] [1] [1, 0] rfl rfl rfl (fun _ => rfl)
              (fun hp => va_runV (As := [.int (bI true)]) (rest := []) F.1 (kX6_takes_11 l g μ iK kn ln th sp sp false (hrZ T ln sp) fi se re ca H.size ) (cwV 1 hts gX6_takesOrder_X6_takes rfl rfl rfl ⟨rfl, hd_X6_takes⟩ ⟨Nat.le_of_ble_eq_true rfl, Nat.le_of_ble_eq_true rfl⟩) ⟨hp.1, va_recv F.2.2.2.1.1 w.1 (q0 := 0) (ci := 6) rfl rfl, hp.2⟩ rfl rfl hl.1 rfl (lv_room (Nat.le_of_ble_eq_true rfl)) dX6_takesOrder_82 ⟨Nat.le_of_ble_eq_true rfl, Nat.le_of_ble_eq_true rfl⟩)
              (fun _ H locs h_105 w => ?_)
            refine lv_aload_n hx hb dX6_takesOrder_85 rfl (lv_at hl 1 rfl) ?_
            refine lv_aload_n hx hb dX6_takesOrder_86 rfl (lv_at hl 1 rfl) ?_
            rcases (show dgZ (chZ T ln (sp + 1)) = false ∨ dgZ (chZ T ln (sp + 1)) = true from by cases dgZ (chZ T ln (sp + 1)) <;> simp) with h_107 | h_107
            · skip
              refine kcalli (wc := [cM μ iK kn ln th (sp + 1) sp true (hrZ T ln sp) fi se re ca, xI g (μ 6) 60 T]) (wr := []) (wn := fun (u : Unit) => [cM μ iK kn ln th (sp + 1) sp false (hrZ T ln sp) fi se re ca, xI g (μ 6) 60 T]) F w [0, 1] [] [0, 1] rfl rfl rfl (fun _ => rfl)
                (fun hp => va_runV (As := []) (rest := [.ref (μ 0)]) F.1 (kX6_takesNumber_n l g μ iK kn ln th (sp + 1) sp false (hrZ T ln sp) fi se re ca T H.size (by omega) (by omega) h_107) (cwV 0 hts gX6_takesOrder_X6_takesNumber rfl rfl rfl ⟨rfl, hd_X6_takesNumber⟩ ⟨Nat.le_of_ble_eq_true rfl, Nat.le_of_ble_eq_true rfl⟩) ⟨hp.1, va_recv F.2.2.2.1.1 w.1 (q0 := 0) (ci := 6) rfl rfl, hp.2⟩ rfl rfl hl.1 rfl (lv_room (Nat.le_of_ble_eq_true rfl)) dX6_takesOrder_87 ⟨Nat.le_of_ble_eq_true rfl, Nat.le_of_ble_eq_true rfl⟩)
                (fun r_108 _ H locs h_109 w => ?_)
              subst h_109
              refine kput (fs := [.ref (μ 1), .ref (μ 2), .ref (μ 3), .ref (μ 4), .int (bI iK), .ref (μ 5), .int (nI kn), .ref (μ 6), .int (nI ln), .int (nI th), .int (nI (sp + 1)), .int (nI sp), .int (bI false), .int (hrZ T ln sp), .int (nI fi), .int (nI se), .int (nI re), .int (nI ca)]) F w in_X6_takesOrder_X6 tyX6_ok nmX6 0 rfl rfl 14 (by decide) (by decide +kernel) rfl rfl (rfl) (rfl) (Nat.le_of_ble_eq_true rfl) (wn := [cM μ iK kn ln th (sp + 1) sp false (hrZ T ln sp) 0 se re ca, xI g (μ 6) 60 T]) rfl dX6_takesOrder_90 (fun H locs w => ?_)
              refine lv_iload_n hx hb dX6_takesOrder_93 rfl (lv_at hl 0 rfl) ?_
              refine lv_if_eq (tgt := 123) hx hb dX6_takesOrder_94 (by decide) (fun h_110 => ?_) (fun h_110 => ?_)
              · have h_110 : 0 = 0 := (kc0_eq_t (by omega)).mp h_110
                refine lv_aload_n hx hb dX6_takesOrder_123 rfl (lv_at hl 1 rfl) ?_
                refine lv_aload_n hx hb dX6_takesOrder_124 rfl (lv_at hl 1 rfl) ?_
                refine kcalli (wc := [cM μ iK kn ln th (sp + 1) sp false (hrZ T ln sp) 0 se re ca, xI g (μ 6) 60 T]) (wr := []) (wn := fun (u : Unit) => [cM μ iK kn ln th (sp + 1) sp false (hrZ T ln sp) 0 se re ca, xI g (μ 6) 60 T]) F w [0, 1] [] [0, 1] rfl rfl rfl (fun _ => rfl)
                  (fun hp => va_runV (As := []) (rest := [.ref (μ 0)]) F.1 (kX6_here l g μ iK kn ln th (sp + 1) sp false (hrZ T ln sp) 0 se re ca T H.size (by omega) (by omega)) (cwV 0 hts gX6_takesOrder_X6_here rfl rfl rfl ⟨rfl, hd_X6_here⟩ ⟨Nat.le_of_ble_eq_true rfl, Nat.le_of_ble_eq_true rfl⟩) ⟨hp.1, va_recv F.2.2.2.1.1 w.1 (q0 := 0) (ci := 6) rfl rfl, hp.2⟩ rfl rfl hl.1 rfl (lv_room (Nat.le_of_ble_eq_true rfl)) dX6_takesOrder_125 ⟨Nat.le_of_ble_eq_true rfl, Nat.le_of_ble_eq_true rfl⟩)
                  (fun r_111 _ H locs h_112 w => ?_)
                subst h_112
                refine lv_bipush (v := nI 59) hx hb dX6_takesOrder_128 (by decide) ?_
                refine lv_icmp_ne (tgt := 137) hx hb dX6_takesOrder_130 (by decide) (fun h_113 => ?_) (fun h_113 => ?_)
                · have h_113 : ¬ chZ T ln (sp + 1) = nI 59 := fun hc => h_113 ((hr_eq (by decide) (by decide)).mpr hc)
                  refine lv_iconst (v := nI 0) hx hb dX6_takesOrder_137 (by decide) ?_
                  refine ktopi (y := bI false) (by decide) ?_
                  refine kcallv (wc := [cM μ iK kn ln th (sp + 1) sp false (hrZ T ln sp) 0 se re ca]) (wr := [xI g (μ 6) 60 T]) (wn := fun (u : Unit) => [cM μ iK kn ln th (sp + 1 + 0) sp false (hrZ T ln sp) 0 se re ca, xI g (μ 6) 60 T]) F w [0] [1] [1, 0] rfl rfl rfl (fun _ => rfl)
                    (fun hp => va_runV (As := [.int (bI false)]) (rest := []) F.1 (kX6_takes_0 l g μ iK kn ln th (sp + 1) sp false (hrZ T ln sp) 0 se re ca false H.size ) (cwV 1 hts gX6_takesOrder_X6_takes rfl rfl rfl ⟨rfl, hd_X6_takes⟩ ⟨Nat.le_of_ble_eq_true rfl, Nat.le_of_ble_eq_true rfl⟩) ⟨hp.1, va_recv F.2.2.2.1.1 w.1 (q0 := 0) (ci := 6) rfl rfl, hp.2⟩ rfl rfl hl.1 rfl (lv_room (Nat.le_of_ble_eq_true rfl)) dX6_takesOrder_138 ⟨Nat.le_of_ble_eq_true rfl, Nat.le_of_ble_eq_true rfl⟩)
                    (fun _ H locs h_115 w => ?_)
                  have hok : pOK T ln sp = false := by unfold pOK; simp [hv9, ht0, h_107]
                  have hpe : pE T ln sp = sp + 1 := by unfold pE; simp [hv9, ht0, h_107]
                  have w : kW g A s [cM μ iK kn ln th (pE T ln sp) sp (pOK T ln sp) (hrZ T ln sp) 0 se re ca, xI g (μ 6) 60 T] H locs := by
                    have w := w
                    rw [hpe, hok]; exact w
                  subst hA
                  subst hQ
                  exact kretv F w (0, se) [0, 1] rfl rfl (fun hc => absurd (hok.symm.trans hc) (by decide)) (Nat.le_of_ble_eq_true rfl) (Nat.le_of_ble_eq_true rfl) dX6_takesOrder_141
                · have h_113 : chZ T ln (sp + 1) = nI 59 := (hr_eq (by decide) (by decide)).mp h_113
                  refine lv_iconst (v := nI 1) hx hb dX6_takesOrder_133 (by decide) ?_
                  refine lv_goto (tgt := 138) hx hb dX6_takesOrder_134 (by decide) ?_
                  refine ktopi (y := bI true) (by decide) ?_
                  refine kcallv (wc := [cM μ iK kn ln th (sp + 1) sp false (hrZ T ln sp) 0 se re ca]) (wr := [xI g (μ 6) 60 T]) (wn := fun (u : Unit) => [cM μ iK kn ln th (sp + 1 + 0) sp false (hrZ T ln sp) 0 se re ca, xI g (μ 6) 60 T]) F w [0] [1] [1, 0] rfl rfl rfl (fun _ => rfl)
                    (fun hp => va_runV (As := [.int (bI true)]) (rest := []) F.1 (kX6_takes_0 l g μ iK kn ln th (sp + 1) sp false (hrZ T ln sp) 0 se re ca true H.size ) (cwV 1 hts gX6_takesOrder_X6_takes rfl rfl rfl ⟨rfl, hd_X6_takes⟩ ⟨Nat.le_of_ble_eq_true rfl, Nat.le_of_ble_eq_true rfl⟩) ⟨hp.1, va_recv F.2.2.2.1.1 w.1 (q0 := 0) (ci := 6) rfl rfl, hp.2⟩ rfl rfl hl.1 rfl (lv_room (Nat.le_of_ble_eq_true rfl)) dX6_takesOrder_138 ⟨Nat.le_of_ble_eq_true rfl, Nat.le_of_ble_eq_true rfl⟩)
                    (fun _ H locs h_117 w => ?_)
                  have hok : pOK T ln sp = false := by unfold pOK; simp [hv9, ht0, h_107]
                  have hpe : pE T ln sp = sp + 1 := by unfold pE; simp [hv9, ht0, h_107]
                  have w : kW g A s [cM μ iK kn ln th (pE T ln sp) sp (pOK T ln sp) (hrZ T ln sp) 0 se re ca, xI g (μ 6) 60 T] H locs := by
                    have w := w
                    rw [hpe, hok]; exact w
                  subst hA
                  subst hQ
                  exact kretv F w (0, se) [0, 1] rfl rfl (fun hc => absurd (hok.symm.trans hc) (by decide)) (Nat.le_of_ble_eq_true rfl) (Nat.le_of_ble_eq_true rfl) dX6_takesOrder_141
              · have h_110 : 0 ≠ 0 := (kc0_eq_f (by omega)).mp h_110
                omega
            · skip
              refine kcalli (wc := [cM μ iK kn ln th (sp + 1) sp true (hrZ T ln sp) fi se re ca, xI g (μ 6) 60 T]) (wr := []) (wn := fun (u : Unit) => [cM μ iK kn ln th (nEz T ln (sp + 1)) sp true (hrZ T ln sp) fi se re ca, xI g (μ 6) 60 T]) F w [0, 1] [] [0, 1] rfl rfl rfl (fun _ => rfl)
                (fun hp => va_runV (As := []) (rest := [.ref (μ 0)]) F.1 (kX6_takesNumber_k l g μ iK kn ln th (sp + 1) sp false (hrZ T ln sp) fi se re ca T H.size (by omega) (by omega) h_107) (cwV 0 hts gX6_takesOrder_X6_takesNumber rfl rfl rfl ⟨rfl, hd_X6_takesNumber⟩ ⟨Nat.le_of_ble_eq_true rfl, Nat.le_of_ble_eq_true rfl⟩) ⟨hp.1, va_recv F.2.2.2.1.1 w.1 (q0 := 0) (ci := 6) rfl rfl, hp.2⟩ rfl rfl hl.1 rfl (lv_room (Nat.le_of_ble_eq_true rfl)) dX6_takesOrder_87 ⟨Nat.le_of_ble_eq_true rfl, Nat.le_of_ble_eq_true rfl⟩)
                (fun r_118 _ H locs h_119 w => ?_)
              subst h_119
              have hz9 := nEz_le (T := T) (L := ln) (p := sp + 1)
              refine kput (fs := [.ref (μ 1), .ref (μ 2), .ref (μ 3), .ref (μ 4), .int (bI iK), .ref (μ 5), .int (nI kn), .ref (μ 6), .int (nI ln), .int (nI th), .int (nI (nEz T ln (sp + 1))), .int (nI sp), .int (bI true), .int (hrZ T ln sp), .int (nI fi), .int (nI se), .int (nI re), .int (nI ca)]) F w in_X6_takesOrder_X6 tyX6_ok nmX6 0 rfl rfl 14 (by decide) (by decide +kernel) rfl rfl (rfl) (rfl) (Nat.le_of_ble_eq_true rfl) (wn := [cM μ iK kn ln th (nEz T ln (sp + 1)) sp true (hrZ T ln sp) (nVz T ln (sp + 1)) se re ca, xI g (μ 6) 60 T]) rfl dX6_takesOrder_90 (fun H locs w => ?_)
              refine lv_iload_n hx hb dX6_takesOrder_93 rfl (lv_at hl 0 rfl) ?_
              refine lv_if_eq (tgt := 123) hx hb dX6_takesOrder_94 (by decide) (fun h_120 => ?_) (fun h_120 => ?_)
              · have h_120 : 0 = 0 := (kc0_eq_t (by omega)).mp h_120
                refine lv_aload_n hx hb dX6_takesOrder_123 rfl (lv_at hl 1 rfl) ?_
                refine lv_aload_n hx hb dX6_takesOrder_124 rfl (lv_at hl 1 rfl) ?_
                refine kcalli (wc := [cM μ iK kn ln th (nEz T ln (sp + 1)) sp true (hrZ T ln sp) (nVz T ln (sp + 1)) se re ca, xI g (μ 6) 60 T]) (wr := []) (wn := fun (u : Unit) => [cM μ iK kn ln th (nEz T ln (sp + 1)) sp true (hrZ T ln sp) (nVz T ln (sp + 1)) se re ca, xI g (μ 6) 60 T]) F w [0, 1] [] [0, 1] rfl rfl rfl (fun _ => rfl)
                  (fun hp => va_runV (As := []) (rest := [.ref (μ 0)]) F.1 (kX6_here l g μ iK kn ln th (nEz T ln (sp + 1)) sp true (hrZ T ln sp) (nVz T ln (sp + 1)) se re ca T H.size (by omega) (by omega)) (cwV 0 hts gX6_takesOrder_X6_here rfl rfl rfl ⟨rfl, hd_X6_here⟩ ⟨Nat.le_of_ble_eq_true rfl, Nat.le_of_ble_eq_true rfl⟩) ⟨hp.1, va_recv F.2.2.2.1.1 w.1 (q0 := 0) (ci := 6) rfl rfl, hp.2⟩ rfl rfl hl.1 rfl (lv_room (Nat.le_of_ble_eq_true rfl)) dX6_takesOrder_125 ⟨Nat.le_of_ble_eq_true rfl, Nat.le_of_ble_eq_true rfl⟩)
                  (fun r_121 _ H locs h_122 w => ?_)
                subst h_122
                refine lv_bipush (v := nI 59) hx hb dX6_takesOrder_128 (by decide) ?_
                refine lv_icmp_ne (tgt := 137) hx hb dX6_takesOrder_130 (by decide) (fun h_123 => ?_) (fun h_123 => ?_)
                · have h_123 : ¬ chZ T ln (nEz T ln (sp + 1)) = nI 59 := fun hc => h_123 ((hr_eq (by decide) (by decide)).mpr hc)
                  refine lv_iconst (v := nI 0) hx hb dX6_takesOrder_137 (by decide) ?_
                  refine ktopi (y := bI false) (by decide) ?_
                  refine kcallv (wc := [cM μ iK kn ln th (nEz T ln (sp + 1)) sp true (hrZ T ln sp) (nVz T ln (sp + 1)) se re ca]) (wr := [xI g (μ 6) 60 T]) (wn := fun (u : Unit) => [cM μ iK kn ln th ((nEz T ln (sp + 1)) + 0) sp false (hrZ T ln sp) (nVz T ln (sp + 1)) se re ca, xI g (μ 6) 60 T]) F w [0] [1] [1, 0] rfl rfl rfl (fun _ => rfl)
                    (fun hp => va_runV (As := [.int (bI false)]) (rest := []) F.1 (kX6_takes_10 l g μ iK kn ln th (nEz T ln (sp + 1)) sp false (hrZ T ln sp) (nVz T ln (sp + 1)) se re ca H.size ) (cwV 1 hts gX6_takesOrder_X6_takes rfl rfl rfl ⟨rfl, hd_X6_takes⟩ ⟨Nat.le_of_ble_eq_true rfl, Nat.le_of_ble_eq_true rfl⟩) ⟨hp.1, va_recv F.2.2.2.1.1 w.1 (q0 := 0) (ci := 6) rfl rfl, hp.2⟩ rfl rfl hl.1 rfl (lv_room (Nat.le_of_ble_eq_true rfl)) dX6_takesOrder_138 ⟨Nat.le_of_ble_eq_true rfl, Nat.le_of_ble_eq_true rfl⟩)
                    (fun _ H locs h_125 w => ?_)
                  have hok : pOK T ln sp = false := by unfold pOK; simp [hv9, ht0, h_107, h_123]
                  have hpe : pE T ln sp = (nEz T ln (sp + 1)) := by unfold pE; simp [hv9, ht0, h_107, h_123]
                  have w : kW g A s [cM μ iK kn ln th (pE T ln sp) sp (pOK T ln sp) (hrZ T ln sp) (nVz T ln (sp + 1)) se re ca, xI g (μ 6) 60 T] H locs := by
                    have w := w
                    rw [hpe, hok]; exact w
                  subst hA
                  subst hQ
                  exact kretv F w (nVz T ln (sp + 1), se) [0, 1] rfl rfl (fun hc => absurd (hok.symm.trans hc) (by decide)) (Nat.le_of_ble_eq_true rfl) (Nat.le_of_ble_eq_true rfl) dX6_takesOrder_141
                · have h_123 : chZ T ln (nEz T ln (sp + 1)) = nI 59 := (hr_eq (by decide) (by decide)).mp h_123
                  refine lv_iconst (v := nI 1) hx hb dX6_takesOrder_133 (by decide) ?_
                  refine lv_goto (tgt := 138) hx hb dX6_takesOrder_134 (by decide) ?_
                  refine ktopi (y := bI true) (by decide) ?_
                  refine kcallv (wc := [cM μ iK kn ln th (nEz T ln (sp + 1)) sp true (hrZ T ln sp) (nVz T ln (sp + 1)) se re ca]) (wr := [xI g (μ 6) 60 T]) (wn := fun (u : Unit) => [cM μ iK kn ln th ((nEz T ln (sp + 1)) + 1) sp true (hrZ T ln sp) (nVz T ln (sp + 1)) se re ca, xI g (μ 6) 60 T]) F w [0] [1] [1, 0] rfl rfl rfl (fun _ => rfl)
                    (fun hp => va_runV (As := [.int (bI true)]) (rest := []) F.1 (kX6_takes_11 l g μ iK kn ln th (nEz T ln (sp + 1)) sp false (hrZ T ln sp) (nVz T ln (sp + 1)) se re ca H.size ) (cwV 1 hts gX6_takesOrder_X6_takes rfl rfl rfl ⟨rfl, hd_X6_takes⟩ ⟨Nat.le_of_ble_eq_true rfl, Nat.le_of_ble_eq_true rfl⟩) ⟨hp.1, va_recv F.2.2.2.1.1 w.1 (q0 := 0) (ci := 6) rfl rfl, hp.2⟩ rfl rfl hl.1 rfl (lv_room (Nat.le_of_ble_eq_true rfl)) dX6_takesOrder_138 ⟨Nat.le_of_ble_eq_true rfl, Nat.le_of_ble_eq_true rfl⟩)
                    (fun _ H locs h_127 w => ?_)
                  have hok : pOK T ln sp = true := by unfold pOK; simp [hv9, ht0, h_107, h_123]
                  have hpe : pE T ln sp = (nEz T ln (sp + 1)) + 1 := by unfold pE; simp [hv9, ht0, h_107, h_123]
                  have w : kW g A s [cM μ iK kn ln th (pE T ln sp) sp (pOK T ln sp) (hrZ T ln sp) (nVz T ln (sp + 1)) se re ca, xI g (μ 6) 60 T] H locs := by
                    have w := w
                    rw [hpe, hok]; exact w
                  subst hA
                  subst hQ
                  exact kretv F w (nVz T ln (sp + 1), se) [0, 1] rfl rfl (fun _ => ⟨rfl, fun ht => absurd ht (by rw [ht0]; decide)⟩) (Nat.le_of_ble_eq_true rfl) (Nat.le_of_ble_eq_true rfl) dX6_takesOrder_141
              · have h_120 : 0 ≠ 0 := (kc0_eq_f (by omega)).mp h_120
                omega
          · have h_103 : ¬ chZ T ln sp = nI 100 := fun hc => h_103 ((hr_eq (by decide) (by decide)).mpr hc)
            refine lv_aload_n hx hb dX6_takesOrder_68 rfl (lv_at hl 1 rfl) ?_
            refine kget (fs := [.ref (μ 1), .ref (μ 2), .ref (μ 3), .ref (μ 4), .int (bI iK), .ref (μ 5), .int (nI kn), .ref (μ 6), .int (nI ln), .int (nI th), .int (nI sp), .int (nI sp), .int (bI true), .int (hrZ T ln sp), .int (nI fi), .int (nI se), .int (nI re), .int (nI ca)]) F w in_X6_takesOrder_X6 0 rfl rfl 13 (by decide) (by decide +kernel) rfl rfl dX6_takesOrder_69 ?_
            refine lv_bipush (v := nI 108) hx hb dX6_takesOrder_72 (by decide) ?_
            refine lv_icmp_ne (tgt := 81) hx hb dX6_takesOrder_74 (by decide) (fun h_128 => ?_) (fun h_128 => ?_)
            · have h_128 : ¬ chZ T ln sp = nI 108 := fun hc => h_128 ((hr_eq (by decide) (by decide)).mpr hc)
              have hv9 : vbZ (chZ T ln sp) = false := by unfold vbZ; simp [h_78, h_103, h_128, h_3, h_76]
              have ht0 : twZ (chZ T ln sp) = false := by unfold twZ; simp [h_3, h_76]
              refine lv_iconst (v := nI 0) hx hb dX6_takesOrder_81 (by decide) ?_
              refine ktopi (y := bI false) (by decide) ?_
              refine kcallv (wc := [cM μ iK kn ln th sp sp true (hrZ T ln sp) fi se re ca]) (wr := [xI g (μ 6) 60 T]) (wn := fun (u : Unit) => [cM μ iK kn ln th (sp + 0) sp false (hrZ T ln sp) fi se re ca, xI g (μ 6) 60 T]) F w [0] [1] [1, 0] rfl rfl rfl (fun _ => rfl)
                (fun hp => va_runV (As := [.int (bI false)]) (rest := []) F.1 (kX6_takes_10 l g μ iK kn ln th sp sp false (hrZ T ln sp) fi se re ca H.size ) (cwV 1 hts gX6_takesOrder_X6_takes rfl rfl rfl ⟨rfl, hd_X6_takes⟩ ⟨Nat.le_of_ble_eq_true rfl, Nat.le_of_ble_eq_true rfl⟩) ⟨hp.1, va_recv F.2.2.2.1.1 w.1 (q0 := 0) (ci := 6) rfl rfl, hp.2⟩ rfl rfl hl.1 rfl (lv_room (Nat.le_of_ble_eq_true rfl)) dX6_takesOrder_82 ⟨Nat.le_of_ble_eq_true rfl, Nat.le_of_ble_eq_true rfl⟩)
                (fun _ H locs h_130 w => ?_)
              refine lv_aload_n hx hb dX6_takesOrder_85 rfl (lv_at hl 1 rfl) ?_
              refine lv_aload_n hx hb dX6_takesOrder_86 rfl (lv_at hl 1 rfl) ?_
              refine kcalli (wc := [cM μ iK kn ln th (sp + 0) sp false (hrZ T ln sp) fi se re ca]) (wr := [xI g (μ 6) 60 T]) (wn := fun (u : Unit) => [cM μ iK kn ln th (sp + 0) sp false (hrZ T ln sp) fi se re ca, xI g (μ 6) 60 T]) F w [0] [1] [1, 0] rfl rfl rfl (fun _ => rfl)
                (fun hp => va_runV (As := []) (rest := [.ref (μ 0)]) F.1 (kX6_takesNumber_0 l g μ iK kn ln th (sp + 0) sp false (hrZ T ln sp) fi se re ca H.size ) (cwV 0 hts gX6_takesOrder_X6_takesNumber rfl rfl rfl ⟨rfl, hd_X6_takesNumber⟩ ⟨Nat.le_of_ble_eq_true rfl, Nat.le_of_ble_eq_true rfl⟩) ⟨hp.1, va_recv F.2.2.2.1.1 w.1 (q0 := 0) (ci := 6) rfl rfl, hp.2⟩ rfl rfl hl.1 rfl (lv_room (Nat.le_of_ble_eq_true rfl)) dX6_takesOrder_87 ⟨Nat.le_of_ble_eq_true rfl, Nat.le_of_ble_eq_true rfl⟩)
                (fun r_131 _ H locs h_132 w => ?_)
              subst h_132
              refine kput (fs := [.ref (μ 1), .ref (μ 2), .ref (μ 3), .ref (μ 4), .int (bI iK), .ref (μ 5), .int (nI kn), .ref (μ 6), .int (nI ln), .int (nI th), .int (nI (sp + 0)), .int (nI sp), .int (bI false), .int (hrZ T ln sp), .int (nI fi), .int (nI se), .int (nI re), .int (nI ca)]) F w in_X6_takesOrder_X6 tyX6_ok nmX6 0 rfl rfl 14 (by decide) (by decide +kernel) rfl rfl (rfl) (rfl) (Nat.le_of_ble_eq_true rfl) (wn := [cM μ iK kn ln th (sp + 0) sp false (hrZ T ln sp) 0 se re ca, xI g (μ 6) 60 T]) rfl dX6_takesOrder_90 (fun H locs w => ?_)
              refine lv_iload_n hx hb dX6_takesOrder_93 rfl (lv_at hl 0 rfl) ?_
              refine lv_if_eq (tgt := 123) hx hb dX6_takesOrder_94 (by decide) (fun h_133 => ?_) (fun h_133 => ?_)
              · have h_133 : 0 = 0 := (kc0_eq_t (by omega)).mp h_133
                refine lv_aload_n hx hb dX6_takesOrder_123 rfl (lv_at hl 1 rfl) ?_
                refine lv_aload_n hx hb dX6_takesOrder_124 rfl (lv_at hl 1 rfl) ?_
                refine kcalli (wc := [cM μ iK kn ln th (sp + 0) sp false (hrZ T ln sp) 0 se re ca, xI g (μ 6) 60 T]) (wr := []) (wn := fun (u : Unit) => [cM μ iK kn ln th (sp + 0) sp false (hrZ T ln sp) 0 se re ca, xI g (μ 6) 60 T]) F w [0, 1] [] [0, 1] rfl rfl rfl (fun _ => rfl)
                  (fun hp => va_runV (As := []) (rest := [.ref (μ 0)]) F.1 (kX6_here l g μ iK kn ln th (sp + 0) sp false (hrZ T ln sp) 0 se re ca T H.size (by omega) (by omega)) (cwV 0 hts gX6_takesOrder_X6_here rfl rfl rfl ⟨rfl, hd_X6_here⟩ ⟨Nat.le_of_ble_eq_true rfl, Nat.le_of_ble_eq_true rfl⟩) ⟨hp.1, va_recv F.2.2.2.1.1 w.1 (q0 := 0) (ci := 6) rfl rfl, hp.2⟩ rfl rfl hl.1 rfl (lv_room (Nat.le_of_ble_eq_true rfl)) dX6_takesOrder_125 ⟨Nat.le_of_ble_eq_true rfl, Nat.le_of_ble_eq_true rfl⟩)
                  (fun r_134 _ H locs h_135 w => ?_)
                subst h_135
                refine lv_bipush (v := nI 59) hx hb dX6_takesOrder_128 (by decide) ?_
                refine lv_icmp_ne (tgt := 137) hx hb dX6_takesOrder_130 (by decide) (fun h_136 => ?_) (fun h_136 => ?_)
                · have h_136 : ¬ chZ T ln (sp + 0) = nI 59 := fun hc => h_136 ((hr_eq (by decide) (by decide)).mpr hc)
                  refine lv_iconst (v := nI 0) hx hb dX6_takesOrder_137 (by decide) ?_
                  refine ktopi (y := bI false) (by decide) ?_
                  refine kcallv (wc := [cM μ iK kn ln th (sp + 0) sp false (hrZ T ln sp) 0 se re ca]) (wr := [xI g (μ 6) 60 T]) (wn := fun (u : Unit) => [cM μ iK kn ln th (sp + 0 + 0) sp false (hrZ T ln sp) 0 se re ca, xI g (μ 6) 60 T]) F w [0] [1] [1, 0] rfl rfl rfl (fun _ => rfl)
                    (fun hp => va_runV (As := [.int (bI false)]) (rest := []) F.1 (kX6_takes_0 l g μ iK kn ln th (sp + 0) sp false (hrZ T ln sp) 0 se re ca false H.size ) (cwV 1 hts gX6_takesOrder_X6_takes rfl rfl rfl ⟨rfl, hd_X6_takes⟩ ⟨Nat.le_of_ble_eq_true rfl, Nat.le_of_ble_eq_true rfl⟩) ⟨hp.1, va_recv F.2.2.2.1.1 w.1 (q0 := 0) (ci := 6) rfl rfl, hp.2⟩ rfl rfl hl.1 rfl (lv_room (Nat.le_of_ble_eq_true rfl)) dX6_takesOrder_138 ⟨Nat.le_of_ble_eq_true rfl, Nat.le_of_ble_eq_true rfl⟩)
                    (fun _ H locs h_138 w => ?_)
                  have hok : pOK T ln sp = false := by unfold pOK; simp [hv9]
                  have hpe : pE T ln sp = sp := by unfold pE; simp [hv9]
                  have w : kW g A s [cM μ iK kn ln th (pE T ln sp) sp (pOK T ln sp) (hrZ T ln sp) 0 se re ca, xI g (μ 6) 60 T] H locs := by
                    have w := w
                    rw [hpe, hok]; exact w
                  subst hA
                  subst hQ
                  exact kretv F w (0, se) [0, 1] rfl rfl (fun hc => absurd (hok.symm.trans hc) (by decide)) (Nat.le_of_ble_eq_true rfl) (Nat.le_of_ble_eq_true rfl) dX6_takesOrder_141
                · have h_136 : chZ T ln (sp + 0) = nI 59 := (hr_eq (by decide) (by decide)).mp h_136
                  refine lv_iconst (v := nI 1) hx hb dX6_takesOrder_133 (by decide) ?_
                  refine lv_goto (tgt := 138) hx hb dX6_takesOrder_134 (by decide) ?_
                  refine ktopi (y := bI true) (by decide) ?_
                  refine kcallv (wc := [cM μ iK kn ln th (sp + 0) sp false (hrZ T ln sp) 0 se re ca]) (wr := [xI g (μ 6) 60 T]) (wn := fun (u : Unit) => [cM μ iK kn ln th (sp + 0 + 0) sp false (hrZ T ln sp) 0 se re ca, xI g (μ 6) 60 T]) F w [0] [1] [1, 0] rfl rfl rfl (fun _ => rfl)
                    (fun hp => va_runV (As := [.int (bI true)]) (rest := []) F.1 (kX6_takes_0 l g μ iK kn ln th (sp + 0) sp false (hrZ T ln sp) 0 se re ca true H.size ) (cwV 1 hts gX6_takesOrder_X6_takes rfl rfl rfl ⟨rfl, hd_X6_takes⟩ ⟨Nat.le_of_ble_eq_true rfl, Nat.le_of_ble_eq_true rfl⟩) ⟨hp.1, va_recv F.2.2.2.1.1 w.1 (q0 := 0) (ci := 6) rfl rfl, hp.2⟩ rfl rfl hl.1 rfl (lv_room (Nat.le_of_ble_eq_true rfl)) dX6_takesOrder_138 ⟨Nat.le_of_ble_eq_true rfl, Nat.le_of_ble_eq_true rfl⟩)
                    (fun _ H locs h_140 w => ?_)
                  have hok : pOK T ln sp = false := by unfold pOK; simp [hv9]
                  have hpe : pE T ln sp = sp := by unfold pE; simp [hv9]
                  have w : kW g A s [cM μ iK kn ln th (pE T ln sp) sp (pOK T ln sp) (hrZ T ln sp) 0 se re ca, xI g (μ 6) 60 T] H locs := by
                    have w := w
                    rw [hpe, hok]; exact w
                  subst hA
                  subst hQ
                  exact kretv F w (0, se) [0, 1] rfl rfl (fun hc => absurd (hok.symm.trans hc) (by decide)) (Nat.le_of_ble_eq_true rfl) (Nat.le_of_ble_eq_true rfl) dX6_takesOrder_141
              · have h_133 : 0 ≠ 0 := (kc0_eq_f (by omega)).mp h_133
                omega
            · have h_128 : chZ T ln sp = nI 108 := (hr_eq (by decide) (by decide)).mp h_128
              have hv9 : vbZ (chZ T ln sp) = true := by rw [h_128]; decide
              have ht0 : twZ (chZ T ln sp) = false := by rw [h_128]; decide
              refine lv_iconst (v := nI 1) hx hb dX6_takesOrder_77 (by decide) ?_
              refine lv_goto (tgt := 82) hx hb dX6_takesOrder_78 (by decide) ?_
              refine ktopi (y := bI true) (by decide) ?_
              refine kcallv (wc := [cM μ iK kn ln th sp sp true (hrZ T ln sp) fi se re ca]) (wr := [xI g (μ 6) 60 T]) (wn := fun (u : Unit) => [cM μ iK kn ln th (sp + 1) sp true (hrZ T ln sp) fi se re ca, xI g (μ 6) 60 T]) F w [0] [1] [1, 0] rfl rfl rfl (fun _ => rfl)
                (fun hp => va_runV (As := [.int (bI true)]) (rest := []) F.1 (kX6_takes_11 l g μ iK kn ln th sp sp false (hrZ T ln sp) fi se re ca H.size ) (cwV 1 hts gX6_takesOrder_X6_takes rfl rfl rfl ⟨rfl, hd_X6_takes⟩ ⟨Nat.le_of_ble_eq_true rfl, Nat.le_of_ble_eq_true rfl⟩) ⟨hp.1, va_recv F.2.2.2.1.1 w.1 (q0 := 0) (ci := 6) rfl rfl, hp.2⟩ rfl rfl hl.1 rfl (lv_room (Nat.le_of_ble_eq_true rfl)) dX6_takesOrder_82 ⟨Nat.le_of_ble_eq_true rfl, Nat.le_of_ble_eq_true rfl⟩)
                (fun _ H locs h_142 w => ?_)
              refine lv_aload_n hx hb dX6_takesOrder_85 rfl (lv_at hl 1 rfl) ?_
              refine lv_aload_n hx hb dX6_takesOrder_86 rfl (lv_at hl 1 rfl) ?_
              rcases (show dgZ (chZ T ln (sp + 1)) = false ∨ dgZ (chZ T ln (sp + 1)) = true from by cases dgZ (chZ T ln (sp + 1)) <;> simp) with h_144 | h_144
              · skip
                refine kcalli (wc := [cM μ iK kn ln th (sp + 1) sp true (hrZ T ln sp) fi se re ca, xI g (μ 6) 60 T]) (wr := []) (wn := fun (u : Unit) => [cM μ iK kn ln th (sp + 1) sp false (hrZ T ln sp) fi se re ca, xI g (μ 6) 60 T]) F w [0, 1] [] [0, 1] rfl rfl rfl (fun _ => rfl)
                  (fun hp => va_runV (As := []) (rest := [.ref (μ 0)]) F.1 (kX6_takesNumber_n l g μ iK kn ln th (sp + 1) sp false (hrZ T ln sp) fi se re ca T H.size (by omega) (by omega) h_144) (cwV 0 hts gX6_takesOrder_X6_takesNumber rfl rfl rfl ⟨rfl, hd_X6_takesNumber⟩ ⟨Nat.le_of_ble_eq_true rfl, Nat.le_of_ble_eq_true rfl⟩) ⟨hp.1, va_recv F.2.2.2.1.1 w.1 (q0 := 0) (ci := 6) rfl rfl, hp.2⟩ rfl rfl hl.1 rfl (lv_room (Nat.le_of_ble_eq_true rfl)) dX6_takesOrder_87 ⟨Nat.le_of_ble_eq_true rfl, Nat.le_of_ble_eq_true rfl⟩)
                  (fun r_145 _ H locs h_146 w => ?_)
                subst h_146
                refine kput (fs := [.ref (μ 1), .ref (μ 2), .ref (μ 3), .ref (μ 4), .int (bI iK), .ref (μ 5), .int (nI kn), .ref (μ 6), .int (nI ln), .int (nI th), .int (nI (sp + 1)), .int (nI sp), .int (bI false), .int (hrZ T ln sp), .int (nI fi), .int (nI se), .int (nI re), .int (nI ca)]) F w in_X6_takesOrder_X6 tyX6_ok nmX6 0 rfl rfl 14 (by decide) (by decide +kernel) rfl rfl (rfl) (rfl) (Nat.le_of_ble_eq_true rfl) (wn := [cM μ iK kn ln th (sp + 1) sp false (hrZ T ln sp) 0 se re ca, xI g (μ 6) 60 T]) rfl dX6_takesOrder_90 (fun H locs w => ?_)
                refine lv_iload_n hx hb dX6_takesOrder_93 rfl (lv_at hl 0 rfl) ?_
                refine lv_if_eq (tgt := 123) hx hb dX6_takesOrder_94 (by decide) (fun h_147 => ?_) (fun h_147 => ?_)
                · have h_147 : 0 = 0 := (kc0_eq_t (by omega)).mp h_147
                  refine lv_aload_n hx hb dX6_takesOrder_123 rfl (lv_at hl 1 rfl) ?_
                  refine lv_aload_n hx hb dX6_takesOrder_124 rfl (lv_at hl 1 rfl) ?_
                  refine kcalli (wc := [cM μ iK kn ln th (sp + 1) sp false (hrZ T ln sp) 0 se re ca, xI g (μ 6) 60 T]) (wr := []) (wn := fun (u : Unit) => [cM μ iK kn ln th (sp + 1) sp false (hrZ T ln sp) 0 se re ca, xI g (μ 6) 60 T]) F w [0, 1] [] [0, 1] rfl rfl rfl (fun _ => rfl)
                    (fun hp => va_runV (As := []) (rest := [.ref (μ 0)]) F.1 (kX6_here l g μ iK kn ln th (sp + 1) sp false (hrZ T ln sp) 0 se re ca T H.size (by omega) (by omega)) (cwV 0 hts gX6_takesOrder_X6_here rfl rfl rfl ⟨rfl, hd_X6_here⟩ ⟨Nat.le_of_ble_eq_true rfl, Nat.le_of_ble_eq_true rfl⟩) ⟨hp.1, va_recv F.2.2.2.1.1 w.1 (q0 := 0) (ci := 6) rfl rfl, hp.2⟩ rfl rfl hl.1 rfl (lv_room (Nat.le_of_ble_eq_true rfl)) dX6_takesOrder_125 ⟨Nat.le_of_ble_eq_true rfl, Nat.le_of_ble_eq_true rfl⟩)
                    (fun r_148 _ H locs h_149 w => ?_)
                  subst h_149
                  refine lv_bipush (v := nI 59) hx hb dX6_takesOrder_128 (by decide) ?_
                  refine lv_icmp_ne (tgt := 137) hx hb dX6_takesOrder_130 (by decide) (fun h_150 => ?_) (fun h_150 => ?_)
                  · have h_150 : ¬ chZ T ln (sp + 1) = nI 59 := fun hc => h_150 ((hr_eq (by decide) (by decide)).mpr hc)
                    refine lv_iconst (v := nI 0) hx hb dX6_takesOrder_137 (by decide) ?_
                    refine ktopi (y := bI false) (by decide) ?_
                    refine kcallv (wc := [cM μ iK kn ln th (sp + 1) sp false (hrZ T ln sp) 0 se re ca]) (wr := [xI g (μ 6) 60 T]) (wn := fun (u : Unit) => [cM μ iK kn ln th (sp + 1 + 0) sp false (hrZ T ln sp) 0 se re ca, xI g (μ 6) 60 T]) F w [0] [1] [1, 0] rfl rfl rfl (fun _ => rfl)
                      (fun hp => va_runV (As := [.int (bI false)]) (rest := []) F.1 (kX6_takes_0 l g μ iK kn ln th (sp + 1) sp false (hrZ T ln sp) 0 se re ca false H.size ) (cwV 1 hts gX6_takesOrder_X6_takes rfl rfl rfl ⟨rfl, hd_X6_takes⟩ ⟨Nat.le_of_ble_eq_true rfl, Nat.le_of_ble_eq_true rfl⟩) ⟨hp.1, va_recv F.2.2.2.1.1 w.1 (q0 := 0) (ci := 6) rfl rfl, hp.2⟩ rfl rfl hl.1 rfl (lv_room (Nat.le_of_ble_eq_true rfl)) dX6_takesOrder_138 ⟨Nat.le_of_ble_eq_true rfl, Nat.le_of_ble_eq_true rfl⟩)
                      (fun _ H locs h_152 w => ?_)
                    have hok : pOK T ln sp = false := by unfold pOK; simp [hv9, ht0, h_144]
                    have hpe : pE T ln sp = sp + 1 := by unfold pE; simp [hv9, ht0, h_144]
                    have w : kW g A s [cM μ iK kn ln th (pE T ln sp) sp (pOK T ln sp) (hrZ T ln sp) 0 se re ca, xI g (μ 6) 60 T] H locs := by
                      have w := w
                      rw [hpe, hok]; exact w
                    subst hA
                    subst hQ
                    exact kretv F w (0, se) [0, 1] rfl rfl (fun hc => absurd (hok.symm.trans hc) (by decide)) (Nat.le_of_ble_eq_true rfl) (Nat.le_of_ble_eq_true rfl) dX6_takesOrder_141
                  · have h_150 : chZ T ln (sp + 1) = nI 59 := (hr_eq (by decide) (by decide)).mp h_150
                    refine lv_iconst (v := nI 1) hx hb dX6_takesOrder_133 (by decide) ?_
                    refine lv_goto (tgt := 138) hx hb dX6_takesOrder_134 (by decide) ?_
                    refine ktopi (y := bI true) (by decide) ?_
                    refine kcallv (wc := [cM μ iK kn ln th (sp + 1) sp false (hrZ T ln sp) 0 se re ca]) (wr := [xI g (μ 6) 60 T]) (wn := fun (u : Unit) => [cM μ iK kn ln th (sp + 1 + 0) sp false (hrZ T ln sp) 0 se re ca, xI g (μ 6) 60 T]) F w [0] [1] [1, 0] rfl rfl rfl (fun _ => rfl)
                      (fun hp => va_runV (As := [.int (bI true)]) (rest := []) F.1 (kX6_takes_0 l g μ iK kn ln th (sp + 1) sp false (hrZ T ln sp) 0 se re ca true H.size ) (cwV 1 hts gX6_takesOrder_X6_takes rfl rfl rfl ⟨rfl, hd_X6_takes⟩ ⟨Nat.le_of_ble_eq_true rfl, Nat.le_of_ble_eq_true rfl⟩) ⟨hp.1, va_recv F.2.2.2.1.1 w.1 (q0 := 0) (ci := 6) rfl rfl, hp.2⟩ rfl rfl hl.1 rfl (lv_room (Nat.le_of_ble_eq_true rfl)) dX6_takesOrder_138 ⟨Nat.le_of_ble_eq_true rfl, Nat.le_of_ble_eq_true rfl⟩)
                      (fun _ H locs h_154 w => ?_)
                    have hok : pOK T ln sp = false := by unfold pOK; simp [hv9, ht0, h_144]
                    have hpe : pE T ln sp = sp + 1 := by unfold pE; simp [hv9, ht0, h_144]
                    have w : kW g A s [cM μ iK kn ln th (pE T ln sp) sp (pOK T ln sp) (hrZ T ln sp) 0 se re ca, xI g (μ 6) 60 T] H locs := by
                      have w := w
                      rw [hpe, hok]; exact w
                    subst hA
                    subst hQ
                    exact kretv F w (0, se) [0, 1] rfl rfl (fun hc => absurd (hok.symm.trans hc) (by decide)) (Nat.le_of_ble_eq_true rfl) (Nat.le_of_ble_eq_true rfl) dX6_takesOrder_141
                · have h_147 : 0 ≠ 0 := (kc0_eq_f (by omega)).mp h_147
                  omega
              · skip
                refine kcalli (wc := [cM μ iK kn ln th (sp + 1) sp true (hrZ T ln sp) fi se re ca, xI g (μ 6) 60 T]) (wr := []) (wn := fun (u : Unit) => [cM μ iK kn ln th (nEz T ln (sp + 1)) sp true (hrZ T ln sp) fi se re ca, xI g (μ 6) 60 T]) F w [0, 1] [] [0, 1] rfl rfl rfl (fun _ => rfl)
                  (fun hp => va_runV (As := []) (rest := [.ref (μ 0)]) F.1 (kX6_takesNumber_k l g μ iK kn ln th (sp + 1) sp false (hrZ T ln sp) fi se re ca T H.size (by omega) (by omega) h_144) (cwV 0 hts gX6_takesOrder_X6_takesNumber rfl rfl rfl ⟨rfl, hd_X6_takesNumber⟩ ⟨Nat.le_of_ble_eq_true rfl, Nat.le_of_ble_eq_true rfl⟩) ⟨hp.1, va_recv F.2.2.2.1.1 w.1 (q0 := 0) (ci := 6) rfl rfl, hp.2⟩ rfl rfl hl.1 rfl (lv_room (Nat.le_of_ble_eq_true rfl)) dX6_takesOrder_87 ⟨Nat.le_of_ble_eq_true rfl, Nat.le_of_ble_eq_true rfl⟩)
                  (fun r_155 _ H locs h_156 w => ?_)
                subst h_156
                have hz9 := nEz_le (T := T) (L := ln) (p := sp + 1)
                refine kput (fs := [.ref (μ 1), .ref (μ 2), .ref (μ 3), .ref (μ 4), .int (bI iK), .ref (μ 5), .int (nI kn), .ref (μ 6), .int (nI ln), .int (nI th), .int (nI (nEz T ln (sp + 1))), .int (nI sp), .int (bI true), .int (hrZ T ln sp), .int (nI fi), .int (nI se), .int (nI re), .int (nI ca)]) F w in_X6_takesOrder_X6 tyX6_ok nmX6 0 rfl rfl 14 (by decide) (by decide +kernel) rfl rfl (rfl) (rfl) (Nat.le_of_ble_eq_true rfl) (wn := [cM μ iK kn ln th (nEz T ln (sp + 1)) sp true (hrZ T ln sp) (nVz T ln (sp + 1)) se re ca, xI g (μ 6) 60 T]) rfl dX6_takesOrder_90 (fun H locs w => ?_)
                refine lv_iload_n hx hb dX6_takesOrder_93 rfl (lv_at hl 0 rfl) ?_
                refine lv_if_eq (tgt := 123) hx hb dX6_takesOrder_94 (by decide) (fun h_157 => ?_) (fun h_157 => ?_)
                · have h_157 : 0 = 0 := (kc0_eq_t (by omega)).mp h_157
                  refine lv_aload_n hx hb dX6_takesOrder_123 rfl (lv_at hl 1 rfl) ?_
                  refine lv_aload_n hx hb dX6_takesOrder_124 rfl (lv_at hl 1 rfl) ?_
                  refine kcalli (wc := [cM μ iK kn ln th (nEz T ln (sp + 1)) sp true (hrZ T ln sp) (nVz T ln (sp + 1)) se re ca, xI g (μ 6) 60 T]) (wr := []) (wn := fun (u : Unit) => [cM μ iK kn ln th (nEz T ln (sp + 1)) sp true (hrZ T ln sp) (nVz T ln (sp + 1)) se re ca, xI g (μ 6) 60 T]) F w [0, 1] [] [0, 1] rfl rfl rfl (fun _ => rfl)
                    (fun hp => va_runV (As := []) (rest := [.ref (μ 0)]) F.1 (kX6_here l g μ iK kn ln th (nEz T ln (sp + 1)) sp true (hrZ T ln sp) (nVz T ln (sp + 1)) se re ca T H.size (by omega) (by omega)) (cwV 0 hts gX6_takesOrder_X6_here rfl rfl rfl ⟨rfl, hd_X6_here⟩ ⟨Nat.le_of_ble_eq_true rfl, Nat.le_of_ble_eq_true rfl⟩) ⟨hp.1, va_recv F.2.2.2.1.1 w.1 (q0 := 0) (ci := 6) rfl rfl, hp.2⟩ rfl rfl hl.1 rfl (lv_room (Nat.le_of_ble_eq_true rfl)) dX6_takesOrder_125 ⟨Nat.le_of_ble_eq_true rfl, Nat.le_of_ble_eq_true rfl⟩)
                    (fun r_158 _ H locs h_159 w => ?_)
                  subst h_159
                  refine lv_bipush (v := nI 59) hx hb dX6_takesOrder_128 (by decide) ?_
                  refine lv_icmp_ne (tgt := 137) hx hb dX6_takesOrder_130 (by decide) (fun h_160 => ?_) (fun h_160 => ?_)
                  · have h_160 : ¬ chZ T ln (nEz T ln (sp + 1)) = nI 59 := fun hc => h_160 ((hr_eq (by decide) (by decide)).mpr hc)
                    refine lv_iconst (v := nI 0) hx hb dX6_takesOrder_137 (by decide) ?_
                    refine ktopi (y := bI false) (by decide) ?_
                    refine kcallv (wc := [cM μ iK kn ln th (nEz T ln (sp + 1)) sp true (hrZ T ln sp) (nVz T ln (sp + 1)) se re ca]) (wr := [xI g (μ 6) 60 T]) (wn := fun (u : Unit) => [cM μ iK kn ln th ((nEz T ln (sp + 1)) + 0) sp false (hrZ T ln sp) (nVz T ln (sp + 1)) se re ca, xI g (μ 6) 60 T]) F w [0] [1] [1, 0] rfl rfl rfl (fun _ => rfl)
                      (fun hp => va_runV (As := [.int (bI false)]) (rest := []) F.1 (kX6_takes_10 l g μ iK kn ln th (nEz T ln (sp + 1)) sp false (hrZ T ln sp) (nVz T ln (sp + 1)) se re ca H.size ) (cwV 1 hts gX6_takesOrder_X6_takes rfl rfl rfl ⟨rfl, hd_X6_takes⟩ ⟨Nat.le_of_ble_eq_true rfl, Nat.le_of_ble_eq_true rfl⟩) ⟨hp.1, va_recv F.2.2.2.1.1 w.1 (q0 := 0) (ci := 6) rfl rfl, hp.2⟩ rfl rfl hl.1 rfl (lv_room (Nat.le_of_ble_eq_true rfl)) dX6_takesOrder_138 ⟨Nat.le_of_ble_eq_true rfl, Nat.le_of_ble_eq_true rfl⟩)
                      (fun _ H locs h_162 w => ?_)
                    have hok : pOK T ln sp = false := by unfold pOK; simp [hv9, ht0, h_144, h_160]
                    have hpe : pE T ln sp = (nEz T ln (sp + 1)) := by unfold pE; simp [hv9, ht0, h_144, h_160]
                    have w : kW g A s [cM μ iK kn ln th (pE T ln sp) sp (pOK T ln sp) (hrZ T ln sp) (nVz T ln (sp + 1)) se re ca, xI g (μ 6) 60 T] H locs := by
                      have w := w
                      rw [hpe, hok]; exact w
                    subst hA
                    subst hQ
                    exact kretv F w (nVz T ln (sp + 1), se) [0, 1] rfl rfl (fun hc => absurd (hok.symm.trans hc) (by decide)) (Nat.le_of_ble_eq_true rfl) (Nat.le_of_ble_eq_true rfl) dX6_takesOrder_141
                  · have h_160 : chZ T ln (nEz T ln (sp + 1)) = nI 59 := (hr_eq (by decide) (by decide)).mp h_160
                    refine lv_iconst (v := nI 1) hx hb dX6_takesOrder_133 (by decide) ?_
                    refine lv_goto (tgt := 138) hx hb dX6_takesOrder_134 (by decide) ?_
                    refine ktopi (y := bI true) (by decide) ?_
                    refine kcallv (wc := [cM μ iK kn ln th (nEz T ln (sp + 1)) sp true (hrZ T ln sp) (nVz T ln (sp + 1)) se re ca]) (wr := [xI g (μ 6) 60 T]) (wn := fun (u : Unit) => [cM μ iK kn ln th ((nEz T ln (sp + 1)) + 1) sp true (hrZ T ln sp) (nVz T ln (sp + 1)) se re ca, xI g (μ 6) 60 T]) F w [0] [1] [1, 0] rfl rfl rfl (fun _ => rfl)
                      (fun hp => va_runV (As := [.int (bI true)]) (rest := []) F.1 (kX6_takes_11 l g μ iK kn ln th (nEz T ln (sp + 1)) sp false (hrZ T ln sp) (nVz T ln (sp + 1)) se re ca H.size ) (cwV 1 hts gX6_takesOrder_X6_takes rfl rfl rfl ⟨rfl, hd_X6_takes⟩ ⟨Nat.le_of_ble_eq_true rfl, Nat.le_of_ble_eq_true rfl⟩) ⟨hp.1, va_recv F.2.2.2.1.1 w.1 (q0 := 0) (ci := 6) rfl rfl, hp.2⟩ rfl rfl hl.1 rfl (lv_room (Nat.le_of_ble_eq_true rfl)) dX6_takesOrder_138 ⟨Nat.le_of_ble_eq_true rfl, Nat.le_of_ble_eq_true rfl⟩)
                      (fun _ H locs h_164 w => ?_)
                    have hok : pOK T ln sp = true := by unfold pOK; simp [hv9, ht0, h_144, h_160]
                    have hpe : pE T ln sp = (nEz T ln (sp + 1)) + 1 := by unfold pE; simp [hv9, ht0, h_144, h_160]
                    have w : kW g A s [cM μ iK kn ln th (pE T ln sp) sp (pOK T ln sp) (hrZ T ln sp) (nVz T ln (sp + 1)) se re ca, xI g (μ 6) 60 T] H locs := by
                      have w := w
                      rw [hpe, hok]; exact w
                    subst hA
                    subst hQ
                    exact kretv F w (nVz T ln (sp + 1), se) [0, 1] rfl rfl (fun _ => ⟨rfl, fun ht => absurd ht (by rw [ht0]; decide)⟩) (Nat.le_of_ble_eq_true rfl) (Nat.le_of_ble_eq_true rfl) dX6_takesOrder_141
                · have h_157 : 0 ≠ 0 := (kc0_eq_f (by omega)).mp h_157
                  omega
    · have h_76 : chZ T ln sp = nI 116 := (hr_eq (by decide) (by decide)).mp h_76
      have hv9 : vbZ (chZ T ln sp) = true := by rw [h_76]; decide
      have ht1 : twZ (chZ T ln sp) = true := by rw [h_76]; decide
      refine lv_iconst (v := nI 1) hx hb dX6_takesOrder_39 (by decide) ?_
      refine lv_goto (tgt := 44) hx hb dX6_takesOrder_40 (by decide) ?_
      refine lv_istore_n (lv' := [(1, .int (nI 1)), (0, .ref (μ 0))]) hx hb dX6_takesOrder_44 rfl hl (by decide) rfl (fun ls hl => ?_)
      refine lv_aload_n hx hb dX6_takesOrder_45 rfl (lv_at hl 1 rfl) ?_
      refine lv_iload_n hx hb dX6_takesOrder_46 rfl (lv_at hl 0 rfl) ?_
      refine lv_if_ne (tgt := 77) hx hb dX6_takesOrder_47 (by decide) (fun h_165 => ?_) (fun h_165 => ?_)
      · have h_165 : 1 ≠ 0 := (kc0_ne_t (by omega)).mp h_165
        refine lv_iconst (v := nI 1) hx hb dX6_takesOrder_77 (by decide) ?_
        refine lv_goto (tgt := 82) hx hb dX6_takesOrder_78 (by decide) ?_
        refine ktopi (y := bI true) (by decide) ?_
        refine kcallv (wc := [cM μ iK kn ln th sp sp true (hrZ T ln sp) fi se re ca]) (wr := [xI g (μ 6) 60 T]) (wn := fun (u : Unit) => [cM μ iK kn ln th (sp + 1) sp true (hrZ T ln sp) fi se re ca, xI g (μ 6) 60 T]) F w [0] [1] [1, 0] rfl rfl rfl (fun _ => rfl)
          (fun hp => va_runV (As := [.int (bI true)]) (rest := []) F.1 (kX6_takes_11 l g μ iK kn ln th sp sp false (hrZ T ln sp) fi se re ca H.size ) (cwV 1 hts gX6_takesOrder_X6_takes rfl rfl rfl ⟨rfl, hd_X6_takes⟩ ⟨Nat.le_of_ble_eq_true rfl, Nat.le_of_ble_eq_true rfl⟩) ⟨hp.1, va_recv F.2.2.2.1.1 w.1 (q0 := 0) (ci := 6) rfl rfl, hp.2⟩ rfl rfl hl.1 rfl (lv_room (Nat.le_of_ble_eq_true rfl)) dX6_takesOrder_82 ⟨Nat.le_of_ble_eq_true rfl, Nat.le_of_ble_eq_true rfl⟩)
          (fun _ H locs h_167 w => ?_)
        refine lv_aload_n hx hb dX6_takesOrder_85 rfl (lv_at hl 1 rfl) ?_
        refine lv_aload_n hx hb dX6_takesOrder_86 rfl (lv_at hl 1 rfl) ?_
        rcases (show dgZ (chZ T ln (sp + 1)) = false ∨ dgZ (chZ T ln (sp + 1)) = true from by cases dgZ (chZ T ln (sp + 1)) <;> simp) with h_169 | h_169
        · skip
          refine kcalli (wc := [cM μ iK kn ln th (sp + 1) sp true (hrZ T ln sp) fi se re ca, xI g (μ 6) 60 T]) (wr := []) (wn := fun (u : Unit) => [cM μ iK kn ln th (sp + 1) sp false (hrZ T ln sp) fi se re ca, xI g (μ 6) 60 T]) F w [0, 1] [] [0, 1] rfl rfl rfl (fun _ => rfl)
            (fun hp => va_runV (As := []) (rest := [.ref (μ 0)]) F.1 (kX6_takesNumber_n l g μ iK kn ln th (sp + 1) sp false (hrZ T ln sp) fi se re ca T H.size (by omega) (by omega) h_169) (cwV 0 hts gX6_takesOrder_X6_takesNumber rfl rfl rfl ⟨rfl, hd_X6_takesNumber⟩ ⟨Nat.le_of_ble_eq_true rfl, Nat.le_of_ble_eq_true rfl⟩) ⟨hp.1, va_recv F.2.2.2.1.1 w.1 (q0 := 0) (ci := 6) rfl rfl, hp.2⟩ rfl rfl hl.1 rfl (lv_room (Nat.le_of_ble_eq_true rfl)) dX6_takesOrder_87 ⟨Nat.le_of_ble_eq_true rfl, Nat.le_of_ble_eq_true rfl⟩)
            (fun r_170 _ H locs h_171 w => ?_)
          subst h_171
          refine kput (fs := [.ref (μ 1), .ref (μ 2), .ref (μ 3), .ref (μ 4), .int (bI iK), .ref (μ 5), .int (nI kn), .ref (μ 6), .int (nI ln), .int (nI th), .int (nI (sp + 1)), .int (nI sp), .int (bI false), .int (hrZ T ln sp), .int (nI fi), .int (nI se), .int (nI re), .int (nI ca)]) F w in_X6_takesOrder_X6 tyX6_ok nmX6 0 rfl rfl 14 (by decide) (by decide +kernel) rfl rfl (rfl) (rfl) (Nat.le_of_ble_eq_true rfl) (wn := [cM μ iK kn ln th (sp + 1) sp false (hrZ T ln sp) 0 se re ca, xI g (μ 6) 60 T]) rfl dX6_takesOrder_90 (fun H locs w => ?_)
          refine lv_iload_n hx hb dX6_takesOrder_93 rfl (lv_at hl 0 rfl) ?_
          refine lv_if_eq (tgt := 123) hx hb dX6_takesOrder_94 (by decide) (fun h_172 => ?_) (fun h_172 => ?_)
          · have h_172 : 1 = 0 := (kc0_eq_t (by omega)).mp h_172
            omega
          · have h_172 : 1 ≠ 0 := (kc0_eq_f (by omega)).mp h_172
            refine lv_aload_n hx hb dX6_takesOrder_97 rfl (lv_at hl 1 rfl) ?_
            refine lv_aload_n hx hb dX6_takesOrder_98 rfl (lv_at hl 1 rfl) ?_
            refine kcalli (wc := [cM μ iK kn ln th (sp + 1) sp false (hrZ T ln sp) 0 se re ca, xI g (μ 6) 60 T]) (wr := []) (wn := fun (u : Unit) => [cM μ iK kn ln th (sp + 1) sp false (hrZ T ln sp) 0 se re ca, xI g (μ 6) 60 T]) F w [0, 1] [] [0, 1] rfl rfl rfl (fun _ => rfl)
              (fun hp => va_runV (As := []) (rest := [.ref (μ 0)]) F.1 (kX6_here l g μ iK kn ln th (sp + 1) sp false (hrZ T ln sp) 0 se re ca T H.size (by omega) (by omega)) (cwV 0 hts gX6_takesOrder_X6_here rfl rfl rfl ⟨rfl, hd_X6_here⟩ ⟨Nat.le_of_ble_eq_true rfl, Nat.le_of_ble_eq_true rfl⟩) ⟨hp.1, va_recv F.2.2.2.1.1 w.1 (q0 := 0) (ci := 6) rfl rfl, hp.2⟩ rfl rfl hl.1 rfl (lv_room (Nat.le_of_ble_eq_true rfl)) dX6_takesOrder_99 ⟨Nat.le_of_ble_eq_true rfl, Nat.le_of_ble_eq_true rfl⟩)
              (fun r_173 _ H locs h_174 w => ?_)
            subst h_174
            refine lv_bipush (v := nI 44) hx hb dX6_takesOrder_102 (by decide) ?_
            refine lv_icmp_ne (tgt := 111) hx hb dX6_takesOrder_104 (by decide) (fun h_175 => ?_) (fun h_175 => ?_)
            · have h_175 : ¬ chZ T ln (sp + 1) = nI 44 := fun hc => h_175 ((hr_eq (by decide) (by decide)).mpr hc)
              refine lv_iconst (v := nI 0) hx hb dX6_takesOrder_111 (by decide) ?_
              refine ktopi (y := bI false) (by decide) ?_
              refine kcallv (wc := [cM μ iK kn ln th (sp + 1) sp false (hrZ T ln sp) 0 se re ca]) (wr := [xI g (μ 6) 60 T]) (wn := fun (u : Unit) => [cM μ iK kn ln th (sp + 1 + 0) sp false (hrZ T ln sp) 0 se re ca, xI g (μ 6) 60 T]) F w [0] [1] [1, 0] rfl rfl rfl (fun _ => rfl)
                (fun hp => va_runV (As := [.int (bI false)]) (rest := []) F.1 (kX6_takes_0 l g μ iK kn ln th (sp + 1) sp false (hrZ T ln sp) 0 se re ca false H.size ) (cwV 1 hts gX6_takesOrder_X6_takes rfl rfl rfl ⟨rfl, hd_X6_takes⟩ ⟨Nat.le_of_ble_eq_true rfl, Nat.le_of_ble_eq_true rfl⟩) ⟨hp.1, va_recv F.2.2.2.1.1 w.1 (q0 := 0) (ci := 6) rfl rfl, hp.2⟩ rfl rfl hl.1 rfl (lv_room (Nat.le_of_ble_eq_true rfl)) dX6_takesOrder_112 ⟨Nat.le_of_ble_eq_true rfl, Nat.le_of_ble_eq_true rfl⟩)
                (fun _ H locs h_177 w => ?_)
              refine lv_aload_n hx hb dX6_takesOrder_115 rfl (lv_at hl 1 rfl) ?_
              refine lv_aload_n hx hb dX6_takesOrder_116 rfl (lv_at hl 1 rfl) ?_
              refine kcalli (wc := [cM μ iK kn ln th (sp + 1 + 0) sp false (hrZ T ln sp) 0 se re ca]) (wr := [xI g (μ 6) 60 T]) (wn := fun (u : Unit) => [cM μ iK kn ln th (sp + 1 + 0) sp false (hrZ T ln sp) 0 se re ca, xI g (μ 6) 60 T]) F w [0] [1] [1, 0] rfl rfl rfl (fun _ => rfl)
                (fun hp => va_runV (As := []) (rest := [.ref (μ 0)]) F.1 (kX6_takesNumber_0 l g μ iK kn ln th (sp + 1 + 0) sp false (hrZ T ln sp) 0 se re ca H.size ) (cwV 0 hts gX6_takesOrder_X6_takesNumber rfl rfl rfl ⟨rfl, hd_X6_takesNumber⟩ ⟨Nat.le_of_ble_eq_true rfl, Nat.le_of_ble_eq_true rfl⟩) ⟨hp.1, va_recv F.2.2.2.1.1 w.1 (q0 := 0) (ci := 6) rfl rfl, hp.2⟩ rfl rfl hl.1 rfl (lv_room (Nat.le_of_ble_eq_true rfl)) dX6_takesOrder_117 ⟨Nat.le_of_ble_eq_true rfl, Nat.le_of_ble_eq_true rfl⟩)
                (fun r_178 _ H locs h_179 w => ?_)
              subst h_179
              refine kput (fs := [.ref (μ 1), .ref (μ 2), .ref (μ 3), .ref (μ 4), .int (bI iK), .ref (μ 5), .int (nI kn), .ref (μ 6), .int (nI ln), .int (nI th), .int (nI (sp + 1 + 0)), .int (nI sp), .int (bI false), .int (hrZ T ln sp), .int (nI 0), .int (nI se), .int (nI re), .int (nI ca)]) F w in_X6_takesOrder_X6 tyX6_ok nmX6 0 rfl rfl 15 (by decide) (by decide +kernel) rfl rfl (rfl) (rfl) (Nat.le_of_ble_eq_true rfl) (wn := [cM μ iK kn ln th (sp + 1 + 0) sp false (hrZ T ln sp) 0 0 re ca, xI g (μ 6) 60 T]) rfl dX6_takesOrder_120 (fun H locs w => ?_)
              refine lv_aload_n hx hb dX6_takesOrder_123 rfl (lv_at hl 1 rfl) ?_
              refine lv_aload_n hx hb dX6_takesOrder_124 rfl (lv_at hl 1 rfl) ?_
              refine kcalli (wc := [cM μ iK kn ln th (sp + 1 + 0) sp false (hrZ T ln sp) 0 0 re ca, xI g (μ 6) 60 T]) (wr := []) (wn := fun (u : Unit) => [cM μ iK kn ln th (sp + 1 + 0) sp false (hrZ T ln sp) 0 0 re ca, xI g (μ 6) 60 T]) F w [0, 1] [] [0, 1] rfl rfl rfl (fun _ => rfl)
                (fun hp => va_runV (As := []) (rest := [.ref (μ 0)]) F.1 (kX6_here l g μ iK kn ln th (sp + 1 + 0) sp false (hrZ T ln sp) 0 0 re ca T H.size (by omega) (by omega)) (cwV 0 hts gX6_takesOrder_X6_here rfl rfl rfl ⟨rfl, hd_X6_here⟩ ⟨Nat.le_of_ble_eq_true rfl, Nat.le_of_ble_eq_true rfl⟩) ⟨hp.1, va_recv F.2.2.2.1.1 w.1 (q0 := 0) (ci := 6) rfl rfl, hp.2⟩ rfl rfl hl.1 rfl (lv_room (Nat.le_of_ble_eq_true rfl)) dX6_takesOrder_125 ⟨Nat.le_of_ble_eq_true rfl, Nat.le_of_ble_eq_true rfl⟩)
                (fun r_180 _ H locs h_181 w => ?_)
              subst h_181
              refine lv_bipush (v := nI 59) hx hb dX6_takesOrder_128 (by decide) ?_
              refine lv_icmp_ne (tgt := 137) hx hb dX6_takesOrder_130 (by decide) (fun h_182 => ?_) (fun h_182 => ?_)
              · have h_182 : ¬ chZ T ln (sp + 1 + 0) = nI 59 := fun hc => h_182 ((hr_eq (by decide) (by decide)).mpr hc)
                refine lv_iconst (v := nI 0) hx hb dX6_takesOrder_137 (by decide) ?_
                refine ktopi (y := bI false) (by decide) ?_
                refine kcallv (wc := [cM μ iK kn ln th (sp + 1 + 0) sp false (hrZ T ln sp) 0 0 re ca]) (wr := [xI g (μ 6) 60 T]) (wn := fun (u : Unit) => [cM μ iK kn ln th (sp + 1 + 0 + 0) sp false (hrZ T ln sp) 0 0 re ca, xI g (μ 6) 60 T]) F w [0] [1] [1, 0] rfl rfl rfl (fun _ => rfl)
                  (fun hp => va_runV (As := [.int (bI false)]) (rest := []) F.1 (kX6_takes_0 l g μ iK kn ln th (sp + 1 + 0) sp false (hrZ T ln sp) 0 0 re ca false H.size ) (cwV 1 hts gX6_takesOrder_X6_takes rfl rfl rfl ⟨rfl, hd_X6_takes⟩ ⟨Nat.le_of_ble_eq_true rfl, Nat.le_of_ble_eq_true rfl⟩) ⟨hp.1, va_recv F.2.2.2.1.1 w.1 (q0 := 0) (ci := 6) rfl rfl, hp.2⟩ rfl rfl hl.1 rfl (lv_room (Nat.le_of_ble_eq_true rfl)) dX6_takesOrder_138 ⟨Nat.le_of_ble_eq_true rfl, Nat.le_of_ble_eq_true rfl⟩)
                  (fun _ H locs h_184 w => ?_)
                have hok : pOK T ln sp = false := by unfold pOK; simp [hv9, ht1, h_169]
                have hpe : pE T ln sp = sp + 1 := by unfold pE; simp [hv9, ht1, h_169]
                have w : kW g A s [cM μ iK kn ln th (pE T ln sp) sp (pOK T ln sp) (hrZ T ln sp) 0 0 re ca, xI g (μ 6) 60 T] H locs := by
                  have w := w
                  rw [hpe, hok]; exact w
                subst hA
                subst hQ
                exact kretv F w (0, 0) [0, 1] rfl rfl (fun hc => absurd (hok.symm.trans hc) (by decide)) (Nat.le_of_ble_eq_true rfl) (Nat.le_of_ble_eq_true rfl) dX6_takesOrder_141
              · have h_182 : chZ T ln (sp + 1 + 0) = nI 59 := (hr_eq (by decide) (by decide)).mp h_182
                refine lv_iconst (v := nI 1) hx hb dX6_takesOrder_133 (by decide) ?_
                refine lv_goto (tgt := 138) hx hb dX6_takesOrder_134 (by decide) ?_
                refine ktopi (y := bI true) (by decide) ?_
                refine kcallv (wc := [cM μ iK kn ln th (sp + 1 + 0) sp false (hrZ T ln sp) 0 0 re ca]) (wr := [xI g (μ 6) 60 T]) (wn := fun (u : Unit) => [cM μ iK kn ln th (sp + 1 + 0 + 0) sp false (hrZ T ln sp) 0 0 re ca, xI g (μ 6) 60 T]) F w [0] [1] [1, 0] rfl rfl rfl (fun _ => rfl)
                  (fun hp => va_runV (As := [.int (bI true)]) (rest := []) F.1 (kX6_takes_0 l g μ iK kn ln th (sp + 1 + 0) sp false (hrZ T ln sp) 0 0 re ca true H.size ) (cwV 1 hts gX6_takesOrder_X6_takes rfl rfl rfl ⟨rfl, hd_X6_takes⟩ ⟨Nat.le_of_ble_eq_true rfl, Nat.le_of_ble_eq_true rfl⟩) ⟨hp.1, va_recv F.2.2.2.1.1 w.1 (q0 := 0) (ci := 6) rfl rfl, hp.2⟩ rfl rfl hl.1 rfl (lv_room (Nat.le_of_ble_eq_true rfl)) dX6_takesOrder_138 ⟨Nat.le_of_ble_eq_true rfl, Nat.le_of_ble_eq_true rfl⟩)
                  (fun _ H locs h_186 w => ?_)
                have hok : pOK T ln sp = false := by unfold pOK; simp [hv9, ht1, h_169]
                have hpe : pE T ln sp = sp + 1 := by unfold pE; simp [hv9, ht1, h_169]
                have w : kW g A s [cM μ iK kn ln th (pE T ln sp) sp (pOK T ln sp) (hrZ T ln sp) 0 0 re ca, xI g (μ 6) 60 T] H locs := by
                  have w := w
                  rw [hpe, hok]; exact w
                subst hA
                subst hQ
                exact kretv F w (0, 0) [0, 1] rfl rfl (fun hc => absurd (hok.symm.trans hc) (by decide)) (Nat.le_of_ble_eq_true rfl) (Nat.le_of_ble_eq_true rfl) dX6_takesOrder_141
            · have h_175 : chZ T ln (sp + 1) = nI 44 := (hr_eq (by decide) (by decide)).mp h_175
              refine lv_iconst (v := nI 1) hx hb dX6_takesOrder_107 (by decide) ?_
              refine lv_goto (tgt := 112) hx hb dX6_takesOrder_108 (by decide) ?_
              refine ktopi (y := bI true) (by decide) ?_
              refine kcallv (wc := [cM μ iK kn ln th (sp + 1) sp false (hrZ T ln sp) 0 se re ca]) (wr := [xI g (μ 6) 60 T]) (wn := fun (u : Unit) => [cM μ iK kn ln th (sp + 1 + 0) sp false (hrZ T ln sp) 0 se re ca, xI g (μ 6) 60 T]) F w [0] [1] [1, 0] rfl rfl rfl (fun _ => rfl)
                (fun hp => va_runV (As := [.int (bI true)]) (rest := []) F.1 (kX6_takes_0 l g μ iK kn ln th (sp + 1) sp false (hrZ T ln sp) 0 se re ca true H.size ) (cwV 1 hts gX6_takesOrder_X6_takes rfl rfl rfl ⟨rfl, hd_X6_takes⟩ ⟨Nat.le_of_ble_eq_true rfl, Nat.le_of_ble_eq_true rfl⟩) ⟨hp.1, va_recv F.2.2.2.1.1 w.1 (q0 := 0) (ci := 6) rfl rfl, hp.2⟩ rfl rfl hl.1 rfl (lv_room (Nat.le_of_ble_eq_true rfl)) dX6_takesOrder_112 ⟨Nat.le_of_ble_eq_true rfl, Nat.le_of_ble_eq_true rfl⟩)
                (fun _ H locs h_188 w => ?_)
              refine lv_aload_n hx hb dX6_takesOrder_115 rfl (lv_at hl 1 rfl) ?_
              refine lv_aload_n hx hb dX6_takesOrder_116 rfl (lv_at hl 1 rfl) ?_
              refine kcalli (wc := [cM μ iK kn ln th (sp + 1 + 0) sp false (hrZ T ln sp) 0 se re ca]) (wr := [xI g (μ 6) 60 T]) (wn := fun (u : Unit) => [cM μ iK kn ln th (sp + 1 + 0) sp false (hrZ T ln sp) 0 se re ca, xI g (μ 6) 60 T]) F w [0] [1] [1, 0] rfl rfl rfl (fun _ => rfl)
                (fun hp => va_runV (As := []) (rest := [.ref (μ 0)]) F.1 (kX6_takesNumber_0 l g μ iK kn ln th (sp + 1 + 0) sp false (hrZ T ln sp) 0 se re ca H.size ) (cwV 0 hts gX6_takesOrder_X6_takesNumber rfl rfl rfl ⟨rfl, hd_X6_takesNumber⟩ ⟨Nat.le_of_ble_eq_true rfl, Nat.le_of_ble_eq_true rfl⟩) ⟨hp.1, va_recv F.2.2.2.1.1 w.1 (q0 := 0) (ci := 6) rfl rfl, hp.2⟩ rfl rfl hl.1 rfl (lv_room (Nat.le_of_ble_eq_true rfl)) dX6_takesOrder_117 ⟨Nat.le_of_ble_eq_true rfl, Nat.le_of_ble_eq_true rfl⟩)
                (fun r_189 _ H locs h_190 w => ?_)
              subst h_190
              refine kput (fs := [.ref (μ 1), .ref (μ 2), .ref (μ 3), .ref (μ 4), .int (bI iK), .ref (μ 5), .int (nI kn), .ref (μ 6), .int (nI ln), .int (nI th), .int (nI (sp + 1 + 0)), .int (nI sp), .int (bI false), .int (hrZ T ln sp), .int (nI 0), .int (nI se), .int (nI re), .int (nI ca)]) F w in_X6_takesOrder_X6 tyX6_ok nmX6 0 rfl rfl 15 (by decide) (by decide +kernel) rfl rfl (rfl) (rfl) (Nat.le_of_ble_eq_true rfl) (wn := [cM μ iK kn ln th (sp + 1 + 0) sp false (hrZ T ln sp) 0 0 re ca, xI g (μ 6) 60 T]) rfl dX6_takesOrder_120 (fun H locs w => ?_)
              refine lv_aload_n hx hb dX6_takesOrder_123 rfl (lv_at hl 1 rfl) ?_
              refine lv_aload_n hx hb dX6_takesOrder_124 rfl (lv_at hl 1 rfl) ?_
              refine kcalli (wc := [cM μ iK kn ln th (sp + 1 + 0) sp false (hrZ T ln sp) 0 0 re ca, xI g (μ 6) 60 T]) (wr := []) (wn := fun (u : Unit) => [cM μ iK kn ln th (sp + 1 + 0) sp false (hrZ T ln sp) 0 0 re ca, xI g (μ 6) 60 T]) F w [0, 1] [] [0, 1] rfl rfl rfl (fun _ => rfl)
                (fun hp => va_runV (As := []) (rest := [.ref (μ 0)]) F.1 (kX6_here l g μ iK kn ln th (sp + 1 + 0) sp false (hrZ T ln sp) 0 0 re ca T H.size (by omega) (by omega)) (cwV 0 hts gX6_takesOrder_X6_here rfl rfl rfl ⟨rfl, hd_X6_here⟩ ⟨Nat.le_of_ble_eq_true rfl, Nat.le_of_ble_eq_true rfl⟩) ⟨hp.1, va_recv F.2.2.2.1.1 w.1 (q0 := 0) (ci := 6) rfl rfl, hp.2⟩ rfl rfl hl.1 rfl (lv_room (Nat.le_of_ble_eq_true rfl)) dX6_takesOrder_125 ⟨Nat.le_of_ble_eq_true rfl, Nat.le_of_ble_eq_true rfl⟩)
                (fun r_191 _ H locs h_192 w => ?_)
              subst h_192
              refine lv_bipush (v := nI 59) hx hb dX6_takesOrder_128 (by decide) ?_
              refine lv_icmp_ne (tgt := 137) hx hb dX6_takesOrder_130 (by decide) (fun h_193 => ?_) (fun h_193 => ?_)
              · have h_193 : ¬ chZ T ln (sp + 1 + 0) = nI 59 := fun hc => h_193 ((hr_eq (by decide) (by decide)).mpr hc)
                refine lv_iconst (v := nI 0) hx hb dX6_takesOrder_137 (by decide) ?_
                refine ktopi (y := bI false) (by decide) ?_
                refine kcallv (wc := [cM μ iK kn ln th (sp + 1 + 0) sp false (hrZ T ln sp) 0 0 re ca]) (wr := [xI g (μ 6) 60 T]) (wn := fun (u : Unit) => [cM μ iK kn ln th (sp + 1 + 0 + 0) sp false (hrZ T ln sp) 0 0 re ca, xI g (μ 6) 60 T]) F w [0] [1] [1, 0] rfl rfl rfl (fun _ => rfl)
                  (fun hp => va_runV (As := [.int (bI false)]) (rest := []) F.1 (kX6_takes_0 l g μ iK kn ln th (sp + 1 + 0) sp false (hrZ T ln sp) 0 0 re ca false H.size ) (cwV 1 hts gX6_takesOrder_X6_takes rfl rfl rfl ⟨rfl, hd_X6_takes⟩ ⟨Nat.le_of_ble_eq_true rfl, Nat.le_of_ble_eq_true rfl⟩) ⟨hp.1, va_recv F.2.2.2.1.1 w.1 (q0 := 0) (ci := 6) rfl rfl, hp.2⟩ rfl rfl hl.1 rfl (lv_room (Nat.le_of_ble_eq_true rfl)) dX6_takesOrder_138 ⟨Nat.le_of_ble_eq_true rfl, Nat.le_of_ble_eq_true rfl⟩)
                  (fun _ H locs h_195 w => ?_)
                have hok : pOK T ln sp = false := by unfold pOK; simp [hv9, ht1, h_169]
                have hpe : pE T ln sp = sp + 1 := by unfold pE; simp [hv9, ht1, h_169]
                have w : kW g A s [cM μ iK kn ln th (pE T ln sp) sp (pOK T ln sp) (hrZ T ln sp) 0 0 re ca, xI g (μ 6) 60 T] H locs := by
                  have w := w
                  rw [hpe, hok]; exact w
                subst hA
                subst hQ
                exact kretv F w (0, 0) [0, 1] rfl rfl (fun hc => absurd (hok.symm.trans hc) (by decide)) (Nat.le_of_ble_eq_true rfl) (Nat.le_of_ble_eq_true rfl) dX6_takesOrder_141
              · have h_193 : chZ T ln (sp + 1 + 0) = nI 59 := (hr_eq (by decide) (by decide)).mp h_193
                refine lv_iconst (v := nI 1) hx hb dX6_takesOrder_133 (by decide) ?_
                refine lv_goto (tgt := 138) hx hb dX6_takesOrder_134 (by decide) ?_
                refine ktopi (y := bI true) (by decide) ?_
                refine kcallv (wc := [cM μ iK kn ln th (sp + 1 + 0) sp false (hrZ T ln sp) 0 0 re ca]) (wr := [xI g (μ 6) 60 T]) (wn := fun (u : Unit) => [cM μ iK kn ln th (sp + 1 + 0 + 0) sp false (hrZ T ln sp) 0 0 re ca, xI g (μ 6) 60 T]) F w [0] [1] [1, 0] rfl rfl rfl (fun _ => rfl)
                  (fun hp => va_runV (As := [.int (bI true)]) (rest := []) F.1 (kX6_takes_0 l g μ iK kn ln th (sp + 1 + 0) sp false (hrZ T ln sp) 0 0 re ca true H.size ) (cwV 1 hts gX6_takesOrder_X6_takes rfl rfl rfl ⟨rfl, hd_X6_takes⟩ ⟨Nat.le_of_ble_eq_true rfl, Nat.le_of_ble_eq_true rfl⟩) ⟨hp.1, va_recv F.2.2.2.1.1 w.1 (q0 := 0) (ci := 6) rfl rfl, hp.2⟩ rfl rfl hl.1 rfl (lv_room (Nat.le_of_ble_eq_true rfl)) dX6_takesOrder_138 ⟨Nat.le_of_ble_eq_true rfl, Nat.le_of_ble_eq_true rfl⟩)
                  (fun _ H locs h_197 w => ?_)
                have hok : pOK T ln sp = false := by unfold pOK; simp [hv9, ht1, h_169]
                have hpe : pE T ln sp = sp + 1 := by unfold pE; simp [hv9, ht1, h_169]
                have w : kW g A s [cM μ iK kn ln th (pE T ln sp) sp (pOK T ln sp) (hrZ T ln sp) 0 0 re ca, xI g (μ 6) 60 T] H locs := by
                  have w := w
                  rw [hpe, hok]; exact w
                subst hA
                subst hQ
                exact kretv F w (0, 0) [0, 1] rfl rfl (fun hc => absurd (hok.symm.trans hc) (by decide)) (Nat.le_of_ble_eq_true rfl) (Nat.le_of_ble_eq_true rfl) dX6_takesOrder_141
        · skip
          refine kcalli (wc := [cM μ iK kn ln th (sp + 1) sp true (hrZ T ln sp) fi se re ca, xI g (μ 6) 60 T]) (wr := []) (wn := fun (u : Unit) => [cM μ iK kn ln th (nEz T ln (sp + 1)) sp true (hrZ T ln sp) fi se re ca, xI g (μ 6) 60 T]) F w [0, 1] [] [0, 1] rfl rfl rfl (fun _ => rfl)
            (fun hp => va_runV (As := []) (rest := [.ref (μ 0)]) F.1 (kX6_takesNumber_k l g μ iK kn ln th (sp + 1) sp false (hrZ T ln sp) fi se re ca T H.size (by omega) (by omega) h_169) (cwV 0 hts gX6_takesOrder_X6_takesNumber rfl rfl rfl ⟨rfl, hd_X6_takesNumber⟩ ⟨Nat.le_of_ble_eq_true rfl, Nat.le_of_ble_eq_true rfl⟩) ⟨hp.1, va_recv F.2.2.2.1.1 w.1 (q0 := 0) (ci := 6) rfl rfl, hp.2⟩ rfl rfl hl.1 rfl (lv_room (Nat.le_of_ble_eq_true rfl)) dX6_takesOrder_87 ⟨Nat.le_of_ble_eq_true rfl, Nat.le_of_ble_eq_true rfl⟩)
            (fun r_198 _ H locs h_199 w => ?_)
          subst h_199
          have hz9 := nEz_le (T := T) (L := ln) (p := sp + 1)
          refine kput (fs := [.ref (μ 1), .ref (μ 2), .ref (μ 3), .ref (μ 4), .int (bI iK), .ref (μ 5), .int (nI kn), .ref (μ 6), .int (nI ln), .int (nI th), .int (nI (nEz T ln (sp + 1))), .int (nI sp), .int (bI true), .int (hrZ T ln sp), .int (nI fi), .int (nI se), .int (nI re), .int (nI ca)]) F w in_X6_takesOrder_X6 tyX6_ok nmX6 0 rfl rfl 14 (by decide) (by decide +kernel) rfl rfl (rfl) (rfl) (Nat.le_of_ble_eq_true rfl) (wn := [cM μ iK kn ln th (nEz T ln (sp + 1)) sp true (hrZ T ln sp) (nVz T ln (sp + 1)) se re ca, xI g (μ 6) 60 T]) rfl dX6_takesOrder_90 (fun H locs w => ?_)
          refine lv_iload_n hx hb dX6_takesOrder_93 rfl (lv_at hl 0 rfl) ?_
          refine lv_if_eq (tgt := 123) hx hb dX6_takesOrder_94 (by decide) (fun h_200 => ?_) (fun h_200 => ?_)
          · have h_200 : 1 = 0 := (kc0_eq_t (by omega)).mp h_200
            omega
          · have h_200 : 1 ≠ 0 := (kc0_eq_f (by omega)).mp h_200
            refine lv_aload_n hx hb dX6_takesOrder_97 rfl (lv_at hl 1 rfl) ?_
            refine lv_aload_n hx hb dX6_takesOrder_98 rfl (lv_at hl 1 rfl) ?_
            refine kcalli (wc := [cM μ iK kn ln th (nEz T ln (sp + 1)) sp true (hrZ T ln sp) (nVz T ln (sp + 1)) se re ca, xI g (μ 6) 60 T]) (wr := []) (wn := fun (u : Unit) => [cM μ iK kn ln th (nEz T ln (sp + 1)) sp true (hrZ T ln sp) (nVz T ln (sp + 1)) se re ca, xI g (μ 6) 60 T]) F w [0, 1] [] [0, 1] rfl rfl rfl (fun _ => rfl)
              (fun hp => va_runV (As := []) (rest := [.ref (μ 0)]) F.1 (kX6_here l g μ iK kn ln th (nEz T ln (sp + 1)) sp true (hrZ T ln sp) (nVz T ln (sp + 1)) se re ca T H.size (by omega) (by omega)) (cwV 0 hts gX6_takesOrder_X6_here rfl rfl rfl ⟨rfl, hd_X6_here⟩ ⟨Nat.le_of_ble_eq_true rfl, Nat.le_of_ble_eq_true rfl⟩) ⟨hp.1, va_recv F.2.2.2.1.1 w.1 (q0 := 0) (ci := 6) rfl rfl, hp.2⟩ rfl rfl hl.1 rfl (lv_room (Nat.le_of_ble_eq_true rfl)) dX6_takesOrder_99 ⟨Nat.le_of_ble_eq_true rfl, Nat.le_of_ble_eq_true rfl⟩)
              (fun r_201 _ H locs h_202 w => ?_)
            subst h_202
            refine lv_bipush (v := nI 44) hx hb dX6_takesOrder_102 (by decide) ?_
            refine lv_icmp_ne (tgt := 111) hx hb dX6_takesOrder_104 (by decide) (fun h_203 => ?_) (fun h_203 => ?_)
            · have h_203 : ¬ chZ T ln (nEz T ln (sp + 1)) = nI 44 := fun hc => h_203 ((hr_eq (by decide) (by decide)).mpr hc)
              refine lv_iconst (v := nI 0) hx hb dX6_takesOrder_111 (by decide) ?_
              refine ktopi (y := bI false) (by decide) ?_
              refine kcallv (wc := [cM μ iK kn ln th (nEz T ln (sp + 1)) sp true (hrZ T ln sp) (nVz T ln (sp + 1)) se re ca]) (wr := [xI g (μ 6) 60 T]) (wn := fun (u : Unit) => [cM μ iK kn ln th ((nEz T ln (sp + 1)) + 0) sp false (hrZ T ln sp) (nVz T ln (sp + 1)) se re ca, xI g (μ 6) 60 T]) F w [0] [1] [1, 0] rfl rfl rfl (fun _ => rfl)
                (fun hp => va_runV (As := [.int (bI false)]) (rest := []) F.1 (kX6_takes_10 l g μ iK kn ln th (nEz T ln (sp + 1)) sp false (hrZ T ln sp) (nVz T ln (sp + 1)) se re ca H.size ) (cwV 1 hts gX6_takesOrder_X6_takes rfl rfl rfl ⟨rfl, hd_X6_takes⟩ ⟨Nat.le_of_ble_eq_true rfl, Nat.le_of_ble_eq_true rfl⟩) ⟨hp.1, va_recv F.2.2.2.1.1 w.1 (q0 := 0) (ci := 6) rfl rfl, hp.2⟩ rfl rfl hl.1 rfl (lv_room (Nat.le_of_ble_eq_true rfl)) dX6_takesOrder_112 ⟨Nat.le_of_ble_eq_true rfl, Nat.le_of_ble_eq_true rfl⟩)
                (fun _ H locs h_205 w => ?_)
              refine lv_aload_n hx hb dX6_takesOrder_115 rfl (lv_at hl 1 rfl) ?_
              refine lv_aload_n hx hb dX6_takesOrder_116 rfl (lv_at hl 1 rfl) ?_
              refine kcalli (wc := [cM μ iK kn ln th ((nEz T ln (sp + 1)) + 0) sp false (hrZ T ln sp) (nVz T ln (sp + 1)) se re ca]) (wr := [xI g (μ 6) 60 T]) (wn := fun (u : Unit) => [cM μ iK kn ln th ((nEz T ln (sp + 1)) + 0) sp false (hrZ T ln sp) (nVz T ln (sp + 1)) se re ca, xI g (μ 6) 60 T]) F w [0] [1] [1, 0] rfl rfl rfl (fun _ => rfl)
                (fun hp => va_runV (As := []) (rest := [.ref (μ 0)]) F.1 (kX6_takesNumber_0 l g μ iK kn ln th ((nEz T ln (sp + 1)) + 0) sp false (hrZ T ln sp) (nVz T ln (sp + 1)) se re ca H.size ) (cwV 0 hts gX6_takesOrder_X6_takesNumber rfl rfl rfl ⟨rfl, hd_X6_takesNumber⟩ ⟨Nat.le_of_ble_eq_true rfl, Nat.le_of_ble_eq_true rfl⟩) ⟨hp.1, va_recv F.2.2.2.1.1 w.1 (q0 := 0) (ci := 6) rfl rfl, hp.2⟩ rfl rfl hl.1 rfl (lv_room (Nat.le_of_ble_eq_true rfl)) dX6_takesOrder_117 ⟨Nat.le_of_ble_eq_true rfl, Nat.le_of_ble_eq_true rfl⟩)
                (fun r_206 _ H locs h_207 w => ?_)
              subst h_207
              refine kput (fs := [.ref (μ 1), .ref (μ 2), .ref (μ 3), .ref (μ 4), .int (bI iK), .ref (μ 5), .int (nI kn), .ref (μ 6), .int (nI ln), .int (nI th), .int (nI ((nEz T ln (sp + 1)) + 0)), .int (nI sp), .int (bI false), .int (hrZ T ln sp), .int (nI (nVz T ln (sp + 1))), .int (nI se), .int (nI re), .int (nI ca)]) F w in_X6_takesOrder_X6 tyX6_ok nmX6 0 rfl rfl 15 (by decide) (by decide +kernel) rfl rfl (rfl) (rfl) (Nat.le_of_ble_eq_true rfl) (wn := [cM μ iK kn ln th ((nEz T ln (sp + 1)) + 0) sp false (hrZ T ln sp) (nVz T ln (sp + 1)) 0 re ca, xI g (μ 6) 60 T]) rfl dX6_takesOrder_120 (fun H locs w => ?_)
              refine lv_aload_n hx hb dX6_takesOrder_123 rfl (lv_at hl 1 rfl) ?_
              refine lv_aload_n hx hb dX6_takesOrder_124 rfl (lv_at hl 1 rfl) ?_
              refine kcalli (wc := [cM μ iK kn ln th ((nEz T ln (sp + 1)) + 0) sp false (hrZ T ln sp) (nVz T ln (sp + 1)) 0 re ca, xI g (μ 6) 60 T]) (wr := []) (wn := fun (u : Unit) => [cM μ iK kn ln th ((nEz T ln (sp + 1)) + 0) sp false (hrZ T ln sp) (nVz T ln (sp + 1)) 0 re ca, xI g (μ 6) 60 T]) F w [0, 1] [] [0, 1] rfl rfl rfl (fun _ => rfl)
                (fun hp => va_runV (As := []) (rest := [.ref (μ 0)]) F.1 (kX6_here l g μ iK kn ln th ((nEz T ln (sp + 1)) + 0) sp false (hrZ T ln sp) (nVz T ln (sp + 1)) 0 re ca T H.size (by omega) (by omega)) (cwV 0 hts gX6_takesOrder_X6_here rfl rfl rfl ⟨rfl, hd_X6_here⟩ ⟨Nat.le_of_ble_eq_true rfl, Nat.le_of_ble_eq_true rfl⟩) ⟨hp.1, va_recv F.2.2.2.1.1 w.1 (q0 := 0) (ci := 6) rfl rfl, hp.2⟩ rfl rfl hl.1 rfl (lv_room (Nat.le_of_ble_eq_true rfl)) dX6_takesOrder_125 ⟨Nat.le_of_ble_eq_true rfl, Nat.le_of_ble_eq_true rfl⟩)
                (fun r_208 _ H locs h_209 w => ?_)
              subst h_209
              refine lv_bipush (v := nI 59) hx hb dX6_takesOrder_128 (by decide) ?_
              refine lv_icmp_ne (tgt := 137) hx hb dX6_takesOrder_130 (by decide) (fun h_210 => ?_) (fun h_210 => ?_)
              · have h_210 : ¬ chZ T ln ((nEz T ln (sp + 1)) + 0) = nI 59 := fun hc => h_210 ((hr_eq (by decide) (by decide)).mpr hc)
                refine lv_iconst (v := nI 0) hx hb dX6_takesOrder_137 (by decide) ?_
                refine ktopi (y := bI false) (by decide) ?_
                refine kcallv (wc := [cM μ iK kn ln th ((nEz T ln (sp + 1)) + 0) sp false (hrZ T ln sp) (nVz T ln (sp + 1)) 0 re ca]) (wr := [xI g (μ 6) 60 T]) (wn := fun (u : Unit) => [cM μ iK kn ln th (((nEz T ln (sp + 1)) + 0) + 0) sp false (hrZ T ln sp) (nVz T ln (sp + 1)) 0 re ca, xI g (μ 6) 60 T]) F w [0] [1] [1, 0] rfl rfl rfl (fun _ => rfl)
                  (fun hp => va_runV (As := [.int (bI false)]) (rest := []) F.1 (kX6_takes_0 l g μ iK kn ln th ((nEz T ln (sp + 1)) + 0) sp false (hrZ T ln sp) (nVz T ln (sp + 1)) 0 re ca false H.size ) (cwV 1 hts gX6_takesOrder_X6_takes rfl rfl rfl ⟨rfl, hd_X6_takes⟩ ⟨Nat.le_of_ble_eq_true rfl, Nat.le_of_ble_eq_true rfl⟩) ⟨hp.1, va_recv F.2.2.2.1.1 w.1 (q0 := 0) (ci := 6) rfl rfl, hp.2⟩ rfl rfl hl.1 rfl (lv_room (Nat.le_of_ble_eq_true rfl)) dX6_takesOrder_138 ⟨Nat.le_of_ble_eq_true rfl, Nat.le_of_ble_eq_true rfl⟩)
                  (fun _ H locs h_212 w => ?_)
                have hok : pOK T ln sp = false := by unfold pOK; simp [hv9, ht1, h_169, h_203]
                have hpe : pE T ln sp = ((nEz T ln (sp + 1)) + 0) := by unfold pE; simp [hv9, ht1, h_169, h_203]
                have w : kW g A s [cM μ iK kn ln th (pE T ln sp) sp (pOK T ln sp) (hrZ T ln sp) (nVz T ln (sp + 1)) 0 re ca, xI g (μ 6) 60 T] H locs := by
                  have w := w
                  rw [hpe, hok]; exact w
                subst hA
                subst hQ
                exact kretv F w (nVz T ln (sp + 1), 0) [0, 1] rfl rfl (fun hc => absurd (hok.symm.trans hc) (by decide)) (Nat.le_of_ble_eq_true rfl) (Nat.le_of_ble_eq_true rfl) dX6_takesOrder_141
              · have h_210 : chZ T ln ((nEz T ln (sp + 1)) + 0) = nI 59 := (hr_eq (by decide) (by decide)).mp h_210
                refine lv_iconst (v := nI 1) hx hb dX6_takesOrder_133 (by decide) ?_
                refine lv_goto (tgt := 138) hx hb dX6_takesOrder_134 (by decide) ?_
                refine ktopi (y := bI true) (by decide) ?_
                refine kcallv (wc := [cM μ iK kn ln th ((nEz T ln (sp + 1)) + 0) sp false (hrZ T ln sp) (nVz T ln (sp + 1)) 0 re ca]) (wr := [xI g (μ 6) 60 T]) (wn := fun (u : Unit) => [cM μ iK kn ln th (((nEz T ln (sp + 1)) + 0) + 0) sp false (hrZ T ln sp) (nVz T ln (sp + 1)) 0 re ca, xI g (μ 6) 60 T]) F w [0] [1] [1, 0] rfl rfl rfl (fun _ => rfl)
                  (fun hp => va_runV (As := [.int (bI true)]) (rest := []) F.1 (kX6_takes_0 l g μ iK kn ln th ((nEz T ln (sp + 1)) + 0) sp false (hrZ T ln sp) (nVz T ln (sp + 1)) 0 re ca true H.size ) (cwV 1 hts gX6_takesOrder_X6_takes rfl rfl rfl ⟨rfl, hd_X6_takes⟩ ⟨Nat.le_of_ble_eq_true rfl, Nat.le_of_ble_eq_true rfl⟩) ⟨hp.1, va_recv F.2.2.2.1.1 w.1 (q0 := 0) (ci := 6) rfl rfl, hp.2⟩ rfl rfl hl.1 rfl (lv_room (Nat.le_of_ble_eq_true rfl)) dX6_takesOrder_138 ⟨Nat.le_of_ble_eq_true rfl, Nat.le_of_ble_eq_true rfl⟩)
                  (fun _ H locs h_214 w => ?_)
                have hok : pOK T ln sp = false := by unfold pOK; simp [hv9, ht1, h_169, h_203]
                have hpe : pE T ln sp = ((nEz T ln (sp + 1)) + 0) := by unfold pE; simp [hv9, ht1, h_169, h_203]
                have w : kW g A s [cM μ iK kn ln th (pE T ln sp) sp (pOK T ln sp) (hrZ T ln sp) (nVz T ln (sp + 1)) 0 re ca, xI g (μ 6) 60 T] H locs := by
                  have w := w
                  rw [hpe, hok]; exact w
                subst hA
                subst hQ
                exact kretv F w (nVz T ln (sp + 1), 0) [0, 1] rfl rfl (fun hc => absurd (hok.symm.trans hc) (by decide)) (Nat.le_of_ble_eq_true rfl) (Nat.le_of_ble_eq_true rfl) dX6_takesOrder_141
            · have h_203 : chZ T ln (nEz T ln (sp + 1)) = nI 44 := (hr_eq (by decide) (by decide)).mp h_203
              refine lv_iconst (v := nI 1) hx hb dX6_takesOrder_107 (by decide) ?_
              refine lv_goto (tgt := 112) hx hb dX6_takesOrder_108 (by decide) ?_
              refine ktopi (y := bI true) (by decide) ?_
              refine kcallv (wc := [cM μ iK kn ln th (nEz T ln (sp + 1)) sp true (hrZ T ln sp) (nVz T ln (sp + 1)) se re ca]) (wr := [xI g (μ 6) 60 T]) (wn := fun (u : Unit) => [cM μ iK kn ln th ((nEz T ln (sp + 1)) + 1) sp true (hrZ T ln sp) (nVz T ln (sp + 1)) se re ca, xI g (μ 6) 60 T]) F w [0] [1] [1, 0] rfl rfl rfl (fun _ => rfl)
                (fun hp => va_runV (As := [.int (bI true)]) (rest := []) F.1 (kX6_takes_11 l g μ iK kn ln th (nEz T ln (sp + 1)) sp false (hrZ T ln sp) (nVz T ln (sp + 1)) se re ca H.size ) (cwV 1 hts gX6_takesOrder_X6_takes rfl rfl rfl ⟨rfl, hd_X6_takes⟩ ⟨Nat.le_of_ble_eq_true rfl, Nat.le_of_ble_eq_true rfl⟩) ⟨hp.1, va_recv F.2.2.2.1.1 w.1 (q0 := 0) (ci := 6) rfl rfl, hp.2⟩ rfl rfl hl.1 rfl (lv_room (Nat.le_of_ble_eq_true rfl)) dX6_takesOrder_112 ⟨Nat.le_of_ble_eq_true rfl, Nat.le_of_ble_eq_true rfl⟩)
                (fun _ H locs h_216 w => ?_)
              refine lv_aload_n hx hb dX6_takesOrder_115 rfl (lv_at hl 1 rfl) ?_
              refine lv_aload_n hx hb dX6_takesOrder_116 rfl (lv_at hl 1 rfl) ?_
              rcases (show dgZ (chZ T ln ((nEz T ln (sp + 1)) + 1)) = false ∨ dgZ (chZ T ln ((nEz T ln (sp + 1)) + 1)) = true from by cases dgZ (chZ T ln ((nEz T ln (sp + 1)) + 1)) <;> simp) with h_218 | h_218
              · skip
                refine kcalli (wc := [cM μ iK kn ln th ((nEz T ln (sp + 1)) + 1) sp true (hrZ T ln sp) (nVz T ln (sp + 1)) se re ca, xI g (μ 6) 60 T]) (wr := []) (wn := fun (u : Unit) => [cM μ iK kn ln th ((nEz T ln (sp + 1)) + 1) sp false (hrZ T ln sp) (nVz T ln (sp + 1)) se re ca, xI g (μ 6) 60 T]) F w [0, 1] [] [0, 1] rfl rfl rfl (fun _ => rfl)
                  (fun hp => va_runV (As := []) (rest := [.ref (μ 0)]) F.1 (kX6_takesNumber_n l g μ iK kn ln th ((nEz T ln (sp + 1)) + 1) sp false (hrZ T ln sp) (nVz T ln (sp + 1)) se re ca T H.size (by omega) (by omega) h_218) (cwV 0 hts gX6_takesOrder_X6_takesNumber rfl rfl rfl ⟨rfl, hd_X6_takesNumber⟩ ⟨Nat.le_of_ble_eq_true rfl, Nat.le_of_ble_eq_true rfl⟩) ⟨hp.1, va_recv F.2.2.2.1.1 w.1 (q0 := 0) (ci := 6) rfl rfl, hp.2⟩ rfl rfl hl.1 rfl (lv_room (Nat.le_of_ble_eq_true rfl)) dX6_takesOrder_117 ⟨Nat.le_of_ble_eq_true rfl, Nat.le_of_ble_eq_true rfl⟩)
                  (fun r_219 _ H locs h_220 w => ?_)
                subst h_220
                refine kput (fs := [.ref (μ 1), .ref (μ 2), .ref (μ 3), .ref (μ 4), .int (bI iK), .ref (μ 5), .int (nI kn), .ref (μ 6), .int (nI ln), .int (nI th), .int (nI ((nEz T ln (sp + 1)) + 1)), .int (nI sp), .int (bI false), .int (hrZ T ln sp), .int (nI (nVz T ln (sp + 1))), .int (nI se), .int (nI re), .int (nI ca)]) F w in_X6_takesOrder_X6 tyX6_ok nmX6 0 rfl rfl 15 (by decide) (by decide +kernel) rfl rfl (rfl) (rfl) (Nat.le_of_ble_eq_true rfl) (wn := [cM μ iK kn ln th ((nEz T ln (sp + 1)) + 1) sp false (hrZ T ln sp) (nVz T ln (sp + 1)) 0 re ca, xI g (μ 6) 60 T]) rfl dX6_takesOrder_120 (fun H locs w => ?_)
                refine lv_aload_n hx hb dX6_takesOrder_123 rfl (lv_at hl 1 rfl) ?_
                refine lv_aload_n hx hb dX6_takesOrder_124 rfl (lv_at hl 1 rfl) ?_
                refine kcalli (wc := [cM μ iK kn ln th ((nEz T ln (sp + 1)) + 1) sp false (hrZ T ln sp) (nVz T ln (sp + 1)) 0 re ca, xI g (μ 6) 60 T]) (wr := []) (wn := fun (u : Unit) => [cM μ iK kn ln th ((nEz T ln (sp + 1)) + 1) sp false (hrZ T ln sp) (nVz T ln (sp + 1)) 0 re ca, xI g (μ 6) 60 T]) F w [0, 1] [] [0, 1] rfl rfl rfl (fun _ => rfl)
                  (fun hp => va_runV (As := []) (rest := [.ref (μ 0)]) F.1 (kX6_here l g μ iK kn ln th ((nEz T ln (sp + 1)) + 1) sp false (hrZ T ln sp) (nVz T ln (sp + 1)) 0 re ca T H.size (by omega) (by omega)) (cwV 0 hts gX6_takesOrder_X6_here rfl rfl rfl ⟨rfl, hd_X6_here⟩ ⟨Nat.le_of_ble_eq_true rfl, Nat.le_of_ble_eq_true rfl⟩) ⟨hp.1, va_recv F.2.2.2.1.1 w.1 (q0 := 0) (ci := 6) rfl rfl, hp.2⟩ rfl rfl hl.1 rfl (lv_room (Nat.le_of_ble_eq_true rfl)) dX6_takesOrder_125 ⟨Nat.le_of_ble_eq_true rfl, Nat.le_of_ble_eq_true rfl⟩)
                  (fun r_221 _ H locs h_222 w => ?_)
                subst h_222
                refine lv_bipush (v := nI 59) hx hb dX6_takesOrder_128 (by decide) ?_
                refine lv_icmp_ne (tgt := 137) hx hb dX6_takesOrder_130 (by decide) (fun h_223 => ?_) (fun h_223 => ?_)
                · have h_223 : ¬ chZ T ln ((nEz T ln (sp + 1)) + 1) = nI 59 := fun hc => h_223 ((hr_eq (by decide) (by decide)).mpr hc)
                  refine lv_iconst (v := nI 0) hx hb dX6_takesOrder_137 (by decide) ?_
                  refine ktopi (y := bI false) (by decide) ?_
                  refine kcallv (wc := [cM μ iK kn ln th ((nEz T ln (sp + 1)) + 1) sp false (hrZ T ln sp) (nVz T ln (sp + 1)) 0 re ca]) (wr := [xI g (μ 6) 60 T]) (wn := fun (u : Unit) => [cM μ iK kn ln th (((nEz T ln (sp + 1)) + 1) + 0) sp false (hrZ T ln sp) (nVz T ln (sp + 1)) 0 re ca, xI g (μ 6) 60 T]) F w [0] [1] [1, 0] rfl rfl rfl (fun _ => rfl)
                    (fun hp => va_runV (As := [.int (bI false)]) (rest := []) F.1 (kX6_takes_0 l g μ iK kn ln th ((nEz T ln (sp + 1)) + 1) sp false (hrZ T ln sp) (nVz T ln (sp + 1)) 0 re ca false H.size ) (cwV 1 hts gX6_takesOrder_X6_takes rfl rfl rfl ⟨rfl, hd_X6_takes⟩ ⟨Nat.le_of_ble_eq_true rfl, Nat.le_of_ble_eq_true rfl⟩) ⟨hp.1, va_recv F.2.2.2.1.1 w.1 (q0 := 0) (ci := 6) rfl rfl, hp.2⟩ rfl rfl hl.1 rfl (lv_room (Nat.le_of_ble_eq_true rfl)) dX6_takesOrder_138 ⟨Nat.le_of_ble_eq_true rfl, Nat.le_of_ble_eq_true rfl⟩)
                    (fun _ H locs h_225 w => ?_)
                  have hok : pOK T ln sp = false := by unfold pOK; simp [hv9, ht1, h_169, h_203, h_218]
                  have hpe : pE T ln sp = ((nEz T ln (sp + 1)) + 1) := by unfold pE; simp [hv9, ht1, h_169, h_203, h_218]
                  have w : kW g A s [cM μ iK kn ln th (pE T ln sp) sp (pOK T ln sp) (hrZ T ln sp) (nVz T ln (sp + 1)) 0 re ca, xI g (μ 6) 60 T] H locs := by
                    have w := w
                    rw [hpe, hok]; exact w
                  subst hA
                  subst hQ
                  exact kretv F w (nVz T ln (sp + 1), 0) [0, 1] rfl rfl (fun hc => absurd (hok.symm.trans hc) (by decide)) (Nat.le_of_ble_eq_true rfl) (Nat.le_of_ble_eq_true rfl) dX6_takesOrder_141
                · have h_223 : chZ T ln ((nEz T ln (sp + 1)) + 1) = nI 59 := (hr_eq (by decide) (by decide)).mp h_223
                  refine lv_iconst (v := nI 1) hx hb dX6_takesOrder_133 (by decide) ?_
                  refine lv_goto (tgt := 138) hx hb dX6_takesOrder_134 (by decide) ?_
                  refine ktopi (y := bI true) (by decide) ?_
                  refine kcallv (wc := [cM μ iK kn ln th ((nEz T ln (sp + 1)) + 1) sp false (hrZ T ln sp) (nVz T ln (sp + 1)) 0 re ca]) (wr := [xI g (μ 6) 60 T]) (wn := fun (u : Unit) => [cM μ iK kn ln th (((nEz T ln (sp + 1)) + 1) + 0) sp false (hrZ T ln sp) (nVz T ln (sp + 1)) 0 re ca, xI g (μ 6) 60 T]) F w [0] [1] [1, 0] rfl rfl rfl (fun _ => rfl)
                    (fun hp => va_runV (As := [.int (bI true)]) (rest := []) F.1 (kX6_takes_0 l g μ iK kn ln th ((nEz T ln (sp + 1)) + 1) sp false (hrZ T ln sp) (nVz T ln (sp + 1)) 0 re ca true H.size ) (cwV 1 hts gX6_takesOrder_X6_takes rfl rfl rfl ⟨rfl, hd_X6_takes⟩ ⟨Nat.le_of_ble_eq_true rfl, Nat.le_of_ble_eq_true rfl⟩) ⟨hp.1, va_recv F.2.2.2.1.1 w.1 (q0 := 0) (ci := 6) rfl rfl, hp.2⟩ rfl rfl hl.1 rfl (lv_room (Nat.le_of_ble_eq_true rfl)) dX6_takesOrder_138 ⟨Nat.le_of_ble_eq_true rfl, Nat.le_of_ble_eq_true rfl⟩)
                    (fun _ H locs h_227 w => ?_)
                  have hok : pOK T ln sp = false := by unfold pOK; simp [hv9, ht1, h_169, h_203, h_218]
                  have hpe : pE T ln sp = ((nEz T ln (sp + 1)) + 1) := by unfold pE; simp [hv9, ht1, h_169, h_203, h_218]
                  have w : kW g A s [cM μ iK kn ln th (pE T ln sp) sp (pOK T ln sp) (hrZ T ln sp) (nVz T ln (sp + 1)) 0 re ca, xI g (μ 6) 60 T] H locs := by
                    have w := w
                    rw [hpe, hok]; exact w
                  subst hA
                  subst hQ
                  exact kretv F w (nVz T ln (sp + 1), 0) [0, 1] rfl rfl (fun hc => absurd (hok.symm.trans hc) (by decide)) (Nat.le_of_ble_eq_true rfl) (Nat.le_of_ble_eq_true rfl) dX6_takesOrder_141
              · skip
                refine kcalli (wc := [cM μ iK kn ln th ((nEz T ln (sp + 1)) + 1) sp true (hrZ T ln sp) (nVz T ln (sp + 1)) se re ca, xI g (μ 6) 60 T]) (wr := []) (wn := fun (u : Unit) => [cM μ iK kn ln th (nEz T ln ((nEz T ln (sp + 1)) + 1)) sp true (hrZ T ln sp) (nVz T ln (sp + 1)) se re ca, xI g (μ 6) 60 T]) F w [0, 1] [] [0, 1] rfl rfl rfl (fun _ => rfl)
                  (fun hp => va_runV (As := []) (rest := [.ref (μ 0)]) F.1 (kX6_takesNumber_k l g μ iK kn ln th ((nEz T ln (sp + 1)) + 1) sp false (hrZ T ln sp) (nVz T ln (sp + 1)) se re ca T H.size (by omega) (by omega) h_218) (cwV 0 hts gX6_takesOrder_X6_takesNumber rfl rfl rfl ⟨rfl, hd_X6_takesNumber⟩ ⟨Nat.le_of_ble_eq_true rfl, Nat.le_of_ble_eq_true rfl⟩) ⟨hp.1, va_recv F.2.2.2.1.1 w.1 (q0 := 0) (ci := 6) rfl rfl, hp.2⟩ rfl rfl hl.1 rfl (lv_room (Nat.le_of_ble_eq_true rfl)) dX6_takesOrder_117 ⟨Nat.le_of_ble_eq_true rfl, Nat.le_of_ble_eq_true rfl⟩)
                  (fun r_228 _ H locs h_229 w => ?_)
                subst h_229
                have hz9 := nEz_le (T := T) (L := ln) (p := (nEz T ln (sp + 1)) + 1)
                refine kput (fs := [.ref (μ 1), .ref (μ 2), .ref (μ 3), .ref (μ 4), .int (bI iK), .ref (μ 5), .int (nI kn), .ref (μ 6), .int (nI ln), .int (nI th), .int (nI (nEz T ln ((nEz T ln (sp + 1)) + 1))), .int (nI sp), .int (bI true), .int (hrZ T ln sp), .int (nI (nVz T ln (sp + 1))), .int (nI se), .int (nI re), .int (nI ca)]) F w in_X6_takesOrder_X6 tyX6_ok nmX6 0 rfl rfl 15 (by decide) (by decide +kernel) rfl rfl (rfl) (rfl) (Nat.le_of_ble_eq_true rfl) (wn := [cM μ iK kn ln th (nEz T ln ((nEz T ln (sp + 1)) + 1)) sp true (hrZ T ln sp) (nVz T ln (sp + 1)) (nVz T ln ((nEz T ln (sp + 1)) + 1)) re ca, xI g (μ 6) 60 T]) rfl dX6_takesOrder_120 (fun H locs w => ?_)
                refine lv_aload_n hx hb dX6_takesOrder_123 rfl (lv_at hl 1 rfl) ?_
                refine lv_aload_n hx hb dX6_takesOrder_124 rfl (lv_at hl 1 rfl) ?_
                refine kcalli (wc := [cM μ iK kn ln th (nEz T ln ((nEz T ln (sp + 1)) + 1)) sp true (hrZ T ln sp) (nVz T ln (sp + 1)) (nVz T ln ((nEz T ln (sp + 1)) + 1)) re ca, xI g (μ 6) 60 T]) (wr := []) (wn := fun (u : Unit) => [cM μ iK kn ln th (nEz T ln ((nEz T ln (sp + 1)) + 1)) sp true (hrZ T ln sp) (nVz T ln (sp + 1)) (nVz T ln ((nEz T ln (sp + 1)) + 1)) re ca, xI g (μ 6) 60 T]) F w [0, 1] [] [0, 1] rfl rfl rfl (fun _ => rfl)
                  (fun hp => va_runV (As := []) (rest := [.ref (μ 0)]) F.1 (kX6_here l g μ iK kn ln th (nEz T ln ((nEz T ln (sp + 1)) + 1)) sp true (hrZ T ln sp) (nVz T ln (sp + 1)) (nVz T ln ((nEz T ln (sp + 1)) + 1)) re ca T H.size (by omega) (by omega)) (cwV 0 hts gX6_takesOrder_X6_here rfl rfl rfl ⟨rfl, hd_X6_here⟩ ⟨Nat.le_of_ble_eq_true rfl, Nat.le_of_ble_eq_true rfl⟩) ⟨hp.1, va_recv F.2.2.2.1.1 w.1 (q0 := 0) (ci := 6) rfl rfl, hp.2⟩ rfl rfl hl.1 rfl (lv_room (Nat.le_of_ble_eq_true rfl)) dX6_takesOrder_125 ⟨Nat.le_of_ble_eq_true rfl, Nat.le_of_ble_eq_true rfl⟩)
                  (fun r_230 _ H locs h_231 w => ?_)
                subst h_231
                refine lv_bipush (v := nI 59) hx hb dX6_takesOrder_128 (by decide) ?_
                refine lv_icmp_ne (tgt := 137) hx hb dX6_takesOrder_130 (by decide) (fun h_232 => ?_) (fun h_232 => ?_)
                · have h_232 : ¬ chZ T ln (nEz T ln ((nEz T ln (sp + 1)) + 1)) = nI 59 := fun hc => h_232 ((hr_eq (by decide) (by decide)).mpr hc)
                  refine lv_iconst (v := nI 0) hx hb dX6_takesOrder_137 (by decide) ?_
                  refine ktopi (y := bI false) (by decide) ?_
                  refine kcallv (wc := [cM μ iK kn ln th (nEz T ln ((nEz T ln (sp + 1)) + 1)) sp true (hrZ T ln sp) (nVz T ln (sp + 1)) (nVz T ln ((nEz T ln (sp + 1)) + 1)) re ca]) (wr := [xI g (μ 6) 60 T]) (wn := fun (u : Unit) => [cM μ iK kn ln th ((nEz T ln ((nEz T ln (sp + 1)) + 1)) + 0) sp false (hrZ T ln sp) (nVz T ln (sp + 1)) (nVz T ln ((nEz T ln (sp + 1)) + 1)) re ca, xI g (μ 6) 60 T]) F w [0] [1] [1, 0] rfl rfl rfl (fun _ => rfl)
                    (fun hp => va_runV (As := [.int (bI false)]) (rest := []) F.1 (kX6_takes_10 l g μ iK kn ln th (nEz T ln ((nEz T ln (sp + 1)) + 1)) sp false (hrZ T ln sp) (nVz T ln (sp + 1)) (nVz T ln ((nEz T ln (sp + 1)) + 1)) re ca H.size ) (cwV 1 hts gX6_takesOrder_X6_takes rfl rfl rfl ⟨rfl, hd_X6_takes⟩ ⟨Nat.le_of_ble_eq_true rfl, Nat.le_of_ble_eq_true rfl⟩) ⟨hp.1, va_recv F.2.2.2.1.1 w.1 (q0 := 0) (ci := 6) rfl rfl, hp.2⟩ rfl rfl hl.1 rfl (lv_room (Nat.le_of_ble_eq_true rfl)) dX6_takesOrder_138 ⟨Nat.le_of_ble_eq_true rfl, Nat.le_of_ble_eq_true rfl⟩)
                    (fun _ H locs h_234 w => ?_)
                  have hok : pOK T ln sp = false := by unfold pOK; simp [hv9, ht1, h_169, h_203, h_218, h_232]
                  have hpe : pE T ln sp = (nEz T ln ((nEz T ln (sp + 1)) + 1)) := by unfold pE; simp [hv9, ht1, h_169, h_203, h_218, h_232]
                  have w : kW g A s [cM μ iK kn ln th (pE T ln sp) sp (pOK T ln sp) (hrZ T ln sp) (nVz T ln (sp + 1)) (nVz T ln ((nEz T ln (sp + 1)) + 1)) re ca, xI g (μ 6) 60 T] H locs := by
                    have w := w
                    rw [hpe, hok]; exact w
                  subst hA
                  subst hQ
                  exact kretv F w (nVz T ln (sp + 1), nVz T ln ((nEz T ln (sp + 1)) + 1)) [0, 1] rfl rfl (fun hc => absurd (hok.symm.trans hc) (by decide)) (Nat.le_of_ble_eq_true rfl) (Nat.le_of_ble_eq_true rfl) dX6_takesOrder_141
                · have h_232 : chZ T ln (nEz T ln ((nEz T ln (sp + 1)) + 1)) = nI 59 := (hr_eq (by decide) (by decide)).mp h_232
                  refine lv_iconst (v := nI 1) hx hb dX6_takesOrder_133 (by decide) ?_
                  refine lv_goto (tgt := 138) hx hb dX6_takesOrder_134 (by decide) ?_
                  refine ktopi (y := bI true) (by decide) ?_
                  refine kcallv (wc := [cM μ iK kn ln th (nEz T ln ((nEz T ln (sp + 1)) + 1)) sp true (hrZ T ln sp) (nVz T ln (sp + 1)) (nVz T ln ((nEz T ln (sp + 1)) + 1)) re ca]) (wr := [xI g (μ 6) 60 T]) (wn := fun (u : Unit) => [cM μ iK kn ln th ((nEz T ln ((nEz T ln (sp + 1)) + 1)) + 1) sp true (hrZ T ln sp) (nVz T ln (sp + 1)) (nVz T ln ((nEz T ln (sp + 1)) + 1)) re ca, xI g (μ 6) 60 T]) F w [0] [1] [1, 0] rfl rfl rfl (fun _ => rfl)
                    (fun hp => va_runV (As := [.int (bI true)]) (rest := []) F.1 (kX6_takes_11 l g μ iK kn ln th (nEz T ln ((nEz T ln (sp + 1)) + 1)) sp false (hrZ T ln sp) (nVz T ln (sp + 1)) (nVz T ln ((nEz T ln (sp + 1)) + 1)) re ca H.size ) (cwV 1 hts gX6_takesOrder_X6_takes rfl rfl rfl ⟨rfl, hd_X6_takes⟩ ⟨Nat.le_of_ble_eq_true rfl, Nat.le_of_ble_eq_true rfl⟩) ⟨hp.1, va_recv F.2.2.2.1.1 w.1 (q0 := 0) (ci := 6) rfl rfl, hp.2⟩ rfl rfl hl.1 rfl (lv_room (Nat.le_of_ble_eq_true rfl)) dX6_takesOrder_138 ⟨Nat.le_of_ble_eq_true rfl, Nat.le_of_ble_eq_true rfl⟩)
                    (fun _ H locs h_236 w => ?_)
                  have hok : pOK T ln sp = true := by unfold pOK; simp [hv9, ht1, h_169, h_203, h_218, h_232]
                  have hpe : pE T ln sp = (nEz T ln ((nEz T ln (sp + 1)) + 1)) + 1 := by unfold pE; simp [hv9, ht1, h_169, h_203, h_218, h_232]
                  have w : kW g A s [cM μ iK kn ln th (pE T ln sp) sp (pOK T ln sp) (hrZ T ln sp) (nVz T ln (sp + 1)) (nVz T ln ((nEz T ln (sp + 1)) + 1)) re ca, xI g (μ 6) 60 T] H locs := by
                    have w := w
                    rw [hpe, hok]; exact w
                  subst hA
                  subst hQ
                  exact kretv F w (nVz T ln (sp + 1), nVz T ln ((nEz T ln (sp + 1)) + 1)) [0, 1] rfl rfl (fun _ => ⟨rfl, fun ht => (if_pos ht).symm⟩) (Nat.le_of_ble_eq_true rfl) (Nat.le_of_ble_eq_true rfl) dX6_takesOrder_141
      · have h_165 : 1 = 0 := (kc0_ne_f (by omega)).mp h_165
        omega
theorem in_X6_doesOrder_X6 : ∀ w ∈ wsX60, w ∈ wsX6_doesOrder := by decide +kernel
abbrev rmX6_doesOrder_k : Room := { frames := 5, cells := 0, slots := 0, locals := 112 }
set_option maxHeartbeats 4000000 in
set_option maxRecDepth 100000 in
theorem kX6_doesOrder_k (l : Launch) (g : GG) (μ : Nat → Nat) (iK : Bool) (kn : Nat) (ln : Nat) (th : Nat) (sp : Nat) (bg : Nat) (fm : Bool) (le : Int32) (fi : Nat) (se : Nat) (re : Nat) (ca : Nat) (σ : Sg) (sz : Nat) (hvb : vbZ le = true) (hfs : fi ≤ 99 ∧ (twZ le = true → se ≤ 99)) (hcau : cauZ le fi se σ = 0) : Met l yX6_doesOrder wsX6_doesOrder rmX6_doesOrder_k (va_Pc [.ref (μ 0)] (kPre g [cM μ iK kn ln th sp bg fm le fi se re ca, xI g (μ 1) 288 (enc σ)] sz)) (va_Qi (fun (r : Int32) (u : Unit) => ¬ r < 0) (kB g (va_A [cM μ iK kn ln th sp bg fm le fi se re ca, xI g (μ 1) 288 (enc σ)] sz) (fun u => [cM μ iK kn ln th sp bg fm le fi se re ca, xI g (μ 1) 288 (enc (actZ le fi se σ))])) (va_A [cM μ iK kn ln th sp bg fm le fi se re ca, xI g (μ 1) 288 (enc σ)] sz)) 0 0 (va_A [cM μ iK kn ln th sp bg fm le fi se re ca, xI g (μ 1) 288 (enc σ)] sz) := by
  refine kMet (cc := cX6_doesOrder) (maxL := 1) (ret := (some .int)) (own := RX6) (by decide) rfl rfl (Nat.le_of_ble_eq_true rfl) ?_
  intro p e s m args below meth c ls Q H locs A F w hl hnm hA hQ
  have hx := F.1.1
  have hb := F.1.2.1
  have hts := F.1.2.2.2.2
  have hl : lv_has ls 1 [(0, .ref (μ 0))] := hl
  rcases (show le = nI 112 ∨ le = nI 100 ∨ le = nI 108 ∨ le = nI 114 ∨ le = nI 116 from vbZ_cases hvb) with h_1 | h_1 | h_1 | h_1 | h_1
  · skip
    have hfi9 := hfs.1
    have hc9 := hcau
    rw [h_1] at hc9
    have hx9 := hc9
    unfold cauZ at hx9
    have hs9 := cau_in (by decide) (Or.inl hc9)
    rw [if_neg (by decide)] at hx9
    rw [if_neg (fun hc => hc hs9)] at hx9
    have w : kW g A s [cM μ iK kn ln th sp bg fm (nI 112) fi se re ca, xI g (μ 1) 288 (enc σ)] H locs := by
      have w := w
      rw [h_1] at w; exact w
    refine lv_aload_n hx hb dX6_doesOrder_0 rfl (lv_at hl 0 rfl) ?_
    refine kget (fs := [.ref (μ 1), .ref (μ 2), .ref (μ 3), .ref (μ 4), .int (bI iK), .ref (μ 5), .int (nI kn), .ref (μ 6), .int (nI ln), .int (nI th), .int (nI sp), .int (nI bg), .int (bI fm), .int (nI 112), .int (nI fi), .int (nI se), .int (nI re), .int (nI ca)]) F w in_X6_doesOrder_X6 0 rfl rfl 13 (by decide) (by decide +kernel) rfl rfl dX6_doesOrder_1 ?_
    refine lv_lookup (off := 44) (tgt := 48) hx hb dX6_doesOrder_4 (by decide) (by decide +kernel) (by decide) ?_
    refine lv_aload_n hx hb dX6_doesOrder_48 rfl (lv_at hl 0 rfl) ?_
    refine lv_aload_n hx hb dX6_doesOrder_49 rfl (lv_at hl 0 rfl) ?_
    refine kget (fs := [.ref (μ 1), .ref (μ 2), .ref (μ 3), .ref (μ 4), .int (bI iK), .ref (μ 5), .int (nI kn), .ref (μ 6), .int (nI ln), .int (nI th), .int (nI sp), .int (nI bg), .int (bI fm), .int (nI 112), .int (nI fi), .int (nI se), .int (nI re), .int (nI ca)]) F w in_X6_doesOrder_X6 0 rfl rfl 14 (by decide) (by decide +kernel) rfl rfl dX6_doesOrder_50 ?_
    refine kcalli (wc := [cM μ iK kn ln th sp bg fm (nI 112) fi se re ca, xI g (μ 1) 288 (enc σ)]) (wr := []) (wn := fun (u : Unit) => [cM μ iK kn ln th sp bg fm (nI 112) fi se re ca, xI g (μ 1) 288 (enc (passS fi σ))]) F w [0, 1] [] [0, 1] rfl rfl rfl (fun _ => rfl)
      (fun hp => va_runV (As := [.int (nI fi)]) (rest := []) F.1 (kX6_goPass_k l g μ iK kn ln th sp bg fm (nI 112) fi se re ca σ fi H.size hs9) (cwV 1 hts gX6_doesOrder_X6_goPass rfl rfl rfl ⟨rfl, hd_X6_goPass⟩ ⟨Nat.le_of_ble_eq_true rfl, Nat.le_of_ble_eq_true rfl⟩) ⟨hp.1, va_recv F.2.2.2.1.1 w.1 (q0 := 0) (ci := 6) rfl rfl, hp.2⟩ rfl rfl hl.1 rfl (lv_room (Nat.le_of_ble_eq_true rfl)) dX6_doesOrder_53 ⟨Nat.le_of_ble_eq_true rfl, Nat.le_of_ble_eq_true rfl⟩)
      (fun r_2 _ H locs h_3 w => ?_)
    subst h_3
    have w : kW g A s [cM μ iK kn ln th sp bg fm le fi se re ca, xI g (μ 1) 288 (enc (actZ le fi se σ))] H locs := by
      have w := w
      rw [h_1]; exact w
    subst hA
    subst hQ
    exact kreti F w () [0, 1] rfl rfl (nI_nn (by have := zcnt_le (zO (passS fi σ)) 48; omega)) (Nat.le_of_ble_eq_true rfl) (Nat.le_of_ble_eq_true rfl) dX6_doesOrder_56
  · skip
    have hfi9 := hfs.1
    have hc9 := hcau
    rw [h_1] at hc9
    have hx9 := hc9
    unfold cauZ at hx9
    have hs9 := cau_in (by decide) (Or.inl hc9)
    rw [if_neg (by decide)] at hx9
    rw [if_neg (fun hc => hc hs9)] at hx9
    rw [if_pos rfl] at hx9
    have hl9 : zL σ fi = false := by cases hz : zL σ fi; rfl; rw [hz] at hx9; cases hx9
    have w : kW g A s [cM μ iK kn ln th sp bg fm (nI 100) fi se re ca, xI g (μ 1) 288 (enc σ)] H locs := by
      have w := w
      rw [h_1] at w; exact w
    refine lv_aload_n hx hb dX6_doesOrder_0 rfl (lv_at hl 0 rfl) ?_
    refine kget (fs := [.ref (μ 1), .ref (μ 2), .ref (μ 3), .ref (μ 4), .int (bI iK), .ref (μ 5), .int (nI kn), .ref (μ 6), .int (nI ln), .int (nI th), .int (nI sp), .int (nI bg), .int (bI fm), .int (nI 100), .int (nI fi), .int (nI se), .int (nI re), .int (nI ca)]) F w in_X6_doesOrder_X6 0 rfl rfl 13 (by decide) (by decide +kernel) rfl rfl dX6_doesOrder_1 ?_
    refine lv_lookup (off := 53) (tgt := 57) hx hb dX6_doesOrder_4 (by decide) (by decide +kernel) (by decide) ?_
    refine lv_aload_n hx hb dX6_doesOrder_57 rfl (lv_at hl 0 rfl) ?_
    refine lv_aload_n hx hb dX6_doesOrder_58 rfl (lv_at hl 0 rfl) ?_
    refine kget (fs := [.ref (μ 1), .ref (μ 2), .ref (μ 3), .ref (μ 4), .int (bI iK), .ref (μ 5), .int (nI kn), .ref (μ 6), .int (nI ln), .int (nI th), .int (nI sp), .int (nI bg), .int (bI fm), .int (nI 100), .int (nI fi), .int (nI se), .int (nI re), .int (nI ca)]) F w in_X6_doesOrder_X6 0 rfl rfl 14 (by decide) (by decide +kernel) rfl rfl dX6_doesOrder_59 ?_
    refine kcalli (wc := [cM μ iK kn ln th sp bg fm (nI 100) fi se re ca, xI g (μ 1) 288 (enc σ)]) (wr := []) (wn := fun (u : Unit) => [cM μ iK kn ln th sp bg fm (nI 100) fi se re ca, xI g (μ 1) 288 (enc (turnS fi σ))]) F w [0, 1] [] [0, 1] rfl rfl rfl (fun _ => rfl)
      (fun hp => va_runV (As := [.int (nI fi)]) (rest := []) F.1 (kX6_goDoor_k l g μ iK kn ln th sp bg fm (nI 100) fi se re ca σ fi H.size hs9 hl9) (cwV 1 hts gX6_doesOrder_X6_goDoor rfl rfl rfl ⟨rfl, hd_X6_goDoor⟩ ⟨Nat.le_of_ble_eq_true rfl, Nat.le_of_ble_eq_true rfl⟩) ⟨hp.1, va_recv F.2.2.2.1.1 w.1 (q0 := 0) (ci := 6) rfl rfl, hp.2⟩ rfl rfl hl.1 rfl (lv_room (Nat.le_of_ble_eq_true rfl)) dX6_doesOrder_62 ⟨Nat.le_of_ble_eq_true rfl, Nat.le_of_ble_eq_true rfl⟩)
      (fun r_4 _ H locs h_5 w => ?_)
    subst h_5
    have w : kW g A s [cM μ iK kn ln th sp bg fm (nI 100) fi se re ca, xI g (μ 1) 288 (enc (turnL fi σ))] H locs := by
      have w := w
      rw [turnL_n hl9]; exact w
    have w : kW g A s [cM μ iK kn ln th sp bg fm le fi se re ca, xI g (μ 1) 288 (enc (actZ le fi se σ))] H locs := by
      have w := w
      rw [h_1]; exact w
    subst hA
    subst hQ
    exact kreti F w () [0, 1] rfl rfl (bI_nn _) (Nat.le_of_ble_eq_true rfl) (Nat.le_of_ble_eq_true rfl) dX6_doesOrder_65
  · skip
    have hfi9 := hfs.1
    have hc9 := hcau
    rw [h_1] at hc9
    have hx9 := hc9
    unfold cauZ at hx9
    have hs9 := cau_in (by decide) (Or.inl hc9)
    rw [if_neg (by decide)] at hx9
    rw [if_neg (fun hc => hc hs9)] at hx9
    have w : kW g A s [cM μ iK kn ln th sp bg fm (nI 108) fi se re ca, xI g (μ 1) 288 (enc σ)] H locs := by
      have w := w
      rw [h_1] at w; exact w
    refine lv_aload_n hx hb dX6_doesOrder_0 rfl (lv_at hl 0 rfl) ?_
    refine kget (fs := [.ref (μ 1), .ref (μ 2), .ref (μ 3), .ref (μ 4), .int (bI iK), .ref (μ 5), .int (nI kn), .ref (μ 6), .int (nI ln), .int (nI th), .int (nI sp), .int (nI bg), .int (bI fm), .int (nI 108), .int (nI fi), .int (nI se), .int (nI re), .int (nI ca)]) F w in_X6_doesOrder_X6 0 rfl rfl 13 (by decide) (by decide +kernel) rfl rfl dX6_doesOrder_1 ?_
    refine lv_lookup (off := 62) (tgt := 66) hx hb dX6_doesOrder_4 (by decide) (by decide +kernel) (by decide) ?_
    refine lv_aload_n hx hb dX6_doesOrder_66 rfl (lv_at hl 0 rfl) ?_
    refine lv_aload_n hx hb dX6_doesOrder_67 rfl (lv_at hl 0 rfl) ?_
    refine kget (fs := [.ref (μ 1), .ref (μ 2), .ref (μ 3), .ref (μ 4), .int (bI iK), .ref (μ 5), .int (nI kn), .ref (μ 6), .int (nI ln), .int (nI th), .int (nI sp), .int (nI bg), .int (bI fm), .int (nI 108), .int (nI fi), .int (nI se), .int (nI re), .int (nI ca)]) F w in_X6_doesOrder_X6 0 rfl rfl 14 (by decide) (by decide +kernel) rfl rfl dX6_doesOrder_68 ?_
    refine lv_bipush (v := nI 48) hx hb dX6_doesOrder_71 (by decide) ?_
    refine kcalli (wc := [cM μ iK kn ln th sp bg fm (nI 108) fi se re ca, xI g (μ 1) 288 (enc σ)]) (wr := []) (wn := fun (u : Unit) => [cM μ iK kn ln th sp bg fm (nI 108) fi se re ca, xI g (μ 1) 288 (enc (lockS fi σ))]) F w [0, 1] [] [0, 1] rfl rfl rfl (fun _ => rfl)
      (fun hp => va_runV (As := [.int (nI fi), .int (nI 48)]) (rest := []) F.1 (kX6_goTurn_48 l g μ iK kn ln th sp bg fm (nI 108) fi se re ca σ fi H.size hs9) (cwV 2 hts gX6_doesOrder_X6_goTurn rfl rfl rfl ⟨rfl, hd_X6_goTurn⟩ ⟨Nat.le_of_ble_eq_true rfl, Nat.le_of_ble_eq_true rfl⟩) ⟨hp.1, va_recv F.2.2.2.1.1 w.1 (q0 := 0) (ci := 6) rfl rfl, hp.2⟩ rfl rfl hl.1 rfl (lv_room (Nat.le_of_ble_eq_true rfl)) dX6_doesOrder_73 ⟨Nat.le_of_ble_eq_true rfl, Nat.le_of_ble_eq_true rfl⟩)
      (fun r_6 _ H locs h_7 w => ?_)
    subst h_7
    have w : kW g A s [cM μ iK kn ln th sp bg fm le fi se re ca, xI g (μ 1) 288 (enc (actZ le fi se σ))] H locs := by
      have w := w
      rw [h_1]; exact w
    subst hA
    subst hQ
    exact kreti F w () [0, 1] rfl rfl (bI_nn _) (Nat.le_of_ble_eq_true rfl) (Nat.le_of_ble_eq_true rfl) dX6_doesOrder_76
  · skip
    have hfi9 := hfs.1
    have hse9 : se ≤ 99 := hfs.2 (by rw [h_1]; decide)
    have hc9 := hcau
    rw [h_1] at hc9
    have hx9 := hc9
    unfold cauZ at hx9
    rw [if_pos rfl] at hx9
    have hs9 : 1 ≤ fi ∧ fi ≤ se ∧ se ≤ 48 := by by_cases hc : 1 ≤ fi ∧ fi ≤ se ∧ se ≤ 48; exact hc; rw [if_neg hc] at hx9; cases hx9
    have w : kW g A s [cM μ iK kn ln th sp bg fm (nI 114) fi se re ca, xI g (μ 1) 288 (enc σ)] H locs := by
      have w := w
      rw [h_1] at w; exact w
    refine lv_aload_n hx hb dX6_doesOrder_0 rfl (lv_at hl 0 rfl) ?_
    refine kget (fs := [.ref (μ 1), .ref (μ 2), .ref (μ 3), .ref (μ 4), .int (bI iK), .ref (μ 5), .int (nI kn), .ref (μ 6), .int (nI ln), .int (nI th), .int (nI sp), .int (nI bg), .int (bI fm), .int (nI 114), .int (nI fi), .int (nI se), .int (nI re), .int (nI ca)]) F w in_X6_doesOrder_X6 0 rfl rfl 13 (by decide) (by decide +kernel) rfl rfl dX6_doesOrder_1 ?_
    refine lv_lookup (off := 73) (tgt := 77) hx hb dX6_doesOrder_4 (by decide) (by decide +kernel) (by decide) ?_
    refine lv_aload_n hx hb dX6_doesOrder_77 rfl (lv_at hl 0 rfl) ?_
    refine lv_aload_n hx hb dX6_doesOrder_78 rfl (lv_at hl 0 rfl) ?_
    refine kget (fs := [.ref (μ 1), .ref (μ 2), .ref (μ 3), .ref (μ 4), .int (bI iK), .ref (μ 5), .int (nI kn), .ref (μ 6), .int (nI ln), .int (nI th), .int (nI sp), .int (nI bg), .int (bI fm), .int (nI 114), .int (nI fi), .int (nI se), .int (nI re), .int (nI ca)]) F w in_X6_doesOrder_X6 0 rfl rfl 14 (by decide) (by decide +kernel) rfl rfl dX6_doesOrder_79 ?_
    refine lv_aload_n hx hb dX6_doesOrder_82 rfl (lv_at hl 0 rfl) ?_
    refine kget (fs := [.ref (μ 1), .ref (μ 2), .ref (μ 3), .ref (μ 4), .int (bI iK), .ref (μ 5), .int (nI kn), .ref (μ 6), .int (nI ln), .int (nI th), .int (nI sp), .int (nI bg), .int (bI fm), .int (nI 114), .int (nI fi), .int (nI se), .int (nI re), .int (nI ca)]) F w in_X6_doesOrder_X6 0 rfl rfl 15 (by decide) (by decide +kernel) rfl rfl dX6_doesOrder_83 ?_
    refine kcalli (wc := [cM μ iK kn ln th sp bg fm (nI 114) fi se re ca, xI g (μ 1) 288 (enc σ)]) (wr := []) (wn := fun (u : Unit) => [cM μ iK kn ln th sp bg fm (nI 114) fi se re ca, xI g (μ 1) 288 (enc (rowN fi (se + 1 - fi) σ))]) F w [0, 1] [] [0, 1] rfl rfl rfl (fun _ => rfl)
      (fun hp => va_runV (As := [.int (nI fi), .int (nI se)]) (rest := []) F.1 (kX6_goRow_k l g μ iK kn ln th sp bg fm (nI 114) fi se re ca σ fi se H.size hs9) (cwV 2 hts gX6_doesOrder_X6_goRow rfl rfl rfl ⟨rfl, hd_X6_goRow⟩ ⟨Nat.le_of_ble_eq_true rfl, Nat.le_of_ble_eq_true rfl⟩) ⟨hp.1, va_recv F.2.2.2.1.1 w.1 (q0 := 0) (ci := 6) rfl rfl, hp.2⟩ rfl rfl hl.1 rfl (lv_room (Nat.le_of_ble_eq_true rfl)) dX6_doesOrder_86 ⟨Nat.le_of_ble_eq_true rfl, Nat.le_of_ble_eq_true rfl⟩)
      (fun r_8 _ H locs h_9 w => ?_)
    subst h_9
    have w : kW g A s [cM μ iK kn ln th sp bg fm le fi se re ca, xI g (μ 1) 288 (enc (actZ le fi se σ))] H locs := by
      have w := w
      rw [h_1]; exact w
    subst hA
    subst hQ
    exact kreti F w () [0, 1] rfl rfl (nI_nn (by have := rowC_le fi σ (se + 1 - fi); omega)) (Nat.le_of_ble_eq_true rfl) (Nat.le_of_ble_eq_true rfl) dX6_doesOrder_89
  · skip
    have hfi9 := hfs.1
    have hse9 : se ≤ 99 := hfs.2 (by rw [h_1]; decide)
    have hc9 := hcau
    rw [h_1] at hc9
    have hx9 := hc9
    unfold cauZ at hx9
    have hs9 := cau_in (by decide) (Or.inl hc9)
    rw [if_neg (by decide)] at hx9
    rw [if_neg (fun hc => hc hs9)] at hx9
    rw [if_neg (by decide), if_pos rfl] at hx9
    have hk9 : se ≤ 1 := by by_cases hc : se ≤ 1; exact hc; rw [if_pos hc] at hx9; cases hx9
    rw [if_neg (fun hc => hc hk9)] at hx9
    have hr9 : reasZ σ fi (kdz se) = 0 := by by_cases hc : reasZ σ fi (kdz se) = 0; exact hc; rw [if_neg hc] at hx9; cases hx9
    have w : kW g A s [cM μ iK kn ln th sp bg fm (nI 116) fi se re ca, xI g (μ 1) 288 (enc σ)] H locs := by
      have w := w
      rw [h_1] at w; exact w
    refine lv_aload_n hx hb dX6_doesOrder_0 rfl (lv_at hl 0 rfl) ?_
    refine kget (fs := [.ref (μ 1), .ref (μ 2), .ref (μ 3), .ref (μ 4), .int (bI iK), .ref (μ 5), .int (nI kn), .ref (μ 6), .int (nI ln), .int (nI th), .int (nI sp), .int (nI bg), .int (bI fm), .int (nI 116), .int (nI fi), .int (nI se), .int (nI re), .int (nI ca)]) F w in_X6_doesOrder_X6 0 rfl rfl 13 (by decide) (by decide +kernel) rfl rfl dX6_doesOrder_1 ?_
    refine lv_lookup (off := 86) (tgt := 90) hx hb dX6_doesOrder_4 (by decide) (by decide +kernel) (by decide) ?_
    refine lv_aload_n hx hb dX6_doesOrder_90 rfl (lv_at hl 0 rfl) ?_
    refine lv_aload_n hx hb dX6_doesOrder_91 rfl (lv_at hl 0 rfl) ?_
    refine kget (fs := [.ref (μ 1), .ref (μ 2), .ref (μ 3), .ref (μ 4), .int (bI iK), .ref (μ 5), .int (nI kn), .ref (μ 6), .int (nI ln), .int (nI th), .int (nI sp), .int (nI bg), .int (bI fm), .int (nI 116), .int (nI fi), .int (nI se), .int (nI re), .int (nI ca)]) F w in_X6_doesOrder_X6 0 rfl rfl 14 (by decide) (by decide +kernel) rfl rfl dX6_doesOrder_92 ?_
    refine lv_aload_n hx hb dX6_doesOrder_95 rfl (lv_at hl 0 rfl) ?_
    refine kget (fs := [.ref (μ 1), .ref (μ 2), .ref (μ 3), .ref (μ 4), .int (bI iK), .ref (μ 5), .int (nI kn), .ref (μ 6), .int (nI ln), .int (nI th), .int (nI sp), .int (nI bg), .int (bI fm), .int (nI 116), .int (nI fi), .int (nI se), .int (nI re), .int (nI ca)]) F w in_X6_doesOrder_X6 0 rfl rfl 15 (by decide) (by decide +kernel) rfl rfl dX6_doesOrder_96 ?_
    refine ktopi (y := bI (kdz se)) (kdz_b hk9) ?_
    refine kcalli (wc := [cM μ iK kn ln th sp bg fm (nI 116) fi se re ca, xI g (μ 1) 288 (enc σ)]) (wr := []) (wn := fun (u : Unit) => [cM μ iK kn ln th sp bg fm (nI 116) fi se re ca, xI g (μ 1) 288 (enc (putS fi (kdz se) σ))]) F w [0, 1] [] [0, 1] rfl rfl rfl (fun _ => rfl)
      (fun hp => va_runV (As := [.int (nI fi), .int (bI (kdz se))]) (rest := []) F.1 (kX6_goStore_k l g μ iK kn ln th sp bg fm (nI 116) fi se re ca σ fi (kdz se) H.size hs9 hr9) (cwV 2 hts gX6_doesOrder_X6_goStore rfl rfl rfl ⟨rfl, hd_X6_goStore⟩ ⟨Nat.le_of_ble_eq_true rfl, Nat.le_of_ble_eq_true rfl⟩) ⟨hp.1, va_recv F.2.2.2.1.1 w.1 (q0 := 0) (ci := 6) rfl rfl, hp.2⟩ rfl rfl hl.1 rfl (lv_room (Nat.le_of_ble_eq_true rfl)) dX6_doesOrder_99 ⟨Nat.le_of_ble_eq_true rfl, Nat.le_of_ble_eq_true rfl⟩)
      (fun r_10 _ H locs h_11 w => ?_)
    subst h_11
    have w : kW g A s [cM μ iK kn ln th sp bg fm le fi se re ca, xI g (μ 1) 288 (enc (actZ le fi se σ))] H locs := by
      have w := w
      rw [h_1]; exact w
    subst hA
    subst hQ
    exact kreti F w () [0, 1] rfl rfl (nI_nn (by have := zcnt_le (kindP (putS fi (kdz se) σ) (kdz se)) 48; omega)) (Nat.le_of_ble_eq_true rfl) (Nat.le_of_ble_eq_true rfl) dX6_doesOrder_102
abbrev rmX6_doesOrder_A : Room := { frames := 3, cells := 0, slots := 0, locals := 64 }
set_option maxHeartbeats 4000000 in
set_option maxRecDepth 100000 in
theorem kX6_doesOrder_A (l : Launch) (g : GG) (μ : Nat → Nat) (iK : Bool) (kn : Nat) (ln : Nat) (th : Nat) (sp : Nat) (bg : Nat) (fm : Bool) (le : Int32) (fi : Nat) (se : Nat) (re : Nat) (ca : Nat) (σ : Sg) (sz : Nat) (hvb : vbZ le = true) (hfs : fi ≤ 99 ∧ (twZ le = true → se ≤ 99)) (hcau : cauZ le fi se σ = 1) : Met l yX6_doesOrder wsX6_doesOrder rmX6_doesOrder_A (va_Pc [.ref (μ 0)] (kPre g [cM μ iK kn ln th sp bg fm le fi se re ca, xI g (μ 1) 288 (enc σ)] sz)) (va_Qi (fun (r : Int32) (u : Unit) => r = (-11)) (kB g (va_A [cM μ iK kn ln th sp bg fm le fi se re ca, xI g (μ 1) 288 (enc σ)] sz) (fun u => [cM μ iK kn ln th sp bg fm le fi se re ca, xI g (μ 1) 288 (enc σ)])) (va_A [cM μ iK kn ln th sp bg fm le fi se re ca, xI g (μ 1) 288 (enc σ)] sz)) 0 0 (va_A [cM μ iK kn ln th sp bg fm le fi se re ca, xI g (μ 1) 288 (enc σ)] sz) := by
  refine kMet (cc := cX6_doesOrder) (maxL := 1) (ret := (some .int)) (own := RX6) (by decide) rfl rfl (Nat.le_of_ble_eq_true rfl) ?_
  intro p e s m args below meth c ls Q H locs A F w hl hnm hA hQ
  have hx := F.1.1
  have hb := F.1.2.1
  have hts := F.1.2.2.2.2
  have hl : lv_has ls 1 [(0, .ref (μ 0))] := hl
  rcases (show le = nI 112 ∨ le = nI 100 ∨ le = nI 108 ∨ le = nI 114 ∨ le = nI 116 from vbZ_cases hvb) with h_1 | h_1 | h_1 | h_1 | h_1
  · skip
    have hfi9 := hfs.1
    have hc9 := hcau
    rw [h_1] at hc9
    have hx9 := hc9
    unfold cauZ at hx9
    rw [if_neg (by decide)] at hx9
    have hs9 : ¬ (1 ≤ fi ∧ fi ≤ 48) := fun hc => by rw [if_neg (fun q => q hc), if_neg (by decide), if_neg (by decide)] at hx9; cases hx9
    have w : kW g A s [cM μ iK kn ln th sp bg fm (nI 112) fi se re ca, xI g (μ 1) 288 (enc σ)] H locs := by
      have w := w
      rw [h_1] at w; exact w
    refine lv_aload_n hx hb dX6_doesOrder_0 rfl (lv_at hl 0 rfl) ?_
    refine kget (fs := [.ref (μ 1), .ref (μ 2), .ref (μ 3), .ref (μ 4), .int (bI iK), .ref (μ 5), .int (nI kn), .ref (μ 6), .int (nI ln), .int (nI th), .int (nI sp), .int (nI bg), .int (bI fm), .int (nI 112), .int (nI fi), .int (nI se), .int (nI re), .int (nI ca)]) F w in_X6_doesOrder_X6 0 rfl rfl 13 (by decide) (by decide +kernel) rfl rfl dX6_doesOrder_1 ?_
    refine lv_lookup (off := 44) (tgt := 48) hx hb dX6_doesOrder_4 (by decide) (by decide +kernel) (by decide) ?_
    refine lv_aload_n hx hb dX6_doesOrder_48 rfl (lv_at hl 0 rfl) ?_
    refine lv_aload_n hx hb dX6_doesOrder_49 rfl (lv_at hl 0 rfl) ?_
    refine kget (fs := [.ref (μ 1), .ref (μ 2), .ref (μ 3), .ref (μ 4), .int (bI iK), .ref (μ 5), .int (nI kn), .ref (μ 6), .int (nI ln), .int (nI th), .int (nI sp), .int (nI bg), .int (bI fm), .int (nI 112), .int (nI fi), .int (nI se), .int (nI re), .int (nI ca)]) F w in_X6_doesOrder_X6 0 rfl rfl 14 (by decide) (by decide +kernel) rfl rfl dX6_doesOrder_50 ?_
    refine kcalli (wc := [cM μ iK kn ln th sp bg fm (nI 112) fi se re ca]) (wr := [xI g (μ 1) 288 (enc σ)]) (wn := fun (u : Unit) => [cM μ iK kn ln th sp bg fm (nI 112) fi se re ca, xI g (μ 1) 288 (enc σ)]) F w [0] [1] [1, 0] rfl rfl rfl (fun _ => rfl)
      (fun hp => va_runV (As := [.int (nI fi)]) (rest := []) F.1 (kX6_goPass_A l g μ iK kn ln th sp bg fm (nI 112) fi se re ca (nI fi) H.size (by rw [ki_n (by omega)]; omega)) (cwV 1 hts gX6_doesOrder_X6_goPass rfl rfl rfl ⟨rfl, hd_X6_goPass⟩ ⟨Nat.le_of_ble_eq_true rfl, Nat.le_of_ble_eq_true rfl⟩) ⟨hp.1, va_recv F.2.2.2.1.1 w.1 (q0 := 0) (ci := 6) rfl rfl, hp.2⟩ rfl rfl hl.1 rfl (lv_room (Nat.le_of_ble_eq_true rfl)) dX6_doesOrder_53 ⟨Nat.le_of_ble_eq_true rfl, Nat.le_of_ble_eq_true rfl⟩)
      (fun r_2 _ H locs h_3 w => ?_)
    subst h_3
    have w : kW g A s [cM μ iK kn ln th sp bg fm le fi se re ca, xI g (μ 1) 288 (enc σ)] H locs := by
      have w := w
      rw [h_1]; exact w
    subst hA
    subst hQ
    exact kreti F w () [0, 1] rfl rfl (rfl) (Nat.le_of_ble_eq_true rfl) (Nat.le_of_ble_eq_true rfl) dX6_doesOrder_56
  · skip
    have hfi9 := hfs.1
    have hc9 := hcau
    rw [h_1] at hc9
    have hx9 := hc9
    unfold cauZ at hx9
    rw [if_neg (by decide)] at hx9
    have hs9 : ¬ (1 ≤ fi ∧ fi ≤ 48) := fun hc => by rw [if_neg (fun q => q hc), if_pos rfl] at hx9; split at hx9 <;> cases hx9
    have w : kW g A s [cM μ iK kn ln th sp bg fm (nI 100) fi se re ca, xI g (μ 1) 288 (enc σ)] H locs := by
      have w := w
      rw [h_1] at w; exact w
    refine lv_aload_n hx hb dX6_doesOrder_0 rfl (lv_at hl 0 rfl) ?_
    refine kget (fs := [.ref (μ 1), .ref (μ 2), .ref (μ 3), .ref (μ 4), .int (bI iK), .ref (μ 5), .int (nI kn), .ref (μ 6), .int (nI ln), .int (nI th), .int (nI sp), .int (nI bg), .int (bI fm), .int (nI 100), .int (nI fi), .int (nI se), .int (nI re), .int (nI ca)]) F w in_X6_doesOrder_X6 0 rfl rfl 13 (by decide) (by decide +kernel) rfl rfl dX6_doesOrder_1 ?_
    refine lv_lookup (off := 53) (tgt := 57) hx hb dX6_doesOrder_4 (by decide) (by decide +kernel) (by decide) ?_
    refine lv_aload_n hx hb dX6_doesOrder_57 rfl (lv_at hl 0 rfl) ?_
    refine lv_aload_n hx hb dX6_doesOrder_58 rfl (lv_at hl 0 rfl) ?_
    refine kget (fs := [.ref (μ 1), .ref (μ 2), .ref (μ 3), .ref (μ 4), .int (bI iK), .ref (μ 5), .int (nI kn), .ref (μ 6), .int (nI ln), .int (nI th), .int (nI sp), .int (nI bg), .int (bI fm), .int (nI 100), .int (nI fi), .int (nI se), .int (nI re), .int (nI ca)]) F w in_X6_doesOrder_X6 0 rfl rfl 14 (by decide) (by decide +kernel) rfl rfl dX6_doesOrder_59 ?_
    refine kcalli (wc := [cM μ iK kn ln th sp bg fm (nI 100) fi se re ca]) (wr := [xI g (μ 1) 288 (enc σ)]) (wn := fun (u : Unit) => [cM μ iK kn ln th sp bg fm (nI 100) fi se re ca, xI g (μ 1) 288 (enc σ)]) F w [0] [1] [1, 0] rfl rfl rfl (fun _ => rfl)
      (fun hp => va_runV (As := [.int (nI fi)]) (rest := []) F.1 (kX6_goDoor_A l g μ iK kn ln th sp bg fm (nI 100) fi se re ca (nI fi) H.size (by rw [ki_n (by omega)]; omega)) (cwV 1 hts gX6_doesOrder_X6_goDoor rfl rfl rfl ⟨rfl, hd_X6_goDoor⟩ ⟨Nat.le_of_ble_eq_true rfl, Nat.le_of_ble_eq_true rfl⟩) ⟨hp.1, va_recv F.2.2.2.1.1 w.1 (q0 := 0) (ci := 6) rfl rfl, hp.2⟩ rfl rfl hl.1 rfl (lv_room (Nat.le_of_ble_eq_true rfl)) dX6_doesOrder_62 ⟨Nat.le_of_ble_eq_true rfl, Nat.le_of_ble_eq_true rfl⟩)
      (fun r_4 _ H locs h_5 w => ?_)
    subst h_5
    have w : kW g A s [cM μ iK kn ln th sp bg fm le fi se re ca, xI g (μ 1) 288 (enc σ)] H locs := by
      have w := w
      rw [h_1]; exact w
    subst hA
    subst hQ
    exact kreti F w () [0, 1] rfl rfl (rfl) (Nat.le_of_ble_eq_true rfl) (Nat.le_of_ble_eq_true rfl) dX6_doesOrder_65
  · skip
    have hfi9 := hfs.1
    have hc9 := hcau
    rw [h_1] at hc9
    have hx9 := hc9
    unfold cauZ at hx9
    rw [if_neg (by decide)] at hx9
    have hs9 : ¬ (1 ≤ fi ∧ fi ≤ 48) := fun hc => by rw [if_neg (fun q => q hc), if_neg (by decide), if_neg (by decide)] at hx9; cases hx9
    have w : kW g A s [cM μ iK kn ln th sp bg fm (nI 108) fi se re ca, xI g (μ 1) 288 (enc σ)] H locs := by
      have w := w
      rw [h_1] at w; exact w
    refine lv_aload_n hx hb dX6_doesOrder_0 rfl (lv_at hl 0 rfl) ?_
    refine kget (fs := [.ref (μ 1), .ref (μ 2), .ref (μ 3), .ref (μ 4), .int (bI iK), .ref (μ 5), .int (nI kn), .ref (μ 6), .int (nI ln), .int (nI th), .int (nI sp), .int (nI bg), .int (bI fm), .int (nI 108), .int (nI fi), .int (nI se), .int (nI re), .int (nI ca)]) F w in_X6_doesOrder_X6 0 rfl rfl 13 (by decide) (by decide +kernel) rfl rfl dX6_doesOrder_1 ?_
    refine lv_lookup (off := 62) (tgt := 66) hx hb dX6_doesOrder_4 (by decide) (by decide +kernel) (by decide) ?_
    refine lv_aload_n hx hb dX6_doesOrder_66 rfl (lv_at hl 0 rfl) ?_
    refine lv_aload_n hx hb dX6_doesOrder_67 rfl (lv_at hl 0 rfl) ?_
    refine kget (fs := [.ref (μ 1), .ref (μ 2), .ref (μ 3), .ref (μ 4), .int (bI iK), .ref (μ 5), .int (nI kn), .ref (μ 6), .int (nI ln), .int (nI th), .int (nI sp), .int (nI bg), .int (bI fm), .int (nI 108), .int (nI fi), .int (nI se), .int (nI re), .int (nI ca)]) F w in_X6_doesOrder_X6 0 rfl rfl 14 (by decide) (by decide +kernel) rfl rfl dX6_doesOrder_68 ?_
    refine lv_bipush (v := nI 48) hx hb dX6_doesOrder_71 (by decide) ?_
    refine kcalli (wc := [cM μ iK kn ln th sp bg fm (nI 108) fi se re ca]) (wr := [xI g (μ 1) 288 (enc σ)]) (wn := fun (u : Unit) => [cM μ iK kn ln th sp bg fm (nI 108) fi se re ca, xI g (μ 1) 288 (enc σ)]) F w [0] [1] [1, 0] rfl rfl rfl (fun _ => rfl)
      (fun hp => va_runV (As := [.int (nI fi), .int (nI 48)]) (rest := []) F.1 (kX6_goTurn_A l g μ iK kn ln th sp bg fm (nI 108) fi se re ca (nI fi) (nI 48) H.size (by rw [ki_n (by omega)]; omega)) (cwV 2 hts gX6_doesOrder_X6_goTurn rfl rfl rfl ⟨rfl, hd_X6_goTurn⟩ ⟨Nat.le_of_ble_eq_true rfl, Nat.le_of_ble_eq_true rfl⟩) ⟨hp.1, va_recv F.2.2.2.1.1 w.1 (q0 := 0) (ci := 6) rfl rfl, hp.2⟩ rfl rfl hl.1 rfl (lv_room (Nat.le_of_ble_eq_true rfl)) dX6_doesOrder_73 ⟨Nat.le_of_ble_eq_true rfl, Nat.le_of_ble_eq_true rfl⟩)
      (fun r_6 _ H locs h_7 w => ?_)
    subst h_7
    have w : kW g A s [cM μ iK kn ln th sp bg fm le fi se re ca, xI g (μ 1) 288 (enc σ)] H locs := by
      have w := w
      rw [h_1]; exact w
    subst hA
    subst hQ
    exact kreti F w () [0, 1] rfl rfl (rfl) (Nat.le_of_ble_eq_true rfl) (Nat.le_of_ble_eq_true rfl) dX6_doesOrder_76
  · skip
    have hfi9 := hfs.1
    have hse9 : se ≤ 99 := hfs.2 (by rw [h_1]; decide)
    have hc9 := hcau
    rw [h_1] at hc9
    have hx9 := hc9
    unfold cauZ at hx9
    rw [if_pos rfl] at hx9
    have hs9 : ¬ (1 ≤ fi ∧ fi ≤ se ∧ se ≤ 48) := fun hc => by rw [if_pos hc] at hx9; cases hx9
    have w : kW g A s [cM μ iK kn ln th sp bg fm (nI 114) fi se re ca, xI g (μ 1) 288 (enc σ)] H locs := by
      have w := w
      rw [h_1] at w; exact w
    refine lv_aload_n hx hb dX6_doesOrder_0 rfl (lv_at hl 0 rfl) ?_
    refine kget (fs := [.ref (μ 1), .ref (μ 2), .ref (μ 3), .ref (μ 4), .int (bI iK), .ref (μ 5), .int (nI kn), .ref (μ 6), .int (nI ln), .int (nI th), .int (nI sp), .int (nI bg), .int (bI fm), .int (nI 114), .int (nI fi), .int (nI se), .int (nI re), .int (nI ca)]) F w in_X6_doesOrder_X6 0 rfl rfl 13 (by decide) (by decide +kernel) rfl rfl dX6_doesOrder_1 ?_
    refine lv_lookup (off := 73) (tgt := 77) hx hb dX6_doesOrder_4 (by decide) (by decide +kernel) (by decide) ?_
    refine lv_aload_n hx hb dX6_doesOrder_77 rfl (lv_at hl 0 rfl) ?_
    refine lv_aload_n hx hb dX6_doesOrder_78 rfl (lv_at hl 0 rfl) ?_
    refine kget (fs := [.ref (μ 1), .ref (μ 2), .ref (μ 3), .ref (μ 4), .int (bI iK), .ref (μ 5), .int (nI kn), .ref (μ 6), .int (nI ln), .int (nI th), .int (nI sp), .int (nI bg), .int (bI fm), .int (nI 114), .int (nI fi), .int (nI se), .int (nI re), .int (nI ca)]) F w in_X6_doesOrder_X6 0 rfl rfl 14 (by decide) (by decide +kernel) rfl rfl dX6_doesOrder_79 ?_
    refine lv_aload_n hx hb dX6_doesOrder_82 rfl (lv_at hl 0 rfl) ?_
    refine kget (fs := [.ref (μ 1), .ref (μ 2), .ref (μ 3), .ref (μ 4), .int (bI iK), .ref (μ 5), .int (nI kn), .ref (μ 6), .int (nI ln), .int (nI th), .int (nI sp), .int (nI bg), .int (bI fm), .int (nI 114), .int (nI fi), .int (nI se), .int (nI re), .int (nI ca)]) F w in_X6_doesOrder_X6 0 rfl rfl 15 (by decide) (by decide +kernel) rfl rfl dX6_doesOrder_83 ?_
    refine kcalli (wc := [cM μ iK kn ln th sp bg fm (nI 114) fi se re ca]) (wr := [xI g (μ 1) 288 (enc σ)]) (wn := fun (u : Unit) => [cM μ iK kn ln th sp bg fm (nI 114) fi se re ca, xI g (μ 1) 288 (enc σ)]) F w [0] [1] [1, 0] rfl rfl rfl (fun _ => rfl)
      (fun hp => va_runV (As := [.int (nI fi), .int (nI se)]) (rest := []) F.1 (kX6_goRow_A l g μ iK kn ln th sp bg fm (nI 114) fi se re ca (nI fi) (nI se) H.size (by rw [ki_n (by omega), ki_n (by omega)]; omega)) (cwV 2 hts gX6_doesOrder_X6_goRow rfl rfl rfl ⟨rfl, hd_X6_goRow⟩ ⟨Nat.le_of_ble_eq_true rfl, Nat.le_of_ble_eq_true rfl⟩) ⟨hp.1, va_recv F.2.2.2.1.1 w.1 (q0 := 0) (ci := 6) rfl rfl, hp.2⟩ rfl rfl hl.1 rfl (lv_room (Nat.le_of_ble_eq_true rfl)) dX6_doesOrder_86 ⟨Nat.le_of_ble_eq_true rfl, Nat.le_of_ble_eq_true rfl⟩)
      (fun r_8 _ H locs h_9 w => ?_)
    subst h_9
    have w : kW g A s [cM μ iK kn ln th sp bg fm le fi se re ca, xI g (μ 1) 288 (enc σ)] H locs := by
      have w := w
      rw [h_1]; exact w
    subst hA
    subst hQ
    exact kreti F w () [0, 1] rfl rfl (rfl) (Nat.le_of_ble_eq_true rfl) (Nat.le_of_ble_eq_true rfl) dX6_doesOrder_89
  · skip
    have hfi9 := hfs.1
    have hse9 : se ≤ 99 := hfs.2 (by rw [h_1]; decide)
    have hc9 := hcau
    rw [h_1] at hc9
    have hx9 := hc9
    unfold cauZ at hx9
    rw [if_neg (by decide)] at hx9
    have hs9 : ¬ ((1 ≤ fi ∧ fi ≤ 48) ∧ se ≤ 1) := fun hc => by rw [if_neg (fun q => q hc.1), if_neg (by decide), if_pos rfl, if_neg (fun q => q hc.2)] at hx9; split at hx9 <;> cases hx9
    have w : kW g A s [cM μ iK kn ln th sp bg fm (nI 116) fi se re ca, xI g (μ 1) 288 (enc σ)] H locs := by
      have w := w
      rw [h_1] at w; exact w
    refine lv_aload_n hx hb dX6_doesOrder_0 rfl (lv_at hl 0 rfl) ?_
    refine kget (fs := [.ref (μ 1), .ref (μ 2), .ref (μ 3), .ref (μ 4), .int (bI iK), .ref (μ 5), .int (nI kn), .ref (μ 6), .int (nI ln), .int (nI th), .int (nI sp), .int (nI bg), .int (bI fm), .int (nI 116), .int (nI fi), .int (nI se), .int (nI re), .int (nI ca)]) F w in_X6_doesOrder_X6 0 rfl rfl 13 (by decide) (by decide +kernel) rfl rfl dX6_doesOrder_1 ?_
    refine lv_lookup (off := 86) (tgt := 90) hx hb dX6_doesOrder_4 (by decide) (by decide +kernel) (by decide) ?_
    refine lv_aload_n hx hb dX6_doesOrder_90 rfl (lv_at hl 0 rfl) ?_
    refine lv_aload_n hx hb dX6_doesOrder_91 rfl (lv_at hl 0 rfl) ?_
    refine kget (fs := [.ref (μ 1), .ref (μ 2), .ref (μ 3), .ref (μ 4), .int (bI iK), .ref (μ 5), .int (nI kn), .ref (μ 6), .int (nI ln), .int (nI th), .int (nI sp), .int (nI bg), .int (bI fm), .int (nI 116), .int (nI fi), .int (nI se), .int (nI re), .int (nI ca)]) F w in_X6_doesOrder_X6 0 rfl rfl 14 (by decide) (by decide +kernel) rfl rfl dX6_doesOrder_92 ?_
    refine lv_aload_n hx hb dX6_doesOrder_95 rfl (lv_at hl 0 rfl) ?_
    refine kget (fs := [.ref (μ 1), .ref (μ 2), .ref (μ 3), .ref (μ 4), .int (bI iK), .ref (μ 5), .int (nI kn), .ref (μ 6), .int (nI ln), .int (nI th), .int (nI sp), .int (nI bg), .int (bI fm), .int (nI 116), .int (nI fi), .int (nI se), .int (nI re), .int (nI ca)]) F w in_X6_doesOrder_X6 0 rfl rfl 15 (by decide) (by decide +kernel) rfl rfl dX6_doesOrder_96 ?_
    refine kcalli (wc := [cM μ iK kn ln th sp bg fm (nI 116) fi se re ca]) (wr := [xI g (μ 1) 288 (enc σ)]) (wn := fun (u : Unit) => [cM μ iK kn ln th sp bg fm (nI 116) fi se re ca, xI g (μ 1) 288 (enc σ)]) F w [0] [1] [1, 0] rfl rfl rfl (fun _ => rfl)
      (fun hp => va_runV (As := [.int (nI fi), .int (nI se)]) (rest := []) F.1 (kX6_goStore_A l g μ iK kn ln th sp bg fm (nI 116) fi se re ca (nI fi) (nI se) H.size (fun hc => hs9 ⟨by have := hc.1; rw [ki_n (by omega)] at this; omega, kdz_of (by omega) hc.2⟩)) (cwV 2 hts gX6_doesOrder_X6_goStore rfl rfl rfl ⟨rfl, hd_X6_goStore⟩ ⟨Nat.le_of_ble_eq_true rfl, Nat.le_of_ble_eq_true rfl⟩) ⟨hp.1, va_recv F.2.2.2.1.1 w.1 (q0 := 0) (ci := 6) rfl rfl, hp.2⟩ rfl rfl hl.1 rfl (lv_room (Nat.le_of_ble_eq_true rfl)) dX6_doesOrder_99 ⟨Nat.le_of_ble_eq_true rfl, Nat.le_of_ble_eq_true rfl⟩)
      (fun r_10 _ H locs h_11 w => ?_)
    subst h_11
    have w : kW g A s [cM μ iK kn ln th sp bg fm le fi se re ca, xI g (μ 1) 288 (enc σ)] H locs := by
      have w := w
      rw [h_1]; exact w
    subst hA
    subst hQ
    exact kreti F w () [0, 1] rfl rfl (rfl) (Nat.le_of_ble_eq_true rfl) (Nat.le_of_ble_eq_true rfl) dX6_doesOrder_102
abbrev rmX6_doesOrder_S : Room := { frames := 3, cells := 0, slots := 0, locals := 67 }
set_option maxHeartbeats 4000000 in
set_option maxRecDepth 100000 in
theorem kX6_doesOrder_S (l : Launch) (g : GG) (μ : Nat → Nat) (iK : Bool) (kn : Nat) (ln : Nat) (th : Nat) (sp : Nat) (bg : Nat) (fm : Bool) (le : Int32) (fi : Nat) (se : Nat) (re : Nat) (ca : Nat) (σ : Sg) (sz : Nat) (hvb : vbZ le = true) (hfs : fi ≤ 99 ∧ (twZ le = true → se ≤ 99)) (hcau : cauZ le fi se σ = 2) : Met l yX6_doesOrder wsX6_doesOrder rmX6_doesOrder_S (va_Pc [.ref (μ 0)] (kPre g [cM μ iK kn ln th sp bg fm le fi se re ca, xI g (μ 1) 288 (enc σ)] sz)) (va_Qi (fun (r : Int32) (u : Unit) => r = (-12)) (kB g (va_A [cM μ iK kn ln th sp bg fm le fi se re ca, xI g (μ 1) 288 (enc σ)] sz) (fun u => [cM μ iK kn ln th sp bg fm le fi se re ca, xI g (μ 1) 288 (enc σ)])) (va_A [cM μ iK kn ln th sp bg fm le fi se re ca, xI g (μ 1) 288 (enc σ)] sz)) 0 0 (va_A [cM μ iK kn ln th sp bg fm le fi se re ca, xI g (μ 1) 288 (enc σ)] sz) := by
  refine kMet (cc := cX6_doesOrder) (maxL := 1) (ret := (some .int)) (own := RX6) (by decide) rfl rfl (Nat.le_of_ble_eq_true rfl) ?_
  intro p e s m args below meth c ls Q H locs A F w hl hnm hA hQ
  have hx := F.1.1
  have hb := F.1.2.1
  have hts := F.1.2.2.2.2
  have hl : lv_has ls 1 [(0, .ref (μ 0))] := hl
  rcases (show le = nI 112 ∨ le = nI 100 ∨ le = nI 108 ∨ le = nI 114 ∨ le = nI 116 from vbZ_cases hvb) with h_1 | h_1 | h_1 | h_1 | h_1
  · skip
    have hfi9 := hfs.1
    have hc9 := hcau
    rw [h_1] at hc9
    have hx9 := hc9
    unfold cauZ at hx9
    have hs9 := cau_in (by decide) (Or.inr hc9)
    rw [if_neg (by decide)] at hx9
    rw [if_neg (fun hc => hc hs9)] at hx9
    rw [if_neg (by decide), if_neg (by decide)] at hx9
    cases hx9
  · skip
    have hfi9 := hfs.1
    have hc9 := hcau
    rw [h_1] at hc9
    have hx9 := hc9
    unfold cauZ at hx9
    have hs9 := cau_in (by decide) (Or.inr hc9)
    rw [if_neg (by decide)] at hx9
    rw [if_neg (fun hc => hc hs9)] at hx9
    rw [if_pos rfl] at hx9
    have hl9 : zL σ fi = true := by cases hz : zL σ fi; rw [hz] at hx9; cases hx9; rfl
    have w : kW g A s [cM μ iK kn ln th sp bg fm (nI 100) fi se re ca, xI g (μ 1) 288 (enc σ)] H locs := by
      have w := w
      rw [h_1] at w; exact w
    refine lv_aload_n hx hb dX6_doesOrder_0 rfl (lv_at hl 0 rfl) ?_
    refine kget (fs := [.ref (μ 1), .ref (μ 2), .ref (μ 3), .ref (μ 4), .int (bI iK), .ref (μ 5), .int (nI kn), .ref (μ 6), .int (nI ln), .int (nI th), .int (nI sp), .int (nI bg), .int (bI fm), .int (nI 100), .int (nI fi), .int (nI se), .int (nI re), .int (nI ca)]) F w in_X6_doesOrder_X6 0 rfl rfl 13 (by decide) (by decide +kernel) rfl rfl dX6_doesOrder_1 ?_
    refine lv_lookup (off := 53) (tgt := 57) hx hb dX6_doesOrder_4 (by decide) (by decide +kernel) (by decide) ?_
    refine lv_aload_n hx hb dX6_doesOrder_57 rfl (lv_at hl 0 rfl) ?_
    refine lv_aload_n hx hb dX6_doesOrder_58 rfl (lv_at hl 0 rfl) ?_
    refine kget (fs := [.ref (μ 1), .ref (μ 2), .ref (μ 3), .ref (μ 4), .int (bI iK), .ref (μ 5), .int (nI kn), .ref (μ 6), .int (nI ln), .int (nI th), .int (nI sp), .int (nI bg), .int (bI fm), .int (nI 100), .int (nI fi), .int (nI se), .int (nI re), .int (nI ca)]) F w in_X6_doesOrder_X6 0 rfl rfl 14 (by decide) (by decide +kernel) rfl rfl dX6_doesOrder_59 ?_
    refine kcalli (wc := [cM μ iK kn ln th sp bg fm (nI 100) fi se re ca, xI g (μ 1) 288 (enc σ)]) (wr := []) (wn := fun (u : Unit) => [cM μ iK kn ln th sp bg fm (nI 100) fi se re ca, xI g (μ 1) 288 (enc σ)]) F w [0, 1] [] [0, 1] rfl rfl rfl (fun _ => rfl)
      (fun hp => va_runV (As := [.int (nI fi)]) (rest := []) F.1 (kX6_goDoor_S l g μ iK kn ln th sp bg fm (nI 100) fi se re ca σ fi H.size hs9 hl9) (cwV 1 hts gX6_doesOrder_X6_goDoor rfl rfl rfl ⟨rfl, hd_X6_goDoor⟩ ⟨Nat.le_of_ble_eq_true rfl, Nat.le_of_ble_eq_true rfl⟩) ⟨hp.1, va_recv F.2.2.2.1.1 w.1 (q0 := 0) (ci := 6) rfl rfl, hp.2⟩ rfl rfl hl.1 rfl (lv_room (Nat.le_of_ble_eq_true rfl)) dX6_doesOrder_62 ⟨Nat.le_of_ble_eq_true rfl, Nat.le_of_ble_eq_true rfl⟩)
      (fun r_2 _ H locs h_3 w => ?_)
    subst h_3
    have w : kW g A s [cM μ iK kn ln th sp bg fm le fi se re ca, xI g (μ 1) 288 (enc σ)] H locs := by
      have w := w
      rw [h_1]; exact w
    subst hA
    subst hQ
    exact kreti F w () [0, 1] rfl rfl (rfl) (Nat.le_of_ble_eq_true rfl) (Nat.le_of_ble_eq_true rfl) dX6_doesOrder_65
  · skip
    have hfi9 := hfs.1
    have hc9 := hcau
    rw [h_1] at hc9
    have hx9 := hc9
    unfold cauZ at hx9
    have hs9 := cau_in (by decide) (Or.inr hc9)
    rw [if_neg (by decide)] at hx9
    rw [if_neg (fun hc => hc hs9)] at hx9
    rw [if_neg (by decide), if_neg (by decide)] at hx9
    cases hx9
  · skip
    have hfi9 := hfs.1
    have hse9 : se ≤ 99 := hfs.2 (by rw [h_1]; decide)
    have hc9 := hcau
    rw [h_1] at hc9
    have hx9 := hc9
    unfold cauZ at hx9
    rw [if_pos rfl] at hx9
    split at hx9 <;> cases hx9
  · skip
    have hfi9 := hfs.1
    have hse9 : se ≤ 99 := hfs.2 (by rw [h_1]; decide)
    have hc9 := hcau
    rw [h_1] at hc9
    have hx9 := hc9
    unfold cauZ at hx9
    have hs9 := cau_in (by decide) (Or.inr hc9)
    rw [if_neg (by decide)] at hx9
    rw [if_neg (fun hc => hc hs9)] at hx9
    rw [if_neg (by decide), if_pos rfl] at hx9
    have hk9 : se ≤ 1 := by by_cases hc : se ≤ 1; exact hc; rw [if_pos hc] at hx9; cases hx9
    rw [if_neg (fun hc => hc hk9)] at hx9
    have hr9 : reasZ σ fi (kdz se) ≠ 0 := fun hc => by rw [if_pos hc] at hx9; cases hx9
    have w : kW g A s [cM μ iK kn ln th sp bg fm (nI 116) fi se re ca, xI g (μ 1) 288 (enc σ)] H locs := by
      have w := w
      rw [h_1] at w; exact w
    refine lv_aload_n hx hb dX6_doesOrder_0 rfl (lv_at hl 0 rfl) ?_
    refine kget (fs := [.ref (μ 1), .ref (μ 2), .ref (μ 3), .ref (μ 4), .int (bI iK), .ref (μ 5), .int (nI kn), .ref (μ 6), .int (nI ln), .int (nI th), .int (nI sp), .int (nI bg), .int (bI fm), .int (nI 116), .int (nI fi), .int (nI se), .int (nI re), .int (nI ca)]) F w in_X6_doesOrder_X6 0 rfl rfl 13 (by decide) (by decide +kernel) rfl rfl dX6_doesOrder_1 ?_
    refine lv_lookup (off := 86) (tgt := 90) hx hb dX6_doesOrder_4 (by decide) (by decide +kernel) (by decide) ?_
    refine lv_aload_n hx hb dX6_doesOrder_90 rfl (lv_at hl 0 rfl) ?_
    refine lv_aload_n hx hb dX6_doesOrder_91 rfl (lv_at hl 0 rfl) ?_
    refine kget (fs := [.ref (μ 1), .ref (μ 2), .ref (μ 3), .ref (μ 4), .int (bI iK), .ref (μ 5), .int (nI kn), .ref (μ 6), .int (nI ln), .int (nI th), .int (nI sp), .int (nI bg), .int (bI fm), .int (nI 116), .int (nI fi), .int (nI se), .int (nI re), .int (nI ca)]) F w in_X6_doesOrder_X6 0 rfl rfl 14 (by decide) (by decide +kernel) rfl rfl dX6_doesOrder_92 ?_
    refine lv_aload_n hx hb dX6_doesOrder_95 rfl (lv_at hl 0 rfl) ?_
    refine kget (fs := [.ref (μ 1), .ref (μ 2), .ref (μ 3), .ref (μ 4), .int (bI iK), .ref (μ 5), .int (nI kn), .ref (μ 6), .int (nI ln), .int (nI th), .int (nI sp), .int (nI bg), .int (bI fm), .int (nI 116), .int (nI fi), .int (nI se), .int (nI re), .int (nI ca)]) F w in_X6_doesOrder_X6 0 rfl rfl 15 (by decide) (by decide +kernel) rfl rfl dX6_doesOrder_96 ?_
    refine ktopi (y := bI (kdz se)) (kdz_b hk9) ?_
    refine kcalli (wc := [cM μ iK kn ln th sp bg fm (nI 116) fi se re ca, xI g (μ 1) 288 (enc σ)]) (wr := []) (wn := fun (u : Unit) => [cM μ iK kn ln th sp bg fm (nI 116) fi se re ca, xI g (μ 1) 288 (enc σ)]) F w [0, 1] [] [0, 1] rfl rfl rfl (fun _ => rfl)
      (fun hp => va_runV (As := [.int (nI fi), .int (bI (kdz se))]) (rest := []) F.1 (kX6_goStore_S l g μ iK kn ln th sp bg fm (nI 116) fi se re ca σ fi (kdz se) H.size hs9 hr9) (cwV 2 hts gX6_doesOrder_X6_goStore rfl rfl rfl ⟨rfl, hd_X6_goStore⟩ ⟨Nat.le_of_ble_eq_true rfl, Nat.le_of_ble_eq_true rfl⟩) ⟨hp.1, va_recv F.2.2.2.1.1 w.1 (q0 := 0) (ci := 6) rfl rfl, hp.2⟩ rfl rfl hl.1 rfl (lv_room (Nat.le_of_ble_eq_true rfl)) dX6_doesOrder_99 ⟨Nat.le_of_ble_eq_true rfl, Nat.le_of_ble_eq_true rfl⟩)
      (fun r_4 _ H locs h_5 w => ?_)
    subst h_5
    have w : kW g A s [cM μ iK kn ln th sp bg fm le fi se re ca, xI g (μ 1) 288 (enc σ)] H locs := by
      have w := w
      rw [h_1]; exact w
    subst hA
    subst hQ
    exact kreti F w () [0, 1] rfl rfl (rfl) (Nat.le_of_ble_eq_true rfl) (Nat.le_of_ble_eq_true rfl) dX6_doesOrder_102
