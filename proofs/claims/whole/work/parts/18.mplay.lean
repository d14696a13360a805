/-! ===== the reference: all orders of the text ===== -/
theorem pOK_tw {T : Nat → Int32} {L p : Nat} (h : pOK T L p = true) : vbZ (hrZ T L p) = true ∧ hrZ T L p = chZ T L p := by
  have hv := (pOK_d1 h).1
  have e : hrZ T L p = chZ T L p := by
    unfold hrZ chZ at *
    by_cases hp : p < L
    · rw [if_pos hp, if_pos hp]
    · rw [if_neg hp] at hv; exact absurd hv (by decide)
  exact ⟨by rw [e]; exact hv, e⟩
theorem cauZ_any {vb : Int32} (h : twZ vb = false) (n1 n2 m2 : Nat) (σ : Sg) : cauZ vb n1 n2 σ = cauZ vb n1 m2 σ := by
  unfold twZ at h
  simp only [Bool.or_eq_false_iff, decide_eq_false_iff_not] at h
  unfold cauZ
  rw [if_neg h.1, if_neg h.1, if_neg h.2, if_neg h.2]
theorem actZ_any {vb : Int32} (h : twZ vb = false) (n1 n2 m2 : Nat) (σ : Sg) : actZ vb n1 n2 σ = actZ vb n1 m2 σ := by
  unfold twZ at h
  simp only [Bool.or_eq_false_iff, decide_eq_false_iff_not] at h
  unfold actZ
  rw [if_neg h.1, if_neg h.1, if_neg h.2, if_neg h.2]
theorem cau_eq {T : Nat → Int32} {L p b : Nat} {σ : Sg} (h : twZ (chZ T L p) = true → b = pN2x T L p) (n : Nat) : cauZ (chZ T L p) n b σ = cauZ (chZ T L p) n (pN2x T L p) σ := by
  cases ht : twZ (chZ T L p)
  · exact cauZ_any ht _ _ _ _
  · rw [h ht]
theorem act_eq {T : Nat → Int32} {L p b : Nat} {σ : Sg} (h : twZ (chZ T L p) = true → b = pN2x T L p) (n : Nat) : actZ (chZ T L p) n b σ = actZ (chZ T L p) n (pN2x T L p) σ := by
  cases ht : twZ (chZ T L p)
  · exact actZ_any ht _ _ _ _
  · rw [h ht]
theorem ki_nn {r : Int32} (h : ¬ r < 0) : 0 ≤ r := by
  rw [ki_lt] at h; rw [ki_le]; omega
theorem runF_re (T : Nat → Int32) (L : Nat) : ∀ f p σ n, (runF T L f p σ n).1 ≤ 2
  | 0, _, _, _ => by rw [runF]; exact Nat.zero_le _
  | f + 1, p, σ, n => by
    rw [runF]
    split
    · exact Nat.zero_le _
    · split
      · split
        · exact runF_re T L f _ _ _
        · exact Nat.le_refl 2
      · exact (by decide : 1 ≤ 2)
theorem zRe_le (T : Nat → Int32) (L : Nat) (σ : Sg) : zRe T L σ ≤ 2 := runF_re T L 60 0 σ 0
theorem typ_f {n : Int32} (h : ¬ (32 ≤ n.toInt ∧ n.toInt ≤ 126)) : decide ((nI 32).toInt ≤ n.toInt ∧ n.toInt ≤ (nI 126).toInt) = false := by
  rw [ki_n (show 32 < 2147483648 by omega), ki_n (show 126 < 2147483648 by omega)]
  exact decide_eq_false h
theorem in_X6_doesAll_X6 : ∀ w ∈ wsX60, w ∈ wsX6_doesAll := by decide +kernel
theorem hd_X6_doesOrder : yX6_doesOrder.cls ≠ "java/lang/invoke/MethodHandle" ∧ yX6_doesOrder.cls ≠ "java/lang/invoke/VarHandle" ∧ (parseMethodDescriptor yX6_doesOrder.desc).map (fun d => d.parameters.length) = some 0 := by decide +kernel
theorem hd_X6_takesOrder : yX6_takesOrder.cls ≠ "java/lang/invoke/MethodHandle" ∧ yX6_takesOrder.cls ≠ "java/lang/invoke/VarHandle" ∧ (parseMethodDescriptor yX6_takesOrder.desc).map (fun d => d.parameters.length) = some 0 := by decide +kernel
abbrev rmX6_doesAll : Room := { frames := 6, cells := 0, slots := 0, locals := 132 }
set_option maxHeartbeats 4000000 in
set_option maxRecDepth 100000 in
theorem kX6_doesAll (l : Launch) (g : GG) (μ : Nat → Nat) (iK : Bool) (kn : Nat) (ln : Nat) (th : Nat) (sp : Nat) (bg : Nat) (fm : Bool) (le : Int32) (fi : Nat) (se : Nat) (re : Nat) (ca : Nat) (σ : Sg) (T : Nat → Int32) (sz : Nat) (hL : ln ≤ 60) : Met l yX6_doesAll wsX6_doesAll rmX6_doesAll (va_Pc [.ref (μ 0)] (kPre g [cM μ iK kn ln th sp bg fm le fi se re ca, xI g (μ 1) 288 (enc σ), xI g (μ 6) 60 T] sz)) (va_Qi (fun (r : Int32) (u : Nat × Nat × Bool × Int32 × Nat × Nat × Nat) => r = nI (zOs T ln σ) ∧ (zRe T ln σ ≠ 0 → u.2.1 = zPo T ln σ ∧ u.2.2.2.2.2.2 = zCa T ln σ)) (kB g (va_A [cM μ iK kn ln th sp bg fm le fi se re ca, xI g (μ 1) 288 (enc σ), xI g (μ 6) 60 T] sz) (fun u => [cM μ iK kn ln th u.1 u.2.1 u.2.2.1 u.2.2.2.1 u.2.2.2.2.1 u.2.2.2.2.2.1 (zRe T ln σ) u.2.2.2.2.2.2, xI g (μ 1) 288 (enc (zSt T ln σ)), xI g (μ 6) 60 T])) (va_A [cM μ iK kn ln th sp bg fm le fi se re ca, xI g (μ 1) 288 (enc σ), xI g (μ 6) 60 T] sz)) 0 0 (va_A [cM μ iK kn ln th sp bg fm le fi se re ca, xI g (μ 1) 288 (enc σ), xI g (μ 6) 60 T] sz) := by
  refine kMet (cc := cX6_doesAll) (maxL := 3) (ret := (some .int)) (own := RX6) (by decide) rfl rfl (Nat.le_of_ble_eq_true rfl) ?_
  intro p e s m args below meth c ls Q H locs A F w hl hnm hA hQ
  have hx := F.1.1
  have hb := F.1.2.1
  have hts := F.1.2.2.2.2
  have hl : lv_has ls 3 [(0, .ref (μ 0))] := hl
  refine lv_iconst (v := nI 0) hx hb dX6_doesAll_0 (by decide) ?_
  refine lv_istore_n (lv' := [(1, .int (nI 0)), (0, .ref (μ 0))]) hx hb dX6_doesAll_1 rfl hl (by decide) rfl (fun ls hl => ?_)
  refine lv_aload_n hx hb dX6_doesAll_2 rfl (lv_at hl 1 rfl) ?_
  refine lv_iconst (v := nI 0) hx hb dX6_doesAll_3 (by decide) ?_
  refine kput (fs := [.ref (μ 1), .ref (μ 2), .ref (μ 3), .ref (μ 4), .int (bI iK), .ref (μ 5), .int (nI kn), .ref (μ 6), .int (nI ln), .int (nI th), .int (nI sp), .int (nI bg), .int (bI fm), .int le, .int (nI fi), .int (nI se), .int (nI re), .int (nI ca)]) F w in_X6_doesAll_X6 tyX6_ok nmX6 0 rfl rfl 16 (by decide) (by decide +kernel) rfl rfl (rfl) (rfl) (Nat.le_of_ble_eq_true rfl) (wn := [cM μ iK kn ln th sp bg fm le fi se 0 ca, xI g (μ 1) 288 (enc σ), xI g (μ 6) 60 T]) rfl dX6_doesAll_4 (fun H locs w => ?_)
  refine lv_aload_n hx hb dX6_doesAll_7 rfl (lv_at hl 1 rfl) ?_
  refine lv_iconst (v := nI 0) hx hb dX6_doesAll_8 (by decide) ?_
  refine kput (fs := [.ref (μ 1), .ref (μ 2), .ref (μ 3), .ref (μ 4), .int (bI iK), .ref (μ 5), .int (nI kn), .ref (μ 6), .int (nI ln), .int (nI th), .int (nI sp), .int (nI bg), .int (bI fm), .int le, .int (nI fi), .int (nI se), .int (nI 0), .int (nI ca)]) F w in_X6_doesAll_X6 tyX6_ok nmX6 0 rfl rfl 10 (by decide) (by decide +kernel) rfl rfl (rfl) (rfl) (Nat.le_of_ble_eq_true rfl) (wn := [cM μ iK kn ln th 0 bg fm le fi se 0 ca, xI g (μ 1) 288 (enc σ), xI g (μ 6) 60 T]) rfl dX6_doesAll_9 (fun H locs w => ?_)
  have LP_1 : ∀ (fu : Nat) (i : Nat) (q : Nat) (st : Sg) (bg : Nat) (fm : Bool) (le : Int32) (fi : Nat) (se : Nat) (ca : Nat) (h1 : i ≤ q) (h2 : i ≤ 60) (h3 : q ≤ 68) (hR : runF T ln (60 - i) q st i = runF T ln 60 0 σ 0) (H : Heap) (locs : List Loc) (ls : Array Slot), 100 - i < fu → kW g A s [cM μ iK kn ln th q bg fm le fi se 0 ca, xI g (μ 1) 288 (enc st), xI g (μ 6) 60 T] H locs → lv_has ls 3 [(1, .int (nI i)), (0, .ref (μ 0))] → W p l e rmX6_doesAll s m args below meth c H locs 0 0 Q (F0 m 12 ls []) := by
    intro fu
    induction fu with
    | zero => intro i q st bg fm le fi se ca h1 h2 h3 hR H locs ls hlt; omega
    | succ fu ih_1 =>
      intro i q st bg fm le fi se ca h1 h2 h3 hR H locs ls hlt w hl
      refine lv_aload_n hx hb dX6_doesAll_12 rfl (lv_at hl 1 rfl) ?_
      refine kget (fs := [.ref (μ 1), .ref (μ 2), .ref (μ 3), .ref (μ 4), .int (bI iK), .ref (μ 5), .int (nI kn), .ref (μ 6), .int (nI ln), .int (nI th), .int (nI q), .int (nI bg), .int (bI fm), .int le, .int (nI fi), .int (nI se), .int (nI 0), .int (nI ca)]) F w in_X6_doesAll_X6 0 rfl rfl 16 (by decide) (by decide +kernel) rfl rfl dX6_doesAll_13 ?_
      refine lv_if_ne (tgt := 120) hx hb dX6_doesAll_16 (by decide) (fun h_2 => ?_) (fun h_2 => ?_)
      · have h_2 : 0 ≠ 0 := (kc0_ne_t (by omega)).mp h_2
        omega
      · have h_2 : 0 = 0 := (kc0_ne_f (by omega)).mp h_2
        refine lv_aload_n hx hb dX6_doesAll_19 rfl (lv_at hl 1 rfl) ?_
        refine kget (fs := [.ref (μ 1), .ref (μ 2), .ref (μ 3), .ref (μ 4), .int (bI iK), .ref (μ 5), .int (nI kn), .ref (μ 6), .int (nI ln), .int (nI th), .int (nI q), .int (nI bg), .int (bI fm), .int le, .int (nI fi), .int (nI se), .int (nI 0), .int (nI ca)]) F w in_X6_doesAll_X6 0 rfl rfl 10 (by decide) (by decide +kernel) rfl rfl dX6_doesAll_20 ?_
        refine lv_aload_n hx hb dX6_doesAll_23 rfl (lv_at hl 1 rfl) ?_
        refine kget (fs := [.ref (μ 1), .ref (μ 2), .ref (μ 3), .ref (μ 4), .int (bI iK), .ref (μ 5), .int (nI kn), .ref (μ 6), .int (nI ln), .int (nI th), .int (nI q), .int (nI bg), .int (bI fm), .int le, .int (nI fi), .int (nI se), .int (nI 0), .int (nI ca)]) F w in_X6_doesAll_X6 0 rfl rfl 8 (by decide) (by decide +kernel) rfl rfl dX6_doesAll_24 ?_
        refine lv_icmp_ge (tgt := 120) hx hb dX6_doesAll_27 (by decide) (fun h_3 => ?_) (fun h_3 => ?_)
        · have h_3 : q ≥ ln := (kc_ge_t (by omega) (by omega)).mp h_3
          refine lv_iload_n hx hb dX6_doesAll_120 rfl (lv_at hl 0 rfl) ?_
          have hZ9 : runF T ln 60 0 σ 0 = (0, 0, q, i, st) := hR.symm.trans (runF_end (by omega))
          have w : kW g A s [cM μ iK kn ln th q bg fm le fi se (zRe T ln σ) ca, xI g (μ 1) 288 (enc (zSt T ln σ)), xI g (μ 6) 60 T] H locs := by
            have w := w
            unfold zRe zSt
            rw [hZ9]
            exact w
          subst hA
          subst hQ
          exact kreti F w (q, bg, fm, le, fi, se, ca) [0, 1, 2] rfl rfl (⟨by show nI i = nI (zOs T ln σ); unfold zOs; rw [hZ9], fun hc => absurd (by unfold zRe; rw [hZ9]) hc⟩) (Nat.le_of_ble_eq_true rfl) (Nat.le_of_ble_eq_true rfl) dX6_doesAll_121
        · have h_3 : q < ln := (kc_ge_f (by omega) (by omega)).mp h_3
          have e60 : 60 - i = (59 - i) + 1 := by omega
          rw [e60] at hR
          have hpe := pE_le T ln q
          refine lv_aload_n hx hb dX6_doesAll_30 rfl (lv_at hl 1 rfl) ?_
          refine kcallv (wc := [cM μ iK kn ln th q bg fm le fi se 0 ca, xI g (μ 6) 60 T]) (wr := [xI g (μ 1) 288 (enc st)]) (wn := fun (u : Nat × Nat) => [cM μ iK kn ln th (pE T ln q) q (pOK T ln q) (hrZ T ln q) u.1 u.2 0 ca, xI g (μ 1) 288 (enc st), xI g (μ 6) 60 T]) F w [0, 2] [1] [1, 0, 2] rfl rfl rfl (fun _ => rfl)
            (fun hp => va_runV (As := []) (rest := []) F.1 (kX6_takesOrder l g μ iK kn ln th q bg fm le fi se 0 ca T H.size (by omega) (by omega)) (cwV 0 hts gX6_doesAll_X6_takesOrder rfl rfl rfl ⟨rfl, hd_X6_takesOrder⟩ ⟨Nat.le_of_ble_eq_true rfl, Nat.le_of_ble_eq_true rfl⟩) ⟨hp.1, va_recv F.2.2.2.1.1 w.1 (q0 := 0) (ci := 6) rfl rfl, hp.2⟩ rfl rfl hl.1 rfl (lv_room (Nat.le_of_ble_eq_true rfl)) dX6_doesAll_31 ⟨Nat.le_of_ble_eq_true rfl, Nat.le_of_ble_eq_true rfl⟩)
            (fun u H locs h_5 w => ?_)
          try dsimp only at h_5
          obtain ⟨u_6, hu9⟩ : ∃ z, z = u := ⟨_, rfl⟩
          subst hu9
          have w : kW g A s [cM μ iK kn ln th (pE T ln q) q (pOK T ln q) (hrZ T ln q) u_6.1 u_6.2 0 ca, xI g (μ 1) 288 (enc st), xI g (μ 6) 60 T] H locs := w
          refine lv_aload_n hx hb dX6_doesAll_34 rfl (lv_at hl 1 rfl) ?_
          refine kget (fs := [.ref (μ 1), .ref (μ 2), .ref (μ 3), .ref (μ 4), .int (bI iK), .ref (μ 5), .int (nI kn), .ref (μ 6), .int (nI ln), .int (nI th), .int (nI (pE T ln q)), .int (nI q), .int (bI (pOK T ln q)), .int (hrZ T ln q), .int (nI u_6.1), .int (nI u_6.2), .int (nI 0), .int (nI ca)]) F w in_X6_doesAll_X6 0 rfl rfl 12 (by decide) (by decide +kernel) rfl rfl dX6_doesAll_35 ?_
          refine lv_if_eq (tgt := 48) hx hb dX6_doesAll_38 (by decide) (fun h_7 => ?_) (fun h_7 => ?_)
          · have h_7 : (pOK T ln q) = false := bI_z.mp h_7
            refine lv_iconst (v := nI 0) hx hb dX6_doesAll_48 (by decide) ?_
            refine lv_istore_n (lv' := [(2, .int (nI 0)), (1, .int (nI i)), (0, .ref (μ 0))]) hx hb dX6_doesAll_49 rfl hl (by decide) rfl (fun ls hl => ?_)
            refine lv_aload_n hx hb dX6_doesAll_50 rfl (lv_at hl 2 rfl) ?_
            refine kget (fs := [.ref (μ 1), .ref (μ 2), .ref (μ 3), .ref (μ 4), .int (bI iK), .ref (μ 5), .int (nI kn), .ref (μ 6), .int (nI ln), .int (nI th), .int (nI (pE T ln q)), .int (nI q), .int (bI (pOK T ln q)), .int (hrZ T ln q), .int (nI u_6.1), .int (nI u_6.2), .int (nI 0), .int (nI ca)]) F w in_X6_doesAll_X6 0 rfl rfl 12 (by decide) (by decide +kernel) rfl rfl dX6_doesAll_51 ?_
            refine lv_if_eq (tgt := 61) hx hb dX6_doesAll_54 (by decide) (fun h_8 => ?_) (fun h_8 => ?_)
            · have h_8 : (pOK T ln q) = false := bI_z.mp h_8
              refine lv_aload_n hx hb dX6_doesAll_61 rfl (lv_at hl 2 rfl) ?_
              refine lv_aload_n hx hb dX6_doesAll_62 rfl (lv_at hl 2 rfl) ?_
              refine kget (fs := [.ref (μ 1), .ref (μ 2), .ref (μ 3), .ref (μ 4), .int (bI iK), .ref (μ 5), .int (nI kn), .ref (μ 6), .int (nI ln), .int (nI th), .int (nI (pE T ln q)), .int (nI q), .int (bI (pOK T ln q)), .int (hrZ T ln q), .int (nI u_6.1), .int (nI u_6.2), .int (nI 0), .int (nI ca)]) F w in_X6_doesAll_X6 0 rfl rfl 12 (by decide) (by decide +kernel) rfl rfl dX6_doesAll_63 ?_
              refine lv_if_eq (tgt := 73) hx hb dX6_doesAll_66 (by decide) (fun h_9 => ?_) (fun h_9 => ?_)
              · have h_9 : (pOK T ln q) = false := bI_z.mp h_9
                refine lv_iconst (v := nI 1) hx hb dX6_doesAll_73 (by decide) ?_
                refine kput (fs := [.ref (μ 1), .ref (μ 2), .ref (μ 3), .ref (μ 4), .int (bI iK), .ref (μ 5), .int (nI kn), .ref (μ 6), .int (nI ln), .int (nI th), .int (nI (pE T ln q)), .int (nI q), .int (bI (pOK T ln q)), .int (hrZ T ln q), .int (nI u_6.1), .int (nI u_6.2), .int (nI 0), .int (nI ca)]) F w in_X6_doesAll_X6 tyX6_ok nmX6 0 rfl rfl 16 (by decide) (by decide +kernel) rfl rfl (rfl) (rfl) (Nat.le_of_ble_eq_true rfl) (wn := [cM μ iK kn ln th (pE T ln q) q (pOK T ln q) (hrZ T ln q) u_6.1 u_6.2 1 ca, xI g (μ 1) 288 (enc st), xI g (μ 6) 60 T]) rfl dX6_doesAll_74 (fun H locs w => ?_)
                refine lv_aload_n hx hb dX6_doesAll_77 rfl (lv_at hl 2 rfl) ?_
                refine lv_aload_n hx hb dX6_doesAll_78 rfl (lv_at hl 2 rfl) ?_
                refine kget (fs := [.ref (μ 1), .ref (μ 2), .ref (μ 3), .ref (μ 4), .int (bI iK), .ref (μ 5), .int (nI kn), .ref (μ 6), .int (nI ln), .int (nI th), .int (nI (pE T ln q)), .int (nI q), .int (bI (pOK T ln q)), .int (hrZ T ln q), .int (nI u_6.1), .int (nI u_6.2), .int (nI 1), .int (nI ca)]) F w in_X6_doesAll_X6 0 rfl rfl 12 (by decide) (by decide +kernel) rfl rfl dX6_doesAll_79 ?_
                refine lv_if_ne (tgt := 97) hx hb dX6_doesAll_82 (by decide) (fun h_10 => ?_) (fun h_10 => ?_)
                · have h_10 : (pOK T ln q) = true := bI_o.mp h_10
                  rw [h_7] at h_10; cases h_10
                · have h_10 : (pOK T ln q) = false := bI_z.mp h_10
                  refine lv_aload_n hx hb dX6_doesAll_85 rfl (lv_at hl 2 rfl) ?_
                  refine kget (fs := [.ref (μ 1), .ref (μ 2), .ref (μ 3), .ref (μ 4), .int (bI iK), .ref (μ 5), .int (nI kn), .ref (μ 6), .int (nI ln), .int (nI th), .int (nI (pE T ln q)), .int (nI q), .int (bI (pOK T ln q)), .int (hrZ T ln q), .int (nI u_6.1), .int (nI u_6.2), .int (nI 1), .int (nI ca)]) F w in_X6_doesAll_X6 0 rfl rfl 10 (by decide) (by decide +kernel) rfl rfl dX6_doesAll_86 ?_
                  refine lv_aload_n hx hb dX6_doesAll_89 rfl (lv_at hl 2 rfl) ?_
                  refine kget (fs := [.ref (μ 1), .ref (μ 2), .ref (μ 3), .ref (μ 4), .int (bI iK), .ref (μ 5), .int (nI kn), .ref (μ 6), .int (nI ln), .int (nI th), .int (nI (pE T ln q)), .int (nI q), .int (bI (pOK T ln q)), .int (hrZ T ln q), .int (nI u_6.1), .int (nI u_6.2), .int (nI 1), .int (nI ca)]) F w in_X6_doesAll_X6 0 rfl rfl 11 (by decide) (by decide +kernel) rfl rfl dX6_doesAll_90 ?_
                  refine lv_isub hx hb dX6_doesAll_93 ?_
                  refine ktopi (y := nI (pE T ln q - q)) (pk_sub (by omega)) ?_
                  refine lv_goto (tgt := 108) hx hb dX6_doesAll_94 (by decide) ?_
                  refine kput (fs := [.ref (μ 1), .ref (μ 2), .ref (μ 3), .ref (μ 4), .int (bI iK), .ref (μ 5), .int (nI kn), .ref (μ 6), .int (nI ln), .int (nI th), .int (nI (pE T ln q)), .int (nI q), .int (bI (pOK T ln q)), .int (hrZ T ln q), .int (nI u_6.1), .int (nI u_6.2), .int (nI 1), .int (nI ca)]) F w in_X6_doesAll_X6 tyX6_ok nmX6 0 rfl rfl 17 (by decide) (by decide +kernel) rfl rfl (rfl) (rfl) (Nat.le_of_ble_eq_true rfl) (wn := [cM μ iK kn ln th (pE T ln q) q (pOK T ln q) (hrZ T ln q) u_6.1 u_6.2 1 (pE T ln q - q), xI g (μ 1) 288 (enc st), xI g (μ 6) 60 T]) rfl dX6_doesAll_108 (fun H locs w => ?_)
                  refine lv_goto (tgt := 117) hx hb dX6_doesAll_111 (by decide) ?_
                  refine lv_goto (tgt := 12) hx hb dX6_doesAll_117 (by decide) ?_
                  refine lv_aload_n hx hb dX6_doesAll_12 rfl (lv_at hl 2 rfl) ?_
                  refine kget (fs := [.ref (μ 1), .ref (μ 2), .ref (μ 3), .ref (μ 4), .int (bI iK), .ref (μ 5), .int (nI kn), .ref (μ 6), .int (nI ln), .int (nI th), .int (nI (pE T ln q)), .int (nI q), .int (bI (pOK T ln q)), .int (hrZ T ln q), .int (nI u_6.1), .int (nI u_6.2), .int (nI 1), .int (nI (pE T ln q - q))]) F w in_X6_doesAll_X6 0 rfl rfl 16 (by decide) (by decide +kernel) rfl rfl dX6_doesAll_13 ?_
                  refine lv_if_ne (tgt := 120) hx hb dX6_doesAll_16 (by decide) (fun h_11 => ?_) (fun h_11 => ?_)
                  · have h_11 : 1 ≠ 0 := (kc0_ne_t (by omega)).mp h_11
                    refine lv_iload_n hx hb dX6_doesAll_120 rfl (lv_at hl 1 rfl) ?_
                    have hZ9 : runF T ln 60 0 σ 0 = (1, pE T ln q - q, q, i, st) := hR.symm.trans (runF_bad (by omega) h_7)
                    have w : kW g A s [cM μ iK kn ln th (pE T ln q) q (pOK T ln q) (hrZ T ln q) u_6.1 u_6.2 (zRe T ln σ) (pE T ln q - q), xI g (μ 1) 288 (enc (zSt T ln σ)), xI g (μ 6) 60 T] H locs := by
                      have w := w
                      unfold zRe zSt
                      rw [hZ9]
                      exact w
                    subst hA
                    subst hQ
                    exact kreti F w (pE T ln q, q, pOK T ln q, hrZ T ln q, u_6.1, u_6.2, pE T ln q - q) [0, 1, 2] rfl rfl (⟨by show nI i = nI (zOs T ln σ); unfold zOs; rw [hZ9], fun _ => ⟨by show q = zPo T ln σ; unfold zPo; rw [hZ9], by show pE T ln q - q = zCa T ln σ; unfold zCa; rw [hZ9]⟩⟩) (Nat.le_of_ble_eq_true rfl) (Nat.le_of_ble_eq_true rfl) dX6_doesAll_121
                  · have h_11 : 1 = 0 := (kc0_ne_f (by omega)).mp h_11
                    omega
              · have h_9 : (pOK T ln q) = true := bI_o.mp h_9
                rw [h_7] at h_9; cases h_9
            · have h_8 : (pOK T ln q) = true := bI_o.mp h_8
              rw [h_7] at h_8; cases h_8
          · have h_7 : (pOK T ln q) = true := bI_o.mp h_7
            have hpg := pE_gt h_7
            have hvb := pOK_tw h_7
            have hq1 := h_5 h_7
            have hb1 := pN1_le h_7
            have hb2 := pN2x_le h_7
            have hce := cau_eq (σ := st) hq1.2 (pN1 T ln q)
            have hae := act_eq (σ := st) hq1.2 (pN1 T ln q)
            have hcl := cauZ_le (chZ T ln q) (pN1 T ln q) (pN2x T ln q) st
            have w : kW g A s [cM μ iK kn ln th (pE T ln q) q (pOK T ln q) (chZ T ln q) (pN1 T ln q) u_6.2 0 ca, xI g (μ 1) 288 (enc st), xI g (μ 6) 60 T] H locs := by
              have w := w
              rw [hvb.2, hq1.1] at w; exact w
            rcases (show cauZ (chZ T ln q) (pN1 T ln q) (pN2x T ln q) st = 0 ∨ cauZ (chZ T ln q) (pN1 T ln q) (pN2x T ln q) st = 1 ∨ cauZ (chZ T ln q) (pN1 T ln q) (pN2x T ln q) st = 2 from by omega) with h_12 | h_12 | h_12
            · skip
              refine lv_aload_n hx hb dX6_doesAll_41 rfl (lv_at hl 1 rfl) ?_
              refine kcalli (wc := [cM μ iK kn ln th (pE T ln q) q (pOK T ln q) (chZ T ln q) (pN1 T ln q) u_6.2 0 ca, xI g (μ 1) 288 (enc st)]) (wr := [xI g (μ 6) 60 T]) (wn := fun (u : Unit) => [cM μ iK kn ln th (pE T ln q) q (pOK T ln q) (chZ T ln q) (pN1 T ln q) u_6.2 0 ca, xI g (μ 1) 288 (enc (actZ (chZ T ln q) (pN1 T ln q) u_6.2 st)), xI g (μ 6) 60 T]) F w [0, 1] [2] [1, 2, 0] rfl rfl rfl (fun _ => rfl)
                (fun hp => va_runV (As := []) (rest := []) F.1 (kX6_doesOrder_k l g μ iK kn ln th (pE T ln q) q (pOK T ln q) (chZ T ln q) (pN1 T ln q) u_6.2 0 ca st H.size (by rw [← hvb.2]; exact hvb.1) (⟨hb1, fun ht => by rw [hq1.2 ht]; exact hb2⟩) (by rw [hce]; exact h_12)) (cwV 0 hts gX6_doesAll_X6_doesOrder rfl rfl rfl ⟨rfl, hd_X6_doesOrder⟩ ⟨Nat.le_of_ble_eq_true rfl, Nat.le_of_ble_eq_true rfl⟩) ⟨hp.1, va_recv F.2.2.2.1.1 w.1 (q0 := 0) (ci := 6) rfl rfl, hp.2⟩ rfl rfl hl.1 rfl (lv_room (Nat.le_of_ble_eq_true rfl)) dX6_doesAll_42 ⟨Nat.le_of_ble_eq_true rfl, Nat.le_of_ble_eq_true rfl⟩)
                (fun r_13 _ H locs h_14 w => ?_)
              try dsimp only at h_14
              have w : kW g A s [cM μ iK kn ln th (pE T ln q) q (pOK T ln q) (chZ T ln q) (pN1 T ln q) u_6.2 0 ca, xI g (μ 1) 288 (enc (actZ (chZ T ln q) (pN1 T ln q) (pN2x T ln q) st)), xI g (μ 6) 60 T] H locs := by
                have w := w
                rw [hae] at w; exact w
              refine lv_goto (tgt := 49) hx hb dX6_doesAll_45 (by decide) ?_
              refine lv_istore_n (lv' := [(2, .int r_13), (1, .int (nI i)), (0, .ref (μ 0))]) hx hb dX6_doesAll_49 rfl hl (by decide) rfl (fun ls hl => ?_)
              refine lv_aload_n hx hb dX6_doesAll_50 rfl (lv_at hl 2 rfl) ?_
              refine kget (fs := [.ref (μ 1), .ref (μ 2), .ref (μ 3), .ref (μ 4), .int (bI iK), .ref (μ 5), .int (nI kn), .ref (μ 6), .int (nI ln), .int (nI th), .int (nI (pE T ln q)), .int (nI q), .int (bI (pOK T ln q)), .int (chZ T ln q), .int (nI (pN1 T ln q)), .int (nI u_6.2), .int (nI 0), .int (nI ca)]) F w in_X6_doesAll_X6 0 rfl rfl 12 (by decide) (by decide +kernel) rfl rfl dX6_doesAll_51 ?_
              refine lv_if_eq (tgt := 61) hx hb dX6_doesAll_54 (by decide) (fun h_15 => ?_) (fun h_15 => ?_)
              · have h_15 : (pOK T ln q) = false := bI_z.mp h_15
                rw [h_7] at h_15; cases h_15
              · have h_15 : (pOK T ln q) = true := bI_o.mp h_15
                refine lv_iload_n hx hb dX6_doesAll_57 rfl (lv_at hl 0 rfl) ?_
                refine lv_if_ge (tgt := 114) hx hb dX6_doesAll_58 (by decide) (fun h_16 => ?_) (fun h_16 => ?_)
                · have hR2 := (runF_go (f := 59 - i) (n := i) (show ¬ ln ≤ q by omega) h_7 h_12).symm.trans hR
                  refine lv_iinc (v := nI (i + 1)) (lv' := [(1, .int (nI (i + 1))), (2, .int r_13), (0, .ref (μ 0))]) hx hb dX6_doesAll_114 hl (k := 1) rfl (nI_add i 1) (by decide) rfl (fun ls hl => ?_)
                  refine lv_goto (tgt := 12) hx hb dX6_doesAll_117 (by decide) ?_
                  exact ih_1 (i + 1) (pE T ln q) (actZ (chZ T ln q) (pN1 T ln q) (pN2x T ln q) st) q (pOK T ln q) (chZ T ln q) (pN1 T ln q) u_6.2 ca (by omega) (by omega) (by omega) (by rw [show 60 - (i + 1) = 59 - i by omega]; exact hR2) _ _ _ (by omega) (kW.perm w [0, 1, 2] rfl rfl) (lv_sub hl [0, 2] rfl)
                · exact absurd (ki_nn h_14) h_16
            · skip
              refine lv_aload_n hx hb dX6_doesAll_41 rfl (lv_at hl 1 rfl) ?_
              refine kcalli (wc := [cM μ iK kn ln th (pE T ln q) q (pOK T ln q) (chZ T ln q) (pN1 T ln q) u_6.2 0 ca, xI g (μ 1) 288 (enc st)]) (wr := [xI g (μ 6) 60 T]) (wn := fun (u : Unit) => [cM μ iK kn ln th (pE T ln q) q (pOK T ln q) (chZ T ln q) (pN1 T ln q) u_6.2 0 ca, xI g (μ 1) 288 (enc st), xI g (μ 6) 60 T]) F w [0, 1] [2] [1, 2, 0] rfl rfl rfl (fun _ => rfl)
                (fun hp => va_runV (As := []) (rest := []) F.1 (kX6_doesOrder_A l g μ iK kn ln th (pE T ln q) q (pOK T ln q) (chZ T ln q) (pN1 T ln q) u_6.2 0 ca st H.size (by rw [← hvb.2]; exact hvb.1) (⟨hb1, fun ht => by rw [hq1.2 ht]; exact hb2⟩) (by rw [hce]; exact h_12)) (cwV 0 hts gX6_doesAll_X6_doesOrder rfl rfl rfl ⟨rfl, hd_X6_doesOrder⟩ ⟨Nat.le_of_ble_eq_true rfl, Nat.le_of_ble_eq_true rfl⟩) ⟨hp.1, va_recv F.2.2.2.1.1 w.1 (q0 := 0) (ci := 6) rfl rfl, hp.2⟩ rfl rfl hl.1 rfl (lv_room (Nat.le_of_ble_eq_true rfl)) dX6_doesAll_42 ⟨Nat.le_of_ble_eq_true rfl, Nat.le_of_ble_eq_true rfl⟩)
                (fun r_17 _ H locs h_18 w => ?_)
              subst h_18
              refine lv_goto (tgt := 49) hx hb dX6_doesAll_45 (by decide) ?_
              refine lv_istore_n (lv' := [(2, .int (-11)), (1, .int (nI i)), (0, .ref (μ 0))]) hx hb dX6_doesAll_49 rfl hl (by decide) rfl (fun ls hl => ?_)
              refine lv_aload_n hx hb dX6_doesAll_50 rfl (lv_at hl 2 rfl) ?_
              refine kget (fs := [.ref (μ 1), .ref (μ 2), .ref (μ 3), .ref (μ 4), .int (bI iK), .ref (μ 5), .int (nI kn), .ref (μ 6), .int (nI ln), .int (nI th), .int (nI (pE T ln q)), .int (nI q), .int (bI (pOK T ln q)), .int (chZ T ln q), .int (nI (pN1 T ln q)), .int (nI u_6.2), .int (nI 0), .int (nI ca)]) F w in_X6_doesAll_X6 0 rfl rfl 12 (by decide) (by decide +kernel) rfl rfl dX6_doesAll_51 ?_
              refine lv_if_eq (tgt := 61) hx hb dX6_doesAll_54 (by decide) (fun h_19 => ?_) (fun h_19 => ?_)
              · have h_19 : (pOK T ln q) = false := bI_z.mp h_19
                rw [h_7] at h_19; cases h_19
              · have h_19 : (pOK T ln q) = true := bI_o.mp h_19
                refine lv_iload_n hx hb dX6_doesAll_57 rfl (lv_at hl 0 rfl) ?_
                refine lv_if_ge (tgt := 114) hx hb dX6_doesAll_58 (by decide) (fun h_20 => ?_) (fun h_20 => ?_)
                · exact absurd h_20 (by decide)
                · refine lv_aload_n hx hb dX6_doesAll_61 rfl (lv_at hl 2 rfl) ?_
                  refine lv_aload_n hx hb dX6_doesAll_62 rfl (lv_at hl 2 rfl) ?_
                  refine kget (fs := [.ref (μ 1), .ref (μ 2), .ref (μ 3), .ref (μ 4), .int (bI iK), .ref (μ 5), .int (nI kn), .ref (μ 6), .int (nI ln), .int (nI th), .int (nI (pE T ln q)), .int (nI q), .int (bI (pOK T ln q)), .int (chZ T ln q), .int (nI (pN1 T ln q)), .int (nI u_6.2), .int (nI 0), .int (nI ca)]) F w in_X6_doesAll_X6 0 rfl rfl 12 (by decide) (by decide +kernel) rfl rfl dX6_doesAll_63 ?_
                  refine lv_if_eq (tgt := 73) hx hb dX6_doesAll_66 (by decide) (fun h_21 => ?_) (fun h_21 => ?_)
                  · have h_21 : (pOK T ln q) = false := bI_z.mp h_21
                    rw [h_7] at h_21; cases h_21
                  · have h_21 : (pOK T ln q) = true := bI_o.mp h_21
                    refine lv_iconst (v := nI 2) hx hb dX6_doesAll_69 (by decide) ?_
                    refine lv_goto (tgt := 74) hx hb dX6_doesAll_70 (by decide) ?_
                    refine kput (fs := [.ref (μ 1), .ref (μ 2), .ref (μ 3), .ref (μ 4), .int (bI iK), .ref (μ 5), .int (nI kn), .ref (μ 6), .int (nI ln), .int (nI th), .int (nI (pE T ln q)), .int (nI q), .int (bI (pOK T ln q)), .int (chZ T ln q), .int (nI (pN1 T ln q)), .int (nI u_6.2), .int (nI 0), .int (nI ca)]) F w in_X6_doesAll_X6 tyX6_ok nmX6 0 rfl rfl 16 (by decide) (by decide +kernel) rfl rfl (rfl) (rfl) (Nat.le_of_ble_eq_true rfl) (wn := [cM μ iK kn ln th (pE T ln q) q (pOK T ln q) (chZ T ln q) (pN1 T ln q) u_6.2 2 ca, xI g (μ 1) 288 (enc st), xI g (μ 6) 60 T]) rfl dX6_doesAll_74 (fun H locs w => ?_)
                    refine lv_aload_n hx hb dX6_doesAll_77 rfl (lv_at hl 2 rfl) ?_
                    refine lv_aload_n hx hb dX6_doesAll_78 rfl (lv_at hl 2 rfl) ?_
                    refine kget (fs := [.ref (μ 1), .ref (μ 2), .ref (μ 3), .ref (μ 4), .int (bI iK), .ref (μ 5), .int (nI kn), .ref (μ 6), .int (nI ln), .int (nI th), .int (nI (pE T ln q)), .int (nI q), .int (bI (pOK T ln q)), .int (chZ T ln q), .int (nI (pN1 T ln q)), .int (nI u_6.2), .int (nI 2), .int (nI ca)]) F w in_X6_doesAll_X6 0 rfl rfl 12 (by decide) (by decide +kernel) rfl rfl dX6_doesAll_79 ?_
                    refine lv_if_ne (tgt := 97) hx hb dX6_doesAll_82 (by decide) (fun h_22 => ?_) (fun h_22 => ?_)
                    · have h_22 : (pOK T ln q) = true := bI_o.mp h_22
                      refine lv_iload_n hx hb dX6_doesAll_97 rfl (lv_at hl 0 rfl) ?_
                      refine lv_bipush (v := (-11)) hx hb dX6_doesAll_98 (by decide) ?_
                      refine lv_icmp_ne (tgt := 107) hx hb dX6_doesAll_100 (by decide) (fun h_23 => ?_) (fun h_23 => ?_)
                      · exact absurd rfl h_23
                      · refine lv_iconst (v := nI 1) hx hb dX6_doesAll_103 (by decide) ?_
                        refine lv_goto (tgt := 108) hx hb dX6_doesAll_104 (by decide) ?_
                        refine kput (fs := [.ref (μ 1), .ref (μ 2), .ref (μ 3), .ref (μ 4), .int (bI iK), .ref (μ 5), .int (nI kn), .ref (μ 6), .int (nI ln), .int (nI th), .int (nI (pE T ln q)), .int (nI q), .int (bI (pOK T ln q)), .int (chZ T ln q), .int (nI (pN1 T ln q)), .int (nI u_6.2), .int (nI 2), .int (nI ca)]) F w in_X6_doesAll_X6 tyX6_ok nmX6 0 rfl rfl 17 (by decide) (by decide +kernel) rfl rfl (rfl) (rfl) (Nat.le_of_ble_eq_true rfl) (wn := [cM μ iK kn ln th (pE T ln q) q (pOK T ln q) (chZ T ln q) (pN1 T ln q) u_6.2 2 1, xI g (μ 1) 288 (enc st), xI g (μ 6) 60 T]) rfl dX6_doesAll_108 (fun H locs w => ?_)
                        refine lv_goto (tgt := 117) hx hb dX6_doesAll_111 (by decide) ?_
                        refine lv_goto (tgt := 12) hx hb dX6_doesAll_117 (by decide) ?_
                        refine lv_aload_n hx hb dX6_doesAll_12 rfl (lv_at hl 2 rfl) ?_
                        refine kget (fs := [.ref (μ 1), .ref (μ 2), .ref (μ 3), .ref (μ 4), .int (bI iK), .ref (μ 5), .int (nI kn), .ref (μ 6), .int (nI ln), .int (nI th), .int (nI (pE T ln q)), .int (nI q), .int (bI (pOK T ln q)), .int (chZ T ln q), .int (nI (pN1 T ln q)), .int (nI u_6.2), .int (nI 2), .int (nI 1)]) F w in_X6_doesAll_X6 0 rfl rfl 16 (by decide) (by decide +kernel) rfl rfl dX6_doesAll_13 ?_
                        refine lv_if_ne (tgt := 120) hx hb dX6_doesAll_16 (by decide) (fun h_24 => ?_) (fun h_24 => ?_)
                        · have h_24 : 2 ≠ 0 := (kc0_ne_t (by omega)).mp h_24
                          refine lv_iload_n hx hb dX6_doesAll_120 rfl (lv_at hl 1 rfl) ?_
                          have hZ9 : runF T ln 60 0 σ 0 = (2, 1, q, i, st) := (hR.symm.trans (runF_no (by omega) h_7 (by rw [h_12]; decide))).trans (by rw [h_12])
                          have w : kW g A s [cM μ iK kn ln th (pE T ln q) q (pOK T ln q) (chZ T ln q) (pN1 T ln q) u_6.2 (zRe T ln σ) 1, xI g (μ 1) 288 (enc (zSt T ln σ)), xI g (μ 6) 60 T] H locs := by
                            have w := w
                            unfold zRe zSt
                            rw [hZ9]
                            exact w
                          subst hA
                          subst hQ
                          exact kreti F w (pE T ln q, q, pOK T ln q, chZ T ln q, pN1 T ln q, u_6.2, 1) [0, 1, 2] rfl rfl (⟨by show nI i = nI (zOs T ln σ); unfold zOs; rw [hZ9], fun _ => ⟨by show q = zPo T ln σ; unfold zPo; rw [hZ9], by show 1 = zCa T ln σ; unfold zCa; rw [hZ9]⟩⟩) (Nat.le_of_ble_eq_true rfl) (Nat.le_of_ble_eq_true rfl) dX6_doesAll_121
                        · have h_24 : 2 = 0 := (kc0_ne_f (by omega)).mp h_24
                          omega
                    · have h_22 : (pOK T ln q) = false := bI_z.mp h_22
                      rw [h_7] at h_22; cases h_22
            · skip
              refine lv_aload_n hx hb dX6_doesAll_41 rfl (lv_at hl 1 rfl) ?_
              refine kcalli (wc := [cM μ iK kn ln th (pE T ln q) q (pOK T ln q) (chZ T ln q) (pN1 T ln q) u_6.2 0 ca, xI g (μ 1) 288 (enc st)]) (wr := [xI g (μ 6) 60 T]) (wn := fun (u : Unit) => [cM μ iK kn ln th (pE T ln q) q (pOK T ln q) (chZ T ln q) (pN1 T ln q) u_6.2 0 ca, xI g (μ 1) 288 (enc st), xI g (μ 6) 60 T]) F w [0, 1] [2] [1, 2, 0] rfl rfl rfl (fun _ => rfl)
                (fun hp => va_runV (As := []) (rest := []) F.1 (kX6_doesOrder_S l g μ iK kn ln th (pE T ln q) q (pOK T ln q) (chZ T ln q) (pN1 T ln q) u_6.2 0 ca st H.size (by rw [← hvb.2]; exact hvb.1) (⟨hb1, fun ht => by rw [hq1.2 ht]; exact hb2⟩) (by rw [hce]; exact h_12)) (cwV 0 hts gX6_doesAll_X6_doesOrder rfl rfl rfl ⟨rfl, hd_X6_doesOrder⟩ ⟨Nat.le_of_ble_eq_true rfl, Nat.le_of_ble_eq_true rfl⟩) ⟨hp.1, va_recv F.2.2.2.1.1 w.1 (q0 := 0) (ci := 6) rfl rfl, hp.2⟩ rfl rfl hl.1 rfl (lv_room (Nat.le_of_ble_eq_true rfl)) dX6_doesAll_42 ⟨Nat.le_of_ble_eq_true rfl, Nat.le_of_ble_eq_true rfl⟩)
                (fun r_25 _ H locs h_26 w => ?_)
              subst h_26
              refine lv_goto (tgt := 49) hx hb dX6_doesAll_45 (by decide) ?_
              refine lv_istore_n (lv' := [(2, .int (-12)), (1, .int (nI i)), (0, .ref (μ 0))]) hx hb dX6_doesAll_49 rfl hl (by decide) rfl (fun ls hl => ?_)
              refine lv_aload_n hx hb dX6_doesAll_50 rfl (lv_at hl 2 rfl) ?_
              refine kget (fs := [.ref (μ 1), .ref (μ 2), .ref (μ 3), .ref (μ 4), .int (bI iK), .ref (μ 5), .int (nI kn), .ref (μ 6), .int (nI ln), .int (nI th), .int (nI (pE T ln q)), .int (nI q), .int (bI (pOK T ln q)), .int (chZ T ln q), .int (nI (pN1 T ln q)), .int (nI u_6.2), .int (nI 0), .int (nI ca)]) F w in_X6_doesAll_X6 0 rfl rfl 12 (by decide) (by decide +kernel) rfl rfl dX6_doesAll_51 ?_
              refine lv_if_eq (tgt := 61) hx hb dX6_doesAll_54 (by decide) (fun h_27 => ?_) (fun h_27 => ?_)
              · have h_27 : (pOK T ln q) = false := bI_z.mp h_27
                rw [h_7] at h_27; cases h_27
              · have h_27 : (pOK T ln q) = true := bI_o.mp h_27
                refine lv_iload_n hx hb dX6_doesAll_57 rfl (lv_at hl 0 rfl) ?_
                refine lv_if_ge (tgt := 114) hx hb dX6_doesAll_58 (by decide) (fun h_28 => ?_) (fun h_28 => ?_)
                · exact absurd h_28 (by decide)
                · refine lv_aload_n hx hb dX6_doesAll_61 rfl (lv_at hl 2 rfl) ?_
                  refine lv_aload_n hx hb dX6_doesAll_62 rfl (lv_at hl 2 rfl) ?_
                  refine kget (fs := [.ref (μ 1), .ref (μ 2), .ref (μ 3), .ref (μ 4), .int (bI iK), .ref (μ 5), .int (nI kn), .ref (μ 6), .int (nI ln), .int (nI th), .int (nI (pE T ln q)), .int (nI q), .int (bI (pOK T ln q)), .int (chZ T ln q), .int (nI (pN1 T ln q)), .int (nI u_6.2), .int (nI 0), .int (nI ca)]) F w in_X6_doesAll_X6 0 rfl rfl 12 (by decide) (by decide +kernel) rfl rfl dX6_doesAll_63 ?_
                  refine lv_if_eq (tgt := 73) hx hb dX6_doesAll_66 (by decide) (fun h_29 => ?_) (fun h_29 => ?_)
                  · have h_29 : (pOK T ln q) = false := bI_z.mp h_29
                    rw [h_7] at h_29; cases h_29
                  · have h_29 : (pOK T ln q) = true := bI_o.mp h_29
                    refine lv_iconst (v := nI 2) hx hb dX6_doesAll_69 (by decide) ?_
                    refine lv_goto (tgt := 74) hx hb dX6_doesAll_70 (by decide) ?_
                    refine kput (fs := [.ref (μ 1), .ref (μ 2), .ref (μ 3), .ref (μ 4), .int (bI iK), .ref (μ 5), .int (nI kn), .ref (μ 6), .int (nI ln), .int (nI th), .int (nI (pE T ln q)), .int (nI q), .int (bI (pOK T ln q)), .int (chZ T ln q), .int (nI (pN1 T ln q)), .int (nI u_6.2), .int (nI 0), .int (nI ca)]) F w in_X6_doesAll_X6 tyX6_ok nmX6 0 rfl rfl 16 (by decide) (by decide +kernel) rfl rfl (rfl) (rfl) (Nat.le_of_ble_eq_true rfl) (wn := [cM μ iK kn ln th (pE T ln q) q (pOK T ln q) (chZ T ln q) (pN1 T ln q) u_6.2 2 ca, xI g (μ 1) 288 (enc st), xI g (μ 6) 60 T]) rfl dX6_doesAll_74 (fun H locs w => ?_)
                    refine lv_aload_n hx hb dX6_doesAll_77 rfl (lv_at hl 2 rfl) ?_
                    refine lv_aload_n hx hb dX6_doesAll_78 rfl (lv_at hl 2 rfl) ?_
                    refine kget (fs := [.ref (μ 1), .ref (μ 2), .ref (μ 3), .ref (μ 4), .int (bI iK), .ref (μ 5), .int (nI kn), .ref (μ 6), .int (nI ln), .int (nI th), .int (nI (pE T ln q)), .int (nI q), .int (bI (pOK T ln q)), .int (chZ T ln q), .int (nI (pN1 T ln q)), .int (nI u_6.2), .int (nI 2), .int (nI ca)]) F w in_X6_doesAll_X6 0 rfl rfl 12 (by decide) (by decide +kernel) rfl rfl dX6_doesAll_79 ?_
                    refine lv_if_ne (tgt := 97) hx hb dX6_doesAll_82 (by decide) (fun h_30 => ?_) (fun h_30 => ?_)
                    · have h_30 : (pOK T ln q) = true := bI_o.mp h_30
                      refine lv_iload_n hx hb dX6_doesAll_97 rfl (lv_at hl 0 rfl) ?_
                      refine lv_bipush (v := (-11)) hx hb dX6_doesAll_98 (by decide) ?_
                      refine lv_icmp_ne (tgt := 107) hx hb dX6_doesAll_100 (by decide) (fun h_31 => ?_) (fun h_31 => ?_)
                      · refine lv_iconst (v := nI 2) hx hb dX6_doesAll_107 (by decide) ?_
                        refine kput (fs := [.ref (μ 1), .ref (μ 2), .ref (μ 3), .ref (μ 4), .int (bI iK), .ref (μ 5), .int (nI kn), .ref (μ 6), .int (nI ln), .int (nI th), .int (nI (pE T ln q)), .int (nI q), .int (bI (pOK T ln q)), .int (chZ T ln q), .int (nI (pN1 T ln q)), .int (nI u_6.2), .int (nI 2), .int (nI ca)]) F w in_X6_doesAll_X6 tyX6_ok nmX6 0 rfl rfl 17 (by decide) (by decide +kernel) rfl rfl (rfl) (rfl) (Nat.le_of_ble_eq_true rfl) (wn := [cM μ iK kn ln th (pE T ln q) q (pOK T ln q) (chZ T ln q) (pN1 T ln q) u_6.2 2 2, xI g (μ 1) 288 (enc st), xI g (μ 6) 60 T]) rfl dX6_doesAll_108 (fun H locs w => ?_)
                        refine lv_goto (tgt := 117) hx hb dX6_doesAll_111 (by decide) ?_
                        refine lv_goto (tgt := 12) hx hb dX6_doesAll_117 (by decide) ?_
                        refine lv_aload_n hx hb dX6_doesAll_12 rfl (lv_at hl 2 rfl) ?_
                        refine kget (fs := [.ref (μ 1), .ref (μ 2), .ref (μ 3), .ref (μ 4), .int (bI iK), .ref (μ 5), .int (nI kn), .ref (μ 6), .int (nI ln), .int (nI th), .int (nI (pE T ln q)), .int (nI q), .int (bI (pOK T ln q)), .int (chZ T ln q), .int (nI (pN1 T ln q)), .int (nI u_6.2), .int (nI 2), .int (nI 2)]) F w in_X6_doesAll_X6 0 rfl rfl 16 (by decide) (by decide +kernel) rfl rfl dX6_doesAll_13 ?_
                        refine lv_if_ne (tgt := 120) hx hb dX6_doesAll_16 (by decide) (fun h_32 => ?_) (fun h_32 => ?_)
                        · have h_32 : 2 ≠ 0 := (kc0_ne_t (by omega)).mp h_32
                          refine lv_iload_n hx hb dX6_doesAll_120 rfl (lv_at hl 1 rfl) ?_
                          have hZ9 : runF T ln 60 0 σ 0 = (2, 2, q, i, st) := (hR.symm.trans (runF_no (by omega) h_7 (by rw [h_12]; decide))).trans (by rw [h_12])
                          have w : kW g A s [cM μ iK kn ln th (pE T ln q) q (pOK T ln q) (chZ T ln q) (pN1 T ln q) u_6.2 (zRe T ln σ) 2, xI g (μ 1) 288 (enc (zSt T ln σ)), xI g (μ 6) 60 T] H locs := by
                            have w := w
                            unfold zRe zSt
                            rw [hZ9]
                            exact w
                          subst hA
                          subst hQ
                          exact kreti F w (pE T ln q, q, pOK T ln q, chZ T ln q, pN1 T ln q, u_6.2, 2) [0, 1, 2] rfl rfl (⟨by show nI i = nI (zOs T ln σ); unfold zOs; rw [hZ9], fun _ => ⟨by show q = zPo T ln σ; unfold zPo; rw [hZ9], by show 2 = zCa T ln σ; unfold zCa; rw [hZ9]⟩⟩) (Nat.le_of_ble_eq_true rfl) (Nat.le_of_ble_eq_true rfl) dX6_doesAll_121
                        · have h_32 : 2 = 0 := (kc0_ne_f (by omega)).mp h_32
                          omega
                      · exact absurd h_31 (by decide)
                    · have h_30 : (pOK T ln q) = false := bI_z.mp h_30
                      rw [h_7] at h_30; cases h_30
  exact LP_1 _ 0 0 σ bg fm le fi se ca (by omega) (by omega) (by omega) rfl _ _ _ (Nat.lt_succ_self _) (kW.perm w [0, 1, 2] rfl rfl) (lv_sub hl [0, 1] rfl)
theorem in_X6_faultTold_X6 : ∀ w ∈ wsX60, w ∈ wsX6_faultTold := by decide +kernel
theorem hd_X6_doesAll : yX6_doesAll.cls ≠ "java/lang/invoke/MethodHandle" ∧ yX6_doesAll.cls ≠ "java/lang/invoke/VarHandle" ∧ (parseMethodDescriptor yX6_doesAll.desc).map (fun d => d.parameters.length) = some 0 := by decide +kernel
abbrev rmX6_faultTold_N : Room := { frames := 7, cells := 0, slots := 0, locals := 154 }
set_option maxHeartbeats 4000000 in
set_option maxRecDepth 100000 in
theorem kX6_faultTold_N (l : Launch) (g : GG) (μ : Nat → Nat) (iK : Bool) (kn : Nat) (ln : Nat) (th : Nat) (sp : Nat) (bg : Nat) (fm : Bool) (le : Int32) (fi : Nat) (se : Nat) (re : Nat) (ca : Nat) (σ : Sg) (B : Nat → Int32) (T : Nat → Int32) (x : Nat) (sz : Nat) (hL : ln ≤ 60) (hz9 : zRe T ln σ = 0) : Met l yX6_faultTold wsX6_faultTold rmX6_faultTold_N (va_Pc [.ref (μ 0), .int (nI x)] (kPre g [cM μ iK kn ln th sp bg fm le fi se re ca, xI g (μ 1) 288 (enc σ), xI g (μ 2) 288 B, xI g (μ 6) 60 T] sz)) (va_Qi (fun (r : Int32) (u : Nat × Nat × Bool × Int32 × Nat × Nat × Nat) => r = nI 0) (kB g (va_A [cM μ iK kn ln th sp bg fm le fi se re ca, xI g (μ 1) 288 (enc σ), xI g (μ 2) 288 B, xI g (μ 6) 60 T] sz) (fun u => [cM μ iK kn ln 1 u.1 u.2.1 u.2.2.1 u.2.2.2.1 u.2.2.2.2.1 u.2.2.2.2.2.1 (zRe T ln σ) u.2.2.2.2.2.2, xI g (μ 1) 288 (enc σ), xI g (μ 2) 288 (enc σ), xI g (μ 6) 60 T])) (va_A [cM μ iK kn ln th sp bg fm le fi se re ca, xI g (μ 1) 288 (enc σ), xI g (μ 2) 288 B, xI g (μ 6) 60 T] sz)) 0 0 (va_A [cM μ iK kn ln th sp bg fm le fi se re ca, xI g (μ 1) 288 (enc σ), xI g (μ 2) 288 B, xI g (μ 6) 60 T] sz) := by
  refine kMet (cc := cX6_faultTold) (maxL := 3) (ret := (some .int)) (own := RX6) (by decide) rfl rfl (Nat.le_of_ble_eq_true rfl) ?_
  intro p e s m args below meth c ls Q H locs A F w hl hnm hA hQ
  have hx := F.1.1
  have hb := F.1.2.1
  have hts := F.1.2.2.2.2
  have hl : lv_has ls 3 [(0, .ref (μ 0)), (1, .int (nI x))] := hl
  refine lv_aload_n hx hb dX6_faultTold_0 rfl (lv_at hl 0 rfl) ?_
  refine lv_iconst (v := nI 0) hx hb dX6_faultTold_1 (by decide) ?_
  refine kput (fs := [.ref (μ 1), .ref (μ 2), .ref (μ 3), .ref (μ 4), .int (bI iK), .ref (μ 5), .int (nI kn), .ref (μ 6), .int (nI ln), .int (nI th), .int (nI sp), .int (nI bg), .int (bI fm), .int le, .int (nI fi), .int (nI se), .int (nI re), .int (nI ca)]) F w in_X6_faultTold_X6 tyX6_ok nmX6 0 rfl rfl 9 (by decide) (by decide +kernel) rfl rfl (rfl) (rfl) (Nat.le_of_ble_eq_true rfl) (wn := [cM μ iK kn ln 0 sp bg fm le fi se re ca, xI g (μ 1) 288 (enc σ), xI g (μ 2) 288 B, xI g (μ 6) 60 T]) rfl dX6_faultTold_2 (fun H locs w => ?_)
  refine lv_aload_n hx hb dX6_faultTold_5 rfl (lv_at hl 0 rfl) ?_
  refine kget (fs := [.ref (μ 1), .ref (μ 2), .ref (μ 3), .ref (μ 4), .int (bI iK), .ref (μ 5), .int (nI kn), .ref (μ 6), .int (nI ln), .int (nI 0), .int (nI sp), .int (nI bg), .int (bI fm), .int le, .int (nI fi), .int (nI se), .int (nI re), .int (nI ca)]) F w in_X6_faultTold_X6 0 rfl rfl 0 (by decide) (by decide +kernel) rfl rfl dX6_faultTold_6 ?_
  refine lv_iconst (v := nI 0) hx hb dX6_faultTold_9 (by decide) ?_
  refine lv_aload_n hx hb dX6_faultTold_10 rfl (lv_at hl 0 rfl) ?_
  refine kget (fs := [.ref (μ 1), .ref (μ 2), .ref (μ 3), .ref (μ 4), .int (bI iK), .ref (μ 5), .int (nI kn), .ref (μ 6), .int (nI ln), .int (nI 0), .int (nI sp), .int (nI bg), .int (bI fm), .int le, .int (nI fi), .int (nI se), .int (nI re), .int (nI ca)]) F w in_X6_faultTold_X6 0 rfl rfl 1 (by decide) (by decide +kernel) rfl rfl dX6_faultTold_11 ?_
  refine lv_iconst (v := nI 0) hx hb dX6_faultTold_14 (by decide) ?_
  refine kcallv (wc := [xI g (μ 1) 288 (enc σ), xI g (μ 2) 288 B]) (wr := [cM μ iK kn ln 0 sp bg fm le fi se re ca, xI g (μ 6) 60 T]) (wn := fun (u : Unit) => [cM μ iK kn ln 0 sp bg fm le fi se re ca, xI g (μ 1) 288 (enc σ), xI g (μ 2) 288 (cpyU (enc σ) 0 B 0 288), xI g (μ 6) 60 T]) F w [1, 2] [0, 3] [0, 2, 3, 1] rfl rfl rfl (fun _ => rfl)
    (fun hp => va_runS (As := [.ref (μ 1), .int (nI 0), .ref (μ 2), .int (nI 0)]) (rest := []) F.1 (kX6_copies l g (μ 1) 288 (enc σ) 0 (μ 2) 288 B 0 H.size (by omega) (by omega)) (va_cwS 4 hts gX6_faultTold_X6_copies rfl rfl rfl hd_X6_copies ⟨Nat.le_of_ble_eq_true rfl, Nat.le_of_ble_eq_true rfl⟩) hp rfl rfl hl.1 rfl (lv_room (Nat.le_of_ble_eq_true rfl)) dX6_faultTold_15 ⟨Nat.le_of_ble_eq_true rfl, Nat.le_of_ble_eq_true rfl⟩)
    (fun _ H locs h_2 w => ?_)
  have w : kW g A s [cM μ iK kn ln 0 sp bg fm le fi se re ca, xI g (μ 1) 288 (enc σ), xI g (μ 2) 288 (enc σ), xI g (μ 6) 60 T] H locs := kW.arr w 2 rfl (fun j hj => by rw [cpyU_in (by omega) (by omega)]; congr 1; omega) rfl
  refine lv_aload_n hx hb dX6_faultTold_18 rfl (lv_at hl 0 rfl) ?_
  refine kcalli (wc := [cM μ iK kn ln 0 sp bg fm le fi se re ca, xI g (μ 1) 288 (enc σ), xI g (μ 6) 60 T]) (wr := [xI g (μ 2) 288 (enc σ)]) (wn := fun (u : Nat × Nat × Bool × Int32 × Nat × Nat × Nat) => [cM μ iK kn ln 0 u.1 u.2.1 u.2.2.1 u.2.2.2.1 u.2.2.2.2.1 u.2.2.2.2.2.1 (zRe T ln σ) u.2.2.2.2.2.2, xI g (μ 1) 288 (enc (zSt T ln σ)), xI g (μ 2) 288 (enc σ), xI g (μ 6) 60 T]) F w [0, 1, 3] [2] [1, 2, 0, 3] rfl rfl rfl (fun _ => rfl)
    (fun hp => va_runV (As := []) (rest := []) F.1 (kX6_doesAll l g μ iK kn ln 0 sp bg fm le fi se re ca σ T H.size hL) (cwV 0 hts gX6_faultTold_X6_doesAll rfl rfl rfl ⟨rfl, hd_X6_doesAll⟩ ⟨Nat.le_of_ble_eq_true rfl, Nat.le_of_ble_eq_true rfl⟩) ⟨hp.1, va_recv F.2.2.2.1.1 w.1 (q0 := 0) (ci := 6) rfl rfl, hp.2⟩ rfl rfl hl.1 rfl (lv_room (Nat.le_of_ble_eq_true rfl)) dX6_faultTold_19 ⟨Nat.le_of_ble_eq_true rfl, Nat.le_of_ble_eq_true rfl⟩)
    (fun r_3 u H locs h_4 w => ?_)
  try dsimp only at h_4
  obtain ⟨u_5, hu9⟩ : ∃ z, z = u := ⟨_, rfl⟩
  subst hu9
  have w : kW g A s [cM μ iK kn ln 0 u_5.1 u_5.2.1 u_5.2.2.1 u_5.2.2.2.1 u_5.2.2.2.2.1 u_5.2.2.2.2.2.1 (zRe T ln σ) u_5.2.2.2.2.2.2, xI g (μ 1) 288 (enc (zSt T ln σ)), xI g (μ 2) 288 (enc σ), xI g (μ 6) 60 T] H locs := w
  refine lv_istore_n (lv' := [(2, .int r_3), (0, .ref (μ 0)), (1, .int (nI x))]) hx hb dX6_faultTold_22 rfl hl (by decide) rfl (fun ls hl => ?_)
  refine lv_aload_n hx hb dX6_faultTold_23 rfl (lv_at hl 1 rfl) ?_
  refine kget (fs := [.ref (μ 1), .ref (μ 2), .ref (μ 3), .ref (μ 4), .int (bI iK), .ref (μ 5), .int (nI kn), .ref (μ 6), .int (nI ln), .int (nI 0), .int (nI u_5.1), .int (nI u_5.2.1), .int (bI u_5.2.2.1), .int u_5.2.2.2.1, .int (nI u_5.2.2.2.2.1), .int (nI u_5.2.2.2.2.2.1), .int (nI (zRe T ln σ)), .int (nI u_5.2.2.2.2.2.2)]) F w in_X6_faultTold_X6 0 rfl rfl 1 (by decide) (by decide +kernel) rfl rfl dX6_faultTold_24 ?_
  refine lv_iconst (v := nI 0) hx hb dX6_faultTold_27 (by decide) ?_
  refine lv_aload_n hx hb dX6_faultTold_28 rfl (lv_at hl 1 rfl) ?_
  refine kget (fs := [.ref (μ 1), .ref (μ 2), .ref (μ 3), .ref (μ 4), .int (bI iK), .ref (μ 5), .int (nI kn), .ref (μ 6), .int (nI ln), .int (nI 0), .int (nI u_5.1), .int (nI u_5.2.1), .int (bI u_5.2.2.1), .int u_5.2.2.2.1, .int (nI u_5.2.2.2.2.1), .int (nI u_5.2.2.2.2.2.1), .int (nI (zRe T ln σ)), .int (nI u_5.2.2.2.2.2.2)]) F w in_X6_faultTold_X6 0 rfl rfl 0 (by decide) (by decide +kernel) rfl rfl dX6_faultTold_29 ?_
  refine lv_iconst (v := nI 0) hx hb dX6_faultTold_32 (by decide) ?_
  refine kcallv (wc := [xI g (μ 2) 288 (enc σ), xI g (μ 1) 288 (enc (zSt T ln σ))]) (wr := [cM μ iK kn ln 0 u_5.1 u_5.2.1 u_5.2.2.1 u_5.2.2.2.1 u_5.2.2.2.2.1 u_5.2.2.2.2.2.1 (zRe T ln σ) u_5.2.2.2.2.2.2, xI g (μ 6) 60 T]) (wn := fun (u : Unit) => [cM μ iK kn ln 0 u_5.1 u_5.2.1 u_5.2.2.1 u_5.2.2.2.1 u_5.2.2.2.2.1 u_5.2.2.2.2.2.1 (zRe T ln σ) u_5.2.2.2.2.2.2, xI g (μ 1) 288 (cpyU (enc σ) 0 (enc (zSt T ln σ)) 0 288), xI g (μ 2) 288 (enc σ), xI g (μ 6) 60 T]) F w [2, 1] [0, 3] [0, 3, 2, 1] rfl rfl rfl (fun _ => rfl)
    (fun hp => va_runS (As := [.ref (μ 2), .int (nI 0), .ref (μ 1), .int (nI 0)]) (rest := []) F.1 (kX6_copies l g (μ 2) 288 (enc σ) 0 (μ 1) 288 (enc (zSt T ln σ)) 0 H.size (by omega) (by omega)) (va_cwS 4 hts gX6_faultTold_X6_copies rfl rfl rfl hd_X6_copies ⟨Nat.le_of_ble_eq_true rfl, Nat.le_of_ble_eq_true rfl⟩) hp rfl rfl hl.1 rfl (lv_room (Nat.le_of_ble_eq_true rfl)) dX6_faultTold_33 ⟨Nat.le_of_ble_eq_true rfl, Nat.le_of_ble_eq_true rfl⟩)
    (fun _ H locs h_7 w => ?_)
  have w : kW g A s [cM μ iK kn ln 0 u_5.1 u_5.2.1 u_5.2.2.1 u_5.2.2.2.1 u_5.2.2.2.2.1 u_5.2.2.2.2.2.1 (zRe T ln σ) u_5.2.2.2.2.2.2, xI g (μ 1) 288 (enc σ), xI g (μ 2) 288 (enc σ), xI g (μ 6) 60 T] H locs := kW.arr w 1 rfl (fun j hj => by rw [cpyU_in (by omega) (by omega)]; congr 1; omega) rfl
  have hzl := zRe_le T ln σ
  refine lv_aload_n hx hb dX6_faultTold_36 rfl (lv_at hl 1 rfl) ?_
  refine kget (fs := [.ref (μ 1), .ref (μ 2), .ref (μ 3), .ref (μ 4), .int (bI iK), .ref (μ 5), .int (nI kn), .ref (μ 6), .int (nI ln), .int (nI 0), .int (nI u_5.1), .int (nI u_5.2.1), .int (bI u_5.2.2.1), .int u_5.2.2.2.1, .int (nI u_5.2.2.2.2.1), .int (nI u_5.2.2.2.2.2.1), .int (nI (zRe T ln σ)), .int (nI u_5.2.2.2.2.2.2)]) F w in_X6_faultTold_X6 0 rfl rfl 16 (by decide) (by decide +kernel) rfl rfl dX6_faultTold_37 ?_
  refine lv_if_ne (tgt := 51) hx hb dX6_faultTold_40 (by decide) (fun h_8 => ?_) (fun h_8 => ?_)
  · have h_8 : zRe T ln σ ≠ 0 := (kc0_ne_t (by omega)).mp h_8
    exact absurd hz9 h_8
  · have h_8 : zRe T ln σ = 0 := (kc0_ne_f (by omega)).mp h_8
    refine lv_aload_n hx hb dX6_faultTold_43 rfl (lv_at hl 1 rfl) ?_
    refine lv_iconst (v := nI 1) hx hb dX6_faultTold_44 (by decide) ?_
    refine kcalli (wc := [cM μ iK kn ln 0 u_5.1 u_5.2.1 u_5.2.2.1 u_5.2.2.2.1 u_5.2.2.2.2.1 u_5.2.2.2.2.2.1 (zRe T ln σ) u_5.2.2.2.2.2.2]) (wr := [xI g (μ 1) 288 (enc σ), xI g (μ 2) 288 (enc σ), xI g (μ 6) 60 T]) (wn := fun (u : Unit) => [cM μ iK kn ln 1 u_5.1 u_5.2.1 u_5.2.2.1 u_5.2.2.2.1 u_5.2.2.2.2.1 u_5.2.2.2.2.2.1 (zRe T ln σ) u_5.2.2.2.2.2.2, xI g (μ 1) 288 (enc σ), xI g (μ 2) 288 (enc σ), xI g (μ 6) 60 T]) F w [0] [1, 2, 3] [3, 0, 1, 2] rfl rfl rfl (fun _ => rfl)
      (fun hp => va_runV (As := [.int (nI 1)]) (rest := []) F.1 (kX6_fails l g μ iK kn ln 0 u_5.1 u_5.2.1 u_5.2.2.1 u_5.2.2.2.1 u_5.2.2.2.2.1 u_5.2.2.2.2.2.1 (zRe T ln σ) u_5.2.2.2.2.2.2 1 H.size ) (cwV 1 hts gX6_faultTold_X6_fails rfl rfl rfl ⟨rfl, hd_X6_fails⟩ ⟨Nat.le_of_ble_eq_true rfl, Nat.le_of_ble_eq_true rfl⟩) ⟨hp.1, va_recv F.2.2.2.1.1 w.1 (q0 := 0) (ci := 6) rfl rfl, hp.2⟩ rfl rfl hl.1 rfl (lv_room (Nat.le_of_ble_eq_true rfl)) dX6_faultTold_45 ⟨Nat.le_of_ble_eq_true rfl, Nat.le_of_ble_eq_true rfl⟩)
      (fun r_9 _ H locs h_10 w => ?_)
    subst h_10
    refine lv_goto (tgt := 78) hx hb dX6_faultTold_48 (by decide) ?_
    subst hA
    subst hQ
    exact kreti F w (u_5.1, u_5.2.1, u_5.2.2.1, u_5.2.2.2.1, u_5.2.2.2.2.1, u_5.2.2.2.2.2.1, u_5.2.2.2.2.2.2) [0, 1, 2, 3] rfl rfl (rfl) (Nat.le_of_ble_eq_true rfl) (Nat.le_of_ble_eq_true rfl) dX6_faultTold_78
abbrev rmX6_faultTold_0 : Room := { frames := 7, cells := 0, slots := 0, locals := 154 }
set_option maxHeartbeats 4000000 in
set_option maxRecDepth 100000 in
theorem kX6_faultTold_0 (l : Launch) (g : GG) (μ : Nat → Nat) (iK : Bool) (kn : Nat) (ln : Nat) (th : Nat) (sp : Nat) (bg : Nat) (fm : Bool) (le : Int32) (fi : Nat) (se : Nat) (re : Nat) (ca : Nat) (σ : Sg) (B : Nat → Int32) (T : Nat → Int32) (sz : Nat) (hL : ln ≤ 60) (hz9 : zRe T ln σ ≠ 0) : Met l yX6_faultTold wsX6_faultTold rmX6_faultTold_0 (va_Pc [.ref (μ 0), .int (nI 0)] (kPre g [cM μ iK kn ln th sp bg fm le fi se re ca, xI g (μ 1) 288 (enc σ), xI g (μ 2) 288 B, xI g (μ 6) 60 T] sz)) (va_Qi (fun (r : Int32) (u : Nat × Nat × Bool × Int32 × Nat × Nat × Nat) => r = nI (zPo T ln σ)) (kB g (va_A [cM μ iK kn ln th sp bg fm le fi se re ca, xI g (μ 1) 288 (enc σ), xI g (μ 2) 288 B, xI g (μ 6) 60 T] sz) (fun u => [cM μ iK kn ln 0 u.1 u.2.1 u.2.2.1 u.2.2.2.1 u.2.2.2.2.1 u.2.2.2.2.2.1 (zRe T ln σ) u.2.2.2.2.2.2, xI g (μ 1) 288 (enc σ), xI g (μ 2) 288 (enc σ), xI g (μ 6) 60 T])) (va_A [cM μ iK kn ln th sp bg fm le fi se re ca, xI g (μ 1) 288 (enc σ), xI g (μ 2) 288 B, xI g (μ 6) 60 T] sz)) 0 0 (va_A [cM μ iK kn ln th sp bg fm le fi se re ca, xI g (μ 1) 288 (enc σ), xI g (μ 2) 288 B, xI g (μ 6) 60 T] sz) := by
  refine kMet (cc := cX6_faultTold) (maxL := 3) (ret := (some .int)) (own := RX6) (by decide) rfl rfl (Nat.le_of_ble_eq_true rfl) ?_
  intro p e s m args below meth c ls Q H locs A F w hl hnm hA hQ
  have hx := F.1.1
  have hb := F.1.2.1
  have hts := F.1.2.2.2.2
  have hl : lv_has ls 3 [(0, .ref (μ 0)), (1, .int (nI 0))] := hl
  refine lv_aload_n hx hb dX6_faultTold_0 rfl (lv_at hl 0 rfl) ?_
  refine lv_iconst (v := nI 0) hx hb dX6_faultTold_1 (by decide) ?_
  refine kput (fs := [.ref (μ 1), .ref (μ 2), .ref (μ 3), .ref (μ 4), .int (bI iK), .ref (μ 5), .int (nI kn), .ref (μ 6), .int (nI ln), .int (nI th), .int (nI sp), .int (nI bg), .int (bI fm), .int le, .int (nI fi), .int (nI se), .int (nI re), .int (nI ca)]) F w in_X6_faultTold_X6 tyX6_ok nmX6 0 rfl rfl 9 (by decide) (by decide +kernel) rfl rfl (rfl) (rfl) (Nat.le_of_ble_eq_true rfl) (wn := [cM μ iK kn ln 0 sp bg fm le fi se re ca, xI g (μ 1) 288 (enc σ), xI g (μ 2) 288 B, xI g (μ 6) 60 T]) rfl dX6_faultTold_2 (fun H locs w => ?_)
  refine lv_aload_n hx hb dX6_faultTold_5 rfl (lv_at hl 0 rfl) ?_
  refine kget (fs := [.ref (μ 1), .ref (μ 2), .ref (μ 3), .ref (μ 4), .int (bI iK), .ref (μ 5), .int (nI kn), .ref (μ 6), .int (nI ln), .int (nI 0), .int (nI sp), .int (nI bg), .int (bI fm), .int le, .int (nI fi), .int (nI se), .int (nI re), .int (nI ca)]) F w in_X6_faultTold_X6 0 rfl rfl 0 (by decide) (by decide +kernel) rfl rfl dX6_faultTold_6 ?_
  refine lv_iconst (v := nI 0) hx hb dX6_faultTold_9 (by decide) ?_
  refine lv_aload_n hx hb dX6_faultTold_10 rfl (lv_at hl 0 rfl) ?_
  refine kget (fs := [.ref (μ 1), .ref (μ 2), .ref (μ 3), .ref (μ 4), .int (bI iK), .ref (μ 5), .int (nI kn), .ref (μ 6), .int (nI ln), .int (nI 0), .int (nI sp), .int (nI bg), .int (bI fm), .int le, .int (nI fi), .int (nI se), .int (nI re), .int (nI ca)]) F w in_X6_faultTold_X6 0 rfl rfl 1 (by decide) (by decide +kernel) rfl rfl dX6_faultTold_11 ?_
  refine lv_iconst (v := nI 0) hx hb dX6_faultTold_14 (by decide) ?_
  refine kcallv (wc := [xI g (μ 1) 288 (enc σ), xI g (μ 2) 288 B]) (wr := [cM μ iK kn ln 0 sp bg fm le fi se re ca, xI g (μ 6) 60 T]) (wn := fun (u : Unit) => [cM μ iK kn ln 0 sp bg fm le fi se re ca, xI g (μ 1) 288 (enc σ), xI g (μ 2) 288 (cpyU (enc σ) 0 B 0 288), xI g (μ 6) 60 T]) F w [1, 2] [0, 3] [0, 2, 3, 1] rfl rfl rfl (fun _ => rfl)
    (fun hp => va_runS (As := [.ref (μ 1), .int (nI 0), .ref (μ 2), .int (nI 0)]) (rest := []) F.1 (kX6_copies l g (μ 1) 288 (enc σ) 0 (μ 2) 288 B 0 H.size (by omega) (by omega)) (va_cwS 4 hts gX6_faultTold_X6_copies rfl rfl rfl hd_X6_copies ⟨Nat.le_of_ble_eq_true rfl, Nat.le_of_ble_eq_true rfl⟩) hp rfl rfl hl.1 rfl (lv_room (Nat.le_of_ble_eq_true rfl)) dX6_faultTold_15 ⟨Nat.le_of_ble_eq_true rfl, Nat.le_of_ble_eq_true rfl⟩)
    (fun _ H locs h_2 w => ?_)
  have w : kW g A s [cM μ iK kn ln 0 sp bg fm le fi se re ca, xI g (μ 1) 288 (enc σ), xI g (μ 2) 288 (enc σ), xI g (μ 6) 60 T] H locs := kW.arr w 2 rfl (fun j hj => by rw [cpyU_in (by omega) (by omega)]; congr 1; omega) rfl
  refine lv_aload_n hx hb dX6_faultTold_18 rfl (lv_at hl 0 rfl) ?_
  refine kcalli (wc := [cM μ iK kn ln 0 sp bg fm le fi se re ca, xI g (μ 1) 288 (enc σ), xI g (μ 6) 60 T]) (wr := [xI g (μ 2) 288 (enc σ)]) (wn := fun (u : Nat × Nat × Bool × Int32 × Nat × Nat × Nat) => [cM μ iK kn ln 0 u.1 u.2.1 u.2.2.1 u.2.2.2.1 u.2.2.2.2.1 u.2.2.2.2.2.1 (zRe T ln σ) u.2.2.2.2.2.2, xI g (μ 1) 288 (enc (zSt T ln σ)), xI g (μ 2) 288 (enc σ), xI g (μ 6) 60 T]) F w [0, 1, 3] [2] [1, 2, 0, 3] rfl rfl rfl (fun _ => rfl)
    (fun hp => va_runV (As := []) (rest := []) F.1 (kX6_doesAll l g μ iK kn ln 0 sp bg fm le fi se re ca σ T H.size hL) (cwV 0 hts gX6_faultTold_X6_doesAll rfl rfl rfl ⟨rfl, hd_X6_doesAll⟩ ⟨Nat.le_of_ble_eq_true rfl, Nat.le_of_ble_eq_true rfl⟩) ⟨hp.1, va_recv F.2.2.2.1.1 w.1 (q0 := 0) (ci := 6) rfl rfl, hp.2⟩ rfl rfl hl.1 rfl (lv_room (Nat.le_of_ble_eq_true rfl)) dX6_faultTold_19 ⟨Nat.le_of_ble_eq_true rfl, Nat.le_of_ble_eq_true rfl⟩)
    (fun r_3 u H locs h_4 w => ?_)
  try dsimp only at h_4
  obtain ⟨u_5, hu9⟩ : ∃ z, z = u := ⟨_, rfl⟩
  subst hu9
  have w : kW g A s [cM μ iK kn ln 0 u_5.1 u_5.2.1 u_5.2.2.1 u_5.2.2.2.1 u_5.2.2.2.2.1 u_5.2.2.2.2.2.1 (zRe T ln σ) u_5.2.2.2.2.2.2, xI g (μ 1) 288 (enc (zSt T ln σ)), xI g (μ 2) 288 (enc σ), xI g (μ 6) 60 T] H locs := w
  refine lv_istore_n (lv' := [(2, .int r_3), (0, .ref (μ 0)), (1, .int (nI 0))]) hx hb dX6_faultTold_22 rfl hl (by decide) rfl (fun ls hl => ?_)
  refine lv_aload_n hx hb dX6_faultTold_23 rfl (lv_at hl 1 rfl) ?_
  refine kget (fs := [.ref (μ 1), .ref (μ 2), .ref (μ 3), .ref (μ 4), .int (bI iK), .ref (μ 5), .int (nI kn), .ref (μ 6), .int (nI ln), .int (nI 0), .int (nI u_5.1), .int (nI u_5.2.1), .int (bI u_5.2.2.1), .int u_5.2.2.2.1, .int (nI u_5.2.2.2.2.1), .int (nI u_5.2.2.2.2.2.1), .int (nI (zRe T ln σ)), .int (nI u_5.2.2.2.2.2.2)]) F w in_X6_faultTold_X6 0 rfl rfl 1 (by decide) (by decide +kernel) rfl rfl dX6_faultTold_24 ?_
  refine lv_iconst (v := nI 0) hx hb dX6_faultTold_27 (by decide) ?_
  refine lv_aload_n hx hb dX6_faultTold_28 rfl (lv_at hl 1 rfl) ?_
  refine kget (fs := [.ref (μ 1), .ref (μ 2), .ref (μ 3), .ref (μ 4), .int (bI iK), .ref (μ 5), .int (nI kn), .ref (μ 6), .int (nI ln), .int (nI 0), .int (nI u_5.1), .int (nI u_5.2.1), .int (bI u_5.2.2.1), .int u_5.2.2.2.1, .int (nI u_5.2.2.2.2.1), .int (nI u_5.2.2.2.2.2.1), .int (nI (zRe T ln σ)), .int (nI u_5.2.2.2.2.2.2)]) F w in_X6_faultTold_X6 0 rfl rfl 0 (by decide) (by decide +kernel) rfl rfl dX6_faultTold_29 ?_
  refine lv_iconst (v := nI 0) hx hb dX6_faultTold_32 (by decide) ?_
  refine kcallv (wc := [xI g (μ 2) 288 (enc σ), xI g (μ 1) 288 (enc (zSt T ln σ))]) (wr := [cM μ iK kn ln 0 u_5.1 u_5.2.1 u_5.2.2.1 u_5.2.2.2.1 u_5.2.2.2.2.1 u_5.2.2.2.2.2.1 (zRe T ln σ) u_5.2.2.2.2.2.2, xI g (μ 6) 60 T]) (wn := fun (u : Unit) => [cM μ iK kn ln 0 u_5.1 u_5.2.1 u_5.2.2.1 u_5.2.2.2.1 u_5.2.2.2.2.1 u_5.2.2.2.2.2.1 (zRe T ln σ) u_5.2.2.2.2.2.2, xI g (μ 1) 288 (cpyU (enc σ) 0 (enc (zSt T ln σ)) 0 288), xI g (μ 2) 288 (enc σ), xI g (μ 6) 60 T]) F w [2, 1] [0, 3] [0, 3, 2, 1] rfl rfl rfl (fun _ => rfl)
    (fun hp => va_runS (As := [.ref (μ 2), .int (nI 0), .ref (μ 1), .int (nI 0)]) (rest := []) F.1 (kX6_copies l g (μ 2) 288 (enc σ) 0 (μ 1) 288 (enc (zSt T ln σ)) 0 H.size (by omega) (by omega)) (va_cwS 4 hts gX6_faultTold_X6_copies rfl rfl rfl hd_X6_copies ⟨Nat.le_of_ble_eq_true rfl, Nat.le_of_ble_eq_true rfl⟩) hp rfl rfl hl.1 rfl (lv_room (Nat.le_of_ble_eq_true rfl)) dX6_faultTold_33 ⟨Nat.le_of_ble_eq_true rfl, Nat.le_of_ble_eq_true rfl⟩)
    (fun _ H locs h_7 w => ?_)
  have w : kW g A s [cM μ iK kn ln 0 u_5.1 u_5.2.1 u_5.2.2.1 u_5.2.2.2.1 u_5.2.2.2.2.1 u_5.2.2.2.2.2.1 (zRe T ln σ) u_5.2.2.2.2.2.2, xI g (μ 1) 288 (enc σ), xI g (μ 2) 288 (enc σ), xI g (μ 6) 60 T] H locs := kW.arr w 1 rfl (fun j hj => by rw [cpyU_in (by omega) (by omega)]; congr 1; omega) rfl
  have hzl := zRe_le T ln σ
  refine lv_aload_n hx hb dX6_faultTold_36 rfl (lv_at hl 1 rfl) ?_
  refine kget (fs := [.ref (μ 1), .ref (μ 2), .ref (μ 3), .ref (μ 4), .int (bI iK), .ref (μ 5), .int (nI kn), .ref (μ 6), .int (nI ln), .int (nI 0), .int (nI u_5.1), .int (nI u_5.2.1), .int (bI u_5.2.2.1), .int u_5.2.2.2.1, .int (nI u_5.2.2.2.2.1), .int (nI u_5.2.2.2.2.2.1), .int (nI (zRe T ln σ)), .int (nI u_5.2.2.2.2.2.2)]) F w in_X6_faultTold_X6 0 rfl rfl 16 (by decide) (by decide +kernel) rfl rfl dX6_faultTold_37 ?_
  refine lv_if_ne (tgt := 51) hx hb dX6_faultTold_40 (by decide) (fun h_8 => ?_) (fun h_8 => ?_)
  · have h_8 : zRe T ln σ ≠ 0 := (kc0_ne_t (by omega)).mp h_8
    have hu9 := h_4.2 h_8
    refine lv_iload_n hx hb dX6_faultTold_51 rfl (lv_at hl 2 rfl) ?_
    refine lv_if_ne (tgt := 62) hx hb dX6_faultTold_52 (by decide) (fun h_9 => ?_) (fun h_9 => ?_)
    · have h_9 : 0 ≠ 0 := (kc0_ne_t (by omega)).mp h_9
      omega
    · have h_9 : 0 = 0 := (kc0_ne_f (by omega)).mp h_9
      refine lv_aload_n hx hb dX6_faultTold_55 rfl (lv_at hl 1 rfl) ?_
      refine kget (fs := [.ref (μ 1), .ref (μ 2), .ref (μ 3), .ref (μ 4), .int (bI iK), .ref (μ 5), .int (nI kn), .ref (μ 6), .int (nI ln), .int (nI 0), .int (nI u_5.1), .int (nI u_5.2.1), .int (bI u_5.2.2.1), .int u_5.2.2.2.1, .int (nI u_5.2.2.2.2.1), .int (nI u_5.2.2.2.2.2.1), .int (nI (zRe T ln σ)), .int (nI u_5.2.2.2.2.2.2)]) F w in_X6_faultTold_X6 0 rfl rfl 11 (by decide) (by decide +kernel) rfl rfl dX6_faultTold_56 ?_
      refine lv_goto (tgt := 78) hx hb dX6_faultTold_59 (by decide) ?_
      subst hA
      subst hQ
      exact kreti F w (u_5.1, u_5.2.1, u_5.2.2.1, u_5.2.2.2.1, u_5.2.2.2.2.1, u_5.2.2.2.2.2.1, u_5.2.2.2.2.2.2) [0, 1, 2, 3] rfl rfl (congrArg nI hu9.1) (Nat.le_of_ble_eq_true rfl) (Nat.le_of_ble_eq_true rfl) dX6_faultTold_78
  · have h_8 : zRe T ln σ = 0 := (kc0_ne_f (by omega)).mp h_8
    exact absurd h_8 hz9
abbrev rmX6_faultTold_1 : Room := { frames := 7, cells := 0, slots := 0, locals := 154 }
set_option maxHeartbeats 4000000 in
set_option maxRecDepth 100000 in
theorem kX6_faultTold_1 (l : Launch) (g : GG) (μ : Nat → Nat) (iK : Bool) (kn : Nat) (ln : Nat) (th : Nat) (sp : Nat) (bg : Nat) (fm : Bool) (le : Int32) (fi : Nat) (se : Nat) (re : Nat) (ca : Nat) (σ : Sg) (B : Nat → Int32) (T : Nat → Int32) (sz : Nat) (hL : ln ≤ 60) (hz9 : zRe T ln σ ≠ 0) : Met l yX6_faultTold wsX6_faultTold rmX6_faultTold_1 (va_Pc [.ref (μ 0), .int (nI 1)] (kPre g [cM μ iK kn ln th sp bg fm le fi se re ca, xI g (μ 1) 288 (enc σ), xI g (μ 2) 288 B, xI g (μ 6) 60 T] sz)) (va_Qi (fun (r : Int32) (u : Nat × Nat × Bool × Int32 × Nat × Nat × Nat) => r = nI (zRe T ln σ)) (kB g (va_A [cM μ iK kn ln th sp bg fm le fi se re ca, xI g (μ 1) 288 (enc σ), xI g (μ 2) 288 B, xI g (μ 6) 60 T] sz) (fun u => [cM μ iK kn ln 0 u.1 u.2.1 u.2.2.1 u.2.2.2.1 u.2.2.2.2.1 u.2.2.2.2.2.1 (zRe T ln σ) u.2.2.2.2.2.2, xI g (μ 1) 288 (enc σ), xI g (μ 2) 288 (enc σ), xI g (μ 6) 60 T])) (va_A [cM μ iK kn ln th sp bg fm le fi se re ca, xI g (μ 1) 288 (enc σ), xI g (μ 2) 288 B, xI g (μ 6) 60 T] sz)) 0 0 (va_A [cM μ iK kn ln th sp bg fm le fi se re ca, xI g (μ 1) 288 (enc σ), xI g (μ 2) 288 B, xI g (μ 6) 60 T] sz) := by
  refine kMet (cc := cX6_faultTold) (maxL := 3) (ret := (some .int)) (own := RX6) (by decide) rfl rfl (Nat.le_of_ble_eq_true rfl) ?_
  intro p e s m args below meth c ls Q H locs A F w hl hnm hA hQ
  have hx := F.1.1
  have hb := F.1.2.1
  have hts := F.1.2.2.2.2
  have hl : lv_has ls 3 [(0, .ref (μ 0)), (1, .int (nI 1))] := hl
  refine lv_aload_n hx hb dX6_faultTold_0 rfl (lv_at hl 0 rfl) ?_
  refine lv_iconst (v := nI 0) hx hb dX6_faultTold_1 (by decide) ?_
  refine kput (fs := [.ref (μ 1), .ref (μ 2), .ref (μ 3), .ref (μ 4), .int (bI iK), .ref (μ 5), .int (nI kn), .ref (μ 6), .int (nI ln), .int (nI th), .int (nI sp), .int (nI bg), .int (bI fm), .int le, .int (nI fi), .int (nI se), .int (nI re), .int (nI ca)]) F w in_X6_faultTold_X6 tyX6_ok nmX6 0 rfl rfl 9 (by decide) (by decide +kernel) rfl rfl (rfl) (rfl) (Nat.le_of_ble_eq_true rfl) (wn := [cM μ iK kn ln 0 sp bg fm le fi se re ca, xI g (μ 1) 288 (enc σ), xI g (μ 2) 288 B, xI g (μ 6) 60 T]) rfl dX6_faultTold_2 (fun H locs w => ?_)
  refine lv_aload_n hx hb dX6_faultTold_5 rfl (lv_at hl 0 rfl) ?_
  refine kget (fs := [.ref (μ 1), .ref (μ 2), .ref (μ 3), .ref (μ 4), .int (bI iK), .ref (μ 5), .int (nI kn), .ref (μ 6), .int (nI ln), .int (nI 0), .int (nI sp), .int (nI bg), .int (bI fm), .int le, .int (nI fi), .int (nI se), .int (nI re), .int (nI ca)]) F w in_X6_faultTold_X6 0 rfl rfl 0 (by decide) (by decide +kernel) rfl rfl dX6_faultTold_6 ?_
  refine lv_iconst (v := nI 0) hx hb dX6_faultTold_9 (by decide) ?_
  refine lv_aload_n hx hb dX6_faultTold_10 rfl (lv_at hl 0 rfl) ?_
  refine kget (fs := [.ref (μ 1), .ref (μ 2), .ref (μ 3), .ref (μ 4), .int (bI iK), .ref (μ 5), .int (nI kn), .ref (μ 6), .int (nI ln), .int (nI 0), .int (nI sp), .int (nI bg), .int (bI fm), .int le, .int (nI fi), .int (nI se), .int (nI re), .int (nI ca)]) F w in_X6_faultTold_X6 0 rfl rfl 1 (by decide) (by decide +kernel) rfl rfl dX6_faultTold_11 ?_
  refine lv_iconst (v := nI 0) hx hb dX6_faultTold_14 (by decide) ?_
  refine kcallv (wc := [xI g (μ 1) 288 (enc σ), xI g (μ 2) 288 B]) (wr := [cM μ iK kn ln 0 sp bg fm le fi se re ca, xI g (μ 6) 60 T]) (wn := fun (u : Unit) => [cM μ iK kn ln 0 sp bg fm le fi se re ca, xI g (μ 1) 288 (enc σ), xI g (μ 2) 288 (cpyU (enc σ) 0 B 0 288), xI g (μ 6) 60 T]) F w [1, 2] [0, 3] [0, 2, 3, 1] rfl rfl rfl (fun _ => rfl)
    (fun hp => va_runS (As := [.ref (μ 1), .int (nI 0), .ref (μ 2), .int (nI 0)]) (rest := []) F.1 (kX6_copies l g (μ 1) 288 (enc σ) 0 (μ 2) 288 B 0 H.size (by omega) (by omega)) (va_cwS 4 hts gX6_faultTold_X6_copies rfl rfl rfl hd_X6_copies ⟨Nat.le_of_ble_eq_true rfl, Nat.le_of_ble_eq_true rfl⟩) hp rfl rfl hl.1 rfl (lv_room (Nat.le_of_ble_eq_true rfl)) dX6_faultTold_15 ⟨Nat.le_of_ble_eq_true rfl, Nat.le_of_ble_eq_true rfl⟩)
    (fun _ H locs h_2 w => ?_)
  have w : kW g A s [cM μ iK kn ln 0 sp bg fm le fi se re ca, xI g (μ 1) 288 (enc σ), xI g (μ 2) 288 (enc σ), xI g (μ 6) 60 T] H locs := kW.arr w 2 rfl (fun j hj => by rw [cpyU_in (by omega) (by omega)]; congr 1; omega) rfl
  refine lv_aload_n hx hb dX6_faultTold_18 rfl (lv_at hl 0 rfl) ?_
  refine kcalli (wc := [cM μ iK kn ln 0 sp bg fm le fi se re ca, xI g (μ 1) 288 (enc σ), xI g (μ 6) 60 T]) (wr := [xI g (μ 2) 288 (enc σ)]) (wn := fun (u : Nat × Nat × Bool × Int32 × Nat × Nat × Nat) => [cM μ iK kn ln 0 u.1 u.2.1 u.2.2.1 u.2.2.2.1 u.2.2.2.2.1 u.2.2.2.2.2.1 (zRe T ln σ) u.2.2.2.2.2.2, xI g (μ 1) 288 (enc (zSt T ln σ)), xI g (μ 2) 288 (enc σ), xI g (μ 6) 60 T]) F w [0, 1, 3] [2] [1, 2, 0, 3] rfl rfl rfl (fun _ => rfl)
    (fun hp => va_runV (As := []) (rest := []) F.1 (kX6_doesAll l g μ iK kn ln 0 sp bg fm le fi se re ca σ T H.size hL) (cwV 0 hts gX6_faultTold_X6_doesAll rfl rfl rfl ⟨rfl, hd_X6_doesAll⟩ ⟨Nat.le_of_ble_eq_true rfl, Nat.le_of_ble_eq_true rfl⟩) ⟨hp.1, va_recv F.2.2.2.1.1 w.1 (q0 := 0) (ci := 6) rfl rfl, hp.2⟩ rfl rfl hl.1 rfl (lv_room (Nat.le_of_ble_eq_true rfl)) dX6_faultTold_19 ⟨Nat.le_of_ble_eq_true rfl, Nat.le_of_ble_eq_true rfl⟩)
    (fun r_3 u H locs h_4 w => ?_)
  try dsimp only at h_4
  obtain ⟨u_5, hu9⟩ : ∃ z, z = u := ⟨_, rfl⟩
  subst hu9
  have w : kW g A s [cM μ iK kn ln 0 u_5.1 u_5.2.1 u_5.2.2.1 u_5.2.2.2.1 u_5.2.2.2.2.1 u_5.2.2.2.2.2.1 (zRe T ln σ) u_5.2.2.2.2.2.2, xI g (μ 1) 288 (enc (zSt T ln σ)), xI g (μ 2) 288 (enc σ), xI g (μ 6) 60 T] H locs := w
  refine lv_istore_n (lv' := [(2, .int r_3), (0, .ref (μ 0)), (1, .int (nI 1))]) hx hb dX6_faultTold_22 rfl hl (by decide) rfl (fun ls hl => ?_)
  refine lv_aload_n hx hb dX6_faultTold_23 rfl (lv_at hl 1 rfl) ?_
  refine kget (fs := [.ref (μ 1), .ref (μ 2), .ref (μ 3), .ref (μ 4), .int (bI iK), .ref (μ 5), .int (nI kn), .ref (μ 6), .int (nI ln), .int (nI 0), .int (nI u_5.1), .int (nI u_5.2.1), .int (bI u_5.2.2.1), .int u_5.2.2.2.1, .int (nI u_5.2.2.2.2.1), .int (nI u_5.2.2.2.2.2.1), .int (nI (zRe T ln σ)), .int (nI u_5.2.2.2.2.2.2)]) F w in_X6_faultTold_X6 0 rfl rfl 1 (by decide) (by decide +kernel) rfl rfl dX6_faultTold_24 ?_
  refine lv_iconst (v := nI 0) hx hb dX6_faultTold_27 (by decide) ?_
  refine lv_aload_n hx hb dX6_faultTold_28 rfl (lv_at hl 1 rfl) ?_
  refine kget (fs := [.ref (μ 1), .ref (μ 2), .ref (μ 3), .ref (μ 4), .int (bI iK), .ref (μ 5), .int (nI kn), .ref (μ 6), .int (nI ln), .int (nI 0), .int (nI u_5.1), .int (nI u_5.2.1), .int (bI u_5.2.2.1), .int u_5.2.2.2.1, .int (nI u_5.2.2.2.2.1), .int (nI u_5.2.2.2.2.2.1), .int (nI (zRe T ln σ)), .int (nI u_5.2.2.2.2.2.2)]) F w in_X6_faultTold_X6 0 rfl rfl 0 (by decide) (by decide +kernel) rfl rfl dX6_faultTold_29 ?_
  refine lv_iconst (v := nI 0) hx hb dX6_faultTold_32 (by decide) ?_
  refine kcallv (wc := [xI g (μ 2) 288 (enc σ), xI g (μ 1) 288 (enc (zSt T ln σ))]) (wr := [cM μ iK kn ln 0 u_5.1 u_5.2.1 u_5.2.2.1 u_5.2.2.2.1 u_5.2.2.2.2.1 u_5.2.2.2.2.2.1 (zRe T ln σ) u_5.2.2.2.2.2.2, xI g (μ 6) 60 T]) (wn := fun (u : Unit) => [cM μ iK kn ln 0 u_5.1 u_5.2.1 u_5.2.2.1 u_5.2.2.2.1 u_5.2.2.2.2.1 u_5.2.2.2.2.2.1 (zRe T ln σ) u_5.2.2.2.2.2.2, xI g (μ 1) 288 (cpyU (enc σ) 0 (enc (zSt T ln σ)) 0 288), xI g (μ 2) 288 (enc σ), xI g (μ 6) 60 T]) F w [2, 1] [0, 3] [0, 3, 2, 1] rfl rfl rfl (fun _ => rfl)
    (fun hp => va_runS (As := [.ref (μ 2), .int (nI 0), .ref (μ 1), .int (nI 0)]) (rest := []) F.1 (kX6_copies l g (μ 2) 288 (enc σ) 0 (μ 1) 288 (enc (zSt T ln σ)) 0 H.size (by omega) (by omega)) (va_cwS 4 hts gX6_faultTold_X6_copies rfl rfl rfl hd_X6_copies ⟨Nat.le_of_ble_eq_true rfl, Nat.le_of_ble_eq_true rfl⟩) hp rfl rfl hl.1 rfl (lv_room (Nat.le_of_ble_eq_true rfl)) dX6_faultTold_33 ⟨Nat.le_of_ble_eq_true rfl, Nat.le_of_ble_eq_true rfl⟩)
    (fun _ H locs h_7 w => ?_)
  have w : kW g A s [cM μ iK kn ln 0 u_5.1 u_5.2.1 u_5.2.2.1 u_5.2.2.2.1 u_5.2.2.2.2.1 u_5.2.2.2.2.2.1 (zRe T ln σ) u_5.2.2.2.2.2.2, xI g (μ 1) 288 (enc σ), xI g (μ 2) 288 (enc σ), xI g (μ 6) 60 T] H locs := kW.arr w 1 rfl (fun j hj => by rw [cpyU_in (by omega) (by omega)]; congr 1; omega) rfl
  have hzl := zRe_le T ln σ
  refine lv_aload_n hx hb dX6_faultTold_36 rfl (lv_at hl 1 rfl) ?_
  refine kget (fs := [.ref (μ 1), .ref (μ 2), .ref (μ 3), .ref (μ 4), .int (bI iK), .ref (μ 5), .int (nI kn), .ref (μ 6), .int (nI ln), .int (nI 0), .int (nI u_5.1), .int (nI u_5.2.1), .int (bI u_5.2.2.1), .int u_5.2.2.2.1, .int (nI u_5.2.2.2.2.1), .int (nI u_5.2.2.2.2.2.1), .int (nI (zRe T ln σ)), .int (nI u_5.2.2.2.2.2.2)]) F w in_X6_faultTold_X6 0 rfl rfl 16 (by decide) (by decide +kernel) rfl rfl dX6_faultTold_37 ?_
  refine lv_if_ne (tgt := 51) hx hb dX6_faultTold_40 (by decide) (fun h_8 => ?_) (fun h_8 => ?_)
  · have h_8 : zRe T ln σ ≠ 0 := (kc0_ne_t (by omega)).mp h_8
    have hu9 := h_4.2 h_8
    refine lv_iload_n hx hb dX6_faultTold_51 rfl (lv_at hl 2 rfl) ?_
    refine lv_if_ne (tgt := 62) hx hb dX6_faultTold_52 (by decide) (fun h_9 => ?_) (fun h_9 => ?_)
    · have h_9 : 1 ≠ 0 := (kc0_ne_t (by omega)).mp h_9
      refine lv_iload_n hx hb dX6_faultTold_62 rfl (lv_at hl 2 rfl) ?_
      refine lv_iconst (v := nI 1) hx hb dX6_faultTold_63 (by decide) ?_
      refine lv_icmp_ne (tgt := 74) hx hb dX6_faultTold_64 (by decide) (fun h_10 => ?_) (fun h_10 => ?_)
      · have h_10 : 1 ≠ 1 := (kc_ne_t (by omega) (by omega)).mp h_10
        omega
      · have h_10 : 1 = 1 := (kc_ne_f (by omega) (by omega)).mp h_10
        refine lv_aload_n hx hb dX6_faultTold_67 rfl (lv_at hl 1 rfl) ?_
        refine kget (fs := [.ref (μ 1), .ref (μ 2), .ref (μ 3), .ref (μ 4), .int (bI iK), .ref (μ 5), .int (nI kn), .ref (μ 6), .int (nI ln), .int (nI 0), .int (nI u_5.1), .int (nI u_5.2.1), .int (bI u_5.2.2.1), .int u_5.2.2.2.1, .int (nI u_5.2.2.2.2.1), .int (nI u_5.2.2.2.2.2.1), .int (nI (zRe T ln σ)), .int (nI u_5.2.2.2.2.2.2)]) F w in_X6_faultTold_X6 0 rfl rfl 16 (by decide) (by decide +kernel) rfl rfl dX6_faultTold_68 ?_
        refine lv_goto (tgt := 78) hx hb dX6_faultTold_71 (by decide) ?_
        subst hA
        subst hQ
        exact kreti F w (u_5.1, u_5.2.1, u_5.2.2.1, u_5.2.2.2.1, u_5.2.2.2.2.1, u_5.2.2.2.2.2.1, u_5.2.2.2.2.2.2) [0, 1, 2, 3] rfl rfl (rfl) (Nat.le_of_ble_eq_true rfl) (Nat.le_of_ble_eq_true rfl) dX6_faultTold_78
    · have h_9 : 1 = 0 := (kc0_ne_f (by omega)).mp h_9
      omega
  · have h_8 : zRe T ln σ = 0 := (kc0_ne_f (by omega)).mp h_8
    exact absurd h_8 hz9
abbrev rmX6_faultTold_2 : Room := { frames := 7, cells := 0, slots := 0, locals := 154 }
set_option maxHeartbeats 4000000 in
set_option maxRecDepth 100000 in
theorem kX6_faultTold_2 (l : Launch) (g : GG) (μ : Nat → Nat) (iK : Bool) (kn : Nat) (ln : Nat) (th : Nat) (sp : Nat) (bg : Nat) (fm : Bool) (le : Int32) (fi : Nat) (se : Nat) (re : Nat) (ca : Nat) (σ : Sg) (B : Nat → Int32) (T : Nat → Int32) (sz : Nat) (hL : ln ≤ 60) (hz9 : zRe T ln σ ≠ 0) : Met l yX6_faultTold wsX6_faultTold rmX6_faultTold_2 (va_Pc [.ref (μ 0), .int (nI 2)] (kPre g [cM μ iK kn ln th sp bg fm le fi se re ca, xI g (μ 1) 288 (enc σ), xI g (μ 2) 288 B, xI g (μ 6) 60 T] sz)) (va_Qi (fun (r : Int32) (u : Nat × Nat × Bool × Int32 × Nat × Nat × Nat) => r = nI (zCa T ln σ)) (kB g (va_A [cM μ iK kn ln th sp bg fm le fi se re ca, xI g (μ 1) 288 (enc σ), xI g (μ 2) 288 B, xI g (μ 6) 60 T] sz) (fun u => [cM μ iK kn ln 0 u.1 u.2.1 u.2.2.1 u.2.2.2.1 u.2.2.2.2.1 u.2.2.2.2.2.1 (zRe T ln σ) u.2.2.2.2.2.2, xI g (μ 1) 288 (enc σ), xI g (μ 2) 288 (enc σ), xI g (μ 6) 60 T])) (va_A [cM μ iK kn ln th sp bg fm le fi se re ca, xI g (μ 1) 288 (enc σ), xI g (μ 2) 288 B, xI g (μ 6) 60 T] sz)) 0 0 (va_A [cM μ iK kn ln th sp bg fm le fi se re ca, xI g (μ 1) 288 (enc σ), xI g (μ 2) 288 B, xI g (μ 6) 60 T] sz) := by
  refine kMet (cc := cX6_faultTold) (maxL := 3) (ret := (some .int)) (own := RX6) (by decide) rfl rfl (Nat.le_of_ble_eq_true rfl) ?_
  intro p e s m args below meth c ls Q H locs A F w hl hnm hA hQ
  have hx := F.1.1
  have hb := F.1.2.1
  have hts := F.1.2.2.2.2
  have hl : lv_has ls 3 [(0, .ref (μ 0)), (1, .int (nI 2))] := hl
  refine lv_aload_n hx hb dX6_faultTold_0 rfl (lv_at hl 0 rfl) ?_
  refine lv_iconst (v := nI 0) hx hb dX6_faultTold_1 (by decide) ?_
  refine kput (fs := [.ref (μ 1), .ref (μ 2), .ref (μ 3), .ref (μ 4), .int (bI iK), .ref (μ 5), .int (nI kn), .ref (μ 6), .int (nI ln), .int (nI th), .int (nI sp), .int (nI bg), .int (bI fm), .int le, .int (nI fi), .int (nI se), .int (nI re), .int (nI ca)]) F w in_X6_faultTold_X6 tyX6_ok nmX6 0 rfl rfl 9 (by decide) (by decide +kernel) rfl rfl (rfl) (rfl) (Nat.le_of_ble_eq_true rfl) (wn := [cM μ iK kn ln 0 sp bg fm le fi se re ca, xI g (μ 1) 288 (enc σ), xI g (μ 2) 288 B, xI g (μ 6) 60 T]) rfl dX6_faultTold_2 (fun H locs w => ?_)
  refine lv_aload_n hx hb dX6_faultTold_5 rfl (lv_at hl 0 rfl) ?_
  refine kget (fs := [.ref (μ 1), .ref (μ 2), .ref (μ 3), .ref (μ 4), .int (bI iK), .ref (μ 5), .int (nI kn), .ref (μ 6), .int (nI ln), .int (nI 0), .int (nI sp), .int (nI bg), .int (bI fm), .int le, .int (nI fi), .int (nI se), .int (nI re), .int (nI ca)]) F w in_X6_faultTold_X6 0 rfl rfl 0 (by decide) (by decide +kernel) rfl rfl dX6_faultTold_6 ?_
  refine lv_iconst (v := nI 0) hx hb dX6_faultTold_9 (by decide) ?_
  refine lv_aload_n hx hb dX6_faultTold_10 rfl (lv_at hl 0 rfl) ?_
  refine kget (fs := [.ref (μ 1), .ref (μ 2), .ref (μ 3), .ref (μ 4), .int (bI iK), .ref (μ 5), .int (nI kn), .ref (μ 6), .int (nI ln), .int (nI 0), .int (nI sp), .int (nI bg), .int (bI fm), .int le, .int (nI fi), .int (nI se), .int (nI re), .int (nI ca)]) F w in_X6_faultTold_X6 0 rfl rfl 1 (by decide) (by decide +kernel) rfl rfl dX6_faultTold_11 ?_
  refine lv_iconst (v := nI 0) hx hb dX6_faultTold_14 (by decide) ?_
  refine kcallv (wc := [xI g (μ 1) 288 (enc σ), xI g (μ 2) 288 B]) (wr := [cM μ iK kn ln 0 sp bg fm le fi se re ca, xI g (μ 6) 60 T]) (wn := fun (u : Unit) => [cM μ iK kn ln 0 sp bg fm le fi se re ca, xI g (μ 1) 288 (enc σ), xI g (μ 2) 288 (cpyU (enc σ) 0 B 0 288), xI g (μ 6) 60 T]) F w [1, 2] [0, 3] [0, 2, 3, 1] rfl rfl rfl (fun _ => rfl)
    (fun hp => va_runS (As := [.ref (μ 1), .int (nI 0), .ref (μ 2), .int (nI 0)]) (rest := []) F.1 (kX6_copies l g (μ 1) 288 (enc σ) 0 (μ 2) 288 B 0 H.size (by omega) (by omega)) (va_cwS 4 hts gX6_faultTold_X6_copies rfl rfl rfl hd_X6_copies ⟨Nat.le_of_ble_eq_true rfl, Nat.le_of_ble_eq_true rfl⟩) hp rfl rfl hl.1 rfl (lv_room (Nat.le_of_ble_eq_true rfl)) dX6_faultTold_15 ⟨Nat.le_of_ble_eq_true rfl, Nat.le_of_ble_eq_true rfl⟩)
    (fun _ H locs h_2 w => ?_)
  have w : kW g A s [cM μ iK kn ln 0 sp bg fm le fi se re ca, xI g (μ 1) 288 (enc σ), xI g (μ 2) 288 (enc σ), xI g (μ 6) 60 T] H locs := kW.arr w 2 rfl (fun j hj => by rw [cpyU_in (by omega) (by omega)]; congr 1; omega) rfl
  refine lv_aload_n hx hb dX6_faultTold_18 rfl (lv_at hl 0 rfl) ?_
  refine kcalli (wc := [cM μ iK kn ln 0 sp bg fm le fi se re ca, xI g (μ 1) 288 (enc σ), xI g (μ 6) 60 T]) (wr := [xI g (μ 2) 288 (enc σ)]) (wn := fun (u : Nat × Nat × Bool × Int32 × Nat × Nat × Nat) => [cM μ iK kn ln 0 u.1 u.2.1 u.2.2.1 u.2.2.2.1 u.2.2.2.2.1 u.2.2.2.2.2.1 (zRe T ln σ) u.2.2.2.2.2.2, xI g (μ 1) 288 (enc (zSt T ln σ)), xI g (μ 2) 288 (enc σ), xI g (μ 6) 60 T]) F w [0, 1, 3] [2] [1, 2, 0, 3] rfl rfl rfl (fun _ => rfl)
    (fun hp => va_runV (As := []) (rest := []) F.1 (kX6_doesAll l g μ iK kn ln 0 sp bg fm le fi se re ca σ T H.size hL) (cwV 0 hts gX6_faultTold_X6_doesAll rfl rfl rfl ⟨rfl, hd_X6_doesAll⟩ ⟨Nat.le_of_ble_eq_true rfl, Nat.le_of_ble_eq_true rfl⟩) ⟨hp.1, va_recv F.2.2.2.1.1 w.1 (q0 := 0) (ci := 6) rfl rfl, hp.2⟩ rfl rfl hl.1 rfl (lv_room (Nat.le_of_ble_eq_true rfl)) dX6_faultTold_19 ⟨Nat.le_of_ble_eq_true rfl, Nat.le_of_ble_eq_true rfl⟩)
    (fun r_3 u H locs h_4 w => ?_)
  try dsimp only at h_4
  obtain ⟨u_5, hu9⟩ : ∃ z, z = u := ⟨_, rfl⟩
  subst hu9
  have w : kW g A s [cM μ iK kn ln 0 u_5.1 u_5.2.1 u_5.2.2.1 u_5.2.2.2.1 u_5.2.2.2.2.1 u_5.2.2.2.2.2.1 (zRe T ln σ) u_5.2.2.2.2.2.2, xI g (μ 1) 288 (enc (zSt T ln σ)), xI g (μ 2) 288 (enc σ), xI g (μ 6) 60 T] H locs := w
  refine lv_istore_n (lv' := [(2, .int r_3), (0, .ref (μ 0)), (1, .int (nI 2))]) hx hb dX6_faultTold_22 rfl hl (by decide) rfl (fun ls hl => ?_)
  refine lv_aload_n hx hb dX6_faultTold_23 rfl (lv_at hl 1 rfl) ?_
  refine kget (fs := [.ref (μ 1), .ref (μ 2), .ref (μ 3), .ref (μ 4), .int (bI iK), .ref (μ 5), .int (nI kn), .ref (μ 6), .int (nI ln), .int (nI 0), .int (nI u_5.1), .int (nI u_5.2.1), .int (bI u_5.2.2.1), .int u_5.2.2.2.1, .int (nI u_5.2.2.2.2.1), .int (nI u_5.2.2.2.2.2.1), .int (nI (zRe T ln σ)), .int (nI u_5.2.2.2.2.2.2)]) F w in_X6_faultTold_X6 0 rfl rfl 1 (by decide) (by decide +kernel) rfl rfl dX6_faultTold_24 ?_
  refine lv_iconst (v := nI 0) hx hb dX6_faultTold_27 (by decide) ?_
  refine lv_aload_n hx hb dX6_faultTold_28 rfl (lv_at hl 1 rfl) ?_
  refine kget (fs := [.ref (μ 1), .ref (μ 2), .ref (μ 3), .ref (μ 4), .int (bI iK), .ref (μ 5), .int (nI kn), .ref (μ 6), .int (nI ln), .int (nI 0), .int (nI u_5.1), .int (nI u_5.2.1), .int (bI u_5.2.2.1), .int u_5.2.2.2.1, .int (nI u_5.2.2.2.2.1), .int (nI u_5.2.2.2.2.2.1), .int (nI (zRe T ln σ)), .int (nI u_5.2.2.2.2.2.2)]) F w in_X6_faultTold_X6 0 rfl rfl 0 (by decide) (by decide +kernel) rfl rfl dX6_faultTold_29 ?_
  refine lv_iconst (v := nI 0) hx hb dX6_faultTold_32 (by decide) ?_
  refine kcallv (wc := [xI g (μ 2) 288 (enc σ), xI g (μ 1) 288 (enc (zSt T ln σ))]) (wr := [cM μ iK kn ln 0 u_5.1 u_5.2.1 u_5.2.2.1 u_5.2.2.2.1 u_5.2.2.2.2.1 u_5.2.2.2.2.2.1 (zRe T ln σ) u_5.2.2.2.2.2.2, xI g (μ 6) 60 T]) (wn := fun (u : Unit) => [cM μ iK kn ln 0 u_5.1 u_5.2.1 u_5.2.2.1 u_5.2.2.2.1 u_5.2.2.2.2.1 u_5.2.2.2.2.2.1 (zRe T ln σ) u_5.2.2.2.2.2.2, xI g (μ 1) 288 (cpyU (enc σ) 0 (enc (zSt T ln σ)) 0 288), xI g (μ 2) 288 (enc σ), xI g (μ 6) 60 T]) F w [2, 1] [0, 3] [0, 3, 2, 1] rfl rfl rfl (fun _ => rfl)
    (fun hp => va_runS (As := [.ref (μ 2), .int (nI 0), .ref (μ 1), .int (nI 0)]) (rest := []) F.1 (kX6_copies l g (μ 2) 288 (enc σ) 0 (μ 1) 288 (enc (zSt T ln σ)) 0 H.size (by omega) (by omega)) (va_cwS 4 hts gX6_faultTold_X6_copies rfl rfl rfl hd_X6_copies ⟨Nat.le_of_ble_eq_true rfl, Nat.le_of_ble_eq_true rfl⟩) hp rfl rfl hl.1 rfl (lv_room (Nat.le_of_ble_eq_true rfl)) dX6_faultTold_33 ⟨Nat.le_of_ble_eq_true rfl, Nat.le_of_ble_eq_true rfl⟩)
    (fun _ H locs h_7 w => ?_)
  have w : kW g A s [cM μ iK kn ln 0 u_5.1 u_5.2.1 u_5.2.2.1 u_5.2.2.2.1 u_5.2.2.2.2.1 u_5.2.2.2.2.2.1 (zRe T ln σ) u_5.2.2.2.2.2.2, xI g (μ 1) 288 (enc σ), xI g (μ 2) 288 (enc σ), xI g (μ 6) 60 T] H locs := kW.arr w 1 rfl (fun j hj => by rw [cpyU_in (by omega) (by omega)]; congr 1; omega) rfl
  have hzl := zRe_le T ln σ
  refine lv_aload_n hx hb dX6_faultTold_36 rfl (lv_at hl 1 rfl) ?_
  refine kget (fs := [.ref (μ 1), .ref (μ 2), .ref (μ 3), .ref (μ 4), .int (bI iK), .ref (μ 5), .int (nI kn), .ref (μ 6), .int (nI ln), .int (nI 0), .int (nI u_5.1), .int (nI u_5.2.1), .int (bI u_5.2.2.1), .int u_5.2.2.2.1, .int (nI u_5.2.2.2.2.1), .int (nI u_5.2.2.2.2.2.1), .int (nI (zRe T ln σ)), .int (nI u_5.2.2.2.2.2.2)]) F w in_X6_faultTold_X6 0 rfl rfl 16 (by decide) (by decide +kernel) rfl rfl dX6_faultTold_37 ?_
  refine lv_if_ne (tgt := 51) hx hb dX6_faultTold_40 (by decide) (fun h_8 => ?_) (fun h_8 => ?_)
  · have h_8 : zRe T ln σ ≠ 0 := (kc0_ne_t (by omega)).mp h_8
    have hu9 := h_4.2 h_8
    refine lv_iload_n hx hb dX6_faultTold_51 rfl (lv_at hl 2 rfl) ?_
    refine lv_if_ne (tgt := 62) hx hb dX6_faultTold_52 (by decide) (fun h_9 => ?_) (fun h_9 => ?_)
    · have h_9 : 2 ≠ 0 := (kc0_ne_t (by omega)).mp h_9
      refine lv_iload_n hx hb dX6_faultTold_62 rfl (lv_at hl 2 rfl) ?_
      refine lv_iconst (v := nI 1) hx hb dX6_faultTold_63 (by decide) ?_
      refine lv_icmp_ne (tgt := 74) hx hb dX6_faultTold_64 (by decide) (fun h_10 => ?_) (fun h_10 => ?_)
      · have h_10 : 2 ≠ 1 := (kc_ne_t (by omega) (by omega)).mp h_10
        refine lv_aload_n hx hb dX6_faultTold_74 rfl (lv_at hl 1 rfl) ?_
        refine kget (fs := [.ref (μ 1), .ref (μ 2), .ref (μ 3), .ref (μ 4), .int (bI iK), .ref (μ 5), .int (nI kn), .ref (μ 6), .int (nI ln), .int (nI 0), .int (nI u_5.1), .int (nI u_5.2.1), .int (bI u_5.2.2.1), .int u_5.2.2.2.1, .int (nI u_5.2.2.2.2.1), .int (nI u_5.2.2.2.2.2.1), .int (nI (zRe T ln σ)), .int (nI u_5.2.2.2.2.2.2)]) F w in_X6_faultTold_X6 0 rfl rfl 17 (by decide) (by decide +kernel) rfl rfl dX6_faultTold_75 ?_
        subst hA
        subst hQ
        exact kreti F w (u_5.1, u_5.2.1, u_5.2.2.1, u_5.2.2.2.1, u_5.2.2.2.2.1, u_5.2.2.2.2.2.1, u_5.2.2.2.2.2.2) [0, 1, 2, 3] rfl rfl (congrArg nI hu9.2) (Nat.le_of_ble_eq_true rfl) (Nat.le_of_ble_eq_true rfl) dX6_faultTold_78
      · have h_10 : 2 = 1 := (kc_ne_f (by omega) (by omega)).mp h_10
        omega
    · have h_9 : 2 = 0 := (kc0_ne_f (by omega)).mp h_9
      omega
  · have h_8 : zRe T ln σ = 0 := (kc0_ne_f (by omega)).mp h_8
    exact absurd h_8 hz9
theorem hd_X6_faultTold : yX6_faultTold.cls ≠ "java/lang/invoke/MethodHandle" ∧ yX6_faultTold.cls ≠ "java/lang/invoke/VarHandle" ∧ (parseMethodDescriptor yX6_faultTold.desc).map (fun d => d.parameters.length) = some 1 := by decide +kernel
abbrev rmX6_faultPosition_N : Room := { frames := 8, cells := 0, slots := 0, locals := 176 }
set_option maxHeartbeats 4000000 in
set_option maxRecDepth 100000 in
theorem kX6_faultPosition_N (l : Launch) (g : GG) (μ : Nat → Nat) (iK : Bool) (kn : Nat) (ln : Nat) (th : Nat) (sp : Nat) (bg : Nat) (fm : Bool) (le : Int32) (fi : Nat) (se : Nat) (re : Nat) (ca : Nat) (σ : Sg) (B : Nat → Int32) (T : Nat → Int32) (sz : Nat) (hL : ln ≤ 60) (hz9 : zRe T ln σ = 0) : Met l yX6_faultPosition wsX6_faultPosition rmX6_faultPosition_N (va_Pc [.ref (μ 0)] (kPre g [cM μ iK kn ln th sp bg fm le fi se re ca, xI g (μ 1) 288 (enc σ), xI g (μ 2) 288 B, xI g (μ 6) 60 T] sz)) (va_Qi (fun (r : Int32) (u : Nat × Nat × Bool × Int32 × Nat × Nat × Nat) => r = nI 0) (kB g (va_A [cM μ iK kn ln th sp bg fm le fi se re ca, xI g (μ 1) 288 (enc σ), xI g (μ 2) 288 B, xI g (μ 6) 60 T] sz) (fun u => [cM μ iK kn ln 1 u.1 u.2.1 u.2.2.1 u.2.2.2.1 u.2.2.2.2.1 u.2.2.2.2.2.1 (zRe T ln σ) u.2.2.2.2.2.2, xI g (μ 1) 288 (enc σ), xI g (μ 2) 288 (enc σ), xI g (μ 6) 60 T])) (va_A [cM μ iK kn ln th sp bg fm le fi se re ca, xI g (μ 1) 288 (enc σ), xI g (μ 2) 288 B, xI g (μ 6) 60 T] sz)) 0 0 (va_A [cM μ iK kn ln th sp bg fm le fi se re ca, xI g (μ 1) 288 (enc σ), xI g (μ 2) 288 B, xI g (μ 6) 60 T] sz) := by
  refine kMet (cc := cX6_faultPosition) (maxL := 1) (ret := (some .int)) (own := RX6) (by decide) rfl rfl (Nat.le_of_ble_eq_true rfl) ?_
  intro p e s m args below meth c ls Q H locs A F w hl hnm hA hQ
  have hx := F.1.1
  have hb := F.1.2.1
  have hts := F.1.2.2.2.2
  have hl : lv_has ls 1 [(0, .ref (μ 0))] := hl
  refine lv_aload_n hx hb dX6_faultPosition_0 rfl (lv_at hl 0 rfl) ?_
  refine lv_iconst (v := nI 0) hx hb dX6_faultPosition_1 (by decide) ?_
  refine kcalli (wc := [cM μ iK kn ln th sp bg fm le fi se re ca, xI g (μ 1) 288 (enc σ), xI g (μ 2) 288 B, xI g (μ 6) 60 T]) (wr := []) (wn := fun (u : Nat × Nat × Bool × Int32 × Nat × Nat × Nat) => [cM μ iK kn ln 1 u.1 u.2.1 u.2.2.1 u.2.2.2.1 u.2.2.2.2.1 u.2.2.2.2.2.1 (zRe T ln σ) u.2.2.2.2.2.2, xI g (μ 1) 288 (enc σ), xI g (μ 2) 288 (enc σ), xI g (μ 6) 60 T]) F w [0, 1, 2, 3] [] [0, 1, 2, 3] rfl rfl rfl (fun _ => rfl)
    (fun hp => va_runV (As := [.int (nI 0)]) (rest := []) F.1 (kX6_faultTold_N l g μ iK kn ln th sp bg fm le fi se re ca σ B T 0 H.size hL hz9) (cwV 1 hts gX6_faultPosition_X6_faultTold rfl rfl rfl ⟨rfl, hd_X6_faultTold⟩ ⟨Nat.le_of_ble_eq_true rfl, Nat.le_of_ble_eq_true rfl⟩) ⟨hp.1, va_recv F.2.2.2.1.1 w.1 (q0 := 0) (ci := 6) rfl rfl, hp.2⟩ rfl rfl hl.1 rfl (lv_room (Nat.le_of_ble_eq_true rfl)) dX6_faultPosition_2 ⟨Nat.le_of_ble_eq_true rfl, Nat.le_of_ble_eq_true rfl⟩)
    (fun r_1 u H locs h_2 w => ?_)
  try dsimp only at h_2
  obtain ⟨u_3, hu9⟩ : ∃ z, z = u := ⟨_, rfl⟩
  subst hu9
  have w : kW g A s [cM μ iK kn ln 1 u_3.1 u_3.2.1 u_3.2.2.1 u_3.2.2.2.1 u_3.2.2.2.2.1 u_3.2.2.2.2.2.1 (zRe T ln σ) u_3.2.2.2.2.2.2, xI g (μ 1) 288 (enc σ), xI g (μ 2) 288 (enc σ), xI g (μ 6) 60 T] H locs := w
  subst hA
  subst hQ
  exact kreti F w (u_3.1, u_3.2.1, u_3.2.2.1, u_3.2.2.2.1, u_3.2.2.2.2.1, u_3.2.2.2.2.2.1, u_3.2.2.2.2.2.2) [0, 1, 2, 3] rfl rfl (h_2) (Nat.le_of_ble_eq_true rfl) (Nat.le_of_ble_eq_true rfl) dX6_faultPosition_5
abbrev rmX6_faultPosition_k : Room := { frames := 8, cells := 0, slots := 0, locals := 176 }
set_option maxHeartbeats 4000000 in
set_option maxRecDepth 100000 in
theorem kX6_faultPosition_k (l : Launch) (g : GG) (μ : Nat → Nat) (iK : Bool) (kn : Nat) (ln : Nat) (th : Nat) (sp : Nat) (bg : Nat) (fm : Bool) (le : Int32) (fi : Nat) (se : Nat) (re : Nat) (ca : Nat) (σ : Sg) (B : Nat → Int32) (T : Nat → Int32) (sz : Nat) (hL : ln ≤ 60) (hz9 : zRe T ln σ ≠ 0) : Met l yX6_faultPosition wsX6_faultPosition rmX6_faultPosition_k (va_Pc [.ref (μ 0)] (kPre g [cM μ iK kn ln th sp bg fm le fi se re ca, xI g (μ 1) 288 (enc σ), xI g (μ 2) 288 B, xI g (μ 6) 60 T] sz)) (va_Qi (fun (r : Int32) (u : Nat × Nat × Bool × Int32 × Nat × Nat × Nat) => r = nI (zPo T ln σ)) (kB g (va_A [cM μ iK kn ln th sp bg fm le fi se re ca, xI g (μ 1) 288 (enc σ), xI g (μ 2) 288 B, xI g (μ 6) 60 T] sz) (fun u => [cM μ iK kn ln 0 u.1 u.2.1 u.2.2.1 u.2.2.2.1 u.2.2.2.2.1 u.2.2.2.2.2.1 (zRe T ln σ) u.2.2.2.2.2.2, xI g (μ 1) 288 (enc σ), xI g (μ 2) 288 (enc σ), xI g (μ 6) 60 T])) (va_A [cM μ iK kn ln th sp bg fm le fi se re ca, xI g (μ 1) 288 (enc σ), xI g (μ 2) 288 B, xI g (μ 6) 60 T] sz)) 0 0 (va_A [cM μ iK kn ln th sp bg fm le fi se re ca, xI g (μ 1) 288 (enc σ), xI g (μ 2) 288 B, xI g (μ 6) 60 T] sz) := by
  refine kMet (cc := cX6_faultPosition) (maxL := 1) (ret := (some .int)) (own := RX6) (by decide) rfl rfl (Nat.le_of_ble_eq_true rfl) ?_
  intro p e s m args below meth c ls Q H locs A F w hl hnm hA hQ
  have hx := F.1.1
  have hb := F.1.2.1
  have hts := F.1.2.2.2.2
  have hl : lv_has ls 1 [(0, .ref (μ 0))] := hl
  refine lv_aload_n hx hb dX6_faultPosition_0 rfl (lv_at hl 0 rfl) ?_
  refine lv_iconst (v := nI 0) hx hb dX6_faultPosition_1 (by decide) ?_
  refine kcalli (wc := [cM μ iK kn ln th sp bg fm le fi se re ca, xI g (μ 1) 288 (enc σ), xI g (μ 2) 288 B, xI g (μ 6) 60 T]) (wr := []) (wn := fun (u : Nat × Nat × Bool × Int32 × Nat × Nat × Nat) => [cM μ iK kn ln 0 u.1 u.2.1 u.2.2.1 u.2.2.2.1 u.2.2.2.2.1 u.2.2.2.2.2.1 (zRe T ln σ) u.2.2.2.2.2.2, xI g (μ 1) 288 (enc σ), xI g (μ 2) 288 (enc σ), xI g (μ 6) 60 T]) F w [0, 1, 2, 3] [] [0, 1, 2, 3] rfl rfl rfl (fun _ => rfl)
    (fun hp => va_runV (As := [.int (nI 0)]) (rest := []) F.1 (kX6_faultTold_0 l g μ iK kn ln th sp bg fm le fi se re ca σ B T H.size hL hz9) (cwV 1 hts gX6_faultPosition_X6_faultTold rfl rfl rfl ⟨rfl, hd_X6_faultTold⟩ ⟨Nat.le_of_ble_eq_true rfl, Nat.le_of_ble_eq_true rfl⟩) ⟨hp.1, va_recv F.2.2.2.1.1 w.1 (q0 := 0) (ci := 6) rfl rfl, hp.2⟩ rfl rfl hl.1 rfl (lv_room (Nat.le_of_ble_eq_true rfl)) dX6_faultPosition_2 ⟨Nat.le_of_ble_eq_true rfl, Nat.le_of_ble_eq_true rfl⟩)
    (fun r_1 u H locs h_2 w => ?_)
  try dsimp only at h_2
  obtain ⟨u_3, hu9⟩ : ∃ z, z = u := ⟨_, rfl⟩
  subst hu9
  have w : kW g A s [cM μ iK kn ln 0 u_3.1 u_3.2.1 u_3.2.2.1 u_3.2.2.2.1 u_3.2.2.2.2.1 u_3.2.2.2.2.2.1 (zRe T ln σ) u_3.2.2.2.2.2.2, xI g (μ 1) 288 (enc σ), xI g (μ 2) 288 (enc σ), xI g (μ 6) 60 T] H locs := w
  subst hA
  subst hQ
  exact kreti F w (u_3.1, u_3.2.1, u_3.2.2.1, u_3.2.2.2.1, u_3.2.2.2.2.1, u_3.2.2.2.2.2.1, u_3.2.2.2.2.2.2) [0, 1, 2, 3] rfl rfl (h_2) (Nat.le_of_ble_eq_true rfl) (Nat.le_of_ble_eq_true rfl) dX6_faultPosition_5
abbrev rmX6_faultReason_N : Room := { frames := 8, cells := 0, slots := 0, locals := 176 }
set_option maxHeartbeats 4000000 in
set_option maxRecDepth 100000 in
theorem kX6_faultReason_N (l : Launch) (g : GG) (μ : Nat → Nat) (iK : Bool) (kn : Nat) (ln : Nat) (th : Nat) (sp : Nat) (bg : Nat) (fm : Bool) (le : Int32) (fi : Nat) (se : Nat) (re : Nat) (ca : Nat) (σ : Sg) (B : Nat → Int32) (T : Nat → Int32) (sz : Nat) (hL : ln ≤ 60) (hz9 : zRe T ln σ = 0) : Met l yX6_faultReason wsX6_faultReason rmX6_faultReason_N (va_Pc [.ref (μ 0)] (kPre g [cM μ iK kn ln th sp bg fm le fi se re ca, xI g (μ 1) 288 (enc σ), xI g (μ 2) 288 B, xI g (μ 6) 60 T] sz)) (va_Qi (fun (r : Int32) (u : Nat × Nat × Bool × Int32 × Nat × Nat × Nat) => r = nI 0) (kB g (va_A [cM μ iK kn ln th sp bg fm le fi se re ca, xI g (μ 1) 288 (enc σ), xI g (μ 2) 288 B, xI g (μ 6) 60 T] sz) (fun u => [cM μ iK kn ln 1 u.1 u.2.1 u.2.2.1 u.2.2.2.1 u.2.2.2.2.1 u.2.2.2.2.2.1 (zRe T ln σ) u.2.2.2.2.2.2, xI g (μ 1) 288 (enc σ), xI g (μ 2) 288 (enc σ), xI g (μ 6) 60 T])) (va_A [cM μ iK kn ln th sp bg fm le fi se re ca, xI g (μ 1) 288 (enc σ), xI g (μ 2) 288 B, xI g (μ 6) 60 T] sz)) 0 0 (va_A [cM μ iK kn ln th sp bg fm le fi se re ca, xI g (μ 1) 288 (enc σ), xI g (μ 2) 288 B, xI g (μ 6) 60 T] sz) := by
  refine kMet (cc := cX6_faultReason) (maxL := 1) (ret := (some .int)) (own := RX6) (by decide) rfl rfl (Nat.le_of_ble_eq_true rfl) ?_
  intro p e s m args below meth c ls Q H locs A F w hl hnm hA hQ
  have hx := F.1.1
  have hb := F.1.2.1
  have hts := F.1.2.2.2.2
  have hl : lv_has ls 1 [(0, .ref (μ 0))] := hl
  refine lv_aload_n hx hb dX6_faultReason_0 rfl (lv_at hl 0 rfl) ?_
  refine lv_iconst (v := nI 1) hx hb dX6_faultReason_1 (by decide) ?_
  refine kcalli (wc := [cM μ iK kn ln th sp bg fm le fi se re ca, xI g (μ 1) 288 (enc σ), xI g (μ 2) 288 B, xI g (μ 6) 60 T]) (wr := []) (wn := fun (u : Nat × Nat × Bool × Int32 × Nat × Nat × Nat) => [cM μ iK kn ln 1 u.1 u.2.1 u.2.2.1 u.2.2.2.1 u.2.2.2.2.1 u.2.2.2.2.2.1 (zRe T ln σ) u.2.2.2.2.2.2, xI g (μ 1) 288 (enc σ), xI g (μ 2) 288 (enc σ), xI g (μ 6) 60 T]) F w [0, 1, 2, 3] [] [0, 1, 2, 3] rfl rfl rfl (fun _ => rfl)
    (fun hp => va_runV (As := [.int (nI 1)]) (rest := []) F.1 (kX6_faultTold_N l g μ iK kn ln th sp bg fm le fi se re ca σ B T 1 H.size hL hz9) (cwV 1 hts gX6_faultReason_X6_faultTold rfl rfl rfl ⟨rfl, hd_X6_faultTold⟩ ⟨Nat.le_of_ble_eq_true rfl, Nat.le_of_ble_eq_true rfl⟩) ⟨hp.1, va_recv F.2.2.2.1.1 w.1 (q0 := 0) (ci := 6) rfl rfl, hp.2⟩ rfl rfl hl.1 rfl (lv_room (Nat.le_of_ble_eq_true rfl)) dX6_faultReason_2 ⟨Nat.le_of_ble_eq_true rfl, Nat.le_of_ble_eq_true rfl⟩)
    (fun r_1 u H locs h_2 w => ?_)
  try dsimp only at h_2
  obtain ⟨u_3, hu9⟩ : ∃ z, z = u := ⟨_, rfl⟩
  subst hu9
  have w : kW g A s [cM μ iK kn ln 1 u_3.1 u_3.2.1 u_3.2.2.1 u_3.2.2.2.1 u_3.2.2.2.2.1 u_3.2.2.2.2.2.1 (zRe T ln σ) u_3.2.2.2.2.2.2, xI g (μ 1) 288 (enc σ), xI g (μ 2) 288 (enc σ), xI g (μ 6) 60 T] H locs := w
  subst hA
  subst hQ
  exact kreti F w (u_3.1, u_3.2.1, u_3.2.2.1, u_3.2.2.2.1, u_3.2.2.2.2.1, u_3.2.2.2.2.2.1, u_3.2.2.2.2.2.2) [0, 1, 2, 3] rfl rfl (h_2) (Nat.le_of_ble_eq_true rfl) (Nat.le_of_ble_eq_true rfl) dX6_faultReason_5
abbrev rmX6_faultReason_k : Room := { frames := 8, cells := 0, slots := 0, locals := 176 }
set_option maxHeartbeats 4000000 in
set_option maxRecDepth 100000 in
theorem kX6_faultReason_k (l : Launch) (g : GG) (μ : Nat → Nat) (iK : Bool) (kn : Nat) (ln : Nat) (th : Nat) (sp : Nat) (bg : Nat) (fm : Bool) (le : Int32) (fi : Nat) (se : Nat) (re : Nat) (ca : Nat) (σ : Sg) (B : Nat → Int32) (T : Nat → Int32) (sz : Nat) (hL : ln ≤ 60) (hz9 : zRe T ln σ ≠ 0) : Met l yX6_faultReason wsX6_faultReason rmX6_faultReason_k (va_Pc [.ref (μ 0)] (kPre g [cM μ iK kn ln th sp bg fm le fi se re ca, xI g (μ 1) 288 (enc σ), xI g (μ 2) 288 B, xI g (μ 6) 60 T] sz)) (va_Qi (fun (r : Int32) (u : Nat × Nat × Bool × Int32 × Nat × Nat × Nat) => r = nI (zRe T ln σ)) (kB g (va_A [cM μ iK kn ln th sp bg fm le fi se re ca, xI g (μ 1) 288 (enc σ), xI g (μ 2) 288 B, xI g (μ 6) 60 T] sz) (fun u => [cM μ iK kn ln 0 u.1 u.2.1 u.2.2.1 u.2.2.2.1 u.2.2.2.2.1 u.2.2.2.2.2.1 (zRe T ln σ) u.2.2.2.2.2.2, xI g (μ 1) 288 (enc σ), xI g (μ 2) 288 (enc σ), xI g (μ 6) 60 T])) (va_A [cM μ iK kn ln th sp bg fm le fi se re ca, xI g (μ 1) 288 (enc σ), xI g (μ 2) 288 B, xI g (μ 6) 60 T] sz)) 0 0 (va_A [cM μ iK kn ln th sp bg fm le fi se re ca, xI g (μ 1) 288 (enc σ), xI g (μ 2) 288 B, xI g (μ 6) 60 T] sz) := by
  refine kMet (cc := cX6_faultReason) (maxL := 1) (ret := (some .int)) (own := RX6) (by decide) rfl rfl (Nat.le_of_ble_eq_true rfl) ?_
  intro p e s m args below meth c ls Q H locs A F w hl hnm hA hQ
  have hx := F.1.1
  have hb := F.1.2.1
  have hts := F.1.2.2.2.2
  have hl : lv_has ls 1 [(0, .ref (μ 0))] := hl
  refine lv_aload_n hx hb dX6_faultReason_0 rfl (lv_at hl 0 rfl) ?_
  refine lv_iconst (v := nI 1) hx hb dX6_faultReason_1 (by decide) ?_
  refine kcalli (wc := [cM μ iK kn ln th sp bg fm le fi se re ca, xI g (μ 1) 288 (enc σ), xI g (μ 2) 288 B, xI g (μ 6) 60 T]) (wr := []) (wn := fun (u : Nat × Nat × Bool × Int32 × Nat × Nat × Nat) => [cM μ iK kn ln 0 u.1 u.2.1 u.2.2.1 u.2.2.2.1 u.2.2.2.2.1 u.2.2.2.2.2.1 (zRe T ln σ) u.2.2.2.2.2.2, xI g (μ 1) 288 (enc σ), xI g (μ 2) 288 (enc σ), xI g (μ 6) 60 T]) F w [0, 1, 2, 3] [] [0, 1, 2, 3] rfl rfl rfl (fun _ => rfl)
    (fun hp => va_runV (As := [.int (nI 1)]) (rest := []) F.1 (kX6_faultTold_1 l g μ iK kn ln th sp bg fm le fi se re ca σ B T H.size hL hz9) (cwV 1 hts gX6_faultReason_X6_faultTold rfl rfl rfl ⟨rfl, hd_X6_faultTold⟩ ⟨Nat.le_of_ble_eq_true rfl, Nat.le_of_ble_eq_true rfl⟩) ⟨hp.1, va_recv F.2.2.2.1.1 w.1 (q0 := 0) (ci := 6) rfl rfl, hp.2⟩ rfl rfl hl.1 rfl (lv_room (Nat.le_of_ble_eq_true rfl)) dX6_faultReason_2 ⟨Nat.le_of_ble_eq_true rfl, Nat.le_of_ble_eq_true rfl⟩)
    (fun r_1 u H locs h_2 w => ?_)
  try dsimp only at h_2
  obtain ⟨u_3, hu9⟩ : ∃ z, z = u := ⟨_, rfl⟩
  subst hu9
  have w : kW g A s [cM μ iK kn ln 0 u_3.1 u_3.2.1 u_3.2.2.1 u_3.2.2.2.1 u_3.2.2.2.2.1 u_3.2.2.2.2.2.1 (zRe T ln σ) u_3.2.2.2.2.2.2, xI g (μ 1) 288 (enc σ), xI g (μ 2) 288 (enc σ), xI g (μ 6) 60 T] H locs := w
  subst hA
  subst hQ
  exact kreti F w (u_3.1, u_3.2.1, u_3.2.2.1, u_3.2.2.2.1, u_3.2.2.2.2.1, u_3.2.2.2.2.2.1, u_3.2.2.2.2.2.2) [0, 1, 2, 3] rfl rfl (h_2) (Nat.le_of_ble_eq_true rfl) (Nat.le_of_ble_eq_true rfl) dX6_faultReason_5
abbrev rmX6_faultCause_N : Room := { frames := 8, cells := 0, slots := 0, locals := 176 }
set_option maxHeartbeats 4000000 in
set_option maxRecDepth 100000 in
theorem kX6_faultCause_N (l : Launch) (g : GG) (μ : Nat → Nat) (iK : Bool) (kn : Nat) (ln : Nat) (th : Nat) (sp : Nat) (bg : Nat) (fm : Bool) (le : Int32) (fi : Nat) (se : Nat) (re : Nat) (ca : Nat) (σ : Sg) (B : Nat → Int32) (T : Nat → Int32) (sz : Nat) (hL : ln ≤ 60) (hz9 : zRe T ln σ = 0) : Met l yX6_faultCause wsX6_faultCause rmX6_faultCause_N (va_Pc [.ref (μ 0)] (kPre g [cM μ iK kn ln th sp bg fm le fi se re ca, xI g (μ 1) 288 (enc σ), xI g (μ 2) 288 B, xI g (μ 6) 60 T] sz)) (va_Qi (fun (r : Int32) (u : Nat × Nat × Bool × Int32 × Nat × Nat × Nat) => r = nI 0) (kB g (va_A [cM μ iK kn ln th sp bg fm le fi se re ca, xI g (μ 1) 288 (enc σ), xI g (μ 2) 288 B, xI g (μ 6) 60 T] sz) (fun u => [cM μ iK kn ln 1 u.1 u.2.1 u.2.2.1 u.2.2.2.1 u.2.2.2.2.1 u.2.2.2.2.2.1 (zRe T ln σ) u.2.2.2.2.2.2, xI g (μ 1) 288 (enc σ), xI g (μ 2) 288 (enc σ), xI g (μ 6) 60 T])) (va_A [cM μ iK kn ln th sp bg fm le fi se re ca, xI g (μ 1) 288 (enc σ), xI g (μ 2) 288 B, xI g (μ 6) 60 T] sz)) 0 0 (va_A [cM μ iK kn ln th sp bg fm le fi se re ca, xI g (μ 1) 288 (enc σ), xI g (μ 2) 288 B, xI g (μ 6) 60 T] sz) := by
  refine kMet (cc := cX6_faultCause) (maxL := 1) (ret := (some .int)) (own := RX6) (by decide) rfl rfl (Nat.le_of_ble_eq_true rfl) ?_
  intro p e s m args below meth c ls Q H locs A F w hl hnm hA hQ
  have hx := F.1.1
  have hb := F.1.2.1
  have hts := F.1.2.2.2.2
  have hl : lv_has ls 1 [(0, .ref (μ 0))] := hl
  refine lv_aload_n hx hb dX6_faultCause_0 rfl (lv_at hl 0 rfl) ?_
  refine lv_iconst (v := nI 2) hx hb dX6_faultCause_1 (by decide) ?_
  refine kcalli (wc := [cM μ iK kn ln th sp bg fm le fi se re ca, xI g (μ 1) 288 (enc σ), xI g (μ 2) 288 B, xI g (μ 6) 60 T]) (wr := []) (wn := fun (u : Nat × Nat × Bool × Int32 × Nat × Nat × Nat) => [cM μ iK kn ln 1 u.1 u.2.1 u.2.2.1 u.2.2.2.1 u.2.2.2.2.1 u.2.2.2.2.2.1 (zRe T ln σ) u.2.2.2.2.2.2, xI g (μ 1) 288 (enc σ), xI g (μ 2) 288 (enc σ), xI g (μ 6) 60 T]) F w [0, 1, 2, 3] [] [0, 1, 2, 3] rfl rfl rfl (fun _ => rfl)
    (fun hp => va_runV (As := [.int (nI 2)]) (rest := []) F.1 (kX6_faultTold_N l g μ iK kn ln th sp bg fm le fi se re ca σ B T 2 H.size hL hz9) (cwV 1 hts gX6_faultCause_X6_faultTold rfl rfl rfl ⟨rfl, hd_X6_faultTold⟩ ⟨Nat.le_of_ble_eq_true rfl, Nat.le_of_ble_eq_true rfl⟩) ⟨hp.1, va_recv F.2.2.2.1.1 w.1 (q0 := 0) (ci := 6) rfl rfl, hp.2⟩ rfl rfl hl.1 rfl (lv_room (Nat.le_of_ble_eq_true rfl)) dX6_faultCause_2 ⟨Nat.le_of_ble_eq_true rfl, Nat.le_of_ble_eq_true rfl⟩)
    (fun r_1 u H locs h_2 w => ?_)
  try dsimp only at h_2
  obtain ⟨u_3, hu9⟩ : ∃ z, z = u := ⟨_, rfl⟩
  subst hu9
  have w : kW g A s [cM μ iK kn ln 1 u_3.1 u_3.2.1 u_3.2.2.1 u_3.2.2.2.1 u_3.2.2.2.2.1 u_3.2.2.2.2.2.1 (zRe T ln σ) u_3.2.2.2.2.2.2, xI g (μ 1) 288 (enc σ), xI g (μ 2) 288 (enc σ), xI g (μ 6) 60 T] H locs := w
  subst hA
  subst hQ
  exact kreti F w (u_3.1, u_3.2.1, u_3.2.2.1, u_3.2.2.2.1, u_3.2.2.2.2.1, u_3.2.2.2.2.2.1, u_3.2.2.2.2.2.2) [0, 1, 2, 3] rfl rfl (h_2) (Nat.le_of_ble_eq_true rfl) (Nat.le_of_ble_eq_true rfl) dX6_faultCause_5
abbrev rmX6_faultCause_k : Room := { frames := 8, cells := 0, slots := 0, locals := 176 }
set_option maxHeartbeats 4000000 in
set_option maxRecDepth 100000 in
theorem kX6_faultCause_k (l : Launch) (g : GG) (μ : Nat → Nat) (iK : Bool) (kn : Nat) (ln : Nat) (th : Nat) (sp : Nat) (bg : Nat) (fm : Bool) (le : Int32) (fi : Nat) (se : Nat) (re : Nat) (ca : Nat) (σ : Sg) (B : Nat → Int32) (T : Nat → Int32) (sz : Nat) (hL : ln ≤ 60) (hz9 : zRe T ln σ ≠ 0) : Met l yX6_faultCause wsX6_faultCause rmX6_faultCause_k (va_Pc [.ref (μ 0)] (kPre g [cM μ iK kn ln th sp bg fm le fi se re ca, xI g (μ 1) 288 (enc σ), xI g (μ 2) 288 B, xI g (μ 6) 60 T] sz)) (va_Qi (fun (r : Int32) (u : Nat × Nat × Bool × Int32 × Nat × Nat × Nat) => r = nI (zCa T ln σ)) (kB g (va_A [cM μ iK kn ln th sp bg fm le fi se re ca, xI g (μ 1) 288 (enc σ), xI g (μ 2) 288 B, xI g (μ 6) 60 T] sz) (fun u => [cM μ iK kn ln 0 u.1 u.2.1 u.2.2.1 u.2.2.2.1 u.2.2.2.2.1 u.2.2.2.2.2.1 (zRe T ln σ) u.2.2.2.2.2.2, xI g (μ 1) 288 (enc σ), xI g (μ 2) 288 (enc σ), xI g (μ 6) 60 T])) (va_A [cM μ iK kn ln th sp bg fm le fi se re ca, xI g (μ 1) 288 (enc σ), xI g (μ 2) 288 B, xI g (μ 6) 60 T] sz)) 0 0 (va_A [cM μ iK kn ln th sp bg fm le fi se re ca, xI g (μ 1) 288 (enc σ), xI g (μ 2) 288 B, xI g (μ 6) 60 T] sz) := by
  refine kMet (cc := cX6_faultCause) (maxL := 1) (ret := (some .int)) (own := RX6) (by decide) rfl rfl (Nat.le_of_ble_eq_true rfl) ?_
  intro p e s m args below meth c ls Q H locs A F w hl hnm hA hQ
  have hx := F.1.1
  have hb := F.1.2.1
  have hts := F.1.2.2.2.2
  have hl : lv_has ls 1 [(0, .ref (μ 0))] := hl
  refine lv_aload_n hx hb dX6_faultCause_0 rfl (lv_at hl 0 rfl) ?_
  refine lv_iconst (v := nI 2) hx hb dX6_faultCause_1 (by decide) ?_
  refine kcalli (wc := [cM μ iK kn ln th sp bg fm le fi se re ca, xI g (μ 1) 288 (enc σ), xI g (μ 2) 288 B, xI g (μ 6) 60 T]) (wr := []) (wn := fun (u : Nat × Nat × Bool × Int32 × Nat × Nat × Nat) => [cM μ iK kn ln 0 u.1 u.2.1 u.2.2.1 u.2.2.2.1 u.2.2.2.2.1 u.2.2.2.2.2.1 (zRe T ln σ) u.2.2.2.2.2.2, xI g (μ 1) 288 (enc σ), xI g (μ 2) 288 (enc σ), xI g (μ 6) 60 T]) F w [0, 1, 2, 3] [] [0, 1, 2, 3] rfl rfl rfl (fun _ => rfl)
    (fun hp => va_runV (As := [.int (nI 2)]) (rest := []) F.1 (kX6_faultTold_2 l g μ iK kn ln th sp bg fm le fi se re ca σ B T H.size hL hz9) (cwV 1 hts gX6_faultCause_X6_faultTold rfl rfl rfl ⟨rfl, hd_X6_faultTold⟩ ⟨Nat.le_of_ble_eq_true rfl, Nat.le_of_ble_eq_true rfl⟩) ⟨hp.1, va_recv F.2.2.2.1.1 w.1 (q0 := 0) (ci := 6) rfl rfl, hp.2⟩ rfl rfl hl.1 rfl (lv_room (Nat.le_of_ble_eq_true rfl)) dX6_faultCause_2 ⟨Nat.le_of_ble_eq_true rfl, Nat.le_of_ble_eq_true rfl⟩)
    (fun r_1 u H locs h_2 w => ?_)
  try dsimp only at h_2
  obtain ⟨u_3, hu9⟩ : ∃ z, z = u := ⟨_, rfl⟩
  subst hu9
  have w : kW g A s [cM μ iK kn ln 0 u_3.1 u_3.2.1 u_3.2.2.1 u_3.2.2.2.1 u_3.2.2.2.2.1 u_3.2.2.2.2.2.1 (zRe T ln σ) u_3.2.2.2.2.2.2, xI g (μ 1) 288 (enc σ), xI g (μ 2) 288 (enc σ), xI g (μ 6) 60 T] H locs := w
  subst hA
  subst hQ
  exact kreti F w (u_3.1, u_3.2.1, u_3.2.2.1, u_3.2.2.2.1, u_3.2.2.2.2.1, u_3.2.2.2.2.2.1, u_3.2.2.2.2.2.2) [0, 1, 2, 3] rfl rfl (h_2) (Nat.le_of_ble_eq_true rfl) (Nat.le_of_ble_eq_true rfl) dX6_faultCause_5
theorem in_X6_play_X6 : ∀ w ∈ wsX60, w ∈ wsX6_play := by decide +kernel
abbrev rmX6_play_S : Room := { frames := 7, cells := 0, slots := 0, locals := 154 }
set_option maxHeartbeats 4000000 in
set_option maxRecDepth 100000 in
theorem kX6_play_S (l : Launch) (g : GG) (μ : Nat → Nat) (iK : Bool) (kn : Nat) (ln : Nat) (th : Nat) (sp : Nat) (bg : Nat) (fm : Bool) (le : Int32) (fi : Nat) (se : Nat) (re : Nat) (ca : Nat) (σ : Sg) (B : Nat → Int32) (T : Nat → Int32) (sz : Nat) (hL : ln ≤ 60) (hz9 : zRe T ln σ ≠ 0) : Met l yX6_play wsX6_play rmX6_play_S (va_Pc [.ref (μ 0)] (kPre g [cM μ iK kn ln th sp bg fm le fi se re ca, xI g (μ 1) 288 (enc σ), xI g (μ 2) 288 B, xI g (μ 6) 60 T] sz)) (va_Qi (fun (r : Int32) (u : Nat × Nat × Bool × Int32 × Nat × Nat × Nat) => r = nI 0) (kB g (va_A [cM μ iK kn ln th sp bg fm le fi se re ca, xI g (μ 1) 288 (enc σ), xI g (μ 2) 288 B, xI g (μ 6) 60 T] sz) (fun u => [cM μ iK kn ln 1 u.1 u.2.1 u.2.2.1 u.2.2.2.1 u.2.2.2.2.1 u.2.2.2.2.2.1 (zRe T ln σ) u.2.2.2.2.2.2, xI g (μ 1) 288 (enc σ), xI g (μ 2) 288 (enc σ), xI g (μ 6) 60 T])) (va_A [cM μ iK kn ln th sp bg fm le fi se re ca, xI g (μ 1) 288 (enc σ), xI g (μ 2) 288 B, xI g (μ 6) 60 T] sz)) 0 0 (va_A [cM μ iK kn ln th sp bg fm le fi se re ca, xI g (μ 1) 288 (enc σ), xI g (μ 2) 288 B, xI g (μ 6) 60 T] sz) := by
  refine kMet (cc := cX6_play) (maxL := 2) (ret := (some .int)) (own := RX6) (by decide) rfl rfl (Nat.le_of_ble_eq_true rfl) ?_
  intro p e s m args below meth c ls Q H locs A F w hl hnm hA hQ
  have hx := F.1.1
  have hb := F.1.2.1
  have hts := F.1.2.2.2.2
  have hl : lv_has ls 2 [(0, .ref (μ 0))] := hl
  refine lv_aload_n hx hb dX6_play_0 rfl (lv_at hl 0 rfl) ?_
  refine kcallv (wc := [cM μ iK kn ln th sp bg fm le fi se re ca, xI g (μ 1) 288 (enc σ), xI g (μ 2) 288 B]) (wr := [xI g (μ 6) 60 T]) (wn := fun (u : Unit) => [cM μ iK kn ln 0 sp bg fm le fi se re ca, xI g (μ 1) 288 (enc σ), xI g (μ 2) 288 (enc σ), xI g (μ 6) 60 T]) F w [0, 1, 2] [3] [1, 2, 3, 0] rfl rfl rfl (fun _ => rfl)
    (fun hp => va_runV (As := []) (rest := []) F.1 (kX6_begins l g μ iK kn ln th sp bg fm le fi se re ca σ B H.size ) (cwV 0 hts gX6_play_X6_begins rfl rfl rfl ⟨rfl, hd_X6_begins⟩ ⟨Nat.le_of_ble_eq_true rfl, Nat.le_of_ble_eq_true rfl⟩) ⟨hp.1, va_recv F.2.2.2.1.1 w.1 (q0 := 0) (ci := 6) rfl rfl, hp.2⟩ rfl rfl hl.1 rfl (lv_room (Nat.le_of_ble_eq_true rfl)) dX6_play_1 ⟨Nat.le_of_ble_eq_true rfl, Nat.le_of_ble_eq_true rfl⟩)
    (fun _ H locs h_2 w => ?_)
  refine lv_aload_n hx hb dX6_play_4 rfl (lv_at hl 0 rfl) ?_
  refine kcalli (wc := [cM μ iK kn ln 0 sp bg fm le fi se re ca, xI g (μ 1) 288 (enc σ), xI g (μ 6) 60 T]) (wr := [xI g (μ 2) 288 (enc σ)]) (wn := fun (u : Nat × Nat × Bool × Int32 × Nat × Nat × Nat) => [cM μ iK kn ln 0 u.1 u.2.1 u.2.2.1 u.2.2.2.1 u.2.2.2.2.1 u.2.2.2.2.2.1 (zRe T ln σ) u.2.2.2.2.2.2, xI g (μ 1) 288 (enc (zSt T ln σ)), xI g (μ 2) 288 (enc σ), xI g (μ 6) 60 T]) F w [0, 1, 3] [2] [1, 2, 0, 3] rfl rfl rfl (fun _ => rfl)
    (fun hp => va_runV (As := []) (rest := []) F.1 (kX6_doesAll l g μ iK kn ln 0 sp bg fm le fi se re ca σ T H.size hL) (cwV 0 hts gX6_play_X6_doesAll rfl rfl rfl ⟨rfl, hd_X6_doesAll⟩ ⟨Nat.le_of_ble_eq_true rfl, Nat.le_of_ble_eq_true rfl⟩) ⟨hp.1, va_recv F.2.2.2.1.1 w.1 (q0 := 0) (ci := 6) rfl rfl, hp.2⟩ rfl rfl hl.1 rfl (lv_room (Nat.le_of_ble_eq_true rfl)) dX6_play_5 ⟨Nat.le_of_ble_eq_true rfl, Nat.le_of_ble_eq_true rfl⟩)
    (fun r_3 u H locs h_4 w => ?_)
  try dsimp only at h_4
  obtain ⟨u_5, hu9⟩ : ∃ z, z = u := ⟨_, rfl⟩
  subst hu9
  have w : kW g A s [cM μ iK kn ln 0 u_5.1 u_5.2.1 u_5.2.2.1 u_5.2.2.2.1 u_5.2.2.2.2.1 u_5.2.2.2.2.2.1 (zRe T ln σ) u_5.2.2.2.2.2.2, xI g (μ 1) 288 (enc (zSt T ln σ)), xI g (μ 2) 288 (enc σ), xI g (μ 6) 60 T] H locs := w
  have hzl := zRe_le T ln σ
  refine lv_istore_n (lv' := [(1, .int r_3), (0, .ref (μ 0))]) hx hb dX6_play_8 rfl hl (by decide) rfl (fun ls hl => ?_)
  refine lv_aload_n hx hb dX6_play_9 rfl (lv_at hl 1 rfl) ?_
  refine kget (fs := [.ref (μ 1), .ref (μ 2), .ref (μ 3), .ref (μ 4), .int (bI iK), .ref (μ 5), .int (nI kn), .ref (μ 6), .int (nI ln), .int (nI 0), .int (nI u_5.1), .int (nI u_5.2.1), .int (bI u_5.2.2.1), .int u_5.2.2.2.1, .int (nI u_5.2.2.2.2.1), .int (nI u_5.2.2.2.2.2.1), .int (nI (zRe T ln σ)), .int (nI u_5.2.2.2.2.2.2)]) F w in_X6_play_X6 0 rfl rfl 16 (by decide) (by decide +kernel) rfl rfl dX6_play_10 ?_
  refine lv_if_le (tgt := 35) hx hb dX6_play_13 (by decide) (fun h_6 => ?_) (fun h_6 => ?_)
  · have h_6 : zRe T ln σ ≤ 0 := (kc0_le_t (by omega)).mp h_6
    omega
  · have h_6 : zRe T ln σ > 0 := (kc0_le_f (by omega)).mp h_6
    refine lv_aload_n hx hb dX6_play_16 rfl (lv_at hl 1 rfl) ?_
    refine kget (fs := [.ref (μ 1), .ref (μ 2), .ref (μ 3), .ref (μ 4), .int (bI iK), .ref (μ 5), .int (nI kn), .ref (μ 6), .int (nI ln), .int (nI 0), .int (nI u_5.1), .int (nI u_5.2.1), .int (bI u_5.2.2.1), .int u_5.2.2.2.1, .int (nI u_5.2.2.2.2.1), .int (nI u_5.2.2.2.2.2.1), .int (nI (zRe T ln σ)), .int (nI u_5.2.2.2.2.2.2)]) F w in_X6_play_X6 0 rfl rfl 1 (by decide) (by decide +kernel) rfl rfl dX6_play_17 ?_
    refine lv_iconst (v := nI 0) hx hb dX6_play_20 (by decide) ?_
    refine lv_aload_n hx hb dX6_play_21 rfl (lv_at hl 1 rfl) ?_
    refine kget (fs := [.ref (μ 1), .ref (μ 2), .ref (μ 3), .ref (μ 4), .int (bI iK), .ref (μ 5), .int (nI kn), .ref (μ 6), .int (nI ln), .int (nI 0), .int (nI u_5.1), .int (nI u_5.2.1), .int (bI u_5.2.2.1), .int u_5.2.2.2.1, .int (nI u_5.2.2.2.2.1), .int (nI u_5.2.2.2.2.2.1), .int (nI (zRe T ln σ)), .int (nI u_5.2.2.2.2.2.2)]) F w in_X6_play_X6 0 rfl rfl 0 (by decide) (by decide +kernel) rfl rfl dX6_play_22 ?_
    refine lv_iconst (v := nI 0) hx hb dX6_play_25 (by decide) ?_
    refine kcallv (wc := [xI g (μ 2) 288 (enc σ), xI g (μ 1) 288 (enc (zSt T ln σ))]) (wr := [cM μ iK kn ln 0 u_5.1 u_5.2.1 u_5.2.2.1 u_5.2.2.2.1 u_5.2.2.2.2.1 u_5.2.2.2.2.2.1 (zRe T ln σ) u_5.2.2.2.2.2.2, xI g (μ 6) 60 T]) (wn := fun (u : Unit) => [cM μ iK kn ln 0 u_5.1 u_5.2.1 u_5.2.2.1 u_5.2.2.2.1 u_5.2.2.2.2.1 u_5.2.2.2.2.2.1 (zRe T ln σ) u_5.2.2.2.2.2.2, xI g (μ 1) 288 (cpyU (enc σ) 0 (enc (zSt T ln σ)) 0 288), xI g (μ 2) 288 (enc σ), xI g (μ 6) 60 T]) F w [2, 1] [0, 3] [0, 3, 2, 1] rfl rfl rfl (fun _ => rfl)
      (fun hp => va_runS (As := [.ref (μ 2), .int (nI 0), .ref (μ 1), .int (nI 0)]) (rest := []) F.1 (kX6_copies l g (μ 2) 288 (enc σ) 0 (μ 1) 288 (enc (zSt T ln σ)) 0 H.size (by omega) (by omega)) (va_cwS 4 hts gX6_play_X6_copies rfl rfl rfl hd_X6_copies ⟨Nat.le_of_ble_eq_true rfl, Nat.le_of_ble_eq_true rfl⟩) hp rfl rfl hl.1 rfl (lv_room (Nat.le_of_ble_eq_true rfl)) dX6_play_26 ⟨Nat.le_of_ble_eq_true rfl, Nat.le_of_ble_eq_true rfl⟩)
      (fun _ H locs h_8 w => ?_)
    have w : kW g A s [cM μ iK kn ln 0 u_5.1 u_5.2.1 u_5.2.2.1 u_5.2.2.2.1 u_5.2.2.2.2.1 u_5.2.2.2.2.2.1 (zRe T ln σ) u_5.2.2.2.2.2.2, xI g (μ 1) 288 (enc σ), xI g (μ 2) 288 (enc σ), xI g (μ 6) 60 T] H locs := kW.arr w 1 rfl (fun j hj => by rw [cpyU_in (by omega) (by omega)]; congr 1; omega) rfl
    refine lv_aload_n hx hb dX6_play_29 rfl (lv_at hl 1 rfl) ?_
    refine lv_iconst (v := nI 1) hx hb dX6_play_30 (by decide) ?_
    refine kcalli (wc := [cM μ iK kn ln 0 u_5.1 u_5.2.1 u_5.2.2.1 u_5.2.2.2.1 u_5.2.2.2.2.1 u_5.2.2.2.2.2.1 (zRe T ln σ) u_5.2.2.2.2.2.2]) (wr := [xI g (μ 1) 288 (enc σ), xI g (μ 2) 288 (enc σ), xI g (μ 6) 60 T]) (wn := fun (u : Unit) => [cM μ iK kn ln 1 u_5.1 u_5.2.1 u_5.2.2.1 u_5.2.2.2.1 u_5.2.2.2.2.1 u_5.2.2.2.2.2.1 (zRe T ln σ) u_5.2.2.2.2.2.2, xI g (μ 1) 288 (enc σ), xI g (μ 2) 288 (enc σ), xI g (μ 6) 60 T]) F w [0] [1, 2, 3] [3, 0, 1, 2] rfl rfl rfl (fun _ => rfl)
      (fun hp => va_runV (As := [.int (nI 1)]) (rest := []) F.1 (kX6_fails l g μ iK kn ln 0 u_5.1 u_5.2.1 u_5.2.2.1 u_5.2.2.2.1 u_5.2.2.2.2.1 u_5.2.2.2.2.2.1 (zRe T ln σ) u_5.2.2.2.2.2.2 1 H.size ) (cwV 1 hts gX6_play_X6_fails rfl rfl rfl ⟨rfl, hd_X6_fails⟩ ⟨Nat.le_of_ble_eq_true rfl, Nat.le_of_ble_eq_true rfl⟩) ⟨hp.1, va_recv F.2.2.2.1.1 w.1 (q0 := 0) (ci := 6) rfl rfl, hp.2⟩ rfl rfl hl.1 rfl (lv_room (Nat.le_of_ble_eq_true rfl)) dX6_play_31 ⟨Nat.le_of_ble_eq_true rfl, Nat.le_of_ble_eq_true rfl⟩)
      (fun r_9 _ H locs h_10 w => ?_)
    subst h_10
    subst hA
    subst hQ
    exact kreti F w (u_5.1, u_5.2.1, u_5.2.2.1, u_5.2.2.2.1, u_5.2.2.2.2.1, u_5.2.2.2.2.2.1, u_5.2.2.2.2.2.2) [0, 1, 2, 3] rfl rfl (rfl) (Nat.le_of_ble_eq_true rfl) (Nat.le_of_ble_eq_true rfl) dX6_play_34
abbrev rmX6_play_k : Room := { frames := 7, cells := 0, slots := 0, locals := 154 }
set_option maxHeartbeats 4000000 in
set_option maxRecDepth 100000 in
theorem kX6_play_k (l : Launch) (g : GG) (μ : Nat → Nat) (iK : Bool) (kn : Nat) (ln : Nat) (th : Nat) (sp : Nat) (bg : Nat) (fm : Bool) (le : Int32) (fi : Nat) (se : Nat) (re : Nat) (ca : Nat) (σ : Sg) (B : Nat → Int32) (T : Nat → Int32) (γ : Nat → Sg) (sz : Nat) (hL : ln ≤ 60) (hz9 : zRe T ln σ = 0) (hkn : kn ≤ 4) : Met l yX6_play wsX6_play rmX6_play_k (va_Pc [.ref (μ 0)] (kPre g [cM μ iK kn ln th sp bg fm le fi se re ca, xI g (μ 1) 288 (enc σ), xI g (μ 2) 288 B, xI g (μ 5) 1152 (pst γ), xI g (μ 6) 60 T] sz)) (va_Qi (fun (r : Int32) (u : Nat × Nat × Bool × Int32 × Nat × Nat × Nat) => r = nI (zOs T ln σ)) (kB g (va_A [cM μ iK kn ln th sp bg fm le fi se re ca, xI g (μ 1) 288 (enc σ), xI g (μ 2) 288 B, xI g (μ 5) 1152 (pst γ), xI g (μ 6) 60 T] sz) (fun u => [cM μ iK (pushN kn) ln 0 u.1 u.2.1 u.2.2.1 u.2.2.2.1 u.2.2.2.2.1 u.2.2.2.2.2.1 (zRe T ln σ) u.2.2.2.2.2.2, xI g (μ 1) 288 (enc (zSt T ln σ)), xI g (μ 2) 288 (enc σ), xI g (μ 5) 1152 (pst (pushG γ kn σ)), xI g (μ 6) 60 T])) (va_A [cM μ iK kn ln th sp bg fm le fi se re ca, xI g (μ 1) 288 (enc σ), xI g (μ 2) 288 B, xI g (μ 5) 1152 (pst γ), xI g (μ 6) 60 T] sz)) 0 0 (va_A [cM μ iK kn ln th sp bg fm le fi se re ca, xI g (μ 1) 288 (enc σ), xI g (μ 2) 288 B, xI g (μ 5) 1152 (pst γ), xI g (μ 6) 60 T] sz) := by
  refine kMet (cc := cX6_play) (maxL := 2) (ret := (some .int)) (own := RX6) (by decide) rfl rfl (Nat.le_of_ble_eq_true rfl) ?_
  intro p e s m args below meth c ls Q H locs A F w hl hnm hA hQ
  have hx := F.1.1
  have hb := F.1.2.1
  have hts := F.1.2.2.2.2
  have hl : lv_has ls 2 [(0, .ref (μ 0))] := hl
  refine lv_aload_n hx hb dX6_play_0 rfl (lv_at hl 0 rfl) ?_
  refine kcallv (wc := [cM μ iK kn ln th sp bg fm le fi se re ca, xI g (μ 1) 288 (enc σ), xI g (μ 2) 288 B]) (wr := [xI g (μ 5) 1152 (pst γ), xI g (μ 6) 60 T]) (wn := fun (u : Unit) => [cM μ iK kn ln 0 sp bg fm le fi se re ca, xI g (μ 1) 288 (enc σ), xI g (μ 2) 288 (enc σ), xI g (μ 5) 1152 (pst γ), xI g (μ 6) 60 T]) F w [0, 1, 2] [3, 4] [2, 3, 4, 0, 1] rfl rfl rfl (fun _ => rfl)
    (fun hp => va_runV (As := []) (rest := []) F.1 (kX6_begins l g μ iK kn ln th sp bg fm le fi se re ca σ B H.size ) (cwV 0 hts gX6_play_X6_begins rfl rfl rfl ⟨rfl, hd_X6_begins⟩ ⟨Nat.le_of_ble_eq_true rfl, Nat.le_of_ble_eq_true rfl⟩) ⟨hp.1, va_recv F.2.2.2.1.1 w.1 (q0 := 0) (ci := 6) rfl rfl, hp.2⟩ rfl rfl hl.1 rfl (lv_room (Nat.le_of_ble_eq_true rfl)) dX6_play_1 ⟨Nat.le_of_ble_eq_true rfl, Nat.le_of_ble_eq_true rfl⟩)
    (fun _ H locs h_2 w => ?_)
  refine lv_aload_n hx hb dX6_play_4 rfl (lv_at hl 0 rfl) ?_
  refine kcalli (wc := [cM μ iK kn ln 0 sp bg fm le fi se re ca, xI g (μ 1) 288 (enc σ), xI g (μ 6) 60 T]) (wr := [xI g (μ 2) 288 (enc σ), xI g (μ 5) 1152 (pst γ)]) (wn := fun (u : Nat × Nat × Bool × Int32 × Nat × Nat × Nat) => [cM μ iK kn ln 0 u.1 u.2.1 u.2.2.1 u.2.2.2.1 u.2.2.2.2.1 u.2.2.2.2.2.1 (zRe T ln σ) u.2.2.2.2.2.2, xI g (μ 1) 288 (enc (zSt T ln σ)), xI g (μ 2) 288 (enc σ), xI g (μ 5) 1152 (pst γ), xI g (μ 6) 60 T]) F w [0, 1, 4] [2, 3] [2, 3, 0, 1, 4] rfl rfl rfl (fun _ => rfl)
    (fun hp => va_runV (As := []) (rest := []) F.1 (kX6_doesAll l g μ iK kn ln 0 sp bg fm le fi se re ca σ T H.size hL) (cwV 0 hts gX6_play_X6_doesAll rfl rfl rfl ⟨rfl, hd_X6_doesAll⟩ ⟨Nat.le_of_ble_eq_true rfl, Nat.le_of_ble_eq_true rfl⟩) ⟨hp.1, va_recv F.2.2.2.1.1 w.1 (q0 := 0) (ci := 6) rfl rfl, hp.2⟩ rfl rfl hl.1 rfl (lv_room (Nat.le_of_ble_eq_true rfl)) dX6_play_5 ⟨Nat.le_of_ble_eq_true rfl, Nat.le_of_ble_eq_true rfl⟩)
    (fun r_3 u H locs h_4 w => ?_)
  try dsimp only at h_4
  obtain ⟨u_5, hu9⟩ : ∃ z, z = u := ⟨_, rfl⟩
  subst hu9
  have w : kW g A s [cM μ iK kn ln 0 u_5.1 u_5.2.1 u_5.2.2.1 u_5.2.2.2.1 u_5.2.2.2.2.1 u_5.2.2.2.2.2.1 (zRe T ln σ) u_5.2.2.2.2.2.2, xI g (μ 1) 288 (enc (zSt T ln σ)), xI g (μ 2) 288 (enc σ), xI g (μ 5) 1152 (pst γ), xI g (μ 6) 60 T] H locs := w
  have hzl := zRe_le T ln σ
  refine lv_istore_n (lv' := [(1, .int r_3), (0, .ref (μ 0))]) hx hb dX6_play_8 rfl hl (by decide) rfl (fun ls hl => ?_)
  refine lv_aload_n hx hb dX6_play_9 rfl (lv_at hl 1 rfl) ?_
  refine kget (fs := [.ref (μ 1), .ref (μ 2), .ref (μ 3), .ref (μ 4), .int (bI iK), .ref (μ 5), .int (nI kn), .ref (μ 6), .int (nI ln), .int (nI 0), .int (nI u_5.1), .int (nI u_5.2.1), .int (bI u_5.2.2.1), .int u_5.2.2.2.1, .int (nI u_5.2.2.2.2.1), .int (nI u_5.2.2.2.2.2.1), .int (nI (zRe T ln σ)), .int (nI u_5.2.2.2.2.2.2)]) F w in_X6_play_X6 0 rfl rfl 16 (by decide) (by decide +kernel) rfl rfl dX6_play_10 ?_
  refine lv_if_le (tgt := 35) hx hb dX6_play_13 (by decide) (fun h_6 => ?_) (fun h_6 => ?_)
  · have h_6 : zRe T ln σ ≤ 0 := (kc0_le_t (by omega)).mp h_6
    refine lv_aload_n hx hb dX6_play_35 rfl (lv_at hl 1 rfl) ?_
    refine kcallv (wc := [cM μ iK kn ln 0 u_5.1 u_5.2.1 u_5.2.2.1 u_5.2.2.2.1 u_5.2.2.2.2.1 u_5.2.2.2.2.2.1 (zRe T ln σ) u_5.2.2.2.2.2.2, xI g (μ 2) 288 (enc σ), xI g (μ 5) 1152 (pst γ)]) (wr := [xI g (μ 1) 288 (enc (zSt T ln σ)), xI g (μ 6) 60 T]) (wn := fun (u : Unit) => [cM μ iK (pushN kn) ln 0 u_5.1 u_5.2.1 u_5.2.2.1 u_5.2.2.2.1 u_5.2.2.2.2.1 u_5.2.2.2.2.2.1 (zRe T ln σ) u_5.2.2.2.2.2.2, xI g (μ 1) 288 (enc (zSt T ln σ)), xI g (μ 2) 288 (enc σ), xI g (μ 5) 1152 (pst (pushG γ kn σ)), xI g (μ 6) 60 T]) F w [0, 2, 3] [1, 4] [2, 0, 3, 4, 1] rfl rfl rfl (fun _ => rfl)
      (fun hp => va_runV (As := []) (rest := []) F.1 (kX6_records l g μ iK kn ln 0 u_5.1 u_5.2.1 u_5.2.2.1 u_5.2.2.2.1 u_5.2.2.2.2.1 u_5.2.2.2.2.2.1 (zRe T ln σ) u_5.2.2.2.2.2.2 σ γ H.size hkn) (cwV 0 hts gX6_play_X6_records rfl rfl rfl ⟨rfl, hd_X6_records⟩ ⟨Nat.le_of_ble_eq_true rfl, Nat.le_of_ble_eq_true rfl⟩) ⟨hp.1, va_recv F.2.2.2.1.1 w.1 (q0 := 0) (ci := 6) rfl rfl, hp.2⟩ rfl rfl hl.1 rfl (lv_room (Nat.le_of_ble_eq_true rfl)) dX6_play_36 ⟨Nat.le_of_ble_eq_true rfl, Nat.le_of_ble_eq_true rfl⟩)
      (fun _ H locs h_8 w => ?_)
    refine lv_iload_n hx hb dX6_play_39 rfl (lv_at hl 0 rfl) ?_
    subst hA
    subst hQ
    exact kreti F w (u_5.1, u_5.2.1, u_5.2.2.1, u_5.2.2.2.1, u_5.2.2.2.2.1, u_5.2.2.2.2.2.1, u_5.2.2.2.2.2.2) [0, 1, 2, 3, 4] rfl rfl (h_4.1) (Nat.le_of_ble_eq_true rfl) (Nat.le_of_ble_eq_true rfl) dX6_play_40
  · have h_6 : zRe T ln σ > 0 := (kc0_le_f (by omega)).mp h_6
    omega
theorem in_X6_type_X6 : ∀ w ∈ wsX60, w ∈ wsX6_type := by decide +kernel
abbrev rmX6_type_A : Room := { frames := 1, cells := 0, slots := 0, locals := 22 }
set_option maxHeartbeats 4000000 in
set_option maxRecDepth 100000 in
theorem kX6_type_A (l : Launch) (g : GG) (μ : Nat → Nat) (iK : Bool) (kn : Nat) (ln : Nat) (th : Nat) (sp : Nat) (bg : Nat) (fm : Bool) (le : Int32) (fi : Nat) (se : Nat) (re : Nat) (ca : Nat) (n : Int32) (sz : Nat) (hn : ¬ (32 ≤ n.toInt ∧ n.toInt ≤ 126)) : Met l yX6_type wsX6_type rmX6_type_A (va_Pc [.ref (μ 0), .int n] (kPre g [cM μ iK kn ln th sp bg fm le fi se re ca] sz)) (va_Qi (fun (r : Int32) (u : Unit) => r = nI 0) (kB g (va_A [cM μ iK kn ln th sp bg fm le fi se re ca] sz) (fun u => [cM μ iK kn ln 1 sp bg fm le fi se re ca])) (va_A [cM μ iK kn ln th sp bg fm le fi se re ca] sz)) 0 0 (va_A [cM μ iK kn ln th sp bg fm le fi se re ca] sz) := by
  refine kMet (cc := cX6_type) (maxL := 2) (ret := (some .int)) (own := RX6) (by decide) rfl rfl (Nat.le_of_ble_eq_true rfl) ?_
  intro p e s m args below meth c ls Q H locs A F w hl hnm hA hQ
  have hx := F.1.1
  have hb := F.1.2.1
  have hts := F.1.2.2.2.2
  have hl : lv_has ls 2 [(0, .ref (μ 0)), (1, .int n)] := hl
  refine lv_aload_n hx hb dX6_type_0 rfl (lv_at hl 0 rfl) ?_
  refine lv_iconst (v := nI 0) hx hb dX6_type_1 (by decide) ?_
  refine kput (fs := [.ref (μ 1), .ref (μ 2), .ref (μ 3), .ref (μ 4), .int (bI iK), .ref (μ 5), .int (nI kn), .ref (μ 6), .int (nI ln), .int (nI th), .int (nI sp), .int (nI bg), .int (bI fm), .int le, .int (nI fi), .int (nI se), .int (nI re), .int (nI ca)]) F w in_X6_type_X6 tyX6_ok nmX6 0 rfl rfl 9 (by decide) (by decide +kernel) rfl rfl (rfl) (rfl) (Nat.le_of_ble_eq_true rfl) (wn := [cM μ iK kn ln 0 sp bg fm le fi se re ca]) rfl dX6_type_2 (fun H locs w => ?_)
  refine lv_iload_n hx hb dX6_type_5 rfl (lv_at hl 1 rfl) ?_
  refine lv_bipush (v := nI 32) hx hb dX6_type_6 (by decide) ?_
  refine lv_bipush (v := nI 126) hx hb dX6_type_8 (by decide) ?_
  refine kcalli (wc := []) (wr := [cM μ iK kn ln 0 sp bg fm le fi se re ca]) (wn := fun (u : Unit) => [cM μ iK kn ln 0 sp bg fm le fi se re ca]) F w [] [0] [0] rfl rfl rfl (fun _ => rfl)
    (fun hp => va_runS (As := [.int n, .int (nI 32), .int (nI 126)]) (rest := []) F.1 (kX6_in l g n (nI 32) (nI 126) H.size ) (va_cwS 3 hts gX6_type_X6_in rfl rfl rfl hd_X6_in ⟨Nat.le_of_ble_eq_true rfl, Nat.le_of_ble_eq_true rfl⟩) hp rfl rfl hl.1 rfl (lv_room (Nat.le_of_ble_eq_true rfl)) dX6_type_10 ⟨Nat.le_of_ble_eq_true rfl, Nat.le_of_ble_eq_true rfl⟩)
    (fun r_1 _ H locs h_2 w => ?_)
  subst h_2
  refine ktopi (y := bI false) (congrArg bI (typ_f hn)) ?_
  refine lv_if_ne (tgt := 22) hx hb dX6_type_13 (by decide) (fun h_3 => ?_) (fun h_3 => ?_)
  · have h_3 : false = true := bI_o.mp h_3
    exact absurd h_3 (by simp)
  · have h_3 : false = false := bI_z.mp h_3
    refine lv_aload_n hx hb dX6_type_16 rfl (lv_at hl 0 rfl) ?_
    refine lv_iconst (v := nI 1) hx hb dX6_type_17 (by decide) ?_
    refine kcalli (wc := [cM μ iK kn ln 0 sp bg fm le fi se re ca]) (wr := []) (wn := fun (u : Unit) => [cM μ iK kn ln 1 sp bg fm le fi se re ca]) F w [0] [] [0] rfl rfl rfl (fun _ => rfl)
      (fun hp => va_runV (As := [.int (nI 1)]) (rest := []) F.1 (kX6_fails l g μ iK kn ln 0 sp bg fm le fi se re ca 1 H.size ) (cwV 1 hts gX6_type_X6_fails rfl rfl rfl ⟨rfl, hd_X6_fails⟩ ⟨Nat.le_of_ble_eq_true rfl, Nat.le_of_ble_eq_true rfl⟩) ⟨hp.1, va_recv F.2.2.2.1.1 w.1 (q0 := 0) (ci := 6) rfl rfl, hp.2⟩ rfl rfl hl.1 rfl (lv_room (Nat.le_of_ble_eq_true rfl)) dX6_type_18 ⟨Nat.le_of_ble_eq_true rfl, Nat.le_of_ble_eq_true rfl⟩)
      (fun r_4 _ H locs h_5 w => ?_)
    subst h_5
    subst hA
    subst hQ
    exact kreti F w () [0] rfl rfl (rfl) (Nat.le_of_ble_eq_true rfl) (Nat.le_of_ble_eq_true rfl) dX6_type_21
abbrev rmX6_type_S : Room := { frames := 1, cells := 0, slots := 0, locals := 22 }
set_option maxHeartbeats 4000000 in
set_option maxRecDepth 100000 in
theorem kX6_type_S (l : Launch) (g : GG) (μ : Nat → Nat) (iK : Bool) (kn : Nat) (ln : Nat) (th : Nat) (sp : Nat) (bg : Nat) (fm : Bool) (le : Int32) (fi : Nat) (se : Nat) (re : Nat) (ca : Nat) (k : Nat) (sz : Nat) (hk : 32 ≤ k ∧ k ≤ 126) : Met l yX6_type wsX6_type rmX6_type_S (va_Pc [.ref (μ 0), .int (nI k)] (kPre g [cM μ iK kn 60 th sp bg fm le fi se re ca] sz)) (va_Qi (fun (r : Int32) (u : Unit) => r = nI 0) (kB g (va_A [cM μ iK kn 60 th sp bg fm le fi se re ca] sz) (fun u => [cM μ iK kn 60 2 sp bg fm le fi se re ca])) (va_A [cM μ iK kn 60 th sp bg fm le fi se re ca] sz)) 0 0 (va_A [cM μ iK kn 60 th sp bg fm le fi se re ca] sz) := by
  refine kMet (cc := cX6_type) (maxL := 2) (ret := (some .int)) (own := RX6) (by decide) rfl rfl (Nat.le_of_ble_eq_true rfl) ?_
  intro p e s m args below meth c ls Q H locs A F w hl hnm hA hQ
  have hx := F.1.1
  have hb := F.1.2.1
  have hts := F.1.2.2.2.2
  have hl : lv_has ls 2 [(0, .ref (μ 0)), (1, .int (nI k))] := hl
  refine lv_aload_n hx hb dX6_type_0 rfl (lv_at hl 0 rfl) ?_
  refine lv_iconst (v := nI 0) hx hb dX6_type_1 (by decide) ?_
  refine kput (fs := [.ref (μ 1), .ref (μ 2), .ref (μ 3), .ref (μ 4), .int (bI iK), .ref (μ 5), .int (nI kn), .ref (μ 6), .int (nI 60), .int (nI th), .int (nI sp), .int (nI bg), .int (bI fm), .int le, .int (nI fi), .int (nI se), .int (nI re), .int (nI ca)]) F w in_X6_type_X6 tyX6_ok nmX6 0 rfl rfl 9 (by decide) (by decide +kernel) rfl rfl (rfl) (rfl) (Nat.le_of_ble_eq_true rfl) (wn := [cM μ iK kn 60 0 sp bg fm le fi se re ca]) rfl dX6_type_2 (fun H locs w => ?_)
  refine lv_iload_n hx hb dX6_type_5 rfl (lv_at hl 1 rfl) ?_
  refine lv_bipush (v := nI 32) hx hb dX6_type_6 (by decide) ?_
  refine lv_bipush (v := nI 126) hx hb dX6_type_8 (by decide) ?_
  refine kcalli (wc := []) (wr := [cM μ iK kn 60 0 sp bg fm le fi se re ca]) (wn := fun (u : Unit) => [cM μ iK kn 60 0 sp bg fm le fi se re ca]) F w [] [0] [0] rfl rfl rfl (fun _ => rfl)
    (fun hp => va_runS (As := [.int (nI k), .int (nI 32), .int (nI 126)]) (rest := []) F.1 (kX6_in l g (nI k) (nI 32) (nI 126) H.size ) (va_cwS 3 hts gX6_type_X6_in rfl rfl rfl hd_X6_in ⟨Nat.le_of_ble_eq_true rfl, Nat.le_of_ble_eq_true rfl⟩) hp rfl rfl hl.1 rfl (lv_room (Nat.le_of_ble_eq_true rfl)) dX6_type_10 ⟨Nat.le_of_ble_eq_true rfl, Nat.le_of_ble_eq_true rfl⟩)
    (fun r_1 _ H locs h_2 w => ?_)
  subst h_2
  refine ktopi (y := bI true) (congrArg bI (in_t hk.1 hk.2 (by omega))) ?_
  refine lv_if_ne (tgt := 22) hx hb dX6_type_13 (by decide) (fun h_3 => ?_) (fun h_3 => ?_)
  · have h_3 : true = true := bI_o.mp h_3
    refine lv_aload_n hx hb dX6_type_22 rfl (lv_at hl 0 rfl) ?_
    refine kget (fs := [.ref (μ 1), .ref (μ 2), .ref (μ 3), .ref (μ 4), .int (bI iK), .ref (μ 5), .int (nI kn), .ref (μ 6), .int (nI 60), .int (nI 0), .int (nI sp), .int (nI bg), .int (bI fm), .int le, .int (nI fi), .int (nI se), .int (nI re), .int (nI ca)]) F w in_X6_type_X6 0 rfl rfl 8 (by decide) (by decide +kernel) rfl rfl dX6_type_23 ?_
    refine lv_bipush (v := nI 60) hx hb dX6_type_26 (by decide) ?_
    refine lv_icmp_ne (tgt := 37) hx hb dX6_type_28 (by decide) (fun h_4 => ?_) (fun h_4 => ?_)
    · have h_4 : 60 ≠ 60 := (kc_ne_t (by omega) (by omega)).mp h_4
      omega
    · have h_4 : 60 = 60 := (kc_ne_f (by omega) (by omega)).mp h_4
      refine lv_aload_n hx hb dX6_type_31 rfl (lv_at hl 0 rfl) ?_
      refine lv_iconst (v := nI 2) hx hb dX6_type_32 (by decide) ?_
      refine kcalli (wc := [cM μ iK kn 60 0 sp bg fm le fi se re ca]) (wr := []) (wn := fun (u : Unit) => [cM μ iK kn 60 2 sp bg fm le fi se re ca]) F w [0] [] [0] rfl rfl rfl (fun _ => rfl)
        (fun hp => va_runV (As := [.int (nI 2)]) (rest := []) F.1 (kX6_fails l g μ iK kn 60 0 sp bg fm le fi se re ca 2 H.size ) (cwV 1 hts gX6_type_X6_fails rfl rfl rfl ⟨rfl, hd_X6_fails⟩ ⟨Nat.le_of_ble_eq_true rfl, Nat.le_of_ble_eq_true rfl⟩) ⟨hp.1, va_recv F.2.2.2.1.1 w.1 (q0 := 0) (ci := 6) rfl rfl, hp.2⟩ rfl rfl hl.1 rfl (lv_room (Nat.le_of_ble_eq_true rfl)) dX6_type_33 ⟨Nat.le_of_ble_eq_true rfl, Nat.le_of_ble_eq_true rfl⟩)
        (fun r_5 _ H locs h_6 w => ?_)
      subst h_6
      subst hA
      subst hQ
      exact kreti F w () [0] rfl rfl (rfl) (Nat.le_of_ble_eq_true rfl) (Nat.le_of_ble_eq_true rfl) dX6_type_36
  · have h_3 : true = false := bI_z.mp h_3
    exact absurd h_3 (by simp)
abbrev rmX6_type_k : Room := { frames := 1, cells := 0, slots := 0, locals := 22 }
set_option maxHeartbeats 4000000 in
set_option maxRecDepth 100000 in
theorem kX6_type_k (l : Launch) (g : GG) (μ : Nat → Nat) (iK : Bool) (kn : Nat) (ln : Nat) (th : Nat) (sp : Nat) (bg : Nat) (fm : Bool) (le : Int32) (fi : Nat) (se : Nat) (re : Nat) (ca : Nat) (T : Nat → Int32) (k : Nat) (sz : Nat) (hk : 32 ≤ k ∧ k ≤ 126) (hL : ln < 60) : Met l yX6_type wsX6_type rmX6_type_k (va_Pc [.ref (μ 0), .int (nI k)] (kPre g [cM μ iK kn ln th sp bg fm le fi se re ca, xI g (μ 6) 60 T] sz)) (va_Qi (fun (r : Int32) (u : Unit) => r = nI (ln + 1)) (kB g (va_A [cM μ iK kn ln th sp bg fm le fi se re ca, xI g (μ 6) 60 T] sz) (fun u => [cM μ iK kn (ln + 1) 0 sp bg fm le fi se re ca, xI g (μ 6) 60 (upd T ln (nI k))])) (va_A [cM μ iK kn ln th sp bg fm le fi se re ca, xI g (μ 6) 60 T] sz)) 0 0 (va_A [cM μ iK kn ln th sp bg fm le fi se re ca, xI g (μ 6) 60 T] sz) := by
  refine kMet (cc := cX6_type) (maxL := 2) (ret := (some .int)) (own := RX6) (by decide) rfl rfl (Nat.le_of_ble_eq_true rfl) ?_
  intro p e s m args below meth c ls Q H locs A F w hl hnm hA hQ
  have hx := F.1.1
  have hb := F.1.2.1
  have hts := F.1.2.2.2.2
  have hl : lv_has ls 2 [(0, .ref (μ 0)), (1, .int (nI k))] := hl
  refine lv_aload_n hx hb dX6_type_0 rfl (lv_at hl 0 rfl) ?_
  refine lv_iconst (v := nI 0) hx hb dX6_type_1 (by decide) ?_
  refine kput (fs := [.ref (μ 1), .ref (μ 2), .ref (μ 3), .ref (μ 4), .int (bI iK), .ref (μ 5), .int (nI kn), .ref (μ 6), .int (nI ln), .int (nI th), .int (nI sp), .int (nI bg), .int (bI fm), .int le, .int (nI fi), .int (nI se), .int (nI re), .int (nI ca)]) F w in_X6_type_X6 tyX6_ok nmX6 0 rfl rfl 9 (by decide) (by decide +kernel) rfl rfl (rfl) (rfl) (Nat.le_of_ble_eq_true rfl) (wn := [cM μ iK kn ln 0 sp bg fm le fi se re ca, xI g (μ 6) 60 T]) rfl dX6_type_2 (fun H locs w => ?_)
  refine lv_iload_n hx hb dX6_type_5 rfl (lv_at hl 1 rfl) ?_
  refine lv_bipush (v := nI 32) hx hb dX6_type_6 (by decide) ?_
  refine lv_bipush (v := nI 126) hx hb dX6_type_8 (by decide) ?_
  refine kcalli (wc := []) (wr := [cM μ iK kn ln 0 sp bg fm le fi se re ca, xI g (μ 6) 60 T]) (wn := fun (u : Unit) => [cM μ iK kn ln 0 sp bg fm le fi se re ca, xI g (μ 6) 60 T]) F w [] [0, 1] [0, 1] rfl rfl rfl (fun _ => rfl)
    (fun hp => va_runS (As := [.int (nI k), .int (nI 32), .int (nI 126)]) (rest := []) F.1 (kX6_in l g (nI k) (nI 32) (nI 126) H.size ) (va_cwS 3 hts gX6_type_X6_in rfl rfl rfl hd_X6_in ⟨Nat.le_of_ble_eq_true rfl, Nat.le_of_ble_eq_true rfl⟩) hp rfl rfl hl.1 rfl (lv_room (Nat.le_of_ble_eq_true rfl)) dX6_type_10 ⟨Nat.le_of_ble_eq_true rfl, Nat.le_of_ble_eq_true rfl⟩)
    (fun r_1 _ H locs h_2 w => ?_)
  subst h_2
  refine ktopi (y := bI true) (congrArg bI (in_t hk.1 hk.2 (by omega))) ?_
  refine lv_if_ne (tgt := 22) hx hb dX6_type_13 (by decide) (fun h_3 => ?_) (fun h_3 => ?_)
  · have h_3 : true = true := bI_o.mp h_3
    refine lv_aload_n hx hb dX6_type_22 rfl (lv_at hl 0 rfl) ?_
    refine kget (fs := [.ref (μ 1), .ref (μ 2), .ref (μ 3), .ref (μ 4), .int (bI iK), .ref (μ 5), .int (nI kn), .ref (μ 6), .int (nI ln), .int (nI 0), .int (nI sp), .int (nI bg), .int (bI fm), .int le, .int (nI fi), .int (nI se), .int (nI re), .int (nI ca)]) F w in_X6_type_X6 0 rfl rfl 8 (by decide) (by decide +kernel) rfl rfl dX6_type_23 ?_
    refine lv_bipush (v := nI 60) hx hb dX6_type_26 (by decide) ?_
    refine lv_icmp_ne (tgt := 37) hx hb dX6_type_28 (by decide) (fun h_4 => ?_) (fun h_4 => ?_)
    · have h_4 : ln ≠ 60 := (kc_ne_t (by omega) (by omega)).mp h_4
      refine lv_aload_n hx hb dX6_type_37 rfl (lv_at hl 0 rfl) ?_
      refine kget (fs := [.ref (μ 1), .ref (μ 2), .ref (μ 3), .ref (μ 4), .int (bI iK), .ref (μ 5), .int (nI kn), .ref (μ 6), .int (nI ln), .int (nI 0), .int (nI sp), .int (nI bg), .int (bI fm), .int le, .int (nI fi), .int (nI se), .int (nI re), .int (nI ca)]) F w in_X6_type_X6 0 rfl rfl 7 (by decide) (by decide +kernel) rfl rfl dX6_type_38 ?_
      refine lv_aload_n hx hb dX6_type_41 rfl (lv_at hl 0 rfl) ?_
      refine kget (fs := [.ref (μ 1), .ref (μ 2), .ref (μ 3), .ref (μ 4), .int (bI iK), .ref (μ 5), .int (nI kn), .ref (μ 6), .int (nI ln), .int (nI 0), .int (nI sp), .int (nI bg), .int (bI fm), .int le, .int (nI fi), .int (nI se), .int (nI re), .int (nI ca)]) F w in_X6_type_X6 0 rfl rfl 8 (by decide) (by decide +kernel) rfl rfl dX6_type_42 ?_
      refine lv_iload_n hx hb dX6_type_45 rfl (lv_at hl 1 rfl) ?_
      refine kiast (f' := upd T ln (nI k)) F w 1 rfl (vp_in_nI (by omega) (by omega)) (congrArg (fun z => upd T z (nI k)) (nI_clamp (n := ln) (by omega))) (wn := [cM μ iK kn ln 0 sp bg fm le fi se re ca, xI g (μ 6) 60 (upd T ln (nI k))]) rfl dX6_type_46 (fun H locs w => ?_)
      refine lv_aload_n hx hb dX6_type_47 rfl (lv_at hl 0 rfl) ?_
      refine lv_dup hx hb dX6_type_48 rfl ?_
      refine kget (fs := [.ref (μ 1), .ref (μ 2), .ref (μ 3), .ref (μ 4), .int (bI iK), .ref (μ 5), .int (nI kn), .ref (μ 6), .int (nI ln), .int (nI 0), .int (nI sp), .int (nI bg), .int (bI fm), .int le, .int (nI fi), .int (nI se), .int (nI re), .int (nI ca)]) F w in_X6_type_X6 0 rfl rfl 8 (by decide) (by decide +kernel) rfl rfl dX6_type_49 ?_
      refine lv_iconst (v := nI 1) hx hb dX6_type_52 (by decide) ?_
      refine lv_iadd hx hb dX6_type_53 ?_
      refine ktopi (y := nI (ln + 1)) (nI_add ln 1) ?_
      refine kput (fs := [.ref (μ 1), .ref (μ 2), .ref (μ 3), .ref (μ 4), .int (bI iK), .ref (μ 5), .int (nI kn), .ref (μ 6), .int (nI ln), .int (nI 0), .int (nI sp), .int (nI bg), .int (bI fm), .int le, .int (nI fi), .int (nI se), .int (nI re), .int (nI ca)]) F w in_X6_type_X6 tyX6_ok nmX6 0 rfl rfl 8 (by decide) (by decide +kernel) rfl rfl (rfl) (rfl) (Nat.le_of_ble_eq_true rfl) (wn := [cM μ iK kn (ln + 1) 0 sp bg fm le fi se re ca, xI g (μ 6) 60 (upd T ln (nI k))]) rfl dX6_type_54 (fun H locs w => ?_)
      refine lv_aload_n hx hb dX6_type_57 rfl (lv_at hl 0 rfl) ?_
      refine kget (fs := [.ref (μ 1), .ref (μ 2), .ref (μ 3), .ref (μ 4), .int (bI iK), .ref (μ 5), .int (nI kn), .ref (μ 6), .int (nI (ln + 1)), .int (nI 0), .int (nI sp), .int (nI bg), .int (bI fm), .int le, .int (nI fi), .int (nI se), .int (nI re), .int (nI ca)]) F w in_X6_type_X6 0 rfl rfl 8 (by decide) (by decide +kernel) rfl rfl dX6_type_58 ?_
      subst hA
      subst hQ
      exact kreti F w () [0, 1] rfl rfl (rfl) (Nat.le_of_ble_eq_true rfl) (Nat.le_of_ble_eq_true rfl) dX6_type_61
    · have h_4 : ln = 60 := (kc_ne_f (by omega) (by omega)).mp h_4
      omega
  · have h_3 : true = false := bI_z.mp h_3
    exact absurd h_3 (by simp)
