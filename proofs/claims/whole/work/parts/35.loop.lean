/-! ===== the law: its start, its loop ===== -/
theorem kNst_in : ∀ w ∈ kNst, w ∈ lw_tbl := by decide +kernel
theorem kStr_in : ∀ q ∈ kStr, Cond.stringRef q.1 q.2.1 q.2.2 ∈ lw_tbl := by decide +kernel
theorem kStr_own : ∀ q ∈ kStr, q.1 = RX5 := by decide +kernel
theorem kNca_in : ∀ q ∈ kNca, Cond.not (.castable q.1 q.2) ∈ flatC (Jvm.Cond.and given_1 narrow_1) := by decide +kernel
theorem kU_in : Cond.isRef (.static Bundle.tN "UNASSIGNED_STACK" Bundle.steD) ∈ flatC (Jvm.Cond.and given_1 narrow_1) := by decide +kernel
theorem kN_in : Cond.isRef (.static Bundle.tN "SUPPRESSED_SENTINEL" Bundle.listD) ∈ flatC (Jvm.Cond.and given_1 narrow_1) := by decide +kernel
theorem kArr {s : State} {args : Array Value} {ty : FieldType} (h : (Cond.arrayClass ty).before args s = true) : ∃ cA, s.vm.findClass ("[" ++ ty.toString) = some cA ∧ ArrOfT s cA ty := by
  obtain ⟨cA, kA, comp, h1, h2, h3⟩ := Cond.arrayClass_spec h
  exact ⟨cA, h1, fun n z => ⟨fun k hk => (by cases hk), kA, h2, comp, h3⟩⟩
set_option maxRecDepth 100000 in
set_option maxHeartbeats 4000000 in
theorem kstart {s : State} {b : Nat} (hts : ∀ w ∈ lw_tbl, w.before #[Value.ref b] s = true) (hgv : (Jvm.Cond.and given_1 narrow_1).before #[Value.ref b] s = true) : ∃ g : GG, kG g s ∧ kZ (fun q => s.heap.size ≤ q) s s.heap := by
  have hf := flat_of_before _ hgv
  obtain ⟨c0, i0, k0⟩ := u_known (C := RX0) (T := TX0) (N := 2) (n := 2) hts inX0 (hts (.instantiable RX0 2) (by decide +kernel))
  obtain ⟨c1, i1, k1⟩ := u_known (C := RX1) (T := TX1) (N := 5) (n := 5) hts inX1 (hts (.instantiable RX1 5) (by decide +kernel))
  obtain ⟨c2, i2, k2⟩ := u_known (C := RX2) (T := TX2) (N := 7) (n := 7) hts inX2 (hts (.instantiable RX2 7) (by decide +kernel))
  obtain ⟨c3, i3, k3⟩ := u_known (C := RX3) (T := TX3) (N := 2) (n := 2) hts inX3 (hts (.instantiable RX3 2) (by decide +kernel))
  obtain ⟨c4, i4, k4⟩ := u_known (C := RX4) (T := TX4) (N := 6) (n := 6) hts inX4 (hts (.instantiable RX4 6) (by decide +kernel))
  obtain ⟨c5, i5, k5⟩ := u_known (C := RX5) (T := TX5) (N := 6) (n := 6) hts inX5 (hts (.instantiable RX5 6) (by decide +kernel))
  obtain ⟨c6, i6, k6⟩ := u_known (C := RX6) (T := TX6) (N := 18) (n := 18) hts inX6 (hts (.instantiable RX6 18) (by decide +kernel))
  obtain ⟨cI, eI, aI⟩ := kArr (hts (.arrayClass .int) (by decide +kernel))
  obtain ⟨cJ, eJ, aJ⟩ := kArr (hts (.arrayClass .long) (by decide +kernel))
  obtain ⟨cC, eC, aC⟩ := kArr (hts (.arrayClass .char) (by decide +kernel))
  have hao : va_AO RX2 s := va_AO.of (hts (.arrayOver (.object RX2)) (by decide +kernel))
  obtain ⟨comp, cR, kR, r1, -, r2, r3, r4⟩ := Cond.arrayOver_spec (show (Cond.arrayOver (.object RX2)).holds #[] s none s [] = true from hao)
  obtain ⟨dC, dI, hKc⟩ : ∃ (dC : Nat → ClassId) (dI : Nat → Nat → Nat), ∀ (k : Nat) (q : vw_C), vwCl[k]? = some q → u_Kn s q.1 q.2.1 q.2.2 (dC k) (dI k) := by
    refine ⟨fun k => if k = 0 then c0 else if k = 1 then c1 else if k = 2 then c2 else if k = 3 then c3 else if k = 4 then c4 else if k = 5 then c5 else c6, fun k => if k = 0 then i0 else if k = 1 then i1 else if k = 2 then i2 else if k = 3 then i3 else if k = 4 then i4 else if k = 5 then i5 else i6, ?_⟩
    intro k q hq
    match k, hq with
    | 0, hq => cases hq; exact k0
    | 1, hq => cases hq; exact k1
    | 2, hq => cases hq; exact k2
    | 3, hq => cases hq; exact k3
    | 4, hq => cases hq; exact k4
    | 5, hq => cases hq; exact k5
    | 6, hq => cases hq; exact k6
    | k + 7, hq => simp [vwCl] at hq
  refine ⟨((dC, dI), (cI, cJ, cC, cR)), ⟨⟨hKc, fun k q hq => ?_⟩, fun w hw => va_Nw.of (kNst_tab w hw) (hts w (kNst_in w hw)), fun q hq => ?_, hao, fun q hq => va_Nc.of (hf _ (kNca_in q hq))⟩, ?_, ?_⟩
  · match k, hq with
    | 0, hq => cases hq; exact ⟨aI, eI⟩
    | 1, hq => cases hq; exact ⟨aJ, eJ⟩
    | 2, hq => cases hq; exact ⟨aC, eC⟩
    | 3, hq => cases hq; exact ⟨fun N z => ⟨(fun k h => by cases h), kR, r2, comp, r3⟩, kR, comp, r2, r3, r1, r4⟩
    | k + 4, hq => simp [gTys] at hq
  · have h := hts _ (kStr_in q hq)
    have hown : s.vm.findClass q.1 = some (dC 5) := by
      rw [kStr_own q hq]; exact (hKc 5 _ rfl).2.1
    obtain ⟨-, -, -, a, -, -, -, -, -, e⟩ := Cond.stringRef_spec hown (show (Cond.stringRef q.1 q.2.1 q.2.2).holds #[Value.ref b] s none s [] = true from h)
    exact ⟨a, vk_R.of h e⟩
  · exact vx_Zqof (hts _ (by decide +kernel)) (hts _ (by decide +kernel)) (hf _ kU_in) (fun a ha hc => absurd ha (Nat.not_lt.mpr hc))
  · exact vx_Zqof (hts _ (by decide +kernel)) (hts _ (by decide +kernel)) (hf _ kN_in) (fun a ha hc => absurd ha (Nat.not_lt.mpr hc))
theorem land63 (v : Int32) : ∃ k, k < 64 ∧ (v &&& nI 63) = nI k := by
  obtain ⟨n, hn, rfl⟩ := wb_of32 v
  refine ⟨n % 64, Nat.mod_lt _ (by decide), ?_⟩
  apply Int32.toBitVec_inj.mp
  rw [Int32.toBitVec_and]
  show BitVec.ofNat 32 n &&& BitVec.ofNat 32 63 = BitVec.ofNat 32 (n % 64)
  apply BitVec.eq_of_toNat_eq
  rw [BitVec.toNat_and, BitVec.toNat_ofNat, BitVec.toNat_ofNat, BitVec.toNat_ofNat, Nat.mod_eq_of_lt hn, show 63 % 2 ^ 32 = 2 ^ 6 - 1 from by decide, Nat.and_two_pow_sub_one_eq_mod]
  omega
theorem sub3 {n : Nat} (h : n ≤ 1536) : (nI n - nI 3).toInt = (n : Int) - 3 := by
  by_cases h3 : 3 ≤ n
  · rw [pk_sub (a := n) (b := 3) h3, ki_n (by omega)]; omega
  · rcases (show n = 0 ∨ n = 1 ∨ n = 2 by omega) with rfl | rfl | rfl <;> decide
abbrev rmX6_init_b : Room := { frames := 1, cells := 6, slots := 2364, locals := 12 }
set_option maxHeartbeats 4000000 in
set_option maxRecDepth 100000 in
theorem kX6_init_b (l : Launch) (g : GG) (o : Nat) (sz : Nat)  : Met l yX6_init wsX6_init rmX6_init_b (va_Pc [.ref o] (kPre g [xO o 6 [.null, .null, .null, .null, .int 0, .null, .int 0, .null, .int 0, .int 0, .int 0, .int 0, .int 0, .int 0, .int 0, .int 0, .int 0, .int 0]] sz)) (va_Qv (fun (u : Nat → Nat) => u 0 = o) (kB g (va_A [xO o 6 [.null, .null, .null, .null, .int 0, .null, .int 0, .null, .int 0, .int 0, .int 0, .int 0, .int 0, .int 0, .int 0, .int 0, .int 0, .int 0]] sz) (fun u => [cM u false 0 0 0 0 0 false 0 0 0 0 0, xI g (u 1) 288 (enc sg0), xI g (u 2) 288 (fun _ => 0), xI g (u 3) 288 (fun _ => 0), xI g (u 4) 288 (enc sg0), xI g (u 5) 1152 (pst sgs), xI g (u 6) 60 (fun _ => 0)])) (va_A [xO o 6 [.null, .null, .null, .null, .int 0, .null, .int 0, .null, .int 0, .int 0, .int 0, .int 0, .int 0, .int 0, .int 0, .int 0, .int 0, .int 0]] sz)) 6 2364 (va_A [xO o 6 [.null, .null, .null, .null, .int 0, .null, .int 0, .null, .int 0, .int 0, .int 0, .int 0, .int 0, .int 0, .int 0, .int 0, .int 0, .int 0]] sz) := by
  refine kMet (cc := cX6_init) (maxL := 1) (ret := none) (own := RX6) (by decide) rfl rfl (Nat.le_of_ble_eq_true rfl) ?_
  intro p e s m args below meth c ls Q H locs A F w hl hnm hA hQ
  have hx := F.1.1
  have hb := F.1.2.1
  have hts := F.1.2.2.2.2
  have hl : lv_has ls 1 [(0, .ref o)] := hl
  refine lv_aload_n hx hb dX6_init_0 rfl (lv_at hl 0 rfl) ?_
  refine kobj (n := 0) F hl.1 (by decide +kernel) (by decide +kernel) (by decide +kernel) dX6_init_1 (Nat.le_of_ble_eq_true rfl) (Nat.le_of_ble_eq_true rfl) (Nat.le_of_ble_eq_true rfl) ?_
  refine lv_aload_n hx hb dX6_init_4 rfl (lv_at hl 0 rfl) ?_
  refine lv_sipush (v := nI 288) hx hb dX6_init_5 (by decide) ?_
  refine knewI (N := 288) F w (by decide +kernel) (by decide) (by decide +kernel) (Nat.le_of_ble_eq_true rfl) (Nat.le_of_ble_eq_true rfl) (Nat.le_of_ble_eq_true rfl) dX6_init_8 (fun q_1 H w => ?_)
  have w : kW g A s [xO o 6 [.null, .null, .null, .null, .int 0, .null, .int 0, .null, .int 0, .int 0, .int 0, .int 0, .int 0, .int 0, .int 0, .int 0, .int 0, .int 0], xI g q_1 288 (fun _ => 0)] H locs := w
  refine kputF (fs := [.null, .null, .null, .null, .int 0, .null, .int 0, .null, .int 0, .int 0, .int 0, .int 0, .int 0, .int 0, .int 0, .int 0, .int 0, .int 0]) F w in_X6_init_X6 tyX6_ok nmX6 0 rfl rfl 0 (by decide) (by decide +kernel) rfl rfl hnm rfl (rfl) (rfl) (Nat.le_of_ble_eq_true rfl) (wn := [xO o 6 [.ref q_1, .null, .null, .null, .int 0, .null, .int 0, .null, .int 0, .int 0, .int 0, .int 0, .int 0, .int 0, .int 0, .int 0, .int 0, .int 0], xI g q_1 288 (fun _ => 0)]) rfl dX6_init_10 (fun H locs w => ?_)
  refine lv_aload_n hx hb dX6_init_13 rfl (lv_at hl 0 rfl) ?_
  refine lv_sipush (v := nI 288) hx hb dX6_init_14 (by decide) ?_
  refine knewI (N := 288) F w (by decide +kernel) (by decide) (by decide +kernel) (Nat.le_of_ble_eq_true rfl) (Nat.le_of_ble_eq_true rfl) (Nat.le_of_ble_eq_true rfl) dX6_init_17 (fun q_2 H w => ?_)
  have w : kW g A s [xO o 6 [.ref q_1, .null, .null, .null, .int 0, .null, .int 0, .null, .int 0, .int 0, .int 0, .int 0, .int 0, .int 0, .int 0, .int 0, .int 0, .int 0], xI g q_1 288 (fun _ => 0), xI g q_2 288 (fun _ => 0)] H locs := w
  refine kputF (fs := [.ref q_1, .null, .null, .null, .int 0, .null, .int 0, .null, .int 0, .int 0, .int 0, .int 0, .int 0, .int 0, .int 0, .int 0, .int 0, .int 0]) F w in_X6_init_X6 tyX6_ok nmX6 0 rfl rfl 1 (by decide) (by decide +kernel) rfl rfl hnm rfl (rfl) (rfl) (Nat.le_of_ble_eq_true rfl) (wn := [xO o 6 [.ref q_1, .ref q_2, .null, .null, .int 0, .null, .int 0, .null, .int 0, .int 0, .int 0, .int 0, .int 0, .int 0, .int 0, .int 0, .int 0, .int 0], xI g q_1 288 (fun _ => 0), xI g q_2 288 (fun _ => 0)]) rfl dX6_init_19 (fun H locs w => ?_)
  refine lv_aload_n hx hb dX6_init_22 rfl (lv_at hl 0 rfl) ?_
  refine lv_sipush (v := nI 288) hx hb dX6_init_23 (by decide) ?_
  refine knewI (N := 288) F w (by decide +kernel) (by decide) (by decide +kernel) (Nat.le_of_ble_eq_true rfl) (Nat.le_of_ble_eq_true rfl) (Nat.le_of_ble_eq_true rfl) dX6_init_26 (fun q_3 H w => ?_)
  have w : kW g A s [xO o 6 [.ref q_1, .ref q_2, .null, .null, .int 0, .null, .int 0, .null, .int 0, .int 0, .int 0, .int 0, .int 0, .int 0, .int 0, .int 0, .int 0, .int 0], xI g q_1 288 (fun _ => 0), xI g q_2 288 (fun _ => 0), xI g q_3 288 (fun _ => 0)] H locs := w
  refine kputF (fs := [.ref q_1, .ref q_2, .null, .null, .int 0, .null, .int 0, .null, .int 0, .int 0, .int 0, .int 0, .int 0, .int 0, .int 0, .int 0, .int 0, .int 0]) F w in_X6_init_X6 tyX6_ok nmX6 0 rfl rfl 2 (by decide) (by decide +kernel) rfl rfl hnm rfl (rfl) (rfl) (Nat.le_of_ble_eq_true rfl) (wn := [xO o 6 [.ref q_1, .ref q_2, .ref q_3, .null, .int 0, .null, .int 0, .null, .int 0, .int 0, .int 0, .int 0, .int 0, .int 0, .int 0, .int 0, .int 0, .int 0], xI g q_1 288 (fun _ => 0), xI g q_2 288 (fun _ => 0), xI g q_3 288 (fun _ => 0)]) rfl dX6_init_28 (fun H locs w => ?_)
  refine lv_aload_n hx hb dX6_init_31 rfl (lv_at hl 0 rfl) ?_
  refine lv_sipush (v := nI 288) hx hb dX6_init_32 (by decide) ?_
  refine knewI (N := 288) F w (by decide +kernel) (by decide) (by decide +kernel) (Nat.le_of_ble_eq_true rfl) (Nat.le_of_ble_eq_true rfl) (Nat.le_of_ble_eq_true rfl) dX6_init_35 (fun q_4 H w => ?_)
  have w : kW g A s [xO o 6 [.ref q_1, .ref q_2, .ref q_3, .null, .int 0, .null, .int 0, .null, .int 0, .int 0, .int 0, .int 0, .int 0, .int 0, .int 0, .int 0, .int 0, .int 0], xI g q_1 288 (fun _ => 0), xI g q_2 288 (fun _ => 0), xI g q_3 288 (fun _ => 0), xI g q_4 288 (fun _ => 0)] H locs := w
  refine kputF (fs := [.ref q_1, .ref q_2, .ref q_3, .null, .int 0, .null, .int 0, .null, .int 0, .int 0, .int 0, .int 0, .int 0, .int 0, .int 0, .int 0, .int 0, .int 0]) F w in_X6_init_X6 tyX6_ok nmX6 0 rfl rfl 3 (by decide) (by decide +kernel) rfl rfl hnm rfl (rfl) (rfl) (Nat.le_of_ble_eq_true rfl) (wn := [xO o 6 [.ref q_1, .ref q_2, .ref q_3, .ref q_4, .int 0, .null, .int 0, .null, .int 0, .int 0, .int 0, .int 0, .int 0, .int 0, .int 0, .int 0, .int 0, .int 0], xI g q_1 288 (fun _ => 0), xI g q_2 288 (fun _ => 0), xI g q_3 288 (fun _ => 0), xI g q_4 288 (fun _ => 0)]) rfl dX6_init_37 (fun H locs w => ?_)
  refine lv_aload_n hx hb dX6_init_40 rfl (lv_at hl 0 rfl) ?_
  refine lv_sipush (v := nI 1152) hx hb dX6_init_41 (by decide) ?_
  refine knewI (N := 1152) F w (by decide +kernel) (by decide) (by decide +kernel) (Nat.le_of_ble_eq_true rfl) (Nat.le_of_ble_eq_true rfl) (Nat.le_of_ble_eq_true rfl) dX6_init_44 (fun q_5 H w => ?_)
  have w : kW g A s [xO o 6 [.ref q_1, .ref q_2, .ref q_3, .ref q_4, .int 0, .null, .int 0, .null, .int 0, .int 0, .int 0, .int 0, .int 0, .int 0, .int 0, .int 0, .int 0, .int 0], xI g q_1 288 (fun _ => 0), xI g q_2 288 (fun _ => 0), xI g q_3 288 (fun _ => 0), xI g q_4 288 (fun _ => 0), xI g q_5 1152 (fun _ => 0)] H locs := w
  refine kputF (fs := [.ref q_1, .ref q_2, .ref q_3, .ref q_4, .int 0, .null, .int 0, .null, .int 0, .int 0, .int 0, .int 0, .int 0, .int 0, .int 0, .int 0, .int 0, .int 0]) F w in_X6_init_X6 tyX6_ok nmX6 0 rfl rfl 5 (by decide) (by decide +kernel) rfl rfl hnm rfl (rfl) (rfl) (Nat.le_of_ble_eq_true rfl) (wn := [xO o 6 [.ref q_1, .ref q_2, .ref q_3, .ref q_4, .int 0, .ref q_5, .int 0, .null, .int 0, .int 0, .int 0, .int 0, .int 0, .int 0, .int 0, .int 0, .int 0, .int 0], xI g q_1 288 (fun _ => 0), xI g q_2 288 (fun _ => 0), xI g q_3 288 (fun _ => 0), xI g q_4 288 (fun _ => 0), xI g q_5 1152 (fun _ => 0)]) rfl dX6_init_46 (fun H locs w => ?_)
  refine lv_aload_n hx hb dX6_init_49 rfl (lv_at hl 0 rfl) ?_
  refine lv_bipush (v := nI 60) hx hb dX6_init_50 (by decide) ?_
  refine knewI (N := 60) F w (by decide +kernel) (by decide) (by decide +kernel) (Nat.le_of_ble_eq_true rfl) (Nat.le_of_ble_eq_true rfl) (Nat.le_of_ble_eq_true rfl) dX6_init_52 (fun q_6 H w => ?_)
  have w : kW g A s [xO o 6 [.ref q_1, .ref q_2, .ref q_3, .ref q_4, .int 0, .ref q_5, .int 0, .null, .int 0, .int 0, .int 0, .int 0, .int 0, .int 0, .int 0, .int 0, .int 0, .int 0], xI g q_1 288 (fun _ => 0), xI g q_2 288 (fun _ => 0), xI g q_3 288 (fun _ => 0), xI g q_4 288 (fun _ => 0), xI g q_5 1152 (fun _ => 0), xI g q_6 60 (fun _ => 0)] H locs := w
  refine kputF (fs := [.ref q_1, .ref q_2, .ref q_3, .ref q_4, .int 0, .ref q_5, .int 0, .null, .int 0, .int 0, .int 0, .int 0, .int 0, .int 0, .int 0, .int 0, .int 0, .int 0]) F w in_X6_init_X6 tyX6_ok nmX6 0 rfl rfl 7 (by decide) (by decide +kernel) rfl rfl hnm rfl (rfl) (rfl) (Nat.le_of_ble_eq_true rfl) (wn := [xO o 6 [.ref q_1, .ref q_2, .ref q_3, .ref q_4, .int 0, .ref q_5, .int 0, .ref q_6, .int 0, .int 0, .int 0, .int 0, .int 0, .int 0, .int 0, .int 0, .int 0, .int 0], xI g q_1 288 (fun _ => 0), xI g q_2 288 (fun _ => 0), xI g q_3 288 (fun _ => 0), xI g q_4 288 (fun _ => 0), xI g q_5 1152 (fun _ => 0), xI g q_6 60 (fun _ => 0)]) rfl dX6_init_54 (fun H locs w => ?_)
  have w : kW g A s [xO o 6 [.ref q_1, .ref q_2, .ref q_3, .ref q_4, .int 0, .ref q_5, .int 0, .ref q_6, .int 0, .int 0, .int 0, .int 0, .int 0, .int 0, .int 0, .int 0, .int 0, .int 0], xI g q_1 288 (enc sg0), xI g q_2 288 (fun _ => 0), xI g q_3 288 (fun _ => 0), xI g q_4 288 (fun _ => 0), xI g q_5 1152 (fun _ => 0), xI g q_6 60 (fun _ => 0)] H locs := kW.arr w 1 rfl (fun j hj => (enc_sg0 j).symm) rfl
  have w : kW g A s [xO o 6 [.ref q_1, .ref q_2, .ref q_3, .ref q_4, .int 0, .ref q_5, .int 0, .ref q_6, .int 0, .int 0, .int 0, .int 0, .int 0, .int 0, .int 0, .int 0, .int 0, .int 0], xI g q_1 288 (enc sg0), xI g q_2 288 (fun _ => 0), xI g q_3 288 (fun _ => 0), xI g q_4 288 (enc sg0), xI g q_5 1152 (fun _ => 0), xI g q_6 60 (fun _ => 0)] H locs := kW.arr w 4 rfl (fun j hj => (enc_sg0 j).symm) rfl
  have w : kW g A s [xO o 6 [.ref q_1, .ref q_2, .ref q_3, .ref q_4, .int 0, .ref q_5, .int 0, .ref q_6, .int 0, .int 0, .int 0, .int 0, .int 0, .int 0, .int 0, .int 0, .int 0, .int 0], xI g q_1 288 (enc sg0), xI g q_2 288 (fun _ => 0), xI g q_3 288 (fun _ => 0), xI g q_4 288 (enc sg0), xI g q_5 1152 (pst sgs), xI g q_6 60 (fun _ => 0)] H locs := kW.arr w 5 rfl (fun j hj => (pst_sgs j).symm) rfl
  have w : kW g A s [cM (vl [o, q_1, q_2, q_3, q_4, q_5, q_6]) false 0 0 0 0 0 false 0 0 0 0 0, xI g ((vl [o, q_1, q_2, q_3, q_4, q_5, q_6]) 1) 288 (enc sg0), xI g ((vl [o, q_1, q_2, q_3, q_4, q_5, q_6]) 2) 288 (fun _ => 0), xI g ((vl [o, q_1, q_2, q_3, q_4, q_5, q_6]) 3) 288 (fun _ => 0), xI g ((vl [o, q_1, q_2, q_3, q_4, q_5, q_6]) 4) 288 (enc sg0), xI g ((vl [o, q_1, q_2, q_3, q_4, q_5, q_6]) 5) 1152 (pst sgs), xI g ((vl [o, q_1, q_2, q_3, q_4, q_5, q_6]) 6) 60 (fun _ => 0)] H locs := kW.perm w [0, 1, 2, 3, 4, 5, 6] rfl rfl
  subst hA
  subst hQ
  exact kretv F w (vl [o, q_1, q_2, q_3, q_4, q_5, q_6]) [0, 1, 2, 3, 4, 5, 6] rfl rfl (rfl) (Nat.le_of_ble_eq_true rfl) (Nat.le_of_ble_eq_true rfl) dX6_init_57
set_option maxHeartbeats 4000000 in
set_option maxRecDepth 100000 in
theorem law_loop {p : Program} {l : Launch} {e : Env} {s : State} {m : MethodId} {args : Array Value} {below : List Frame} {meth : Method} {c : Code} {Q : State → Prop} {g : GG} {A : Nat → Prop} {b n0 x ot : Nat} {φ μ : Nat → Nat} {xs : Nat → Int32} (hnl : l.stackTraces = false) (F : kF p m c code 9 s args wsL_law RL meth ret g A) (hX : va_X b n0 xs s s.heap) (hbl : b < s.heap.size) (hbA : ¬ A b) (hn0 : n0 ≤ 1536)
    (hend : ∀ (H : Heap) (locs : List Loc) (ls : Array Slot), (∀ z ∈ locs, A z.base) → W p l e room_1 s m args below meth c H locs 601024 7293034 Q (F0 m 1912 ls [])) :
    ∀ (fu j : Nat) (tk : Bool) (σ : Sg) (kn : Nat) (ρ α β : Nat → Nat) (γ : Nat → Sg) (κ : Sg) (L : Nat) (T : Nat → Int32) (os po rz cz : Nat) (τ : Sg) (vb : Int32) (n1 n2 nm en : Nat) (th sp bg : Nat) (fm : Bool) (le : Int32) (fi se re ca : Nat) (B D : Nat → Int32) (f : Nat → Int64) (H : Heap) (locs : List Loc) (ls : Array Slot), n0 + 3 - 3 * j < fu → 3 * j ≤ n0 + 2 → kn ≤ 4 → L ≤ 60 → kW g A s (LWd g x φ μ ot tk σ kn ρ α β γ κ L T os po rz cz τ vb n1 n2 nm en th sp bg fm le fi se re ca B D f) H locs → lv_has ls 9 [(4, .int (nI (3 * j))), (3, .ref ot), (2, .ref (μ 0)), (1, .ref x), (0, .ref b)] → W p l e room_1 s m args below meth c H locs (36 + j) (3203 + 6 * j) Q (F0 m 23 ls []) := by
  have hx := F.1.1
  have hb := F.1.2.1
  intro fu
  induction fu with
  | zero => intro j tk σ kn ρ α β γ κ L T os po rz cz τ vb n1 n2 nm en th sp bg fm le fi se re ca B D f H locs ls hlt; omega
  | succ fu ih =>
    intro j tk σ kn ρ α β γ κ L T os po rz cz τ vb n1 n2 nm en th sp bg fm le fi se re ca B D f H locs ls hlt hj hkn hL w hl
    refine lv_iload hx hb dL_law_23 (lv_at hl 0 rfl) ?_
    refine lv_aload_n hx hb dL_law_25 rfl (lv_at hl 4 rfl) ?_
    refine va_slen hx hb hX hbl hbA w.2.2 dL_law_26 ?_
    refine lv_iconst (v := nI 3) hx hb dL_law_27 (by decide) ?_
    refine lv_isub hx hb dL_law_28 ?_
    have h3 := sub3 hn0
    refine lv_icmp_gt (tgt := 1912) hx hb dL_law_29 (by decide) (fun h => ?_) (fun h => ?_)
    · exact W.widen (k := 601024) (n := 7293034) (by omega) (by omega) (hend _ _ _ w.2.2.2.2)
    have hi : 3 * j + 2 < n0 := by
      have a1 := ki_n (show 3 * j < 2147483648 by omega)
      have h9 : ¬ (nI n0 - nI 3).toInt < (nI (3 * j)).toInt := fun hc => h (ki_lt.mpr hc)
      rw [h3, a1] at h9
      omega
    refine lv_aload_n hx hb dL_law_32 rfl (lv_at hl 4 rfl) ?_
    refine lv_iload hx hb dL_law_33 (lv_at hl 0 rfl) ?_
    refine kscr (v := xs (3 * j)) F w hX hbl hbA (by omega) (by omega) rfl dL_law_35 ?_
    refine lv_bipush (v := nI 63) hx hb dL_law_36 (by decide) ?_
    refine lv_iand hx hb dL_law_38 ?_
    obtain ⟨k, hk, ek⟩ := land63 (xs (3 * j))
    refine ktopi (y := nI k) ek ?_
    have kk : LI g A s b (3 * j) x φ μ ot (fun H locs ls => W p l e room_1 s m args below meth c H locs (36 + j + 1) (3203 + 6 * j + 6) Q (F0 m 1906 ls [])) := by
      intro tk σ kn ρ α β γ κ L T os po rz cz τ vb n1 n2 nm en th sp bg fm le fi se re ca B D f H locs ls hkn hL w hl
      refine lv_iinc (v := nI (3 * j + 3)) (lv' := [(4, .int (nI (3 * j + 3))), (3, .ref ot), (2, .ref (μ 0)), (1, .ref x), (0, .ref b)]) hx hb dL_law_1906 hl (k := 0) rfl (nI_add (3 * j) 3) (by decide) rfl (fun ls hl => ?_)
      refine lv_goto (tgt := 23) hx hb dL_law_1909 (by decide) ?_
      refine W.widen (k := 36 + (j + 1)) (n := 3203 + 6 * (j + 1)) (by omega) (by omega) ?_
      exact ih (j + 1) tk σ kn ρ α β γ κ L T os po rz cz τ vb n1 n2 nm en th sp bg fm le fi se re ca B D f H locs ls (by omega) (by omega) hkn hL w hl
    rcases (show k = 0 ∨ k = 1 ∨ k = 2 ∨ k = 3 ∨ k = 4 ∨ k = 5 ∨ k = 6 ∨ k = 7 ∨ k = 8 ∨ k = 9 ∨ k = 10 ∨ k = 11 ∨ k = 12 ∨ k = 13 ∨ k = 14 ∨ k = 15 ∨ k = 16 ∨ k = 17 ∨ k = 18 ∨ k = 19 ∨ k = 20 ∨ k = 21 ∨ k = 22 ∨ k = 23 ∨ k = 24 ∨ k = 25 ∨ k = 26 ∨ k = 27 ∨ k = 28 ∨ k = 29 ∨ k = 30 ∨ k = 31 ∨ k = 32 ∨ k = 33 ∨ k = 34 ∨ k = 35 ∨ k = 36 ∨ k = 37 ∨ k = 38 ∨ k = 39 ∨ k = 40 ∨ 41 ≤ k by omega) with rfl | rfl | rfl | rfl | rfl | rfl | rfl | rfl | rfl | rfl | rfl | rfl | rfl | rfl | rfl | rfl | rfl | rfl | rfl | rfl | rfl | rfl | rfl | rfl | rfl | rfl | rfl | rfl | rfl | rfl | rfl | rfl | rfl | rfl | rfl | rfl | rfl | rfl | rfl | rfl | rfl | hk41
    · refine lv_tableIn (off := 177) (tgt := 216) hx hb dL_law_39 (by decide +kernel) (by decide +kernel) (by decide +kernel) (by decide +kernel) ?_
      exact LC_pass hnl F hX hbl hbA (by omega) hn0 (by omega) (by omega) tk σ kn ρ α β γ κ L T os po rz cz τ vb n1 n2 nm en th sp bg fm le fi se re ca B D f hkn hL w hl kk
    · refine lv_tableIn (off := 233) (tgt := 272) hx hb dL_law_39 (by decide +kernel) (by decide +kernel) (by decide +kernel) (by decide +kernel) ?_
      exact LC_passRow hnl F hX hbl hbA (by omega) hn0 (by omega) (by omega) tk σ kn ρ α β γ κ L T os po rz cz τ vb n1 n2 nm en th sp bg fm le fi se re ca B D f hkn hL w hl kk
    · refine lv_tableIn (off := 301) (tgt := 340) hx hb dL_law_39 (by decide +kernel) (by decide +kernel) (by decide +kernel) (by decide +kernel) ?_
      exact LC_turnDoor hnl F hX hbl hbA (by omega) hn0 (by omega) (by omega) tk σ kn ρ α β γ κ L T os po rz cz τ vb n1 n2 nm en th sp bg fm le fi se re ca B D f hkn hL w hl kk
    · refine lv_tableIn (off := 364) (tgt := 403) hx hb dL_law_39 (by decide +kernel) (by decide +kernel) (by decide +kernel) (by decide +kernel) ?_
      exact LC_turnLock hnl F hX hbl hbA (by omega) hn0 (by omega) (by omega) tk σ kn ρ α β γ κ L T os po rz cz τ vb n1 n2 nm en th sp bg fm le fi se re ca B D f hkn hL w hl kk
    · refine lv_tableIn (off := 427) (tgt := 466) hx hb dL_law_39 (by decide +kernel) (by decide +kernel) (by decide +kernel) (by decide +kernel) ?_
      exact LC_turnSkip hnl F hX hbl hbA (by omega) hn0 (by omega) (by omega) tk σ kn ρ α β γ κ L T os po rz cz τ vb n1 n2 nm en th sp bg fm le fi se re ca B D f hkn hL w hl kk
    · refine lv_tableIn (off := 490) (tgt := 529) hx hb dL_law_39 (by decide +kernel) (by decide +kernel) (by decide +kernel) (by decide +kernel) ?_
      exact LC_store hnl F hX hbl hbA (by omega) hn0 (by omega) (by omega) tk σ kn ρ α β γ κ L T os po rz cz τ vb n1 n2 nm en th sp bg fm le fi se re ca B D f hkn hL w hl kk
    · refine lv_tableIn (off := 558) (tgt := 597) hx hb dL_law_39 (by decide +kernel) (by decide +kernel) (by decide +kernel) (by decide +kernel) ?_
      exact LC_takeOut hnl F hX hbl hbA (by omega) hn0 (by omega) (by omega) tk σ kn ρ α β γ κ L T os po rz cz τ vb n1 n2 nm en th sp bg fm le fi se re ca B D f hkn hL w hl kk
    · refine lv_tableIn (off := 614) (tgt := 653) hx hb dL_law_39 (by decide +kernel) (by decide +kernel) (by decide +kernel) (by decide +kernel) ?_
      exact LC_isOpen hnl F hX hbl hbA (by omega) hn0 (by omega) (by omega) tk σ kn ρ α β γ κ L T os po rz cz τ vb n1 n2 nm en th sp bg fm le fi se re ca B D f hkn hL w hl kk
    · refine lv_tableIn (off := 677) (tgt := 716) hx hb dL_law_39 (by decide +kernel) (by decide +kernel) (by decide +kernel) (by decide +kernel) ?_
      exact LC_isLocked hnl F hX hbl hbA (by omega) hn0 (by omega) (by omega) tk σ kn ρ α β γ κ L T os po rz cz τ vb n1 n2 nm en th sp bg fm le fi se re ca B D f hkn hL w hl kk
    · refine lv_tableIn (off := 740) (tgt := 779) hx hb dL_law_39 (by decide +kernel) (by decide +kernel) (by decide +kernel) (by decide +kernel) ?_
      exact LC_turnsOf hnl F hX hbl hbA (by omega) hn0 (by omega) (by omega) tk σ kn ρ α β γ κ L T os po rz cz τ vb n1 n2 nm en th sp bg fm le fi se re ca B D f hkn hL w hl kk
    · refine lv_tableIn (off := 796) (tgt := 835) hx hb dL_law_39 (by decide +kernel) (by decide +kernel) (by decide +kernel) (by decide +kernel) ?_
      exact LC_isSkipped hnl F hX hbl hbA (by omega) hn0 (by omega) (by omega) tk σ kn ρ α β γ κ L T os po rz cz τ vb n1 n2 nm en th sp bg fm le fi se re ca B D f hkn hL w hl kk
    · refine lv_tableIn (off := 859) (tgt := 898) hx hb dL_law_39 (by decide +kernel) (by decide +kernel) (by decide +kernel) (by decide +kernel) ?_
      exact LC_timesOf hnl F hX hbl hbA (by omega) hn0 (by omega) (by omega) tk σ kn ρ α β γ κ L T os po rz cz τ vb n1 n2 nm en th sp bg fm le fi se re ca B D f hkn hL w hl kk
    · refine lv_tableIn (off := 915) (tgt := 954) hx hb dL_law_39 (by decide +kernel) (by decide +kernel) (by decide +kernel) (by decide +kernel) ?_
      exact LC_divisorsOf hnl F hX hbl hbA (by omega) hn0 (by omega) (by omega) tk σ kn ρ α β γ κ L T os po rz cz τ vb n1 n2 nm en th sp bg fm le fi se re ca B D f hkn hL w hl kk
    · refine lv_tableIn (off := 971) (tgt := 1010) hx hb dL_law_39 (by decide +kernel) (by decide +kernel) (by decide +kernel) (by decide +kernel) ?_
      exact LC_openDoors hnl F hX hbl hbA (by omega) hn0 (by omega) (by omega) tk σ kn ρ α β γ κ L T os po rz cz τ vb n1 n2 nm en th sp bg fm le fi se re ca B D f hkn hL w hl kk
    · refine lv_tableIn (off := 984) (tgt := 1023) hx hb dL_law_39 (by decide +kernel) (by decide +kernel) (by decide +kernel) (by decide +kernel) ?_
      exact LC_openByTurns hnl F hX hbl hbA (by omega) hn0 (by omega) (by omega) tk σ kn ρ α β γ κ L T os po rz cz τ vb n1 n2 nm en th sp bg fm le fi se re ca B D f hkn hL w hl kk
    · refine lv_tableIn (off := 997) (tgt := 1036) hx hb dL_law_39 (by decide +kernel) (by decide +kernel) (by decide +kernel) (by decide +kernel) ?_
      exact LC_openSet hnl F hX hbl hbA (by omega) hn0 (by omega) (by omega) tk σ kn ρ α β γ κ L T os po rz cz τ vb n1 n2 nm en th sp bg fm le fi se re ca B D f hkn hL w hl kk
    · refine lv_tableIn (off := 1011) (tgt := 1050) hx hb dL_law_39 (by decide +kernel) (by decide +kernel) (by decide +kernel) (by decide +kernel) ?_
      exact LC_nextOpen hnl F hX hbl hbA (by omega) hn0 (by omega) (by omega) tk σ kn ρ α β γ κ L T os po rz cz τ vb n1 n2 nm en th sp bg fm le fi se re ca B D f hkn hL w hl kk
    · refine lv_tableIn (off := 1067) (tgt := 1106) hx hb dL_law_39 (by decide +kernel) (by decide +kernel) (by decide +kernel) (by decide +kernel) ?_
      exact LC_closingPasses hnl F hX hbl hbA (by omega) hn0 (by omega) (by omega) tk σ kn ρ α β γ κ L T os po rz cz τ vb n1 n2 nm en th sp bg fm le fi se re ca B D f hkn hL w hl kk
    · refine lv_tableIn (off := 1081) (tgt := 1120) hx hb dL_law_39 (by decide +kernel) (by decide +kernel) (by decide +kernel) (by decide +kernel) ?_
      exact LC_closingByDivisors hnl F hX hbl hbA (by omega) hn0 (by omega) (by omega) tk σ kn ρ α β γ κ L T os po rz cz τ vb n1 n2 nm en th sp bg fm le fi se re ca B D f hkn hL w hl kk
    · refine lv_tableIn (off := 1095) (tgt := 1134) hx hb dL_law_39 (by decide +kernel) (by decide +kernel) (by decide +kernel) (by decide +kernel) ?_
      exact LC_passesToClose hnl F hX hbl hbA (by omega) hn0 (by omega) (by omega) tk σ kn ρ α β γ κ L T os po rz cz τ vb n1 n2 nm en th sp bg fm le fi se re ca B D f hkn hL w hl kk
    · refine lv_tableIn (off := 1108) (tgt := 1147) hx hb dL_law_39 (by decide +kernel) (by decide +kernel) (by decide +kernel) (by decide +kernel) ?_
      exact LC_wouldBeOpen hnl F hX hbl hbA (by omega) hn0 (by omega) (by omega) tk σ kn ρ α β γ κ L T os po rz cz τ vb n1 n2 nm en th sp bg fm le fi se re ca B D f hkn hL w hl kk
    · refine lv_tableIn (off := 1176) (tgt := 1215) hx hb dL_law_39 (by decide +kernel) (by decide +kernel) (by decide +kernel) (by decide +kernel) ?_
      exact LC_bestPass hnl F hX hbl hbA (by omega) hn0 (by omega) (by omega) tk σ kn ρ α β γ κ L T os po rz cz τ vb n1 n2 nm en th sp bg fm le fi se re ca B D f hkn hL w hl kk
    · refine lv_tableIn (off := 1189) (tgt := 1228) hx hb dL_law_39 (by decide +kernel) (by decide +kernel) (by decide +kernel) (by decide +kernel) ?_
      exact LC_whyNot hnl F hX hbl hbA (by omega) hn0 (by omega) (by omega) tk σ kn ρ α β γ κ L T os po rz cz τ vb n1 n2 nm en th sp bg fm le fi se re ca B D f hkn hL w hl kk
    · refine lv_tableIn (off := 1257) (tgt := 1296) hx hb dL_law_39 (by decide +kernel) (by decide +kernel) (by decide +kernel) (by decide +kernel) ?_
      exact LC_thingAt hnl F hX hbl hbA (by omega) hn0 (by omega) (by omega) tk σ kn ρ α β γ κ L T os po rz cz τ vb n1 n2 nm en th sp bg fm le fi se re ca B D f hkn hL w hl kk
    · refine lv_tableIn (off := 1313) (tgt := 1352) hx hb dL_law_39 (by decide +kernel) (by decide +kernel) (by decide +kernel) (by decide +kernel) ?_
      exact LC_thingsOf hnl F hX hbl hbA (by omega) hn0 (by omega) (by omega) tk σ kn ρ α β γ κ L T os po rz cz τ vb n1 n2 nm en th sp bg fm le fi se re ca B D f hkn hL w hl kk
    · refine lv_tableIn (off := 1369) (tgt := 1408) hx hb dL_law_39 (by decide +kernel) (by decide +kernel) (by decide +kernel) (by decide +kernel) ?_
      exact LC_shutAway hnl F hX hbl hbA (by omega) hn0 (by omega) (by omega) tk σ kn ρ α β γ κ L T os po rz cz τ vb n1 n2 nm en th sp bg fm le fi se re ca B D f hkn hL w hl kk
    · refine lv_tableIn (off := 1382) (tgt := 1421) hx hb dL_law_39 (by decide +kernel) (by decide +kernel) (by decide +kernel) (by decide +kernel) ?_
      exact LC_share hnl F hX hbl hbA (by omega) hn0 (by omega) (by omega) tk σ kn ρ α β γ κ L T os po rz cz τ vb n1 n2 nm en th sp bg fm le fi se re ca B D f hkn hL w hl kk
    · refine lv_tableIn (off := 1425) (tgt := 1464) hx hb dL_law_39 (by decide +kernel) (by decide +kernel) (by decide +kernel) (by decide +kernel) ?_
      exact LC_shareBits hnl F hX hbl hbA (by omega) hn0 (by omega) (by omega) tk σ kn ρ α β γ κ L T os po rz cz τ vb n1 n2 nm en th sp bg fm le fi se re ca B D f hkn hL w hl kk
    · refine lv_tableIn (off := 1438) (tgt := 1477) hx hb dL_law_39 (by decide +kernel) (by decide +kernel) (by decide +kernel) (by decide +kernel) ?_
      exact LC_sumOfParts hnl F hX hbl hbA (by omega) hn0 (by omega) (by omega) tk σ kn ρ α β γ κ L T os po rz cz τ vb n1 n2 nm en th sp bg fm le fi se re ca B D f hkn hL w hl kk
    · refine lv_tableIn (off := 1481) (tgt := 1520) hx hb dL_law_39 (by decide +kernel) (by decide +kernel) (by decide +kernel) (by decide +kernel) ?_
      exact LC_sumBits hnl F hX hbl hbA (by omega) hn0 (by omega) (by omega) tk σ kn ρ α β γ κ L T os po rz cz τ vb n1 n2 nm en th sp bg fm le fi se re ca B D f hkn hL w hl kk
    · refine lv_tableIn (off := 1495) (tgt := 1534) hx hb dL_law_39 (by decide +kernel) (by decide +kernel) (by decide +kernel) (by decide +kernel) ?_
      exact LC_turnsInAll hnl F hX hbl hbA (by omega) hn0 (by omega) (by omega) tk σ kn ρ α β γ κ L T os po rz cz τ vb n1 n2 nm en th sp bg fm le fi se re ca B D f hkn hL w hl kk
    · refine lv_tableIn (off := 1508) (tgt := 1547) hx hb dL_law_39 (by decide +kernel) (by decide +kernel) (by decide +kernel) (by decide +kernel) ?_
      exact LC_keep hnl F hX hbl hbA (by omega) hn0 (by omega) (by omega) tk σ kn ρ α β γ κ L T os po rz cz τ vb n1 n2 nm en th sp bg fm le fi se re ca B D f hkn hL w hl kk
    · refine lv_tableIn (off := 1521) (tgt := 1560) hx hb dL_law_39 (by decide +kernel) (by decide +kernel) (by decide +kernel) (by decide +kernel) ?_
      exact LC_goBack hnl F hX hbl hbA (by omega) hn0 (by omega) (by omega) tk σ kn ρ α β γ κ L T os po rz cz τ vb n1 n2 nm en th sp bg fm le fi se re ca B D f hkn hL w hl kk
    · refine lv_tableIn (off := 1565) (tgt := 1604) hx hb dL_law_39 (by decide +kernel) (by decide +kernel) (by decide +kernel) (by decide +kernel) ?_
      exact LC_states hnl F hX hbl hbA (by omega) hn0 (by omega) (by omega) tk σ kn ρ α β γ κ L T os po rz cz τ vb n1 n2 nm en th sp bg fm le fi se re ca B D f hkn hL w hl kk
    · refine lv_tableIn (off := 1578) (tgt := 1617) hx hb dL_law_39 (by decide +kernel) (by decide +kernel) (by decide +kernel) (by decide +kernel) ?_
      exact LC_undo hnl F hX hbl hbA (by omega) hn0 (by omega) (by omega) tk σ kn ρ α β γ κ L T os po rz cz τ vb n1 n2 nm en th sp bg fm le fi se re ca B D f hkn hL w hl kk
    · refine lv_tableIn (off := 1622) (tgt := 1661) hx hb dL_law_39 (by decide +kernel) (by decide +kernel) (by decide +kernel) (by decide +kernel) ?_
      exact LC_type hnl F hX hbl hbA (by omega) hn0 (by omega) (by omega) tk σ kn ρ α β γ κ L T os po rz cz τ vb n1 n2 nm en th sp bg fm le fi se re ca B D f hkn hL w hl kk
    · refine lv_tableIn (off := 1678) (tgt := 1717) hx hb dL_law_39 (by decide +kernel) (by decide +kernel) (by decide +kernel) (by decide +kernel) ?_
      exact LC_clearText hnl F hX hbl hbA (by omega) hn0 (by omega) (by omega) tk σ kn ρ α β γ κ L T os po rz cz τ vb n1 n2 nm en th sp bg fm le fi se re ca B D f hkn hL w hl kk
    · refine lv_tableIn (off := 1691) (tgt := 1730) hx hb dL_law_39 (by decide +kernel) (by decide +kernel) (by decide +kernel) (by decide +kernel) ?_
      exact LC_faultPosition hnl F hX hbl hbA (by omega) hn0 (by omega) (by omega) tk σ kn ρ α β γ κ L T os po rz cz τ vb n1 n2 nm en th sp bg fm le fi se re ca B D f hkn hL w hl kk
    · refine lv_tableIn (off := 1735) (tgt := 1774) hx hb dL_law_39 (by decide +kernel) (by decide +kernel) (by decide +kernel) (by decide +kernel) ?_
      exact LC_faultReason hnl F hX hbl hbA (by omega) hn0 (by omega) (by omega) tk σ kn ρ α β γ κ L T os po rz cz τ vb n1 n2 nm en th sp bg fm le fi se re ca B D f hkn hL w hl kk
    · refine lv_tableIn (off := 1779) (tgt := 1818) hx hb dL_law_39 (by decide +kernel) (by decide +kernel) (by decide +kernel) (by decide +kernel) ?_
      exact LC_faultCause hnl F hX hbl hbA (by omega) hn0 (by omega) (by omega) tk σ kn ρ α β γ κ L T os po rz cz τ vb n1 n2 nm en th sp bg fm le fi se re ca B D f hkn hL w hl kk
    · refine lv_tableIn (off := 1823) (tgt := 1862) hx hb dL_law_39 (by decide +kernel) (by decide +kernel) (by decide +kernel) (by decide +kernel) ?_
      exact LC_play hnl F hX hbl hbA (by omega) hn0 (by omega) (by omega) tk σ kn ρ α β γ κ L T os po rz cz τ vb n1 n2 nm en th sp bg fm le fi se re ca B D f hkn hL w hl kk
    · refine lv_tableOut (tgt := 1906) hx hb dL_law_39 (Or.inr (by rw [ki_n (by omega)]; omega)) (by decide +kernel) ?_
      exact W.widen (k := 36 + j + 1) (n := 3203 + 6 * j + 6) (by omega) (by omega) (kk tk σ kn ρ α β γ κ L T os po rz cz τ vb n1 n2 nm en th sp bg fm le fi se re ca B D f H locs ls hkn hL w hl)

