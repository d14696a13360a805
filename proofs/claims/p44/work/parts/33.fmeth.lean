/-! ===== the methods that answer floats, or their bits ===== -/
theorem d_pos {x t : Nat} (op : CmpOp) (h1 : 1 ≤ x) (hx : x ≤ 2046) (ht : t < 2 ^ 52) : Op.cmpValue (FP.dcmp (dET x t) FP.dconst0) op = nI 1 :=
  d_gt op (dET_ne h1 hx ht) (by decide +kernel) (by rw [dET_n hx ht]; omega) (by decide +kernel) (by rw [dET_n hx ht, show FP.dconst0.toNat = 0 from by decide +kernel]; omega)
theorem d1c_n : FP.dconst1.toNat = 1023 * 2 ^ 52 := by decide +kernel
theorem d2c_n : d2c.toNat = 1024 * 2 ^ 52 := by decide +kernel
theorem d1c_ne : FP.Core.val64 FP.dconst1 ≠ .nan := by decide +kernel
theorem d2c_ne : FP.Core.val64 d2c ≠ .nan := by decide +kernel
theorem d_lt1 {x t : Nat} (op : CmpOp) (h1 : 1 ≤ x) (hx : x < 1023) (ht : t < 2 ^ 52) : Op.cmpValue (FP.dcmp (dET x t) FP.dconst1) op = (-1) :=
  d_lt op (dET_ne h1 (by omega) ht) d1c_ne (by rw [dET_n (by omega) ht]; omega) (by rw [d1c_n]; decide) (by rw [dET_n (by omega) ht, d1c_n]; omega)
theorem d_lt2 {x t : Nat} (op : CmpOp) (h1 : 1 ≤ x) (hx : x < 1024) (ht : t < 2 ^ 52) : Op.cmpValue (FP.dcmp (dET x t) d2c) op = (-1) :=
  d_lt op (dET_ne h1 (by omega) ht) d2c_ne (by rw [dET_n (by omega) ht]; omega) (by rw [d2c_n]; decide) (by rw [dET_n (by omega) ht, d2c_n]; omega)
theorem d_ge1 {x t : Nat} (op : CmpOp) (h1 : 1023 ≤ x) (hx : x ≤ 2046) (ht : t < 2 ^ 52) : ∃ k, k ≤ 1 ∧ Op.cmpValue (FP.dcmp (dET x t) FP.dconst1) op = nI k := by
  by_cases h : x * 2 ^ 52 + t = 1023 * 2 ^ 52
  · exact ⟨0, by decide, d_eq op (dET_ne (by omega) hx ht) d1c_ne (by rw [dET_n hx ht]; omega) (by rw [d1c_n]; decide) (by rw [dET_n hx ht, d1c_n]; exact h)⟩
  · exact ⟨1, by decide, d_gt op (dET_ne (by omega) hx ht) d1c_ne (by rw [dET_n hx ht]; omega) (by rw [d1c_n]; decide) (by rw [dET_n hx ht, d1c_n]; omega)⟩
theorem d_ge2 {x t : Nat} (op : CmpOp) (h1 : 1024 ≤ x) (hx : x ≤ 2046) (ht : t < 2 ^ 52) : ∃ k, k ≤ 1 ∧ Op.cmpValue (FP.dcmp (dET x t) d2c) op = nI k := by
  by_cases h : x * 2 ^ 52 + t = 1024 * 2 ^ 52
  · exact ⟨0, by decide, d_eq op (dET_ne (by omega) hx ht) d2c_ne (by rw [dET_n hx ht]; omega) (by rw [d2c_n]; decide) (by rw [dET_n hx ht, d2c_n]; exact h)⟩
  · exact ⟨1, by decide, d_gt op (dET_ne (by omega) hx ht) d2c_ne (by rw [dET_n hx ht]; omega) (by rw [d2c_n]; decide) (by rw [dET_n hx ht, d2c_n]; omega)⟩
theorem bits_52 {v : UInt64} {x : Nat} (h : x = v.toNat / 2 ^ 52) (_ : 0 < 1) : lN (x * 2 ^ 52 + v.toNat % 2 ^ 52 * 2 ^ 52 / 2 ^ 52) = v.toInt64 := by
  subst h
  rw [Nat.mul_div_cancel _ (by decide), show v.toNat / 2 ^ 52 * 2 ^ 52 + v.toNat % 2 ^ 52 = v.toNat by omega]
  apply Int64.toBitVec_inj.mp
  rw [wb_tb]
  show BitVec.ofNat 64 v.toBitVec.toNat = v.toBitVec
  simp
/-- as kMet, of a class whose other methods the machine has natives for -/
theorem kMetF {l : Launch} {y : MethodName} {ws ws' : List Cond} {rm : Room} {av : List Value} {g : GG} {w : va_W} {sz : Nat} {Qc : Array Value → State → Outcome → State → Prop} {mc ms : Nat} {cc : ByteArray} {maxL : Nat} {ret : Option FieldType} {own : String}
    (hy : plainFor y = true) (hw : ws = Cond.code y cc maxL ret :: ws') (ho : y.cls = own) (hlen : (lg_sl av).length ≤ maxL)
    (body : ∀ (p : Program) (e : Env) (s : State) (m : MethodId) (args : Array Value) (below : List Frame) (meth : Method) (c : Code) (ls : Array Slot) (Q : State → Prop) (H : Heap) (locs : List Loc) (A : Nat → Prop), kF p m c cc maxL s args ws own meth ret g A → kW g A s w H locs → lv_has ls maxL (lv_args 0 av) → meth.name = y.name → A = va_A w sz → Q = MQ below Qc args s mc ms (va_A w sz) →
      W p l e rm s m args below meth c H locs 0 0 Q (F0 m 0 ls [])) : Met l y ws rm (va_Pc av (kPre g w sz)) Qc mc ms (va_A w sz) := by
  refine MetFree.of_bodySF (code := cc) (maxLocals := maxL) (ret := ret) hy ?_ ?_
  · intro args s m h hn
    obtain ⟨meth, c, h1, h2, h3, h4, h5, h6, -, -⟩ := Cond.code_spec hn (atoms_spec (ws := ws) h _ (by rw [hw]; exact List.mem_cons_self))
    exact ⟨meth, c, h1, h2, h3, h4, h5, h6⟩
  · intro p e s m args below meth c s₁ B hml hv _
    have hh0 : s₁.heap = s.heap := by rw [B.state]; rfl
    obtain ⟨rfl, hsz, hP, hD, hG, hZ⟩ := hv
    subst hsz
    have hl := lv_entry av (n := maxL) hlen
    have hB := body p e s m _ below meth c _ _ s.heap [] _ ⟨⟨B.exec, B.bytes, hml, by rw [← ho]; exact findClass_of_methodNamed B.named, atoms_spec (ws := ws) B.pre⟩, B.returns, B.notSynchronized, hG, hZ, fun q h => Or.inr h⟩ ⟨hP, hD.self, va_S.rf⟩ hl (name_of_methodNamed B.named B.method).1 rfl rfl
    rw [← lg_entry_eq] at hB
    obtain ⟨t, a1, o, b1, b2, b3⟩ := hB s₁ hh0 (Stand.of_body B)
    exact ⟨t, o, a1, b1, b2, b3⟩
abbrev rmX5_bitsOf_0 : Room := { frames := 0, cells := 0, slots := 0, locals := 0 }
set_option maxHeartbeats 4000000 in
set_option maxRecDepth 100000 in
theorem kX5_bitsOf_0 (l : Launch) (g : GG) (v : UInt64) (fb : Nat) (bs : Nat) (sz : Nat) (hv : v = 0) : Met l yX5_bitsOf wsX5_bitsOf rmX5_bitsOf_0 (va_Pc [.double v, .int (nI fb), .int (nI bs)] (kPre g [] sz)) (va_Ql (fun (r : Int64) (u : Unit) => r = 0) (kB g (va_A [] sz) (fun u => [])) (va_A [] sz)) 0 0 (va_A [] sz) := by
  refine kMet (cc := cX5_bitsOf) (maxL := 9) (ret := (some .long)) (own := RX5) (by decide) rfl rfl (Nat.le_of_ble_eq_true rfl) ?_
  intro p e s m args below meth c ls Q H locs A F w hl hnm hA hQ
  have hx := F.1.1
  have hb := F.1.2.1
  have hts := F.1.2.2.2.2
  have hl : lv_has ls 9 [(0, .double v), (2, .int (nI fb)), (3, .int (nI bs))] := hl
  subst hv
  refine lv_dload_n hx hb dX5_bitsOf_0 rfl (lv_at hl 0 rfl) ?_
  refine lv_dconst0 hx hb dX5_bitsOf_1 ?_
  refine lv_dcmp hx hb dX5_bitsOf_2 ?_
  refine ktopi (y := nI 0) (by decide +kernel) ?_
  refine lv_if_gt (tgt := 8) hx hb dX5_bitsOf_3 (by decide) (fun h_1 => ?_) (fun h_1 => ?_)
  · have h_1 : 0 > 0 := (kc0_gt_t (by omega)).mp h_1
    omega
  · have h_1 : 0 ≤ 0 := (kc0_gt_f (by omega)).mp h_1
    refine lv_lconst (v := 0) hx hb dX5_bitsOf_6 (by decide) ?_
    subst hA
    subst hQ
    exact kretl F w () [] rfl rfl (rfl) (Nat.le_of_ble_eq_true rfl) (Nat.le_of_ble_eq_true rfl) dX5_bitsOf_7
abbrev rmX5_bitsOf_l52 : Room := { frames := 1, cells := 0, slots := 0, locals := 20 }
set_option maxHeartbeats 4000000 in
set_option maxRecDepth 100000 in
theorem kX5_bitsOf_l52 (l : Launch) (g : GG) (v : UInt64) (x : Nat) (t : Nat) (sz : Nat) (hv : v = dET x t) (hx9 : 1017 ≤ x ∧ x ≤ 1022) (ht : t < 2 ^ 52) : Met l yX5_bitsOf wsX5_bitsOf rmX5_bitsOf_l52 (va_Pc [.double v, .int (nI 52), .int (nI 1023)] (kPre g [] sz)) (va_Ql (fun (r : Int64) (u : Unit) => r = lN ((1023 - (1023 - x)) * 2 ^ 52 + t * 2 ^ 52 / 2 ^ 52)) (kB g (va_A [] sz) (fun u => [])) (va_A [] sz)) 0 0 (va_A [] sz) := by
  refine kMet (cc := cX5_bitsOf) (maxL := 9) (ret := (some .long)) (own := RX5) (by decide) rfl rfl (Nat.le_of_ble_eq_true rfl) ?_
  intro p e s m args below meth c ls Q H locs A F w hl hnm hA hQ
  have hx := F.1.1
  have hb := F.1.2.1
  have hts := F.1.2.2.2.2
  have hl : lv_has ls 9 [(0, .double v), (2, .int (nI 52)), (3, .int (nI 1023))] := hl
  subst hv
  refine lv_dload_n hx hb dX5_bitsOf_0 rfl (lv_at hl 0 rfl) ?_
  refine lv_dconst0 hx hb dX5_bitsOf_1 ?_
  refine lv_dcmp hx hb dX5_bitsOf_2 ?_
  refine ktopi (y := nI 1) (d_pos .l (by omega) (by omega) ht) ?_
  refine lv_if_gt (tgt := 8) hx hb dX5_bitsOf_3 (by decide) (fun h_1 => ?_) (fun h_1 => ?_)
  · have h_1 : 1 > 0 := (kc0_gt_t (by omega)).mp h_1
    refine lv_dload_n hx hb dX5_bitsOf_8 rfl (lv_at hl 0 rfl) ?_
    refine lv_dstore (lv' := [(4, .double (dET x t)), (0, .double (dET x t)), (2, .int (nI 52)), (3, .int (nI 1023))]) hx hb dX5_bitsOf_9 hl (by decide) rfl (fun ls hl => ?_)
    refine lv_iconst (v := nI 0) hx hb dX5_bitsOf_11 (by decide) ?_
    refine ktopi (y := mI 0) (mI_0) ?_
    refine lv_istore (lv' := [(6, .int (mI 0)), (4, .double (dET x t)), (0, .double (dET x t)), (2, .int (nI 52)), (3, .int (nI 1023))]) hx hb dX5_bitsOf_12 hl (by decide) rfl (fun ls hl => ?_)
    refine lv_iconst (v := nI 0) hx hb dX5_bitsOf_14 (by decide) ?_
    refine lv_istore (lv' := [(7, .int (nI 0)), (6, .int (mI 0)), (4, .double (dET x t)), (0, .double (dET x t)), (2, .int (nI 52)), (3, .int (nI 1023))]) hx hb dX5_bitsOf_15 hl (by decide) rfl (fun ls hl => ?_)
    have hl : lv_has ls 9 [(7, .int (nI 0)), (6, .int (mI 0)), (4, .double (dET (x + 0) t)), (0, .double (dET x t)), (2, .int (nI 52)), (3, .int (nI 1023))] := hl
    have LP_2 : ∀ (fu : Nat) (j : Nat) (h1 : j ≤ 1023 - x) (H : Heap) (locs : List Loc) (ls : Array Slot), 200 - j < fu → kW g A s [] H locs → lv_has ls 9 [(7, .int (nI j)), (6, .int (mI j)), (4, .double (dET (x + j) t)), (0, .double (dET x t)), (2, .int (nI 52)), (3, .int (nI 1023))] → W p l e rmX5_bitsOf_l52 s m args below meth c H locs 0 0 Q (F0 m 17 ls []) := by
      intro fu
      induction fu with
      | zero => intro j h1 H locs ls hlt; omega
      | succ fu ih_2 =>
        intro j h1 H locs ls hlt w hl
        refine lv_iload hx hb dX5_bitsOf_17 (lv_at hl 0 rfl) ?_
        refine lv_bipush (v := nI 100) hx hb dX5_bitsOf_19 (by decide) ?_
        refine lv_icmp_ge (tgt := 48) hx hb dX5_bitsOf_21 (by decide) (fun h_3 => ?_) (fun h_3 => ?_)
        · have h_3 : j ≥ 100 := (kc_ge_t (by omega) (by omega)).mp h_3
          omega
        · have h_3 : j < 100 := (kc_ge_f (by omega) (by omega)).mp h_3
          refine lv_dload hx hb dX5_bitsOf_24 (lv_at hl 2 rfl) ?_
          refine lv_dconst1 hx hb dX5_bitsOf_26 ?_
          refine lv_dcmp hx hb dX5_bitsOf_27 ?_
          rcases (show x + j < 1023 ∨ x + j = 1023 from by omega) with h_4 | h_4
          · skip
            refine ktopi (y := (-1)) (d_lt1 .g (by omega) h_4 ht) ?_
            refine lv_if_ge (tgt := 48) hx hb dX5_bitsOf_28 (by decide) (fun h_5 => ?_) (fun h_5 => ?_)
            · exact absurd h_5 (by decide)
            · refine lv_dload hx hb dX5_bitsOf_31 (lv_at hl 2 rfl) ?_
              refine lv_ldc2d (v := d2c) hx hb F.1.2.2.2.1 (hts (.constantDouble RX5 242 d2c) (by decide +kernel)) dX5_bitsOf_33 ?_
              refine lv_dmul hx hb dX5_bitsOf_36 (vf64 (by rw [d_dbl (by omega) (by omega) ht]; exact dET_ne (by omega) (by omega) ht)) ?_
              refine ktopd (y := dET (x + (j + 1)) t) (d_dbl (by omega) (by omega) ht) ?_
              refine lv_dstore (lv' := [(4, .double (dET (x + (j + 1)) t)), (7, .int (nI j)), (6, .int (mI j)), (0, .double (dET x t)), (2, .int (nI 52)), (3, .int (nI 1023))]) hx hb dX5_bitsOf_37 hl (by decide) rfl (fun ls hl => ?_)
              refine lv_iinc (v := mI j + -1) (lv' := [(6, .int (mI j + -1)), (4, .double (dET (x + (j + 1)) t)), (7, .int (nI j)), (0, .double (dET x t)), (2, .int (nI 52)), (3, .int (nI 1023))]) hx hb dX5_bitsOf_39 hl (k := 2) rfl (rfl) (by decide) rfl (fun ls hl => ?_)
              rw [mI_s] at hl
              refine lv_iinc (v := nI (j + 1)) (lv' := [(7, .int (nI (j + 1))), (6, .int (mI (j + 1))), (4, .double (dET (x + (j + 1)) t)), (0, .double (dET x t)), (2, .int (nI 52)), (3, .int (nI 1023))]) hx hb dX5_bitsOf_42 hl (k := 2) rfl (nI_add j 1) (by decide) rfl (fun ls hl => ?_)
              refine lv_goto (tgt := 17) hx hb dX5_bitsOf_45 (by decide) ?_
              exact ih_2 (j + 1) (by omega) _ _ _ (by omega) (kW.perm w [] rfl rfl) (lv_sub hl [0, 1, 2, 3, 4, 5] rfl)
          · skip
            have e_6 : j = 1023 - x := by omega
            subst e_6
            rw [show x + (1023 - x) = 1023 by omega] at hl
            rw [show x + (1023 - x) = 1023 by omega]
            obtain ⟨k1, hk1, ek1⟩ := d_ge1 (x := 1023) .g (by omega) (by omega) ht
            refine ktopi (y := nI k1) (ek1) ?_
            refine lv_if_ge (tgt := 48) hx hb dX5_bitsOf_28 (by decide) (fun h_7 => ?_) (fun h_7 => ?_)
            · have h_7 : k1 ≥ 0 := (kc0_ge_t (by omega)).mp h_7
              refine lv_iconst (v := nI 0) hx hb dX5_bitsOf_48 (by decide) ?_
              refine lv_istore (lv' := [(7, .int (nI 0)), (6, .int (mI (1023 - x))), (4, .double (dET 1023 t)), (0, .double (dET x t)), (2, .int (nI 52)), (3, .int (nI 1023))]) hx hb dX5_bitsOf_49 hl (by decide) rfl (fun ls hl => ?_)
              refine lv_iload hx hb dX5_bitsOf_51 (lv_at hl 0 rfl) ?_
              refine lv_bipush (v := nI 100) hx hb dX5_bitsOf_53 (by decide) ?_
              refine lv_icmp_ge (tgt := 84) hx hb dX5_bitsOf_55 (by decide) (fun h_8 => ?_) (fun h_8 => ?_)
              · have h_8 : 0 ≥ 100 := (kc_ge_t (by omega) (by omega)).mp h_8
                omega
              · have h_8 : 0 < 100 := (kc_ge_f (by omega) (by omega)).mp h_8
                refine lv_dload hx hb dX5_bitsOf_58 (lv_at hl 2 rfl) ?_
                refine lv_ldc2d (v := d2c) hx hb F.1.2.2.2.1 (hts (.constantDouble RX5 242 d2c) (by decide +kernel)) dX5_bitsOf_60 ?_
                refine lv_dcmp hx hb dX5_bitsOf_63 ?_
                refine ktopi (y := (-1)) (d_lt2 .l (x := 1023) (by omega) (by omega) ht) ?_
                refine lv_if_lt (tgt := 84) hx hb dX5_bitsOf_64 (by decide) (fun h_9 => ?_) (fun h_9 => ?_)
                · refine lv_dload hx hb dX5_bitsOf_84 (lv_at hl 2 rfl) ?_
                  refine lv_dconst1 hx hb dX5_bitsOf_86 ?_
                  refine lv_dsub hx hb dX5_bitsOf_87 (vf64 ((d_frac (fb := 52) ht (by decide)).1)) ?_
                  refine lv_iload_n hx hb dX5_bitsOf_88 rfl (lv_at hl 4 rfl) ?_
                  refine kcalll (wc := []) (wr := []) (wn := fun (u : Unit) => []) F w [] [] [] rfl rfl rfl (fun _ => rfl)
                    (fun hp => va_runS (As := [.int (nI 52)]) (rest := [.double (FP.dsub (dET 1023 t) FP.dconst1)]) F.1 (kX5_bit l g 52 H.size (by omega)) (va_cwS 1 hts gX5_bitsOf_X5_bit rfl rfl rfl hd_X5_bit ⟨Nat.le_of_ble_eq_true rfl, Nat.le_of_ble_eq_true rfl⟩) hp rfl rfl hl.1 rfl (lv_room (Nat.le_of_ble_eq_true rfl)) dX5_bitsOf_89 ⟨Nat.le_of_ble_eq_true rfl, Nat.le_of_ble_eq_true rfl⟩)
                    (fun r_10 _ H locs h_11 w => ?_)
                  subst h_11
                  refine lv_l2d hx hb dX5_bitsOf_92 ?_
                  refine lv_dmul hx hb dX5_bitsOf_93 (vf64 ((d_frac (fb := 52) ht (by decide)).2.1)) ?_
                  refine lv_d2l hx hb dX5_bitsOf_94 ?_
                  refine ktopl (y := lN (t * 2 ^ 52 / 2 ^ 52)) ((d_frac (fb := 52) ht (by decide)).2.2) ?_
                  refine lv_lstore (lv' := [(7, .long (lN (t * 2 ^ 52 / 2 ^ 52))), (6, .int (mI (1023 - x))), (4, .double (dET 1023 t)), (0, .double (dET x t)), (2, .int (nI 52)), (3, .int (nI 1023))]) hx hb dX5_bitsOf_95 hl (by decide) rfl (fun ls hl => ?_)
                  refine lv_iload hx hb dX5_bitsOf_97 (lv_at hl 1 rfl) ?_
                  refine lv_iload_n hx hb dX5_bitsOf_99 rfl (lv_at hl 5 rfl) ?_
                  refine lv_iadd hx hb dX5_bitsOf_100 ?_
                  refine ktopi (y := nI (1023 - (1023 - x))) (mI_add (by omega)) ?_
                  refine lv_i2l hx hb dX5_bitsOf_101 rfl ?_
                  refine lv_iload_n hx hb dX5_bitsOf_102 rfl (lv_at hl 4 rfl) ?_
                  refine lv_lshl hx hb dX5_bitsOf_103 rfl ?_
                  refine lv_lload hx hb dX5_bitsOf_104 (lv_at hl 0 rfl) ?_
                  refine lv_lor hx hb dX5_bitsOf_106 ?_
                  refine ktopl (y := lN ((1023 - (1023 - x)) * 2 ^ 52 + t * 2 ^ 52 / 2 ^ 52)) (bits_or (by omega) (by decide) (by omega)) ?_
                  subst hA
                  subst hQ
                  exact kretl F w () [] rfl rfl (rfl) (Nat.le_of_ble_eq_true rfl) (Nat.le_of_ble_eq_true rfl) dX5_bitsOf_107
                · exact absurd h_9 (by decide)
            · have h_7 : k1 < 0 := (kc0_ge_f (by omega)).mp h_7
              omega
    exact LP_2 _ 0 (by omega) _ _ _ (Nat.lt_succ_self _) (kW.perm w [] rfl rfl) (lv_sub hl [0, 1, 2, 3, 4, 5] rfl)
  · have h_1 : 1 ≤ 0 := (kc0_gt_f (by omega)).mp h_1
    omega
abbrev rmX5_bitsOf_h52 : Room := { frames := 1, cells := 0, slots := 0, locals := 20 }
set_option maxHeartbeats 4000000 in
set_option maxRecDepth 100000 in
theorem kX5_bitsOf_h52 (l : Launch) (g : GG) (v : UInt64) (x : Nat) (t : Nat) (sz : Nat) (hv : v = dET x t) (hx9 : 1023 ≤ x ∧ x ≤ 1119) (ht : t < 2 ^ 52) : Met l yX5_bitsOf wsX5_bitsOf rmX5_bitsOf_h52 (va_Pc [.double v, .int (nI 52), .int (nI 1023)] (kPre g [] sz)) (va_Ql (fun (r : Int64) (u : Unit) => r = lN ((x - 1023 + 1023) * 2 ^ 52 + t * 2 ^ 52 / 2 ^ 52)) (kB g (va_A [] sz) (fun u => [])) (va_A [] sz)) 0 0 (va_A [] sz) := by
  refine kMet (cc := cX5_bitsOf) (maxL := 9) (ret := (some .long)) (own := RX5) (by decide) rfl rfl (Nat.le_of_ble_eq_true rfl) ?_
  intro p e s m args below meth c ls Q H locs A F w hl hnm hA hQ
  have hx := F.1.1
  have hb := F.1.2.1
  have hts := F.1.2.2.2.2
  have hl : lv_has ls 9 [(0, .double v), (2, .int (nI 52)), (3, .int (nI 1023))] := hl
  subst hv
  refine lv_dload_n hx hb dX5_bitsOf_0 rfl (lv_at hl 0 rfl) ?_
  refine lv_dconst0 hx hb dX5_bitsOf_1 ?_
  refine lv_dcmp hx hb dX5_bitsOf_2 ?_
  refine ktopi (y := nI 1) (d_pos .l (by omega) (by omega) ht) ?_
  refine lv_if_gt (tgt := 8) hx hb dX5_bitsOf_3 (by decide) (fun h_1 => ?_) (fun h_1 => ?_)
  · have h_1 : 1 > 0 := (kc0_gt_t (by omega)).mp h_1
    refine lv_dload_n hx hb dX5_bitsOf_8 rfl (lv_at hl 0 rfl) ?_
    refine lv_dstore (lv' := [(4, .double (dET x t)), (0, .double (dET x t)), (2, .int (nI 52)), (3, .int (nI 1023))]) hx hb dX5_bitsOf_9 hl (by decide) rfl (fun ls hl => ?_)
    refine lv_iconst (v := nI 0) hx hb dX5_bitsOf_11 (by decide) ?_
    refine lv_istore (lv' := [(6, .int (nI 0)), (4, .double (dET x t)), (0, .double (dET x t)), (2, .int (nI 52)), (3, .int (nI 1023))]) hx hb dX5_bitsOf_12 hl (by decide) rfl (fun ls hl => ?_)
    refine lv_iconst (v := nI 0) hx hb dX5_bitsOf_14 (by decide) ?_
    refine lv_istore (lv' := [(7, .int (nI 0)), (6, .int (nI 0)), (4, .double (dET x t)), (0, .double (dET x t)), (2, .int (nI 52)), (3, .int (nI 1023))]) hx hb dX5_bitsOf_15 hl (by decide) rfl (fun ls hl => ?_)
    refine lv_iload hx hb dX5_bitsOf_17 (lv_at hl 0 rfl) ?_
    refine lv_bipush (v := nI 100) hx hb dX5_bitsOf_19 (by decide) ?_
    refine lv_icmp_ge (tgt := 48) hx hb dX5_bitsOf_21 (by decide) (fun h_2 => ?_) (fun h_2 => ?_)
    · have h_2 : 0 ≥ 100 := (kc_ge_t (by omega) (by omega)).mp h_2
      omega
    · have h_2 : 0 < 100 := (kc_ge_f (by omega) (by omega)).mp h_2
      refine lv_dload hx hb dX5_bitsOf_24 (lv_at hl 2 rfl) ?_
      refine lv_dconst1 hx hb dX5_bitsOf_26 ?_
      refine lv_dcmp hx hb dX5_bitsOf_27 ?_
      obtain ⟨k1, hk1, ek1⟩ := d_ge1 (x := x) .g (by omega) (by omega) ht
      refine ktopi (y := nI k1) (ek1) ?_
      refine lv_if_ge (tgt := 48) hx hb dX5_bitsOf_28 (by decide) (fun h_3 => ?_) (fun h_3 => ?_)
      · have h_3 : k1 ≥ 0 := (kc0_ge_t (by omega)).mp h_3
        refine lv_iconst (v := nI 0) hx hb dX5_bitsOf_48 (by decide) ?_
        refine lv_istore (lv' := [(7, .int (nI 0)), (6, .int (nI 0)), (4, .double (dET x t)), (0, .double (dET x t)), (2, .int (nI 52)), (3, .int (nI 1023))]) hx hb dX5_bitsOf_49 hl (by decide) rfl (fun ls hl => ?_)
        have hl : lv_has ls 9 [(7, .int (nI 0)), (6, .int (nI 0)), (4, .double (dET (x - 0) t)), (0, .double (dET x t)), (2, .int (nI 52)), (3, .int (nI 1023))] := hl
        have LP_4 : ∀ (fu : Nat) (j : Nat) (h1 : j ≤ x - 1023) (H : Heap) (locs : List Loc) (ls : Array Slot), 2000 - j < fu → kW g A s [] H locs → lv_has ls 9 [(7, .int (nI j)), (6, .int (nI j)), (4, .double (dET (x - j) t)), (0, .double (dET x t)), (2, .int (nI 52)), (3, .int (nI 1023))] → W p l e rmX5_bitsOf_h52 s m args below meth c H locs 0 0 Q (F0 m 51 ls []) := by
          intro fu
          induction fu with
          | zero => intro j h1 H locs ls hlt; omega
          | succ fu ih_4 =>
            intro j h1 H locs ls hlt w hl
            refine lv_iload hx hb dX5_bitsOf_51 (lv_at hl 0 rfl) ?_
            refine lv_bipush (v := nI 100) hx hb dX5_bitsOf_53 (by decide) ?_
            refine lv_icmp_ge (tgt := 84) hx hb dX5_bitsOf_55 (by decide) (fun h_5 => ?_) (fun h_5 => ?_)
            · have h_5 : j ≥ 100 := (kc_ge_t (by omega) (by omega)).mp h_5
              omega
            · have h_5 : j < 100 := (kc_ge_f (by omega) (by omega)).mp h_5
              refine lv_dload hx hb dX5_bitsOf_58 (lv_at hl 2 rfl) ?_
              refine lv_ldc2d (v := d2c) hx hb F.1.2.2.2.1 (hts (.constantDouble RX5 242 d2c) (by decide +kernel)) dX5_bitsOf_60 ?_
              refine lv_dcmp hx hb dX5_bitsOf_63 ?_
              rcases (show 1024 ≤ x - j ∨ x - j = 1023 from by omega) with h_6 | h_6
              · skip
                obtain ⟨k2, hk2, ek2⟩ := d_ge2 (x := x - j) .l (by omega) (by omega) ht
                refine ktopi (y := nI k2) (ek2) ?_
                refine lv_if_lt (tgt := 84) hx hb dX5_bitsOf_64 (by decide) (fun h_7 => ?_) (fun h_7 => ?_)
                · have h_7 : k2 < 0 := (kc0_lt_t (by omega)).mp h_7
                  omega
                · have h_7 : k2 ≥ 0 := (kc0_lt_f (by omega)).mp h_7
                  refine lv_dload hx hb dX5_bitsOf_67 (lv_at hl 2 rfl) ?_
                  refine lv_ldc2d (v := d2c) hx hb F.1.2.2.2.1 (hts (.constantDouble RX5 242 d2c) (by decide +kernel)) dX5_bitsOf_69 ?_
                  refine lv_ddiv hx hb dX5_bitsOf_72 (vf64 (by rw [show FP.ddiv (dET (x - j) t) d2c = dET (x - (j + 1)) t from (by rw [show x - j = (x - (j + 1)) + 1 by omega]; exact d_half (by omega) (by omega) ht)]; exact dET_ne (by omega) (by omega) ht)) ?_
                  refine ktopd (y := dET (x - (j + 1)) t) (by rw [show x - j = (x - (j + 1)) + 1 by omega]; exact d_half (by omega) (by omega) ht) ?_
                  refine lv_dstore (lv' := [(4, .double (dET (x - (j + 1)) t)), (7, .int (nI j)), (6, .int (nI j)), (0, .double (dET x t)), (2, .int (nI 52)), (3, .int (nI 1023))]) hx hb dX5_bitsOf_73 hl (by decide) rfl (fun ls hl => ?_)
                  refine lv_iinc (v := nI (j + 1)) (lv' := [(6, .int (nI (j + 1))), (4, .double (dET (x - (j + 1)) t)), (7, .int (nI j)), (0, .double (dET x t)), (2, .int (nI 52)), (3, .int (nI 1023))]) hx hb dX5_bitsOf_75 hl (k := 2) rfl (nI_add j 1) (by decide) rfl (fun ls hl => ?_)
                  refine lv_iinc (v := nI (j + 1)) (lv' := [(7, .int (nI (j + 1))), (6, .int (nI (j + 1))), (4, .double (dET (x - (j + 1)) t)), (0, .double (dET x t)), (2, .int (nI 52)), (3, .int (nI 1023))]) hx hb dX5_bitsOf_78 hl (k := 2) rfl (nI_add j 1) (by decide) rfl (fun ls hl => ?_)
                  refine lv_goto (tgt := 51) hx hb dX5_bitsOf_81 (by decide) ?_
                  exact ih_4 (j + 1) (by omega) _ _ _ (by omega) (kW.perm w [] rfl rfl) (lv_sub hl [0, 1, 2, 3, 4, 5] rfl)
              · skip
                have e_8 : j = x - 1023 := by omega
                subst e_8
                rw [show x - (x - 1023) = 1023 by omega] at hl
                rw [show x - (x - 1023) = 1023 by omega]
                refine ktopi (y := (-1)) (d_lt2 .l (x := 1023) (by omega) (by omega) ht) ?_
                refine lv_if_lt (tgt := 84) hx hb dX5_bitsOf_64 (by decide) (fun h_9 => ?_) (fun h_9 => ?_)
                · refine lv_dload hx hb dX5_bitsOf_84 (lv_at hl 2 rfl) ?_
                  refine lv_dconst1 hx hb dX5_bitsOf_86 ?_
                  refine lv_dsub hx hb dX5_bitsOf_87 (vf64 ((d_frac (fb := 52) ht (by decide)).1)) ?_
                  refine lv_iload_n hx hb dX5_bitsOf_88 rfl (lv_at hl 4 rfl) ?_
                  refine kcalll (wc := []) (wr := []) (wn := fun (u : Unit) => []) F w [] [] [] rfl rfl rfl (fun _ => rfl)
                    (fun hp => va_runS (As := [.int (nI 52)]) (rest := [.double (FP.dsub (dET 1023 t) FP.dconst1)]) F.1 (kX5_bit l g 52 H.size (by omega)) (va_cwS 1 hts gX5_bitsOf_X5_bit rfl rfl rfl hd_X5_bit ⟨Nat.le_of_ble_eq_true rfl, Nat.le_of_ble_eq_true rfl⟩) hp rfl rfl hl.1 rfl (lv_room (Nat.le_of_ble_eq_true rfl)) dX5_bitsOf_89 ⟨Nat.le_of_ble_eq_true rfl, Nat.le_of_ble_eq_true rfl⟩)
                    (fun r_10 _ H locs h_11 w => ?_)
                  subst h_11
                  refine lv_l2d hx hb dX5_bitsOf_92 ?_
                  refine lv_dmul hx hb dX5_bitsOf_93 (vf64 ((d_frac (fb := 52) ht (by decide)).2.1)) ?_
                  refine lv_d2l hx hb dX5_bitsOf_94 ?_
                  refine ktopl (y := lN (t * 2 ^ 52 / 2 ^ 52)) ((d_frac (fb := 52) ht (by decide)).2.2) ?_
                  refine lv_lstore (lv' := [(7, .long (lN (t * 2 ^ 52 / 2 ^ 52))), (6, .int (nI (x - 1023))), (4, .double (dET 1023 t)), (0, .double (dET x t)), (2, .int (nI 52)), (3, .int (nI 1023))]) hx hb dX5_bitsOf_95 hl (by decide) rfl (fun ls hl => ?_)
                  refine lv_iload hx hb dX5_bitsOf_97 (lv_at hl 1 rfl) ?_
                  refine lv_iload_n hx hb dX5_bitsOf_99 rfl (lv_at hl 5 rfl) ?_
                  refine lv_iadd hx hb dX5_bitsOf_100 ?_
                  refine ktopi (y := nI (x - 1023 + 1023)) (nI_add (x - 1023) 1023) ?_
                  refine lv_i2l hx hb dX5_bitsOf_101 rfl ?_
                  refine lv_iload_n hx hb dX5_bitsOf_102 rfl (lv_at hl 4 rfl) ?_
                  refine lv_lshl hx hb dX5_bitsOf_103 rfl ?_
                  refine lv_lload hx hb dX5_bitsOf_104 (lv_at hl 0 rfl) ?_
                  refine lv_lor hx hb dX5_bitsOf_106 ?_
                  refine ktopl (y := lN ((x - 1023 + 1023) * 2 ^ 52 + t * 2 ^ 52 / 2 ^ 52)) (bits_or (by omega) (by decide) (by omega)) ?_
                  subst hA
                  subst hQ
                  exact kretl F w () [] rfl rfl (rfl) (Nat.le_of_ble_eq_true rfl) (Nat.le_of_ble_eq_true rfl) dX5_bitsOf_107
                · exact absurd h_9 (by decide)
        exact LP_4 _ 0 (by omega) _ _ _ (Nat.lt_succ_self _) (kW.perm w [] rfl rfl) (lv_sub hl [0, 1, 2, 3, 4, 5] rfl)
      · have h_3 : k1 < 0 := (kc0_ge_f (by omega)).mp h_3
        omega
  · have h_1 : 1 ≤ 0 := (kc0_gt_f (by omega)).mp h_1
    omega
abbrev rmX5_bitsOf_l23 : Room := { frames := 1, cells := 0, slots := 0, locals := 20 }
set_option maxHeartbeats 4000000 in
set_option maxRecDepth 100000 in
theorem kX5_bitsOf_l23 (l : Launch) (g : GG) (v : UInt64) (x : Nat) (t : Nat) (sz : Nat) (hv : v = dET x t) (hx9 : 1017 ≤ x ∧ x ≤ 1022) (ht : t < 2 ^ 52) : Met l yX5_bitsOf wsX5_bitsOf rmX5_bitsOf_l23 (va_Pc [.double v, .int (nI 23), .int (nI 127)] (kPre g [] sz)) (va_Ql (fun (r : Int64) (u : Unit) => r = lN ((127 - (1023 - x)) * 2 ^ 23 + t * 2 ^ 23 / 2 ^ 52)) (kB g (va_A [] sz) (fun u => [])) (va_A [] sz)) 0 0 (va_A [] sz) := by
  refine kMet (cc := cX5_bitsOf) (maxL := 9) (ret := (some .long)) (own := RX5) (by decide) rfl rfl (Nat.le_of_ble_eq_true rfl) ?_
  intro p e s m args below meth c ls Q H locs A F w hl hnm hA hQ
  have hx := F.1.1
  have hb := F.1.2.1
  have hts := F.1.2.2.2.2
  have hl : lv_has ls 9 [(0, .double v), (2, .int (nI 23)), (3, .int (nI 127))] := hl
  subst hv
  refine lv_dload_n hx hb dX5_bitsOf_0 rfl (lv_at hl 0 rfl) ?_
  refine lv_dconst0 hx hb dX5_bitsOf_1 ?_
  refine lv_dcmp hx hb dX5_bitsOf_2 ?_
  refine ktopi (y := nI 1) (d_pos .l (by omega) (by omega) ht) ?_
  refine lv_if_gt (tgt := 8) hx hb dX5_bitsOf_3 (by decide) (fun h_1 => ?_) (fun h_1 => ?_)
  · have h_1 : 1 > 0 := (kc0_gt_t (by omega)).mp h_1
    refine lv_dload_n hx hb dX5_bitsOf_8 rfl (lv_at hl 0 rfl) ?_
    refine lv_dstore (lv' := [(4, .double (dET x t)), (0, .double (dET x t)), (2, .int (nI 23)), (3, .int (nI 127))]) hx hb dX5_bitsOf_9 hl (by decide) rfl (fun ls hl => ?_)
    refine lv_iconst (v := nI 0) hx hb dX5_bitsOf_11 (by decide) ?_
    refine ktopi (y := mI 0) (mI_0) ?_
    refine lv_istore (lv' := [(6, .int (mI 0)), (4, .double (dET x t)), (0, .double (dET x t)), (2, .int (nI 23)), (3, .int (nI 127))]) hx hb dX5_bitsOf_12 hl (by decide) rfl (fun ls hl => ?_)
    refine lv_iconst (v := nI 0) hx hb dX5_bitsOf_14 (by decide) ?_
    refine lv_istore (lv' := [(7, .int (nI 0)), (6, .int (mI 0)), (4, .double (dET x t)), (0, .double (dET x t)), (2, .int (nI 23)), (3, .int (nI 127))]) hx hb dX5_bitsOf_15 hl (by decide) rfl (fun ls hl => ?_)
    have hl : lv_has ls 9 [(7, .int (nI 0)), (6, .int (mI 0)), (4, .double (dET (x + 0) t)), (0, .double (dET x t)), (2, .int (nI 23)), (3, .int (nI 127))] := hl
    have LP_2 : ∀ (fu : Nat) (j : Nat) (h1 : j ≤ 1023 - x) (H : Heap) (locs : List Loc) (ls : Array Slot), 200 - j < fu → kW g A s [] H locs → lv_has ls 9 [(7, .int (nI j)), (6, .int (mI j)), (4, .double (dET (x + j) t)), (0, .double (dET x t)), (2, .int (nI 23)), (3, .int (nI 127))] → W p l e rmX5_bitsOf_l23 s m args below meth c H locs 0 0 Q (F0 m 17 ls []) := by
      intro fu
      induction fu with
      | zero => intro j h1 H locs ls hlt; omega
      | succ fu ih_2 =>
        intro j h1 H locs ls hlt w hl
        refine lv_iload hx hb dX5_bitsOf_17 (lv_at hl 0 rfl) ?_
        refine lv_bipush (v := nI 100) hx hb dX5_bitsOf_19 (by decide) ?_
        refine lv_icmp_ge (tgt := 48) hx hb dX5_bitsOf_21 (by decide) (fun h_3 => ?_) (fun h_3 => ?_)
        · have h_3 : j ≥ 100 := (kc_ge_t (by omega) (by omega)).mp h_3
          omega
        · have h_3 : j < 100 := (kc_ge_f (by omega) (by omega)).mp h_3
          refine lv_dload hx hb dX5_bitsOf_24 (lv_at hl 2 rfl) ?_
          refine lv_dconst1 hx hb dX5_bitsOf_26 ?_
          refine lv_dcmp hx hb dX5_bitsOf_27 ?_
          rcases (show x + j < 1023 ∨ x + j = 1023 from by omega) with h_4 | h_4
          · skip
            refine ktopi (y := (-1)) (d_lt1 .g (by omega) h_4 ht) ?_
            refine lv_if_ge (tgt := 48) hx hb dX5_bitsOf_28 (by decide) (fun h_5 => ?_) (fun h_5 => ?_)
            · exact absurd h_5 (by decide)
            · refine lv_dload hx hb dX5_bitsOf_31 (lv_at hl 2 rfl) ?_
              refine lv_ldc2d (v := d2c) hx hb F.1.2.2.2.1 (hts (.constantDouble RX5 242 d2c) (by decide +kernel)) dX5_bitsOf_33 ?_
              refine lv_dmul hx hb dX5_bitsOf_36 (vf64 (by rw [d_dbl (by omega) (by omega) ht]; exact dET_ne (by omega) (by omega) ht)) ?_
              refine ktopd (y := dET (x + (j + 1)) t) (d_dbl (by omega) (by omega) ht) ?_
              refine lv_dstore (lv' := [(4, .double (dET (x + (j + 1)) t)), (7, .int (nI j)), (6, .int (mI j)), (0, .double (dET x t)), (2, .int (nI 23)), (3, .int (nI 127))]) hx hb dX5_bitsOf_37 hl (by decide) rfl (fun ls hl => ?_)
              refine lv_iinc (v := mI j + -1) (lv' := [(6, .int (mI j + -1)), (4, .double (dET (x + (j + 1)) t)), (7, .int (nI j)), (0, .double (dET x t)), (2, .int (nI 23)), (3, .int (nI 127))]) hx hb dX5_bitsOf_39 hl (k := 2) rfl (rfl) (by decide) rfl (fun ls hl => ?_)
              rw [mI_s] at hl
              refine lv_iinc (v := nI (j + 1)) (lv' := [(7, .int (nI (j + 1))), (6, .int (mI (j + 1))), (4, .double (dET (x + (j + 1)) t)), (0, .double (dET x t)), (2, .int (nI 23)), (3, .int (nI 127))]) hx hb dX5_bitsOf_42 hl (k := 2) rfl (nI_add j 1) (by decide) rfl (fun ls hl => ?_)
              refine lv_goto (tgt := 17) hx hb dX5_bitsOf_45 (by decide) ?_
              exact ih_2 (j + 1) (by omega) _ _ _ (by omega) (kW.perm w [] rfl rfl) (lv_sub hl [0, 1, 2, 3, 4, 5] rfl)
          · skip
            have e_6 : j = 1023 - x := by omega
            subst e_6
            rw [show x + (1023 - x) = 1023 by omega] at hl
            rw [show x + (1023 - x) = 1023 by omega]
            obtain ⟨k1, hk1, ek1⟩ := d_ge1 (x := 1023) .g (by omega) (by omega) ht
            refine ktopi (y := nI k1) (ek1) ?_
            refine lv_if_ge (tgt := 48) hx hb dX5_bitsOf_28 (by decide) (fun h_7 => ?_) (fun h_7 => ?_)
            · have h_7 : k1 ≥ 0 := (kc0_ge_t (by omega)).mp h_7
              refine lv_iconst (v := nI 0) hx hb dX5_bitsOf_48 (by decide) ?_
              refine lv_istore (lv' := [(7, .int (nI 0)), (6, .int (mI (1023 - x))), (4, .double (dET 1023 t)), (0, .double (dET x t)), (2, .int (nI 23)), (3, .int (nI 127))]) hx hb dX5_bitsOf_49 hl (by decide) rfl (fun ls hl => ?_)
              refine lv_iload hx hb dX5_bitsOf_51 (lv_at hl 0 rfl) ?_
              refine lv_bipush (v := nI 100) hx hb dX5_bitsOf_53 (by decide) ?_
              refine lv_icmp_ge (tgt := 84) hx hb dX5_bitsOf_55 (by decide) (fun h_8 => ?_) (fun h_8 => ?_)
              · have h_8 : 0 ≥ 100 := (kc_ge_t (by omega) (by omega)).mp h_8
                omega
              · have h_8 : 0 < 100 := (kc_ge_f (by omega) (by omega)).mp h_8
                refine lv_dload hx hb dX5_bitsOf_58 (lv_at hl 2 rfl) ?_
                refine lv_ldc2d (v := d2c) hx hb F.1.2.2.2.1 (hts (.constantDouble RX5 242 d2c) (by decide +kernel)) dX5_bitsOf_60 ?_
                refine lv_dcmp hx hb dX5_bitsOf_63 ?_
                refine ktopi (y := (-1)) (d_lt2 .l (x := 1023) (by omega) (by omega) ht) ?_
                refine lv_if_lt (tgt := 84) hx hb dX5_bitsOf_64 (by decide) (fun h_9 => ?_) (fun h_9 => ?_)
                · refine lv_dload hx hb dX5_bitsOf_84 (lv_at hl 2 rfl) ?_
                  refine lv_dconst1 hx hb dX5_bitsOf_86 ?_
                  refine lv_dsub hx hb dX5_bitsOf_87 (vf64 ((d_frac (fb := 23) ht (by decide)).1)) ?_
                  refine lv_iload_n hx hb dX5_bitsOf_88 rfl (lv_at hl 4 rfl) ?_
                  refine kcalll (wc := []) (wr := []) (wn := fun (u : Unit) => []) F w [] [] [] rfl rfl rfl (fun _ => rfl)
                    (fun hp => va_runS (As := [.int (nI 23)]) (rest := [.double (FP.dsub (dET 1023 t) FP.dconst1)]) F.1 (kX5_bit l g 23 H.size (by omega)) (va_cwS 1 hts gX5_bitsOf_X5_bit rfl rfl rfl hd_X5_bit ⟨Nat.le_of_ble_eq_true rfl, Nat.le_of_ble_eq_true rfl⟩) hp rfl rfl hl.1 rfl (lv_room (Nat.le_of_ble_eq_true rfl)) dX5_bitsOf_89 ⟨Nat.le_of_ble_eq_true rfl, Nat.le_of_ble_eq_true rfl⟩)
                    (fun r_10 _ H locs h_11 w => ?_)
                  subst h_11
                  refine lv_l2d hx hb dX5_bitsOf_92 ?_
                  refine lv_dmul hx hb dX5_bitsOf_93 (vf64 ((d_frac (fb := 23) ht (by decide)).2.1)) ?_
                  refine lv_d2l hx hb dX5_bitsOf_94 ?_
                  refine ktopl (y := lN (t * 2 ^ 23 / 2 ^ 52)) ((d_frac (fb := 23) ht (by decide)).2.2) ?_
                  refine lv_lstore (lv' := [(7, .long (lN (t * 2 ^ 23 / 2 ^ 52))), (6, .int (mI (1023 - x))), (4, .double (dET 1023 t)), (0, .double (dET x t)), (2, .int (nI 23)), (3, .int (nI 127))]) hx hb dX5_bitsOf_95 hl (by decide) rfl (fun ls hl => ?_)
                  refine lv_iload hx hb dX5_bitsOf_97 (lv_at hl 1 rfl) ?_
                  refine lv_iload_n hx hb dX5_bitsOf_99 rfl (lv_at hl 5 rfl) ?_
                  refine lv_iadd hx hb dX5_bitsOf_100 ?_
                  refine ktopi (y := nI (127 - (1023 - x))) (mI_add (by omega)) ?_
                  refine lv_i2l hx hb dX5_bitsOf_101 rfl ?_
                  refine lv_iload_n hx hb dX5_bitsOf_102 rfl (lv_at hl 4 rfl) ?_
                  refine lv_lshl hx hb dX5_bitsOf_103 rfl ?_
                  refine lv_lload hx hb dX5_bitsOf_104 (lv_at hl 0 rfl) ?_
                  refine lv_lor hx hb dX5_bitsOf_106 ?_
                  refine ktopl (y := lN ((127 - (1023 - x)) * 2 ^ 23 + t * 2 ^ 23 / 2 ^ 52)) (bits_or (by omega) (by decide) (by omega)) ?_
                  subst hA
                  subst hQ
                  exact kretl F w () [] rfl rfl (rfl) (Nat.le_of_ble_eq_true rfl) (Nat.le_of_ble_eq_true rfl) dX5_bitsOf_107
                · exact absurd h_9 (by decide)
            · have h_7 : k1 < 0 := (kc0_ge_f (by omega)).mp h_7
              omega
    exact LP_2 _ 0 (by omega) _ _ _ (Nat.lt_succ_self _) (kW.perm w [] rfl rfl) (lv_sub hl [0, 1, 2, 3, 4, 5] rfl)
  · have h_1 : 1 ≤ 0 := (kc0_gt_f (by omega)).mp h_1
    omega
abbrev rmX5_bitsOf_h23 : Room := { frames := 1, cells := 0, slots := 0, locals := 20 }
set_option maxHeartbeats 4000000 in
set_option maxRecDepth 100000 in
theorem kX5_bitsOf_h23 (l : Launch) (g : GG) (v : UInt64) (x : Nat) (t : Nat) (sz : Nat) (hv : v = dET x t) (hx9 : 1023 ≤ x ∧ x ≤ 1119) (ht : t < 2 ^ 52) : Met l yX5_bitsOf wsX5_bitsOf rmX5_bitsOf_h23 (va_Pc [.double v, .int (nI 23), .int (nI 127)] (kPre g [] sz)) (va_Ql (fun (r : Int64) (u : Unit) => r = lN ((x - 1023 + 127) * 2 ^ 23 + t * 2 ^ 23 / 2 ^ 52)) (kB g (va_A [] sz) (fun u => [])) (va_A [] sz)) 0 0 (va_A [] sz) := by
  refine kMet (cc := cX5_bitsOf) (maxL := 9) (ret := (some .long)) (own := RX5) (by decide) rfl rfl (Nat.le_of_ble_eq_true rfl) ?_
  intro p e s m args below meth c ls Q H locs A F w hl hnm hA hQ
  have hx := F.1.1
  have hb := F.1.2.1
  have hts := F.1.2.2.2.2
  have hl : lv_has ls 9 [(0, .double v), (2, .int (nI 23)), (3, .int (nI 127))] := hl
  subst hv
  refine lv_dload_n hx hb dX5_bitsOf_0 rfl (lv_at hl 0 rfl) ?_
  refine lv_dconst0 hx hb dX5_bitsOf_1 ?_
  refine lv_dcmp hx hb dX5_bitsOf_2 ?_
  refine ktopi (y := nI 1) (d_pos .l (by omega) (by omega) ht) ?_
  refine lv_if_gt (tgt := 8) hx hb dX5_bitsOf_3 (by decide) (fun h_1 => ?_) (fun h_1 => ?_)
  · have h_1 : 1 > 0 := (kc0_gt_t (by omega)).mp h_1
    refine lv_dload_n hx hb dX5_bitsOf_8 rfl (lv_at hl 0 rfl) ?_
    refine lv_dstore (lv' := [(4, .double (dET x t)), (0, .double (dET x t)), (2, .int (nI 23)), (3, .int (nI 127))]) hx hb dX5_bitsOf_9 hl (by decide) rfl (fun ls hl => ?_)
    refine lv_iconst (v := nI 0) hx hb dX5_bitsOf_11 (by decide) ?_
    refine lv_istore (lv' := [(6, .int (nI 0)), (4, .double (dET x t)), (0, .double (dET x t)), (2, .int (nI 23)), (3, .int (nI 127))]) hx hb dX5_bitsOf_12 hl (by decide) rfl (fun ls hl => ?_)
    refine lv_iconst (v := nI 0) hx hb dX5_bitsOf_14 (by decide) ?_
    refine lv_istore (lv' := [(7, .int (nI 0)), (6, .int (nI 0)), (4, .double (dET x t)), (0, .double (dET x t)), (2, .int (nI 23)), (3, .int (nI 127))]) hx hb dX5_bitsOf_15 hl (by decide) rfl (fun ls hl => ?_)
    refine lv_iload hx hb dX5_bitsOf_17 (lv_at hl 0 rfl) ?_
    refine lv_bipush (v := nI 100) hx hb dX5_bitsOf_19 (by decide) ?_
    refine lv_icmp_ge (tgt := 48) hx hb dX5_bitsOf_21 (by decide) (fun h_2 => ?_) (fun h_2 => ?_)
    · have h_2 : 0 ≥ 100 := (kc_ge_t (by omega) (by omega)).mp h_2
      omega
    · have h_2 : 0 < 100 := (kc_ge_f (by omega) (by omega)).mp h_2
      refine lv_dload hx hb dX5_bitsOf_24 (lv_at hl 2 rfl) ?_
      refine lv_dconst1 hx hb dX5_bitsOf_26 ?_
      refine lv_dcmp hx hb dX5_bitsOf_27 ?_
      obtain ⟨k1, hk1, ek1⟩ := d_ge1 (x := x) .g (by omega) (by omega) ht
      refine ktopi (y := nI k1) (ek1) ?_
      refine lv_if_ge (tgt := 48) hx hb dX5_bitsOf_28 (by decide) (fun h_3 => ?_) (fun h_3 => ?_)
      · have h_3 : k1 ≥ 0 := (kc0_ge_t (by omega)).mp h_3
        refine lv_iconst (v := nI 0) hx hb dX5_bitsOf_48 (by decide) ?_
        refine lv_istore (lv' := [(7, .int (nI 0)), (6, .int (nI 0)), (4, .double (dET x t)), (0, .double (dET x t)), (2, .int (nI 23)), (3, .int (nI 127))]) hx hb dX5_bitsOf_49 hl (by decide) rfl (fun ls hl => ?_)
        have hl : lv_has ls 9 [(7, .int (nI 0)), (6, .int (nI 0)), (4, .double (dET (x - 0) t)), (0, .double (dET x t)), (2, .int (nI 23)), (3, .int (nI 127))] := hl
        have LP_4 : ∀ (fu : Nat) (j : Nat) (h1 : j ≤ x - 1023) (H : Heap) (locs : List Loc) (ls : Array Slot), 2000 - j < fu → kW g A s [] H locs → lv_has ls 9 [(7, .int (nI j)), (6, .int (nI j)), (4, .double (dET (x - j) t)), (0, .double (dET x t)), (2, .int (nI 23)), (3, .int (nI 127))] → W p l e rmX5_bitsOf_h23 s m args below meth c H locs 0 0 Q (F0 m 51 ls []) := by
          intro fu
          induction fu with
          | zero => intro j h1 H locs ls hlt; omega
          | succ fu ih_4 =>
            intro j h1 H locs ls hlt w hl
            refine lv_iload hx hb dX5_bitsOf_51 (lv_at hl 0 rfl) ?_
            refine lv_bipush (v := nI 100) hx hb dX5_bitsOf_53 (by decide) ?_
            refine lv_icmp_ge (tgt := 84) hx hb dX5_bitsOf_55 (by decide) (fun h_5 => ?_) (fun h_5 => ?_)
            · have h_5 : j ≥ 100 := (kc_ge_t (by omega) (by omega)).mp h_5
              omega
            · have h_5 : j < 100 := (kc_ge_f (by omega) (by omega)).mp h_5
              refine lv_dload hx hb dX5_bitsOf_58 (lv_at hl 2 rfl) ?_
              refine lv_ldc2d (v := d2c) hx hb F.1.2.2.2.1 (hts (.constantDouble RX5 242 d2c) (by decide +kernel)) dX5_bitsOf_60 ?_
              refine lv_dcmp hx hb dX5_bitsOf_63 ?_
              rcases (show 1024 ≤ x - j ∨ x - j = 1023 from by omega) with h_6 | h_6
              · skip
                obtain ⟨k2, hk2, ek2⟩ := d_ge2 (x := x - j) .l (by omega) (by omega) ht
                refine ktopi (y := nI k2) (ek2) ?_
                refine lv_if_lt (tgt := 84) hx hb dX5_bitsOf_64 (by decide) (fun h_7 => ?_) (fun h_7 => ?_)
                · have h_7 : k2 < 0 := (kc0_lt_t (by omega)).mp h_7
                  omega
                · have h_7 : k2 ≥ 0 := (kc0_lt_f (by omega)).mp h_7
                  refine lv_dload hx hb dX5_bitsOf_67 (lv_at hl 2 rfl) ?_
                  refine lv_ldc2d (v := d2c) hx hb F.1.2.2.2.1 (hts (.constantDouble RX5 242 d2c) (by decide +kernel)) dX5_bitsOf_69 ?_
                  refine lv_ddiv hx hb dX5_bitsOf_72 (vf64 (by rw [show FP.ddiv (dET (x - j) t) d2c = dET (x - (j + 1)) t from (by rw [show x - j = (x - (j + 1)) + 1 by omega]; exact d_half (by omega) (by omega) ht)]; exact dET_ne (by omega) (by omega) ht)) ?_
                  refine ktopd (y := dET (x - (j + 1)) t) (by rw [show x - j = (x - (j + 1)) + 1 by omega]; exact d_half (by omega) (by omega) ht) ?_
                  refine lv_dstore (lv' := [(4, .double (dET (x - (j + 1)) t)), (7, .int (nI j)), (6, .int (nI j)), (0, .double (dET x t)), (2, .int (nI 23)), (3, .int (nI 127))]) hx hb dX5_bitsOf_73 hl (by decide) rfl (fun ls hl => ?_)
                  refine lv_iinc (v := nI (j + 1)) (lv' := [(6, .int (nI (j + 1))), (4, .double (dET (x - (j + 1)) t)), (7, .int (nI j)), (0, .double (dET x t)), (2, .int (nI 23)), (3, .int (nI 127))]) hx hb dX5_bitsOf_75 hl (k := 2) rfl (nI_add j 1) (by decide) rfl (fun ls hl => ?_)
                  refine lv_iinc (v := nI (j + 1)) (lv' := [(7, .int (nI (j + 1))), (6, .int (nI (j + 1))), (4, .double (dET (x - (j + 1)) t)), (0, .double (dET x t)), (2, .int (nI 23)), (3, .int (nI 127))]) hx hb dX5_bitsOf_78 hl (k := 2) rfl (nI_add j 1) (by decide) rfl (fun ls hl => ?_)
                  refine lv_goto (tgt := 51) hx hb dX5_bitsOf_81 (by decide) ?_
                  exact ih_4 (j + 1) (by omega) _ _ _ (by omega) (kW.perm w [] rfl rfl) (lv_sub hl [0, 1, 2, 3, 4, 5] rfl)
              · skip
                have e_8 : j = x - 1023 := by omega
                subst e_8
                rw [show x - (x - 1023) = 1023 by omega] at hl
                rw [show x - (x - 1023) = 1023 by omega]
                refine ktopi (y := (-1)) (d_lt2 .l (x := 1023) (by omega) (by omega) ht) ?_
                refine lv_if_lt (tgt := 84) hx hb dX5_bitsOf_64 (by decide) (fun h_9 => ?_) (fun h_9 => ?_)
                · refine lv_dload hx hb dX5_bitsOf_84 (lv_at hl 2 rfl) ?_
                  refine lv_dconst1 hx hb dX5_bitsOf_86 ?_
                  refine lv_dsub hx hb dX5_bitsOf_87 (vf64 ((d_frac (fb := 23) ht (by decide)).1)) ?_
                  refine lv_iload_n hx hb dX5_bitsOf_88 rfl (lv_at hl 4 rfl) ?_
                  refine kcalll (wc := []) (wr := []) (wn := fun (u : Unit) => []) F w [] [] [] rfl rfl rfl (fun _ => rfl)
                    (fun hp => va_runS (As := [.int (nI 23)]) (rest := [.double (FP.dsub (dET 1023 t) FP.dconst1)]) F.1 (kX5_bit l g 23 H.size (by omega)) (va_cwS 1 hts gX5_bitsOf_X5_bit rfl rfl rfl hd_X5_bit ⟨Nat.le_of_ble_eq_true rfl, Nat.le_of_ble_eq_true rfl⟩) hp rfl rfl hl.1 rfl (lv_room (Nat.le_of_ble_eq_true rfl)) dX5_bitsOf_89 ⟨Nat.le_of_ble_eq_true rfl, Nat.le_of_ble_eq_true rfl⟩)
                    (fun r_10 _ H locs h_11 w => ?_)
                  subst h_11
                  refine lv_l2d hx hb dX5_bitsOf_92 ?_
                  refine lv_dmul hx hb dX5_bitsOf_93 (vf64 ((d_frac (fb := 23) ht (by decide)).2.1)) ?_
                  refine lv_d2l hx hb dX5_bitsOf_94 ?_
                  refine ktopl (y := lN (t * 2 ^ 23 / 2 ^ 52)) ((d_frac (fb := 23) ht (by decide)).2.2) ?_
                  refine lv_lstore (lv' := [(7, .long (lN (t * 2 ^ 23 / 2 ^ 52))), (6, .int (nI (x - 1023))), (4, .double (dET 1023 t)), (0, .double (dET x t)), (2, .int (nI 23)), (3, .int (nI 127))]) hx hb dX5_bitsOf_95 hl (by decide) rfl (fun ls hl => ?_)
                  refine lv_iload hx hb dX5_bitsOf_97 (lv_at hl 1 rfl) ?_
                  refine lv_iload_n hx hb dX5_bitsOf_99 rfl (lv_at hl 5 rfl) ?_
                  refine lv_iadd hx hb dX5_bitsOf_100 ?_
                  refine ktopi (y := nI (x - 1023 + 127)) (nI_add (x - 1023) 127) ?_
                  refine lv_i2l hx hb dX5_bitsOf_101 rfl ?_
                  refine lv_iload_n hx hb dX5_bitsOf_102 rfl (lv_at hl 4 rfl) ?_
                  refine lv_lshl hx hb dX5_bitsOf_103 rfl ?_
                  refine lv_lload hx hb dX5_bitsOf_104 (lv_at hl 0 rfl) ?_
                  refine lv_lor hx hb dX5_bitsOf_106 ?_
                  refine ktopl (y := lN ((x - 1023 + 127) * 2 ^ 23 + t * 2 ^ 23 / 2 ^ 52)) (bits_or (by omega) (by decide) (by omega)) ?_
                  subst hA
                  subst hQ
                  exact kretl F w () [] rfl rfl (rfl) (Nat.le_of_ble_eq_true rfl) (Nat.le_of_ble_eq_true rfl) dX5_bitsOf_107
                · exact absurd h_9 (by decide)
        exact LP_4 _ 0 (by omega) _ _ _ (Nat.lt_succ_self _) (kW.perm w [] rfl rfl) (lv_sub hl [0, 1, 2, 3, 4, 5] rfl)
      · have h_3 : k1 < 0 := (kc0_ge_f (by omega)).mp h_3
        omega
  · have h_1 : 1 ≤ 0 := (kc0_gt_f (by omega)).mp h_1
    omega
theorem in_X5_share_X2 : ∀ w ∈ wsX20, w ∈ wsX5_share := by decide +kernel
theorem in_X5_share_X5 : ∀ w ∈ wsX50, w ∈ wsX5_share := by decide +kernel
abbrev rmX5_share : Room := { frames := 1, cells := 0, slots := 0, locals := 21 }
set_option maxHeartbeats 4000000 in
set_option maxRecDepth 100000 in
theorem kX5_share (l : Launch) (g : GG) (x : Nat) (nw : Nat) (sn : Nat) (tk : Bool) (hs : Nat) (tx : Nat) (tr : Nat) (na : Nat) (nb : Nat) (σ : Sg) (sz : Nat)  : Met l yX5_share wsX5_share rmX5_share (va_Pc [.ref x] (kPre g [cX x nw sn tk hs tx tr, cR nw na nb σ, xI g na 49 (zT σ), xI g nb 49 (zI σ)] sz)) (va_Qf (fun (r : UInt32) (u : Unit) => r = fsh (zcnt (zO σ) 48)) (kB g (va_A [cX x nw sn tk hs tx tr, cR nw na nb σ, xI g na 49 (zT σ), xI g nb 49 (zI σ)] sz) (fun u => [cX x nw sn tk hs tx tr, cR nw na nb σ, xI g na 49 (zT σ), xI g nb 49 (zI σ)])) (va_A [cX x nw sn tk hs tx tr, cR nw na nb σ, xI g na 49 (zT σ), xI g nb 49 (zI σ)] sz)) 0 0 (va_A [cX x nw sn tk hs tx tr, cR nw na nb σ, xI g na 49 (zT σ), xI g nb 49 (zI σ)] sz) := by
  refine kMet (cc := cX5_share) (maxL := 1) (ret := (some .float)) (own := RX5) (by decide) rfl rfl (Nat.le_of_ble_eq_true rfl) ?_
  intro p e s m args below meth c ls Q H locs A F w hl hnm hA hQ
  have hx := F.1.1
  have hb := F.1.2.1
  have hts := F.1.2.2.2.2
  have hl : lv_has ls 1 [(0, .ref x)] := hl
  refine lv_aload_n hx hb dX5_share_0 rfl (lv_at hl 0 rfl) ?_
  refine kget (fs := [.ref nw, .ref sn, .int (bI tk), .ref hs, .ref tx, .ref tr]) F w in_X5_share_X5 0 rfl rfl 0 (by decide) (by decide +kernel) rfl rfl dX5_share_1 ?_
  refine kgetN (host := RX5) (fs := [.long (zB (zO σ)), .long (zB (zL σ)), .long (zB (zS σ)), .long (zB (zF σ)), .long (zB (zV σ)), .ref na, .ref nb]) F w in_X5_share_X2 1 rfl rfl 0 (by decide) (by decide +kernel) rfl rfl dX5_share_4 ?_
  refine kcalli (wc := []) (wr := [cX x nw sn tk hs tx tr, cR nw na nb σ, xI g na 49 (zT σ), xI g nb 49 (zI σ)]) (wn := fun (u : Unit) => [cX x nw sn tk hs tx tr, cR nw na nb σ, xI g na 49 (zT σ), xI g nb 49 (zI σ)]) F w [] [0, 1, 2, 3] [0, 1, 2, 3] rfl rfl rfl (fun _ => rfl)
    (fun hp => va_runS (As := [.long (zB (zO σ))]) (rest := []) F.1 (kJ13_bitCount_95d88 l g (zB (zO σ)) H.size ) (va_cwS 1 hts gX5_share_J13_bitCount_95d88 rfl rfl rfl hd_J13_bitCount_95d88 ⟨Nat.le_of_ble_eq_true rfl, Nat.le_of_ble_eq_true rfl⟩) hp rfl rfl hl.1 rfl (lv_room (Nat.le_of_ble_eq_true rfl)) dX5_share_7 ⟨Nat.le_of_ble_eq_true rfl, Nat.le_of_ble_eq_true rfl⟩)
    (fun r_1 _ H locs h_2 w => ?_)
  subst h_2
  refine ktopi (y := nI (zcnt (zO σ) 48)) (zpop_B _) ?_
  refine lv_i2f hx hb dX5_share_10 ?_
  refine lv_ldcf (v := f48c) hx hb F.1.2.2.2.1 (hts (.constantFloat RX5 179 f48c) (by decide +kernel)) dX5_share_11 ?_
  refine lv_fdiv hx hb dX5_share_13 (vf32 ((fsh_ne (zcnt (zO σ) 48) (by have := zcnt_le (zO σ) 48; omega)).1)) ?_
  refine ktopf (y := fsh (zcnt (zO σ) 48)) (rfl) ?_
  subst hA
  subst hQ
  exact kretf F w () [0, 1, 2, 3] rfl rfl (rfl) (Nat.le_of_ble_eq_true rfl) (Nat.le_of_ble_eq_true rfl) dX5_share_14
theorem hd_X5_bitsOf : yX5_bitsOf.cls ≠ "java/lang/invoke/MethodHandle" ∧ yX5_bitsOf.cls ≠ "java/lang/invoke/VarHandle" ∧ (parseMethodDescriptor yX5_bitsOf.desc).map (fun d => d.parameters.length) = some 3 := by decide +kernel
theorem hd_X5_share : yX5_share.cls ≠ "java/lang/invoke/MethodHandle" ∧ yX5_share.cls ≠ "java/lang/invoke/VarHandle" ∧ (parseMethodDescriptor yX5_share.desc).map (fun d => d.parameters.length) = some 0 := by decide +kernel
abbrev rmX5_shareBits : Room := { frames := 2, cells := 0, slots := 0, locals := 48 }
set_option maxHeartbeats 4000000 in
set_option maxRecDepth 100000 in
theorem kX5_shareBits (l : Launch) (g : GG) (x : Nat) (nw : Nat) (sn : Nat) (tk : Bool) (hs : Nat) (tx : Nat) (tr : Nat) (na : Nat) (nb : Nat) (σ : Sg) (sz : Nat)  : Met l yX5_shareBits wsX5_shareBits rmX5_shareBits (va_Pc [.ref x] (kPre g [cX x nw sn tk hs tx tr, cR nw na nb σ, xI g na 49 (zT σ), xI g nb 49 (zI σ)] sz)) (va_Qi (fun (r : Int32) (u : Unit) => r = (fsh (zcnt (zO σ) 48)).toInt32) (kB g (va_A [cX x nw sn tk hs tx tr, cR nw na nb σ, xI g na 49 (zT σ), xI g nb 49 (zI σ)] sz) (fun u => [cX x nw sn tk hs tx tr, cR nw na nb σ, xI g na 49 (zT σ), xI g nb 49 (zI σ)])) (va_A [cX x nw sn tk hs tx tr, cR nw na nb σ, xI g na 49 (zT σ), xI g nb 49 (zI σ)] sz)) 0 0 (va_A [cX x nw sn tk hs tx tr, cR nw na nb σ, xI g na 49 (zT σ), xI g nb 49 (zI σ)] sz) := by
  refine kMet (cc := cX5_shareBits) (maxL := 1) (ret := (some .int)) (own := RX5) (by decide) rfl rfl (Nat.le_of_ble_eq_true rfl) ?_
  intro p e s m args below meth c ls Q H locs A F w hl hnm hA hQ
  have hx := F.1.1
  have hb := F.1.2.1
  have hts := F.1.2.2.2.2
  have hl : lv_has ls 1 [(0, .ref x)] := hl
  refine lv_aload_n hx hb dX5_shareBits_0 rfl (lv_at hl 0 rfl) ?_
  refine kcallf (wc := [cX x nw sn tk hs tx tr, cR nw na nb σ, xI g na 49 (zT σ), xI g nb 49 (zI σ)]) (wr := []) (wn := fun (u : Unit) => [cX x nw sn tk hs tx tr, cR nw na nb σ, xI g na 49 (zT σ), xI g nb 49 (zI σ)]) F w [0, 1, 2, 3] [] [0, 1, 2, 3] rfl rfl rfl (fun _ => rfl)
    (fun hp => va_runV (As := []) (rest := []) F.1 (kX5_share l g x nw sn tk hs tx tr na nb σ H.size ) (cwV 0 hts gX5_shareBits_X5_share rfl rfl rfl ⟨rfl, hd_X5_share⟩ ⟨Nat.le_of_ble_eq_true rfl, Nat.le_of_ble_eq_true rfl⟩) ⟨hp.1, va_recv F.2.2.2.1.1 w.1 (q0 := 0) (ci := 5) rfl rfl, hp.2⟩ rfl rfl hl.1 rfl (lv_room (Nat.le_of_ble_eq_true rfl)) dX5_shareBits_1 ⟨Nat.le_of_ble_eq_true rfl, Nat.le_of_ble_eq_true rfl⟩)
    (fun r_1 _ H locs h_2 w => ?_)
  subst h_2
  have hzc := zcnt_le (zO σ) 48
  rcases (show zcnt (zO σ) 48 = 0 ∨ 1 ≤ zcnt (zO σ) 48 from by omega) with h_3 | h_3
  · skip
    refine ktopf (y := fsh 0) (by rw [h_3]) ?_
    refine lv_f2d hx hb dX5_shareBits_4 (vf64 ((fsh_ne 0 (by decide)).2)) ?_
    refine ktopd (y := 0) (sh_0.1) ?_
    refine lv_bipush (v := nI 23) hx hb dX5_shareBits_5 (by decide) ?_
    refine lv_bipush (v := nI 127) hx hb dX5_shareBits_7 (by decide) ?_
    refine kcalll (wc := []) (wr := [cX x nw sn tk hs tx tr, cR nw na nb σ, xI g na 49 (zT σ), xI g nb 49 (zI σ)]) (wn := fun (u : Unit) => [cX x nw sn tk hs tx tr, cR nw na nb σ, xI g na 49 (zT σ), xI g nb 49 (zI σ)]) F w [] [0, 1, 2, 3] [0, 1, 2, 3] rfl rfl rfl (fun _ => rfl)
      (fun hp => va_runS (As := [.double 0, .int (nI 23), .int (nI 127)]) (rest := []) F.1 (kX5_bitsOf_0 l g 0 23 127 H.size rfl) (va_cwS 3 hts gX5_shareBits_X5_bitsOf rfl rfl rfl hd_X5_bitsOf ⟨Nat.le_of_ble_eq_true rfl, Nat.le_of_ble_eq_true rfl⟩) hp rfl rfl hl.1 rfl (lv_room (Nat.le_of_ble_eq_true rfl)) dX5_shareBits_9 ⟨Nat.le_of_ble_eq_true rfl, Nat.le_of_ble_eq_true rfl⟩)
      (fun r_4 _ H locs h_5 w => ?_)
    subst h_5
    refine lv_l2i hx hb dX5_shareBits_12 rfl ?_
    refine ktopi (y := (fsh (zcnt (zO σ) 48)).toInt32) (by rw [h_3]; exact sh_0.2.symm) ?_
    subst hA
    subst hQ
    exact kreti F w () [0, 1, 2, 3] rfl rfl (rfl) (Nat.le_of_ble_eq_true rfl) (Nat.le_of_ble_eq_true rfl) dX5_shareBits_13
  · skip
    refine lv_f2d hx hb dX5_shareBits_4 (vf64 ((fsh_ne (zcnt (zO σ) 48) (by have := zcnt_le (zO σ) 48; omega)).2)) ?_
    refine ktopd (y := dET (shE (zcnt (zO σ) 48)) (shT (zcnt (zO σ) 48))) (sh_v _) ?_
    obtain ⟨hb1, hb2, hb3⟩ := sh_b (zcnt (zO σ) 48) (by omega) h_3
    refine lv_bipush (v := nI 23) hx hb dX5_shareBits_5 (by decide) ?_
    refine lv_bipush (v := nI 127) hx hb dX5_shareBits_7 (by decide) ?_
    have hb4 : shT (zcnt (zO σ) 48) < 2 ^ 52 := Nat.mod_lt _ (by decide)
    rcases (show shE (zcnt (zO σ) 48) ≤ 1022 ∨ shE (zcnt (zO σ) 48) = 1023 from by omega) with h_6 | h_6
    · skip
      refine kcalll (wc := []) (wr := [cX x nw sn tk hs tx tr, cR nw na nb σ, xI g na 49 (zT σ), xI g nb 49 (zI σ)]) (wn := fun (u : Unit) => [cX x nw sn tk hs tx tr, cR nw na nb σ, xI g na 49 (zT σ), xI g nb 49 (zI σ)]) F w [] [0, 1, 2, 3] [0, 1, 2, 3] rfl rfl rfl (fun _ => rfl)
        (fun hp => va_runS (As := [.double (dET (shE (zcnt (zO σ) 48)) (shT (zcnt (zO σ) 48))), .int (nI 23), .int (nI 127)]) (rest := []) F.1 (kX5_bitsOf_l23 l g (dET (shE (zcnt (zO σ) 48)) (shT (zcnt (zO σ) 48))) (shE (zcnt (zO σ) 48)) (shT (zcnt (zO σ) 48)) H.size rfl (by omega) hb4) (va_cwS 3 hts gX5_shareBits_X5_bitsOf rfl rfl rfl hd_X5_bitsOf ⟨Nat.le_of_ble_eq_true rfl, Nat.le_of_ble_eq_true rfl⟩) hp rfl rfl hl.1 rfl (lv_room (Nat.le_of_ble_eq_true rfl)) dX5_shareBits_9 ⟨Nat.le_of_ble_eq_true rfl, Nat.le_of_ble_eq_true rfl⟩)
        (fun r_7 _ H locs h_8 w => ?_)
      subst h_8
      refine lv_l2i hx hb dX5_shareBits_12 rfl ?_
      refine ktopi (y := (fsh (zcnt (zO σ) 48)).toInt32) (by rw [← hb3, show 127 - (1023 - shE (zcnt (zO σ) 48)) = shE (zcnt (zO σ) 48) - 896 by omega]) ?_
      subst hA
      subst hQ
      exact kreti F w () [0, 1, 2, 3] rfl rfl (rfl) (Nat.le_of_ble_eq_true rfl) (Nat.le_of_ble_eq_true rfl) dX5_shareBits_13
    · skip
      refine kcalll (wc := []) (wr := [cX x nw sn tk hs tx tr, cR nw na nb σ, xI g na 49 (zT σ), xI g nb 49 (zI σ)]) (wn := fun (u : Unit) => [cX x nw sn tk hs tx tr, cR nw na nb σ, xI g na 49 (zT σ), xI g nb 49 (zI σ)]) F w [] [0, 1, 2, 3] [0, 1, 2, 3] rfl rfl rfl (fun _ => rfl)
        (fun hp => va_runS (As := [.double (dET (shE (zcnt (zO σ) 48)) (shT (zcnt (zO σ) 48))), .int (nI 23), .int (nI 127)]) (rest := []) F.1 (kX5_bitsOf_h23 l g (dET (shE (zcnt (zO σ) 48)) (shT (zcnt (zO σ) 48))) (shE (zcnt (zO σ) 48)) (shT (zcnt (zO σ) 48)) H.size rfl (by omega) hb4) (va_cwS 3 hts gX5_shareBits_X5_bitsOf rfl rfl rfl hd_X5_bitsOf ⟨Nat.le_of_ble_eq_true rfl, Nat.le_of_ble_eq_true rfl⟩) hp rfl rfl hl.1 rfl (lv_room (Nat.le_of_ble_eq_true rfl)) dX5_shareBits_9 ⟨Nat.le_of_ble_eq_true rfl, Nat.le_of_ble_eq_true rfl⟩)
        (fun r_9 _ H locs h_10 w => ?_)
      subst h_10
      refine lv_l2i hx hb dX5_shareBits_12 rfl ?_
      refine ktopi (y := (fsh (zcnt (zO σ) 48)).toInt32) (by rw [← hb3, show shE (zcnt (zO σ) 48) - 1023 + 127 = shE (zcnt (zO σ) 48) - 896 by omega]) ?_
      subst hA
      subst hQ
      exact kreti F w () [0, 1, 2, 3] rfl rfl (rfl) (Nat.le_of_ble_eq_true rfl) (Nat.le_of_ble_eq_true rfl) dX5_shareBits_13
theorem in_X5_sumOfParts_X2 : ∀ w ∈ wsX20, w ∈ wsX5_sumOfParts := by decide +kernel
theorem in_X5_sumOfParts_X5 : ∀ w ∈ wsX50, w ∈ wsX5_sumOfParts := by decide +kernel
abbrev rmX5_sumOfParts : Room := { frames := 1, cells := 0, slots := 0, locals := 22 }
set_option maxHeartbeats 4000000 in
set_option maxRecDepth 100000 in
theorem kX5_sumOfParts (l : Launch) (g : GG) (x : Nat) (nw : Nat) (sn : Nat) (tk : Bool) (hs : Nat) (tx : Nat) (tr : Nat) (na : Nat) (nb : Nat) (σ : Sg) (sz : Nat)  : Met l yX5_sumOfParts wsX5_sumOfParts rmX5_sumOfParts (va_Pc [.ref x] (kPre g [cX x nw sn tk hs tx tr, cR nw na nb σ, xI g na 49 (zT σ), xI g nb 49 (zI σ)] sz)) (va_Qf (fun (r : UInt32) (u : Unit) => r = fS (zO σ) 48) (kB g (va_A [cX x nw sn tk hs tx tr, cR nw na nb σ, xI g na 49 (zT σ), xI g nb 49 (zI σ)] sz) (fun u => [cX x nw sn tk hs tx tr, cR nw na nb σ, xI g na 49 (zT σ), xI g nb 49 (zI σ)])) (va_A [cX x nw sn tk hs tx tr, cR nw na nb σ, xI g na 49 (zT σ), xI g nb 49 (zI σ)] sz)) 0 0 (va_A [cX x nw sn tk hs tx tr, cR nw na nb σ, xI g na 49 (zT σ), xI g nb 49 (zI σ)] sz) := by
  refine kMet (cc := cX5_sumOfParts) (maxL := 3) (ret := (some .float)) (own := RX5) (by decide) rfl rfl (Nat.le_of_ble_eq_true rfl) ?_
  intro p e s m args below meth c ls Q H locs A F w hl hnm hA hQ
  have hx := F.1.1
  have hb := F.1.2.1
  have hts := F.1.2.2.2.2
  have hl : lv_has ls 3 [(0, .ref x)] := hl
  refine lv_fconst0 hx hb dX5_sumOfParts_0 ?_
  refine ktopf (y := fS (zO σ) 0) (rfl) ?_
  refine lv_fstore_n (lv' := [(1, .float (fS (zO σ) 0)), (0, .ref x)]) hx hb dX5_sumOfParts_1 rfl hl (by decide) rfl (fun ls hl => ?_)
  refine lv_iconst (v := nI 1) hx hb dX5_sumOfParts_2 (by decide) ?_
  refine ktopi (y := nI (0 + 1)) (rfl) ?_
  refine lv_istore_n (lv' := [(2, .int (nI (0 + 1))), (1, .float (fS (zO σ) 0)), (0, .ref x)]) hx hb dX5_sumOfParts_3 rfl hl (by decide) rfl (fun ls hl => ?_)
  have LP_1 : ∀ (fu : Nat) (j : Nat) (h1 : j ≤ 48) (H : Heap) (locs : List Loc) (ls : Array Slot), 50 - j < fu → kW g A s [cX x nw sn tk hs tx tr, cR nw na nb σ, xI g na 49 (zT σ), xI g nb 49 (zI σ)] H locs → lv_has ls 3 [(2, .int (nI (j + 1))), (1, .float (fS (zO σ) j)), (0, .ref x)] → W p l e rmX5_sumOfParts s m args below meth c H locs 0 0 Q (F0 m 4 ls []) := by
    intro fu
    induction fu with
    | zero => intro j h1 H locs ls hlt; omega
    | succ fu ih_1 =>
      intro j h1 H locs ls hlt w hl
      refine lv_iload_n hx hb dX5_sumOfParts_4 rfl (lv_at hl 0 rfl) ?_
      refine lv_bipush (v := nI 48) hx hb dX5_sumOfParts_5 (by decide) ?_
      refine lv_icmp_gt (tgt := 37) hx hb dX5_sumOfParts_7 (by decide) (fun h_2 => ?_) (fun h_2 => ?_)
      · have h_2 : j + 1 > 48 := (kc_gt_t (by omega) (by omega)).mp h_2
        have e_3 : j = 48 := by omega
        subst e_3
        refine lv_fload_n hx hb dX5_sumOfParts_37 rfl (lv_at hl 1 rfl) ?_
        subst hA
        subst hQ
        exact kretf F w () [0, 1, 2, 3] rfl rfl (rfl) (Nat.le_of_ble_eq_true rfl) (Nat.le_of_ble_eq_true rfl) dX5_sumOfParts_38
      · have h_2 : j + 1 ≤ 48 := (kc_gt_f (by omega) (by omega)).mp h_2
        refine lv_aload_n hx hb dX5_sumOfParts_10 rfl (lv_at hl 2 rfl) ?_
        refine kget (fs := [.ref nw, .ref sn, .int (bI tk), .ref hs, .ref tx, .ref tr]) F w in_X5_sumOfParts_X5 0 rfl rfl 0 (by decide) (by decide +kernel) rfl rfl dX5_sumOfParts_11 ?_
        refine kgetN (host := RX5) (fs := [.long (zB (zO σ)), .long (zB (zL σ)), .long (zB (zS σ)), .long (zB (zF σ)), .long (zB (zV σ)), .ref na, .ref nb]) F w in_X5_sumOfParts_X2 1 rfl rfl 0 (by decide) (by decide +kernel) rfl rfl dX5_sumOfParts_14 ?_
        refine lv_iload_n hx hb dX5_sumOfParts_17 rfl (lv_at hl 0 rfl) ?_
        refine kcalli (wc := []) (wr := [cX x nw sn tk hs tx tr, cR nw na nb σ, xI g na 49 (zT σ), xI g nb 49 (zI σ)]) (wn := fun (u : Unit) => [cX x nw sn tk hs tx tr, cR nw na nb σ, xI g na 49 (zT σ), xI g nb 49 (zI σ)]) F w [] [0, 1, 2, 3] [0, 1, 2, 3] rfl rfl rfl (fun _ => rfl)
          (fun hp => va_runS (As := [.long (zB (zO σ)), .int (nI (j + 1))]) (rest := []) F.1 (kX5_contains l g (zB (zO σ)) (j + 1) H.size (by omega)) (va_cwS 2 hts gX5_sumOfParts_X5_contains rfl rfl rfl hd_X5_contains ⟨Nat.le_of_ble_eq_true rfl, Nat.le_of_ble_eq_true rfl⟩) hp rfl rfl hl.1 rfl (lv_room (Nat.le_of_ble_eq_true rfl)) dX5_sumOfParts_18 ⟨Nat.le_of_ble_eq_true rfl, Nat.le_of_ble_eq_true rfl⟩)
          (fun r_4 _ H locs h_5 w => ?_)
        subst h_5
        refine ktopi (y := bI (zO σ (j + 1))) (congrArg bI (zG_in (by omega) (by omega))) ?_
        refine lv_if_eq (tgt := 31) hx hb dX5_sumOfParts_21 (by decide) (fun h_6 => ?_) (fun h_6 => ?_)
        · have h_6 : (zO σ (j + 1)) = false := bI_z.mp h_6
          rw [← fS_f h_6] at hl
          refine lv_iinc (v := nI (j + 1 + 1)) (lv' := [(2, .int (nI (j + 1 + 1))), (1, .float (fS (zO σ) (j + 1))), (0, .ref x)]) hx hb dX5_sumOfParts_31 hl (k := 0) rfl (nI_add (j + 1) 1) (by decide) rfl (fun ls hl => ?_)
          refine lv_goto (tgt := 4) hx hb dX5_sumOfParts_34 (by decide) ?_
          exact ih_1 (j + 1) (by omega) _ _ _ (by omega) (kW.perm w [0, 1, 2, 3] rfl rfl) (lv_sub hl [0, 1, 2] rfl)
        · have h_6 : (zO σ (j + 1)) = true := bI_o.mp h_6
          refine lv_fload_n hx hb dX5_sumOfParts_24 rfl (lv_at hl 1 rfl) ?_
          refine lv_fconst1 hx hb dX5_sumOfParts_25 ?_
          refine lv_iload_n hx hb dX5_sumOfParts_26 rfl (lv_at hl 0 rfl) ?_
          refine lv_i2f hx hb dX5_sumOfParts_27 ?_
          refine lv_fdiv hx hb dX5_sumOfParts_28 (vf32 (fq_ne (by omega))) ?_
          refine ktopf (y := fq (j + 1)) (rfl) ?_
          refine lv_fadd hx hb dX5_sumOfParts_29 (vf32 (fA_ne (zO σ) (by omega))) ?_
          refine ktopf (y := fS (zO σ) (j + 1)) ((fS_t h_6).symm) ?_
          refine lv_fstore_n (lv' := [(1, .float (fS (zO σ) (j + 1))), (2, .int (nI (j + 1))), (0, .ref x)]) hx hb dX5_sumOfParts_30 rfl hl (by decide) rfl (fun ls hl => ?_)
          refine lv_iinc (v := nI (j + 1 + 1)) (lv' := [(2, .int (nI (j + 1 + 1))), (1, .float (fS (zO σ) (j + 1))), (0, .ref x)]) hx hb dX5_sumOfParts_31 hl (k := 1) rfl (nI_add (j + 1) 1) (by decide) rfl (fun ls hl => ?_)
          refine lv_goto (tgt := 4) hx hb dX5_sumOfParts_34 (by decide) ?_
          exact ih_1 (j + 1) (by omega) _ _ _ (by omega) (kW.perm w [0, 1, 2, 3] rfl rfl) (lv_sub hl [0, 1, 2] rfl)
  exact LP_1 _ 0 (by omega) _ _ _ (Nat.lt_succ_self _) (kW.perm w [0, 1, 2, 3] rfl rfl) (lv_sub hl [0, 1, 2] rfl)
theorem in_X5_sumBits_X2 : ∀ w ∈ wsX20, w ∈ wsX5_sumBits := by decide +kernel
theorem in_X5_sumBits_X5 : ∀ w ∈ wsX50, w ∈ wsX5_sumBits := by decide +kernel
abbrev rmX5_sumBits : Room := { frames := 2, cells := 0, slots := 0, locals := 48 }
set_option maxHeartbeats 4000000 in
set_option maxRecDepth 100000 in
theorem kX5_sumBits (l : Launch) (g : GG) (x : Nat) (nw : Nat) (sn : Nat) (tk : Bool) (hs : Nat) (tx : Nat) (tr : Nat) (na : Nat) (nb : Nat) (σ : Sg) (sz : Nat)  : Met l yX5_sumBits wsX5_sumBits rmX5_sumBits (va_Pc [.ref x] (kPre g [cX x nw sn tk hs tx tr, cR nw na nb σ, xI g na 49 (zT σ), xI g nb 49 (zI σ)] sz)) (va_Ql (fun (r : Int64) (u : Unit) => r = (dS (zO σ) 48).toInt64) (kB g (va_A [cX x nw sn tk hs tx tr, cR nw na nb σ, xI g na 49 (zT σ), xI g nb 49 (zI σ)] sz) (fun u => [cX x nw sn tk hs tx tr, cR nw na nb σ, xI g na 49 (zT σ), xI g nb 49 (zI σ)])) (va_A [cX x nw sn tk hs tx tr, cR nw na nb σ, xI g na 49 (zT σ), xI g nb 49 (zI σ)] sz)) 0 0 (va_A [cX x nw sn tk hs tx tr, cR nw na nb σ, xI g na 49 (zT σ), xI g nb 49 (zI σ)] sz) := by
  refine kMet (cc := cX5_sumBits) (maxL := 4) (ret := (some .long)) (own := RX5) (by decide) rfl rfl (Nat.le_of_ble_eq_true rfl) ?_
  intro p e s m args below meth c ls Q H locs A F w hl hnm hA hQ
  have hx := F.1.1
  have hb := F.1.2.1
  have hts := F.1.2.2.2.2
  have hl : lv_has ls 4 [(0, .ref x)] := hl
  refine lv_dconst0 hx hb dX5_sumBits_0 ?_
  refine ktopd (y := dS (zO σ) 0) (rfl) ?_
  refine lv_dstore_n (lv' := [(1, .double (dS (zO σ) 0)), (0, .ref x)]) hx hb dX5_sumBits_1 rfl hl (by decide) rfl (fun ls hl => ?_)
  refine lv_iconst (v := nI 1) hx hb dX5_sumBits_2 (by decide) ?_
  refine ktopi (y := nI (0 + 1)) (rfl) ?_
  refine lv_istore_n (lv' := [(3, .int (nI (0 + 1))), (1, .double (dS (zO σ) 0)), (0, .ref x)]) hx hb dX5_sumBits_3 rfl hl (by decide) rfl (fun ls hl => ?_)
  have LP_1 : ∀ (fu : Nat) (j : Nat) (h1 : j ≤ 48) (H : Heap) (locs : List Loc) (ls : Array Slot), 50 - j < fu → kW g A s [cX x nw sn tk hs tx tr, cR nw na nb σ, xI g na 49 (zT σ), xI g nb 49 (zI σ)] H locs → lv_has ls 4 [(3, .int (nI (j + 1))), (1, .double (dS (zO σ) j)), (0, .ref x)] → W p l e rmX5_sumBits s m args below meth c H locs 0 0 Q (F0 m 4 ls []) := by
    intro fu
    induction fu with
    | zero => intro j h1 H locs ls hlt; omega
    | succ fu ih_1 =>
      intro j h1 H locs ls hlt w hl
      refine lv_iload_n hx hb dX5_sumBits_4 rfl (lv_at hl 0 rfl) ?_
      refine lv_bipush (v := nI 48) hx hb dX5_sumBits_5 (by decide) ?_
      refine lv_icmp_gt (tgt := 37) hx hb dX5_sumBits_7 (by decide) (fun h_2 => ?_) (fun h_2 => ?_)
      · have h_2 : j + 1 > 48 := (kc_gt_t (by omega) (by omega)).mp h_2
        have e_3 : j = 48 := by omega
        subst e_3
        refine lv_dload_n hx hb dX5_sumBits_37 rfl (lv_at hl 1 rfl) ?_
        refine lv_bipush (v := nI 52) hx hb dX5_sumBits_38 (by decide) ?_
        refine lv_sipush (v := nI 1023) hx hb dX5_sumBits_40 (by decide) ?_
        have hdp := dS_pos (zO σ) 48 (Nat.le_refl _)
        have hb4 : (dS (zO σ) 48).toNat % 2 ^ 52 < 2 ^ 52 := Nat.mod_lt _ (by decide)
        rcases (show dS (zO σ) 48 = 0 ∨ (1017 * 2 ^ 52 ≤ (dS (zO σ) 48).toNat ∧ (dS (zO σ) 48).toNat < 4611686018427387904 + 9007199254740992 * 48) from hdp) with h_4 | h_4
        · skip
          refine kcalll (wc := []) (wr := [cX x nw sn tk hs tx tr, cR nw na nb σ, xI g na 49 (zT σ), xI g nb 49 (zI σ)]) (wn := fun (u : Unit) => [cX x nw sn tk hs tx tr, cR nw na nb σ, xI g na 49 (zT σ), xI g nb 49 (zI σ)]) F w [] [0, 1, 2, 3] [0, 1, 2, 3] rfl rfl rfl (fun _ => rfl)
            (fun hp => va_runS (As := [.double (dS (zO σ) 48), .int (nI 52), .int (nI 1023)]) (rest := []) F.1 (kX5_bitsOf_0 l g (dS (zO σ) 48) 52 1023 H.size h_4) (va_cwS 3 hts gX5_sumBits_X5_bitsOf rfl rfl rfl hd_X5_bitsOf ⟨Nat.le_of_ble_eq_true rfl, Nat.le_of_ble_eq_true rfl⟩) hp rfl rfl hl.1 rfl (lv_room (Nat.le_of_ble_eq_true rfl)) dX5_sumBits_43 ⟨Nat.le_of_ble_eq_true rfl, Nat.le_of_ble_eq_true rfl⟩)
            (fun r_5 _ H locs h_6 w => ?_)
          subst h_6
          refine ktopl (y := (dS (zO σ) 48).toInt64) (by rw [h_4]; rfl) ?_
          subst hA
          subst hQ
          exact kretl F w () [0, 1, 2, 3] rfl rfl (rfl) (Nat.le_of_ble_eq_true rfl) (Nat.le_of_ble_eq_true rfl) dX5_sumBits_46
        · skip
          have hb5 : 1017 ≤ (dS (zO σ) 48).toNat / 2 ^ 52 ∧ (dS (zO σ) 48).toNat / 2 ^ 52 ≤ 1119 := by
            obtain ⟨a1, a2⟩ := h_4
            omega
          rcases (show (dS (zO σ) 48).toNat / 2 ^ 52 ≤ 1022 ∨ 1023 ≤ (dS (zO σ) 48).toNat / 2 ^ 52 from by omega) with h_7 | h_7
          · skip
            refine kcalll (wc := []) (wr := [cX x nw sn tk hs tx tr, cR nw na nb σ, xI g na 49 (zT σ), xI g nb 49 (zI σ)]) (wn := fun (u : Unit) => [cX x nw sn tk hs tx tr, cR nw na nb σ, xI g na 49 (zT σ), xI g nb 49 (zI σ)]) F w [] [0, 1, 2, 3] [0, 1, 2, 3] rfl rfl rfl (fun _ => rfl)
              (fun hp => va_runS (As := [.double (dS (zO σ) 48), .int (nI 52), .int (nI 1023)]) (rest := []) F.1 (kX5_bitsOf_l52 l g (dS (zO σ) 48) ((dS (zO σ) 48).toNat / 2 ^ 52) ((dS (zO σ) 48).toNat % 2 ^ 52) H.size (d_of _) (by omega) hb4) (va_cwS 3 hts gX5_sumBits_X5_bitsOf rfl rfl rfl hd_X5_bitsOf ⟨Nat.le_of_ble_eq_true rfl, Nat.le_of_ble_eq_true rfl⟩) hp rfl rfl hl.1 rfl (lv_room (Nat.le_of_ble_eq_true rfl)) dX5_sumBits_43 ⟨Nat.le_of_ble_eq_true rfl, Nat.le_of_ble_eq_true rfl⟩)
              (fun r_8 _ H locs h_9 w => ?_)
            subst h_9
            refine ktopl (y := (dS (zO σ) 48).toInt64) (bits_52 (by omega) (by omega)) ?_
            subst hA
            subst hQ
            exact kretl F w () [0, 1, 2, 3] rfl rfl (rfl) (Nat.le_of_ble_eq_true rfl) (Nat.le_of_ble_eq_true rfl) dX5_sumBits_46
          · skip
            refine kcalll (wc := []) (wr := [cX x nw sn tk hs tx tr, cR nw na nb σ, xI g na 49 (zT σ), xI g nb 49 (zI σ)]) (wn := fun (u : Unit) => [cX x nw sn tk hs tx tr, cR nw na nb σ, xI g na 49 (zT σ), xI g nb 49 (zI σ)]) F w [] [0, 1, 2, 3] [0, 1, 2, 3] rfl rfl rfl (fun _ => rfl)
              (fun hp => va_runS (As := [.double (dS (zO σ) 48), .int (nI 52), .int (nI 1023)]) (rest := []) F.1 (kX5_bitsOf_h52 l g (dS (zO σ) 48) ((dS (zO σ) 48).toNat / 2 ^ 52) ((dS (zO σ) 48).toNat % 2 ^ 52) H.size (d_of _) (by omega) hb4) (va_cwS 3 hts gX5_sumBits_X5_bitsOf rfl rfl rfl hd_X5_bitsOf ⟨Nat.le_of_ble_eq_true rfl, Nat.le_of_ble_eq_true rfl⟩) hp rfl rfl hl.1 rfl (lv_room (Nat.le_of_ble_eq_true rfl)) dX5_sumBits_43 ⟨Nat.le_of_ble_eq_true rfl, Nat.le_of_ble_eq_true rfl⟩)
              (fun r_10 _ H locs h_11 w => ?_)
            subst h_11
            refine ktopl (y := (dS (zO σ) 48).toInt64) (bits_52 (by omega) (by omega)) ?_
            subst hA
            subst hQ
            exact kretl F w () [0, 1, 2, 3] rfl rfl (rfl) (Nat.le_of_ble_eq_true rfl) (Nat.le_of_ble_eq_true rfl) dX5_sumBits_46
      · have h_2 : j + 1 ≤ 48 := (kc_gt_f (by omega) (by omega)).mp h_2
        refine lv_aload_n hx hb dX5_sumBits_10 rfl (lv_at hl 2 rfl) ?_
        refine kget (fs := [.ref nw, .ref sn, .int (bI tk), .ref hs, .ref tx, .ref tr]) F w in_X5_sumBits_X5 0 rfl rfl 0 (by decide) (by decide +kernel) rfl rfl dX5_sumBits_11 ?_
        refine kgetN (host := RX5) (fs := [.long (zB (zO σ)), .long (zB (zL σ)), .long (zB (zS σ)), .long (zB (zF σ)), .long (zB (zV σ)), .ref na, .ref nb]) F w in_X5_sumBits_X2 1 rfl rfl 0 (by decide) (by decide +kernel) rfl rfl dX5_sumBits_14 ?_
        refine lv_iload_n hx hb dX5_sumBits_17 rfl (lv_at hl 0 rfl) ?_
        refine kcalli (wc := []) (wr := [cX x nw sn tk hs tx tr, cR nw na nb σ, xI g na 49 (zT σ), xI g nb 49 (zI σ)]) (wn := fun (u : Unit) => [cX x nw sn tk hs tx tr, cR nw na nb σ, xI g na 49 (zT σ), xI g nb 49 (zI σ)]) F w [] [0, 1, 2, 3] [0, 1, 2, 3] rfl rfl rfl (fun _ => rfl)
          (fun hp => va_runS (As := [.long (zB (zO σ)), .int (nI (j + 1))]) (rest := []) F.1 (kX5_contains l g (zB (zO σ)) (j + 1) H.size (by omega)) (va_cwS 2 hts gX5_sumBits_X5_contains rfl rfl rfl hd_X5_contains ⟨Nat.le_of_ble_eq_true rfl, Nat.le_of_ble_eq_true rfl⟩) hp rfl rfl hl.1 rfl (lv_room (Nat.le_of_ble_eq_true rfl)) dX5_sumBits_18 ⟨Nat.le_of_ble_eq_true rfl, Nat.le_of_ble_eq_true rfl⟩)
          (fun r_12 _ H locs h_13 w => ?_)
        subst h_13
        refine ktopi (y := bI (zO σ (j + 1))) (congrArg bI (zG_in (by omega) (by omega))) ?_
        refine lv_if_eq (tgt := 31) hx hb dX5_sumBits_21 (by decide) (fun h_14 => ?_) (fun h_14 => ?_)
        · have h_14 : (zO σ (j + 1)) = false := bI_z.mp h_14
          rw [← dS_f h_14] at hl
          refine lv_iinc (v := nI (j + 1 + 1)) (lv' := [(3, .int (nI (j + 1 + 1))), (1, .double (dS (zO σ) (j + 1))), (0, .ref x)]) hx hb dX5_sumBits_31 hl (k := 0) rfl (nI_add (j + 1) 1) (by decide) rfl (fun ls hl => ?_)
          refine lv_goto (tgt := 4) hx hb dX5_sumBits_34 (by decide) ?_
          exact ih_1 (j + 1) (by omega) _ _ _ (by omega) (kW.perm w [0, 1, 2, 3] rfl rfl) (lv_sub hl [0, 1, 2] rfl)
        · have h_14 : (zO σ (j + 1)) = true := bI_o.mp h_14
          refine lv_dload_n hx hb dX5_sumBits_24 rfl (lv_at hl 1 rfl) ?_
          refine lv_dconst1 hx hb dX5_sumBits_25 ?_
          refine lv_iload_n hx hb dX5_sumBits_26 rfl (lv_at hl 0 rfl) ?_
          refine lv_i2d hx hb dX5_sumBits_27 ?_
          refine lv_ddiv hx hb dX5_sumBits_28 (vf64 (dq_ne (by omega))) ?_
          refine ktopd (y := dq (j + 1)) (rfl) ?_
          refine lv_dadd hx hb dX5_sumBits_29 (vf64 (dA_ne (zO σ) (by omega))) ?_
          refine ktopd (y := dS (zO σ) (j + 1)) ((dS_t h_14).symm) ?_
          refine lv_dstore_n (lv' := [(1, .double (dS (zO σ) (j + 1))), (3, .int (nI (j + 1))), (0, .ref x)]) hx hb dX5_sumBits_30 rfl hl (by decide) rfl (fun ls hl => ?_)
          refine lv_iinc (v := nI (j + 1 + 1)) (lv' := [(3, .int (nI (j + 1 + 1))), (1, .double (dS (zO σ) (j + 1))), (0, .ref x)]) hx hb dX5_sumBits_31 hl (k := 1) rfl (nI_add (j + 1) 1) (by decide) rfl (fun ls hl => ?_)
          refine lv_goto (tgt := 4) hx hb dX5_sumBits_34 (by decide) ?_
          exact ih_1 (j + 1) (by omega) _ _ _ (by omega) (kW.perm w [0, 1, 2, 3] rfl rfl) (lv_sub hl [0, 1, 2] rfl)
  exact LP_1 _ 0 (by omega) _ _ _ (Nat.lt_succ_self _) (kW.perm w [0, 1, 2, 3] rfl rfl) (lv_sub hl [0, 1, 2] rfl)
