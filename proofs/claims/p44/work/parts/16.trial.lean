/-! ===== history and trial ===== -/
abbrev cH (h q n : Nat) : Nat × va_E := xO h 0 [.ref q, .int (nI n)]
def rq (ρ : Nat → Nat) : Nat → Option Nat := fun j => some (ρ j)
def rotA (ρ : Nat → Nat) : Nat → Nat := fun j => if j < 3 then ρ (j + 1) else ρ 0
theorem in_X0_dropOldest_X0 : ∀ w ∈ wsX00, w ∈ wsX0_dropOldest := by decide +kernel
abbrev rmX0_dropOldest : Room := { frames := 0, cells := 0, slots := 0, locals := 0 }
set_option maxHeartbeats 4000000 in
set_option maxRecDepth 100000 in
theorem kX0_dropOldest (l : Launch) (g : GG) (h : Nat) (q : Nat) (n : Nat) (ρ : Nat → Nat) (α : Nat → Nat) (β : Nat → Nat) (γ : Nat → Sg) (sz : Nat)  : Met l yX0_dropOldest wsX0_dropOldest rmX0_dropOldest (va_Pc [.ref h] (kPre g [cH h q n, xQ g q 4 (rq ρ), cR (ρ 0) (α 0) (β 0) (γ 0), xI g (α 0) 49 (zT (γ 0)), xI g (β 0) 49 (zI (γ 0)), cR (ρ 1) (α 1) (β 1) (γ 1), xI g (α 1) 49 (zT (γ 1)), xI g (β 1) 49 (zI (γ 1)), cR (ρ 2) (α 2) (β 2) (γ 2), xI g (α 2) 49 (zT (γ 2)), xI g (β 2) 49 (zI (γ 2)), cR (ρ 3) (α 3) (β 3) (γ 3), xI g (α 3) 49 (zT (γ 3)), xI g (β 3) 49 (zI (γ 3))] sz)) (va_Qv (fun (u : Unit) => True) (kB g (va_A [cH h q n, xQ g q 4 (rq ρ), cR (ρ 0) (α 0) (β 0) (γ 0), xI g (α 0) 49 (zT (γ 0)), xI g (β 0) 49 (zI (γ 0)), cR (ρ 1) (α 1) (β 1) (γ 1), xI g (α 1) 49 (zT (γ 1)), xI g (β 1) 49 (zI (γ 1)), cR (ρ 2) (α 2) (β 2) (γ 2), xI g (α 2) 49 (zT (γ 2)), xI g (β 2) 49 (zI (γ 2)), cR (ρ 3) (α 3) (β 3) (γ 3), xI g (α 3) 49 (zT (γ 3)), xI g (β 3) 49 (zI (γ 3))] sz) (fun u => [cH h q 3, xQ g q 4 (rq (rotA ρ)), cR (ρ 0) (α 0) (β 0) (γ 0), xI g (α 0) 49 (zT (γ 0)), xI g (β 0) 49 (zI (γ 0)), cR (ρ 1) (α 1) (β 1) (γ 1), xI g (α 1) 49 (zT (γ 1)), xI g (β 1) 49 (zI (γ 1)), cR (ρ 2) (α 2) (β 2) (γ 2), xI g (α 2) 49 (zT (γ 2)), xI g (β 2) 49 (zI (γ 2)), cR (ρ 3) (α 3) (β 3) (γ 3), xI g (α 3) 49 (zT (γ 3)), xI g (β 3) 49 (zI (γ 3))])) (va_A [cH h q n, xQ g q 4 (rq ρ), cR (ρ 0) (α 0) (β 0) (γ 0), xI g (α 0) 49 (zT (γ 0)), xI g (β 0) 49 (zI (γ 0)), cR (ρ 1) (α 1) (β 1) (γ 1), xI g (α 1) 49 (zT (γ 1)), xI g (β 1) 49 (zI (γ 1)), cR (ρ 2) (α 2) (β 2) (γ 2), xI g (α 2) 49 (zT (γ 2)), xI g (β 2) 49 (zI (γ 2)), cR (ρ 3) (α 3) (β 3) (γ 3), xI g (α 3) 49 (zT (γ 3)), xI g (β 3) 49 (zI (γ 3))] sz)) 0 0 (va_A [cH h q n, xQ g q 4 (rq ρ), cR (ρ 0) (α 0) (β 0) (γ 0), xI g (α 0) 49 (zT (γ 0)), xI g (β 0) 49 (zI (γ 0)), cR (ρ 1) (α 1) (β 1) (γ 1), xI g (α 1) 49 (zT (γ 1)), xI g (β 1) 49 (zI (γ 1)), cR (ρ 2) (α 2) (β 2) (γ 2), xI g (α 2) 49 (zT (γ 2)), xI g (β 2) 49 (zI (γ 2)), cR (ρ 3) (α 3) (β 3) (γ 3), xI g (α 3) 49 (zT (γ 3)), xI g (β 3) 49 (zI (γ 3))] sz) := by
  refine kMet (cc := cX0_dropOldest) (maxL := 3) (ret := none) (own := RX0) (by decide) rfl rfl (Nat.le_of_ble_eq_true rfl) ?_
  intro p e s m args below meth c ls Q H locs A F w hl hnm hA hQ
  have hx := F.1.1
  have hb := F.1.2.1
  have hts := F.1.2.2.2.2
  have hl : lv_has ls 3 [(0, .ref h)] := hl
  refine lv_aload_n hx hb dX0_dropOldest_0 rfl (lv_at hl 0 rfl) ?_
  refine kget (fs := [.ref q, .int (nI n)]) F w in_X0_dropOldest_X0 0 rfl rfl 0 (by decide) (by decide +kernel) rfl rfl dX0_dropOldest_1 ?_
  refine kalen (t0 := 2) (v := nI 4) F w 1 rfl rfl rfl dX0_dropOldest_4 ?_
  refine lv_if_ne (tgt := 9) hx hb dX0_dropOldest_5 (by decide) (fun h_1 => ?_) (fun h_1 => ?_)
  · have h_1 : 4 ≠ 0 := (kc0_ne_t (by omega)).mp h_1
    refine lv_aload_n hx hb dX0_dropOldest_9 rfl (lv_at hl 0 rfl) ?_
    refine kget (fs := [.ref q, .int (nI n)]) F w in_X0_dropOldest_X0 0 rfl rfl 0 (by decide) (by decide +kernel) rfl rfl dX0_dropOldest_10 ?_
    refine lv_iconst (v := nI 0) hx hb dX0_dropOldest_13 (by decide) ?_
    refine kqald (v := .ref (ρ 0)) F w 1 rfl (vp_in_nI (by omega) (by omega)) (by rw [nI_clamp (n := 0) (by omega)]; rfl) dX0_dropOldest_14 ?_
    refine lv_astore_n (lv' := [(1, .ref (ρ 0)), (0, .ref h)]) hx hb dX0_dropOldest_15 rfl hl (by decide) rfl (fun ls hl => ?_)
    refine lv_iconst (v := nI 1) hx hb dX0_dropOldest_16 (by decide) ?_
    refine lv_istore_n (lv' := [(2, .int (nI 1)), (1, .ref (ρ 0)), (0, .ref h)]) hx hb dX0_dropOldest_17 rfl hl (by decide) rfl (fun ls hl => ?_)
    refine lv_iload_n hx hb dX0_dropOldest_18 rfl (lv_at hl 0 rfl) ?_
    refine lv_aload_n hx hb dX0_dropOldest_19 rfl (lv_at hl 2 rfl) ?_
    refine kget (fs := [.ref q, .int (nI n)]) F w in_X0_dropOldest_X0 0 rfl rfl 0 (by decide) (by decide +kernel) rfl rfl dX0_dropOldest_20 ?_
    refine kalen (t0 := 2) (v := nI 4) F w 1 rfl rfl rfl dX0_dropOldest_23 ?_
    refine lv_icmp_ge (tgt := 47) hx hb dX0_dropOldest_24 (by decide) (fun h_2 => ?_) (fun h_2 => ?_)
    · have h_2 : 1 ≥ 4 := (kc_ge_t (by omega) (by omega)).mp h_2
      omega
    · have h_2 : 1 < 4 := (kc_ge_f (by omega) (by omega)).mp h_2
      refine lv_aload_n hx hb dX0_dropOldest_27 rfl (lv_at hl 2 rfl) ?_
      refine kget (fs := [.ref q, .int (nI n)]) F w in_X0_dropOldest_X0 0 rfl rfl 0 (by decide) (by decide +kernel) rfl rfl dX0_dropOldest_28 ?_
      refine lv_iload_n hx hb dX0_dropOldest_31 rfl (lv_at hl 0 rfl) ?_
      refine lv_iconst (v := nI 1) hx hb dX0_dropOldest_32 (by decide) ?_
      refine lv_isub hx hb dX0_dropOldest_33 ?_
      refine ktopi (y := nI 0) (by decide) ?_
      refine lv_aload_n hx hb dX0_dropOldest_34 rfl (lv_at hl 2 rfl) ?_
      refine kget (fs := [.ref q, .int (nI n)]) F w in_X0_dropOldest_X0 0 rfl rfl 0 (by decide) (by decide +kernel) rfl rfl dX0_dropOldest_35 ?_
      refine lv_iload_n hx hb dX0_dropOldest_38 rfl (lv_at hl 0 rfl) ?_
      refine kqald (v := .ref (ρ 1)) F w 1 rfl (vp_in_nI (by omega) (by omega)) (by rw [nI_clamp (n := 1) (by omega)]; rfl) dX0_dropOldest_39 ?_
      refine kqast (f' := va_up (rq ρ) 0 (some (ρ 1))) F w 1 5 rfl rfl rfl rfl (vp_in_nI (by omega) (by omega)) (by rw [nI_clamp (n := 0) (by omega)]) (wn := [cH h q n, xQ g q 4 (va_up (rq ρ) 0 (some (ρ 1))), cR (ρ 0) (α 0) (β 0) (γ 0), xI g (α 0) 49 (zT (γ 0)), xI g (β 0) 49 (zI (γ 0)), cR (ρ 1) (α 1) (β 1) (γ 1), xI g (α 1) 49 (zT (γ 1)), xI g (β 1) 49 (zI (γ 1)), cR (ρ 2) (α 2) (β 2) (γ 2), xI g (α 2) 49 (zT (γ 2)), xI g (β 2) 49 (zI (γ 2)), cR (ρ 3) (α 3) (β 3) (γ 3), xI g (α 3) 49 (zT (γ 3)), xI g (β 3) 49 (zI (γ 3))]) rfl dX0_dropOldest_40 (fun H locs w => ?_)
      refine lv_iinc (v := nI 2) (lv' := [(2, .int (nI 2)), (1, .ref (ρ 0)), (0, .ref h)]) hx hb dX0_dropOldest_41 hl (k := 0) rfl (nI_add 1 1) (by decide) rfl (fun ls hl => ?_)
      refine lv_goto (tgt := 18) hx hb dX0_dropOldest_44 (by decide) ?_
      refine lv_iload_n hx hb dX0_dropOldest_18 rfl (lv_at hl 0 rfl) ?_
      refine lv_aload_n hx hb dX0_dropOldest_19 rfl (lv_at hl 2 rfl) ?_
      refine kget (fs := [.ref q, .int (nI n)]) F w in_X0_dropOldest_X0 0 rfl rfl 0 (by decide) (by decide +kernel) rfl rfl dX0_dropOldest_20 ?_
      refine kalen (t0 := 2) (v := nI 4) F w 1 rfl rfl rfl dX0_dropOldest_23 ?_
      refine lv_icmp_ge (tgt := 47) hx hb dX0_dropOldest_24 (by decide) (fun h_3 => ?_) (fun h_3 => ?_)
      · have h_3 : 2 ≥ 4 := (kc_ge_t (by omega) (by omega)).mp h_3
        omega
      · have h_3 : 2 < 4 := (kc_ge_f (by omega) (by omega)).mp h_3
        refine lv_aload_n hx hb dX0_dropOldest_27 rfl (lv_at hl 2 rfl) ?_
        refine kget (fs := [.ref q, .int (nI n)]) F w in_X0_dropOldest_X0 0 rfl rfl 0 (by decide) (by decide +kernel) rfl rfl dX0_dropOldest_28 ?_
        refine lv_iload_n hx hb dX0_dropOldest_31 rfl (lv_at hl 0 rfl) ?_
        refine lv_iconst (v := nI 1) hx hb dX0_dropOldest_32 (by decide) ?_
        refine lv_isub hx hb dX0_dropOldest_33 ?_
        refine ktopi (y := nI 1) (by decide) ?_
        refine lv_aload_n hx hb dX0_dropOldest_34 rfl (lv_at hl 2 rfl) ?_
        refine kget (fs := [.ref q, .int (nI n)]) F w in_X0_dropOldest_X0 0 rfl rfl 0 (by decide) (by decide +kernel) rfl rfl dX0_dropOldest_35 ?_
        refine lv_iload_n hx hb dX0_dropOldest_38 rfl (lv_at hl 0 rfl) ?_
        refine kqald (v := .ref (ρ 2)) F w 1 rfl (vp_in_nI (by omega) (by omega)) (by rw [nI_clamp (n := 2) (by omega)]; rfl) dX0_dropOldest_39 ?_
        refine kqast (f' := va_up (va_up (rq ρ) 0 (some (ρ 1))) 1 (some (ρ 2))) F w 1 8 rfl rfl rfl rfl (vp_in_nI (by omega) (by omega)) (by rw [nI_clamp (n := 1) (by omega)]) (wn := [cH h q n, xQ g q 4 (va_up (va_up (rq ρ) 0 (some (ρ 1))) 1 (some (ρ 2))), cR (ρ 0) (α 0) (β 0) (γ 0), xI g (α 0) 49 (zT (γ 0)), xI g (β 0) 49 (zI (γ 0)), cR (ρ 1) (α 1) (β 1) (γ 1), xI g (α 1) 49 (zT (γ 1)), xI g (β 1) 49 (zI (γ 1)), cR (ρ 2) (α 2) (β 2) (γ 2), xI g (α 2) 49 (zT (γ 2)), xI g (β 2) 49 (zI (γ 2)), cR (ρ 3) (α 3) (β 3) (γ 3), xI g (α 3) 49 (zT (γ 3)), xI g (β 3) 49 (zI (γ 3))]) rfl dX0_dropOldest_40 (fun H locs w => ?_)
        refine lv_iinc (v := nI 3) (lv' := [(2, .int (nI 3)), (1, .ref (ρ 0)), (0, .ref h)]) hx hb dX0_dropOldest_41 hl (k := 0) rfl (nI_add 2 1) (by decide) rfl (fun ls hl => ?_)
        refine lv_goto (tgt := 18) hx hb dX0_dropOldest_44 (by decide) ?_
        refine lv_iload_n hx hb dX0_dropOldest_18 rfl (lv_at hl 0 rfl) ?_
        refine lv_aload_n hx hb dX0_dropOldest_19 rfl (lv_at hl 2 rfl) ?_
        refine kget (fs := [.ref q, .int (nI n)]) F w in_X0_dropOldest_X0 0 rfl rfl 0 (by decide) (by decide +kernel) rfl rfl dX0_dropOldest_20 ?_
        refine kalen (t0 := 2) (v := nI 4) F w 1 rfl rfl rfl dX0_dropOldest_23 ?_
        refine lv_icmp_ge (tgt := 47) hx hb dX0_dropOldest_24 (by decide) (fun h_4 => ?_) (fun h_4 => ?_)
        · have h_4 : 3 ≥ 4 := (kc_ge_t (by omega) (by omega)).mp h_4
          omega
        · have h_4 : 3 < 4 := (kc_ge_f (by omega) (by omega)).mp h_4
          refine lv_aload_n hx hb dX0_dropOldest_27 rfl (lv_at hl 2 rfl) ?_
          refine kget (fs := [.ref q, .int (nI n)]) F w in_X0_dropOldest_X0 0 rfl rfl 0 (by decide) (by decide +kernel) rfl rfl dX0_dropOldest_28 ?_
          refine lv_iload_n hx hb dX0_dropOldest_31 rfl (lv_at hl 0 rfl) ?_
          refine lv_iconst (v := nI 1) hx hb dX0_dropOldest_32 (by decide) ?_
          refine lv_isub hx hb dX0_dropOldest_33 ?_
          refine ktopi (y := nI 2) (by decide) ?_
          refine lv_aload_n hx hb dX0_dropOldest_34 rfl (lv_at hl 2 rfl) ?_
          refine kget (fs := [.ref q, .int (nI n)]) F w in_X0_dropOldest_X0 0 rfl rfl 0 (by decide) (by decide +kernel) rfl rfl dX0_dropOldest_35 ?_
          refine lv_iload_n hx hb dX0_dropOldest_38 rfl (lv_at hl 0 rfl) ?_
          refine kqald (v := .ref (ρ 3)) F w 1 rfl (vp_in_nI (by omega) (by omega)) (by rw [nI_clamp (n := 3) (by omega)]; rfl) dX0_dropOldest_39 ?_
          refine kqast (f' := va_up (va_up (va_up (rq ρ) 0 (some (ρ 1))) 1 (some (ρ 2))) 2 (some (ρ 3))) F w 1 11 rfl rfl rfl rfl (vp_in_nI (by omega) (by omega)) (by rw [nI_clamp (n := 2) (by omega)]) (wn := [cH h q n, xQ g q 4 (va_up (va_up (va_up (rq ρ) 0 (some (ρ 1))) 1 (some (ρ 2))) 2 (some (ρ 3))), cR (ρ 0) (α 0) (β 0) (γ 0), xI g (α 0) 49 (zT (γ 0)), xI g (β 0) 49 (zI (γ 0)), cR (ρ 1) (α 1) (β 1) (γ 1), xI g (α 1) 49 (zT (γ 1)), xI g (β 1) 49 (zI (γ 1)), cR (ρ 2) (α 2) (β 2) (γ 2), xI g (α 2) 49 (zT (γ 2)), xI g (β 2) 49 (zI (γ 2)), cR (ρ 3) (α 3) (β 3) (γ 3), xI g (α 3) 49 (zT (γ 3)), xI g (β 3) 49 (zI (γ 3))]) rfl dX0_dropOldest_40 (fun H locs w => ?_)
          refine lv_iinc (v := nI 4) (lv' := [(2, .int (nI 4)), (1, .ref (ρ 0)), (0, .ref h)]) hx hb dX0_dropOldest_41 hl (k := 0) rfl (nI_add 3 1) (by decide) rfl (fun ls hl => ?_)
          refine lv_goto (tgt := 18) hx hb dX0_dropOldest_44 (by decide) ?_
          refine lv_iload_n hx hb dX0_dropOldest_18 rfl (lv_at hl 0 rfl) ?_
          refine lv_aload_n hx hb dX0_dropOldest_19 rfl (lv_at hl 2 rfl) ?_
          refine kget (fs := [.ref q, .int (nI n)]) F w in_X0_dropOldest_X0 0 rfl rfl 0 (by decide) (by decide +kernel) rfl rfl dX0_dropOldest_20 ?_
          refine kalen (t0 := 2) (v := nI 4) F w 1 rfl rfl rfl dX0_dropOldest_23 ?_
          refine lv_icmp_ge (tgt := 47) hx hb dX0_dropOldest_24 (by decide) (fun h_5 => ?_) (fun h_5 => ?_)
          · have h_5 : 4 ≥ 4 := (kc_ge_t (by omega) (by omega)).mp h_5
            refine lv_aload_n hx hb dX0_dropOldest_47 rfl (lv_at hl 2 rfl) ?_
            refine kget (fs := [.ref q, .int (nI n)]) F w in_X0_dropOldest_X0 0 rfl rfl 0 (by decide) (by decide +kernel) rfl rfl dX0_dropOldest_48 ?_
            refine lv_aload_n hx hb dX0_dropOldest_51 rfl (lv_at hl 2 rfl) ?_
            refine kget (fs := [.ref q, .int (nI n)]) F w in_X0_dropOldest_X0 0 rfl rfl 0 (by decide) (by decide +kernel) rfl rfl dX0_dropOldest_52 ?_
            refine kalen (t0 := 2) (v := nI 4) F w 1 rfl rfl rfl dX0_dropOldest_55 ?_
            refine lv_iconst (v := nI 1) hx hb dX0_dropOldest_56 (by decide) ?_
            refine lv_isub hx hb dX0_dropOldest_57 ?_
            refine ktopi (y := nI 3) (by decide) ?_
            refine lv_aload_n hx hb dX0_dropOldest_58 rfl (lv_at hl 1 rfl) ?_
            refine kqast (f' := va_up (va_up (va_up (va_up (rq ρ) 0 (some (ρ 1))) 1 (some (ρ 2))) 2 (some (ρ 3))) 3 (some (ρ 0))) F w 1 2 rfl rfl rfl rfl (vp_in_nI (by omega) (by omega)) (by rw [nI_clamp (n := 3) (by omega)]) (wn := [cH h q n, xQ g q 4 (va_up (va_up (va_up (va_up (rq ρ) 0 (some (ρ 1))) 1 (some (ρ 2))) 2 (some (ρ 3))) 3 (some (ρ 0))), cR (ρ 0) (α 0) (β 0) (γ 0), xI g (α 0) 49 (zT (γ 0)), xI g (β 0) 49 (zI (γ 0)), cR (ρ 1) (α 1) (β 1) (γ 1), xI g (α 1) 49 (zT (γ 1)), xI g (β 1) 49 (zI (γ 1)), cR (ρ 2) (α 2) (β 2) (γ 2), xI g (α 2) 49 (zT (γ 2)), xI g (β 2) 49 (zI (γ 2)), cR (ρ 3) (α 3) (β 3) (γ 3), xI g (α 3) 49 (zT (γ 3)), xI g (β 3) 49 (zI (γ 3))]) rfl dX0_dropOldest_59 (fun H locs w => ?_)
            refine lv_aload_n hx hb dX0_dropOldest_60 rfl (lv_at hl 2 rfl) ?_
            refine lv_aload_n hx hb dX0_dropOldest_61 rfl (lv_at hl 2 rfl) ?_
            refine kget (fs := [.ref q, .int (nI n)]) F w in_X0_dropOldest_X0 0 rfl rfl 0 (by decide) (by decide +kernel) rfl rfl dX0_dropOldest_62 ?_
            refine kalen (t0 := 2) (v := nI 4) F w 1 rfl rfl rfl dX0_dropOldest_65 ?_
            refine lv_iconst (v := nI 1) hx hb dX0_dropOldest_66 (by decide) ?_
            refine lv_isub hx hb dX0_dropOldest_67 ?_
            refine ktopi (y := nI 3) (by decide) ?_
            refine kput (fs := [.ref q, .int (nI n)]) F w in_X0_dropOldest_X0 tyX0_ok nmX0 0 rfl rfl 1 (by decide) (by decide +kernel) rfl rfl (rfl) (rfl) (Nat.le_of_ble_eq_true rfl) (wn := [cH h q 3, xQ g q 4 (va_up (va_up (va_up (va_up (rq ρ) 0 (some (ρ 1))) 1 (some (ρ 2))) 2 (some (ρ 3))) 3 (some (ρ 0))), cR (ρ 0) (α 0) (β 0) (γ 0), xI g (α 0) 49 (zT (γ 0)), xI g (β 0) 49 (zI (γ 0)), cR (ρ 1) (α 1) (β 1) (γ 1), xI g (α 1) 49 (zT (γ 1)), xI g (β 1) 49 (zI (γ 1)), cR (ρ 2) (α 2) (β 2) (γ 2), xI g (α 2) 49 (zT (γ 2)), xI g (β 2) 49 (zI (γ 2)), cR (ρ 3) (α 3) (β 3) (γ 3), xI g (α 3) 49 (zT (γ 3)), xI g (β 3) 49 (zI (γ 3))]) rfl dX0_dropOldest_68 (fun H locs w => ?_)
            have w : kW g A s [cH h q 3, xQ g q 4 (rq (rotA ρ)), cR (ρ 0) (α 0) (β 0) (γ 0), xI g (α 0) 49 (zT (γ 0)), xI g (β 0) 49 (zI (γ 0)), cR (ρ 1) (α 1) (β 1) (γ 1), xI g (α 1) 49 (zT (γ 1)), xI g (β 1) 49 (zI (γ 1)), cR (ρ 2) (α 2) (β 2) (γ 2), xI g (α 2) 49 (zT (γ 2)), xI g (β 2) 49 (zI (γ 2)), cR (ρ 3) (α 3) (β 3) (γ 3), xI g (α 3) 49 (zT (γ 3)), xI g (β 3) 49 (zI (γ 3))] H locs := kW.arrQ w 1 rfl (fun j hj => by rcases (show j = 0 ∨ j = 1 ∨ j = 2 ∨ j = 3 by omega) with e4 | e4 | e4 | e4 <;> subst e4 <;> rfl) rfl
            subst hA
            subst hQ
            exact kretv F w () [0, 1, 2, 3, 4, 5, 6, 7, 8, 9, 10, 11, 12, 13] rfl rfl (trivial) (Nat.le_of_ble_eq_true rfl) (Nat.le_of_ble_eq_true rfl) dX0_dropOldest_71
          · have h_5 : 4 < 4 := (kc_ge_f (by omega) (by omega)).mp h_5
            omega
  · have h_1 : 4 = 0 := (kc0_ne_f (by omega)).mp h_1
    omega
theorem in_X0_push_X0 : ∀ w ∈ wsX00, w ∈ wsX0_push := by decide +kernel
theorem hd_X0_dropOldest : yX0_dropOldest.cls ≠ "java/lang/invoke/MethodHandle" ∧ yX0_dropOldest.cls ≠ "java/lang/invoke/VarHandle" ∧ (parseMethodDescriptor yX0_dropOldest.desc).map (fun d => d.parameters.length) = some 0 := by decide +kernel
theorem hd_X2_copyFrom : yX2_copyFrom.cls ≠ "java/lang/invoke/MethodHandle" ∧ yX2_copyFrom.cls ≠ "java/lang/invoke/VarHandle" ∧ (parseMethodDescriptor yX2_copyFrom.desc).map (fun d => d.parameters.length) = some 1 := by decide +kernel
abbrev rmX0_push : Room := { frames := 2, cells := 0, slots := 0, locals := 43 }
set_option maxHeartbeats 4000000 in
set_option maxRecDepth 100000 in
theorem kX0_push (l : Launch) (g : GG) (h : Nat) (q : Nat) (n : Nat) (ρ : Nat → Nat) (α : Nat → Nat) (β : Nat → Nat) (γ : Nat → Sg) (r : Nat) (a : Nat) (b : Nat) (σ : Sg) (sz : Nat) (hn : n ≤ 4) : Met l yX0_push wsX0_push rmX0_push (va_Pc [.ref h, .ref r] (kPre g [cH h q n, xQ g q 4 (rq ρ), cR (ρ 0) (α 0) (β 0) (γ 0), xI g (α 0) 49 (zT (γ 0)), xI g (β 0) 49 (zI (γ 0)), cR (ρ 1) (α 1) (β 1) (γ 1), xI g (α 1) 49 (zT (γ 1)), xI g (β 1) 49 (zI (γ 1)), cR (ρ 2) (α 2) (β 2) (γ 2), xI g (α 2) 49 (zT (γ 2)), xI g (β 2) 49 (zI (γ 2)), cR (ρ 3) (α 3) (β 3) (γ 3), xI g (α 3) 49 (zT (γ 3)), xI g (β 3) 49 (zI (γ 3)), cR r a b σ, xI g a 49 (zT σ), xI g b 49 (zI σ)] sz)) (va_Qv (fun (u : (Nat → Nat) × (Nat → Nat) × (Nat → Nat)) => True) (kB g (va_A [cH h q n, xQ g q 4 (rq ρ), cR (ρ 0) (α 0) (β 0) (γ 0), xI g (α 0) 49 (zT (γ 0)), xI g (β 0) 49 (zI (γ 0)), cR (ρ 1) (α 1) (β 1) (γ 1), xI g (α 1) 49 (zT (γ 1)), xI g (β 1) 49 (zI (γ 1)), cR (ρ 2) (α 2) (β 2) (γ 2), xI g (α 2) 49 (zT (γ 2)), xI g (β 2) 49 (zI (γ 2)), cR (ρ 3) (α 3) (β 3) (γ 3), xI g (α 3) 49 (zT (γ 3)), xI g (β 3) 49 (zI (γ 3)), cR r a b σ, xI g a 49 (zT σ), xI g b 49 (zI σ)] sz) (fun u => [cH h q (pushN n), xQ g q 4 (rq u.1), cR (u.1 0) (u.2.1 0) (u.2.2 0) ((pushG γ n σ) 0), xI g (u.2.1 0) 49 (zT ((pushG γ n σ) 0)), xI g (u.2.2 0) 49 (zI ((pushG γ n σ) 0)), cR (u.1 1) (u.2.1 1) (u.2.2 1) ((pushG γ n σ) 1), xI g (u.2.1 1) 49 (zT ((pushG γ n σ) 1)), xI g (u.2.2 1) 49 (zI ((pushG γ n σ) 1)), cR (u.1 2) (u.2.1 2) (u.2.2 2) ((pushG γ n σ) 2), xI g (u.2.1 2) 49 (zT ((pushG γ n σ) 2)), xI g (u.2.2 2) 49 (zI ((pushG γ n σ) 2)), cR (u.1 3) (u.2.1 3) (u.2.2 3) ((pushG γ n σ) 3), xI g (u.2.1 3) 49 (zT ((pushG γ n σ) 3)), xI g (u.2.2 3) 49 (zI ((pushG γ n σ) 3)), cR r a b σ, xI g a 49 (zT σ), xI g b 49 (zI σ)])) (va_A [cH h q n, xQ g q 4 (rq ρ), cR (ρ 0) (α 0) (β 0) (γ 0), xI g (α 0) 49 (zT (γ 0)), xI g (β 0) 49 (zI (γ 0)), cR (ρ 1) (α 1) (β 1) (γ 1), xI g (α 1) 49 (zT (γ 1)), xI g (β 1) 49 (zI (γ 1)), cR (ρ 2) (α 2) (β 2) (γ 2), xI g (α 2) 49 (zT (γ 2)), xI g (β 2) 49 (zI (γ 2)), cR (ρ 3) (α 3) (β 3) (γ 3), xI g (α 3) 49 (zT (γ 3)), xI g (β 3) 49 (zI (γ 3)), cR r a b σ, xI g a 49 (zT σ), xI g b 49 (zI σ)] sz)) 0 0 (va_A [cH h q n, xQ g q 4 (rq ρ), cR (ρ 0) (α 0) (β 0) (γ 0), xI g (α 0) 49 (zT (γ 0)), xI g (β 0) 49 (zI (γ 0)), cR (ρ 1) (α 1) (β 1) (γ 1), xI g (α 1) 49 (zT (γ 1)), xI g (β 1) 49 (zI (γ 1)), cR (ρ 2) (α 2) (β 2) (γ 2), xI g (α 2) 49 (zT (γ 2)), xI g (β 2) 49 (zI (γ 2)), cR (ρ 3) (α 3) (β 3) (γ 3), xI g (α 3) 49 (zT (γ 3)), xI g (β 3) 49 (zI (γ 3)), cR r a b σ, xI g a 49 (zT σ), xI g b 49 (zI σ)] sz) := by
  refine kMet (cc := cX0_push) (maxL := 3) (ret := none) (own := RX0) (by decide) rfl rfl (Nat.le_of_ble_eq_true rfl) ?_
  intro p e s m args below meth c ls Q H locs A F w hl hnm hA hQ
  have hx := F.1.1
  have hb := F.1.2.1
  have hts := F.1.2.2.2.2
  have hl : lv_has ls 3 [(0, .ref h), (1, .ref r)] := hl
  refine lv_aload_n hx hb dX0_push_0 rfl (lv_at hl 0 rfl) ?_
  refine kget (fs := [.ref q, .int (nI n)]) F w in_X0_push_X0 0 rfl rfl 1 (by decide) (by decide +kernel) rfl rfl dX0_push_1 ?_
  refine lv_aload_n hx hb dX0_push_4 rfl (lv_at hl 0 rfl) ?_
  refine kget (fs := [.ref q, .int (nI n)]) F w in_X0_push_X0 0 rfl rfl 0 (by decide) (by decide +kernel) rfl rfl dX0_push_5 ?_
  refine kalen (t0 := 2) (v := nI 4) F w 1 rfl rfl rfl dX0_push_8 ?_
  refine lv_icmp_lt (tgt := 16) hx hb dX0_push_9 (by decide) (fun h_1 => ?_) (fun h_1 => ?_)
  · have h_1 : n < 4 := (kc_lt_t (by omega) (by omega)).mp h_1
    rcases (show n = 0 ∨ n = 1 ∨ n = 2 ∨ n = 3 from (by omega)) with e4 | e4 | e4 | e4
    · subst e4
      refine lv_aload_n hx hb dX0_push_16 rfl (lv_at hl 0 rfl) ?_
      refine kget (fs := [.ref q, .int (nI 0)]) F w in_X0_push_X0 0 rfl rfl 1 (by decide) (by decide +kernel) rfl rfl dX0_push_17 ?_
      refine lv_if_lt (tgt := 47) hx hb dX0_push_20 (by decide) (fun h_2 => ?_) (fun h_2 => ?_)
      · have h_2 : 0 < 0 := (kc0_lt_t (by omega)).mp h_2
        omega
      · have h_2 : 0 ≥ 0 := (kc0_lt_f (by omega)).mp h_2
        refine lv_aload_n hx hb dX0_push_23 rfl (lv_at hl 0 rfl) ?_
        refine kget (fs := [.ref q, .int (nI 0)]) F w in_X0_push_X0 0 rfl rfl 1 (by decide) (by decide +kernel) rfl rfl dX0_push_24 ?_
        refine lv_aload_n hx hb dX0_push_27 rfl (lv_at hl 0 rfl) ?_
        refine kget (fs := [.ref q, .int (nI 0)]) F w in_X0_push_X0 0 rfl rfl 0 (by decide) (by decide +kernel) rfl rfl dX0_push_28 ?_
        refine kalen (t0 := 2) (v := nI 4) F w 1 rfl rfl rfl dX0_push_31 ?_
        refine lv_icmp_ge (tgt := 47) hx hb dX0_push_32 (by decide) (fun h_3 => ?_) (fun h_3 => ?_)
        · have h_3 : 0 ≥ 4 := (kc_ge_t (by omega) (by omega)).mp h_3
          omega
        · have h_3 : 0 < 4 := (kc_ge_f (by omega) (by omega)).mp h_3
          refine lv_aload_n hx hb dX0_push_35 rfl (lv_at hl 0 rfl) ?_
          refine kget (fs := [.ref q, .int (nI 0)]) F w in_X0_push_X0 0 rfl rfl 0 (by decide) (by decide +kernel) rfl rfl dX0_push_36 ?_
          refine lv_aload_n hx hb dX0_push_39 rfl (lv_at hl 0 rfl) ?_
          refine kget (fs := [.ref q, .int (nI 0)]) F w in_X0_push_X0 0 rfl rfl 1 (by decide) (by decide +kernel) rfl rfl dX0_push_40 ?_
          refine kqald (v := .ref (ρ 0)) F w 1 rfl (vp_in_nI (by omega) (by omega)) (by rw [nI_clamp (n := 0) (by omega)]; rfl) dX0_push_43 ?_
          refine lv_goto (tgt := 48) hx hb dX0_push_44 (by decide) ?_
          refine lv_astore_n (lv' := [(2, .ref (ρ 0)), (0, .ref h), (1, .ref r)]) hx hb dX0_push_48 rfl hl (by decide) rfl (fun ls hl => ?_)
          refine lv_aload_n hx hb dX0_push_49 rfl (lv_at hl 0 rfl) ?_
          refine lv_ifnull hx hb dX0_push_50 ?_
          refine lv_aload_n hx hb dX0_push_53 rfl (lv_at hl 0 rfl) ?_
          refine lv_aload_n hx hb dX0_push_54 rfl (lv_at hl 2 rfl) ?_
          refine kcallv (wc := [cR (ρ 0) (α 0) (β 0) (γ 0), xI g (α 0) 49 (zT (γ 0)), xI g (β 0) 49 (zI (γ 0)), cR r a b σ, xI g a 49 (zT σ), xI g b 49 (zI σ)]) (wr := [cH h q 0, xQ g q 4 (rq ρ), cR (ρ 1) (α 1) (β 1) (γ 1), xI g (α 1) 49 (zT (γ 1)), xI g (β 1) 49 (zI (γ 1)), cR (ρ 2) (α 2) (β 2) (γ 2), xI g (α 2) 49 (zT (γ 2)), xI g (β 2) 49 (zI (γ 2)), cR (ρ 3) (α 3) (β 3) (γ 3), xI g (α 3) 49 (zT (γ 3)), xI g (β 3) 49 (zI (γ 3))]) (wn := fun (u : Unit) => [cH h q 0, xQ g q 4 (rq ρ), cR (ρ 0) (α 0) (β 0) σ, xI g (α 0) 49 (zT σ), xI g (β 0) 49 (zI σ), cR (ρ 1) (α 1) (β 1) (γ 1), xI g (α 1) 49 (zT (γ 1)), xI g (β 1) 49 (zI (γ 1)), cR (ρ 2) (α 2) (β 2) (γ 2), xI g (α 2) 49 (zT (γ 2)), xI g (β 2) 49 (zI (γ 2)), cR (ρ 3) (α 3) (β 3) (γ 3), xI g (α 3) 49 (zT (γ 3)), xI g (β 3) 49 (zI (γ 3)), cR r a b σ, xI g a 49 (zT σ), xI g b 49 (zI σ)]) F w [2, 3, 4, 14, 15, 16] [0, 1, 5, 6, 7, 8, 9, 10, 11, 12, 13] [0, 1, 11, 12, 13, 2, 3, 4, 5, 6, 7, 8, 9, 10, 14, 15, 16] rfl rfl rfl (fun _ => rfl)
            (fun hp => va_runV (As := [.ref r]) (rest := []) F.1 (kX2_copyFrom l g (ρ 0) (α 0) (β 0) (γ 0) r a b σ H.size ) (cwV 1 hts gX0_push_X2_copyFrom rfl rfl rfl ⟨rfl, hd_X2_copyFrom⟩ ⟨Nat.le_of_ble_eq_true rfl, Nat.le_of_ble_eq_true rfl⟩) ⟨hp.1, va_recv F.2.2.2.1.1 w.1 (q0 := 2) (ci := 2) rfl rfl, hp.2⟩ rfl rfl hl.1 rfl (lv_room (Nat.le_of_ble_eq_true rfl)) dX0_push_55 ⟨Nat.le_of_ble_eq_true rfl, Nat.le_of_ble_eq_true rfl⟩)
            (fun _ H locs h_5 w => ?_)
          refine lv_aload_n hx hb dX0_push_58 rfl (lv_at hl 1 rfl) ?_
          refine lv_dup hx hb dX0_push_59 rfl ?_
          refine kget (fs := [.ref q, .int (nI 0)]) F w in_X0_push_X0 0 rfl rfl 1 (by decide) (by decide +kernel) rfl rfl dX0_push_60 ?_
          refine lv_iconst (v := nI 1) hx hb dX0_push_63 (by decide) ?_
          refine lv_iadd hx hb dX0_push_64 ?_
          refine ktopi (y := nI (0 + 1)) (nI_add 0 1) ?_
          refine kput (fs := [.ref q, .int (nI 0)]) F w in_X0_push_X0 tyX0_ok nmX0 0 rfl rfl 1 (by decide) (by decide +kernel) rfl rfl (rfl) (rfl) (Nat.le_of_ble_eq_true rfl) (wn := [cH h q (0 + 1), xQ g q 4 (rq ρ), cR (ρ 0) (α 0) (β 0) σ, xI g (α 0) 49 (zT σ), xI g (β 0) 49 (zI σ), cR (ρ 1) (α 1) (β 1) (γ 1), xI g (α 1) 49 (zT (γ 1)), xI g (β 1) 49 (zI (γ 1)), cR (ρ 2) (α 2) (β 2) (γ 2), xI g (α 2) 49 (zT (γ 2)), xI g (β 2) 49 (zI (γ 2)), cR (ρ 3) (α 3) (β 3) (γ 3), xI g (α 3) 49 (zT (γ 3)), xI g (β 3) 49 (zI (γ 3)), cR r a b σ, xI g a 49 (zT σ), xI g b 49 (zI σ)]) rfl dX0_push_65 (fun H locs w => ?_)
          have w : kW g A s [cH h q (pushN 0), xQ g q 4 (rq ρ), cR (ρ 0) (α 0) (β 0) ((pushG γ 0 σ) 0), xI g (α 0) 49 (zT ((pushG γ 0 σ) 0)), xI g (β 0) 49 (zI ((pushG γ 0 σ) 0)), cR (ρ 1) (α 1) (β 1) ((pushG γ 0 σ) 1), xI g (α 1) 49 (zT ((pushG γ 0 σ) 1)), xI g (β 1) 49 (zI ((pushG γ 0 σ) 1)), cR (ρ 2) (α 2) (β 2) ((pushG γ 0 σ) 2), xI g (α 2) 49 (zT ((pushG γ 0 σ) 2)), xI g (β 2) 49 (zI ((pushG γ 0 σ) 2)), cR (ρ 3) (α 3) (β 3) ((pushG γ 0 σ) 3), xI g (α 3) 49 (zT ((pushG γ 0 σ) 3)), xI g (β 3) 49 (zI ((pushG γ 0 σ) 3)), cR r a b σ, xI g a 49 (zT σ), xI g b 49 (zI σ)] H locs := by
            have w := w
            exact w
          subst hA
          subst hQ
          exact kretv F w (ρ, α, β) [0, 1, 2, 3, 4, 5, 6, 7, 8, 9, 10, 11, 12, 13, 14, 15, 16] rfl rfl (trivial) (Nat.le_of_ble_eq_true rfl) (Nat.le_of_ble_eq_true rfl) dX0_push_68
    · subst e4
      refine lv_aload_n hx hb dX0_push_16 rfl (lv_at hl 0 rfl) ?_
      refine kget (fs := [.ref q, .int (nI 1)]) F w in_X0_push_X0 0 rfl rfl 1 (by decide) (by decide +kernel) rfl rfl dX0_push_17 ?_
      refine lv_if_lt (tgt := 47) hx hb dX0_push_20 (by decide) (fun h_6 => ?_) (fun h_6 => ?_)
      · have h_6 : 1 < 0 := (kc0_lt_t (by omega)).mp h_6
        omega
      · have h_6 : 1 ≥ 0 := (kc0_lt_f (by omega)).mp h_6
        refine lv_aload_n hx hb dX0_push_23 rfl (lv_at hl 0 rfl) ?_
        refine kget (fs := [.ref q, .int (nI 1)]) F w in_X0_push_X0 0 rfl rfl 1 (by decide) (by decide +kernel) rfl rfl dX0_push_24 ?_
        refine lv_aload_n hx hb dX0_push_27 rfl (lv_at hl 0 rfl) ?_
        refine kget (fs := [.ref q, .int (nI 1)]) F w in_X0_push_X0 0 rfl rfl 0 (by decide) (by decide +kernel) rfl rfl dX0_push_28 ?_
        refine kalen (t0 := 2) (v := nI 4) F w 1 rfl rfl rfl dX0_push_31 ?_
        refine lv_icmp_ge (tgt := 47) hx hb dX0_push_32 (by decide) (fun h_7 => ?_) (fun h_7 => ?_)
        · have h_7 : 1 ≥ 4 := (kc_ge_t (by omega) (by omega)).mp h_7
          omega
        · have h_7 : 1 < 4 := (kc_ge_f (by omega) (by omega)).mp h_7
          refine lv_aload_n hx hb dX0_push_35 rfl (lv_at hl 0 rfl) ?_
          refine kget (fs := [.ref q, .int (nI 1)]) F w in_X0_push_X0 0 rfl rfl 0 (by decide) (by decide +kernel) rfl rfl dX0_push_36 ?_
          refine lv_aload_n hx hb dX0_push_39 rfl (lv_at hl 0 rfl) ?_
          refine kget (fs := [.ref q, .int (nI 1)]) F w in_X0_push_X0 0 rfl rfl 1 (by decide) (by decide +kernel) rfl rfl dX0_push_40 ?_
          refine kqald (v := .ref (ρ 1)) F w 1 rfl (vp_in_nI (by omega) (by omega)) (by rw [nI_clamp (n := 1) (by omega)]; rfl) dX0_push_43 ?_
          refine lv_goto (tgt := 48) hx hb dX0_push_44 (by decide) ?_
          refine lv_astore_n (lv' := [(2, .ref (ρ 1)), (0, .ref h), (1, .ref r)]) hx hb dX0_push_48 rfl hl (by decide) rfl (fun ls hl => ?_)
          refine lv_aload_n hx hb dX0_push_49 rfl (lv_at hl 0 rfl) ?_
          refine lv_ifnull hx hb dX0_push_50 ?_
          refine lv_aload_n hx hb dX0_push_53 rfl (lv_at hl 0 rfl) ?_
          refine lv_aload_n hx hb dX0_push_54 rfl (lv_at hl 2 rfl) ?_
          refine kcallv (wc := [cR (ρ 1) (α 1) (β 1) (γ 1), xI g (α 1) 49 (zT (γ 1)), xI g (β 1) 49 (zI (γ 1)), cR r a b σ, xI g a 49 (zT σ), xI g b 49 (zI σ)]) (wr := [cH h q 1, xQ g q 4 (rq ρ), cR (ρ 0) (α 0) (β 0) (γ 0), xI g (α 0) 49 (zT (γ 0)), xI g (β 0) 49 (zI (γ 0)), cR (ρ 2) (α 2) (β 2) (γ 2), xI g (α 2) 49 (zT (γ 2)), xI g (β 2) 49 (zI (γ 2)), cR (ρ 3) (α 3) (β 3) (γ 3), xI g (α 3) 49 (zT (γ 3)), xI g (β 3) 49 (zI (γ 3))]) (wn := fun (u : Unit) => [cH h q 1, xQ g q 4 (rq ρ), cR (ρ 0) (α 0) (β 0) (γ 0), xI g (α 0) 49 (zT (γ 0)), xI g (β 0) 49 (zI (γ 0)), cR (ρ 1) (α 1) (β 1) σ, xI g (α 1) 49 (zT σ), xI g (β 1) 49 (zI σ), cR (ρ 2) (α 2) (β 2) (γ 2), xI g (α 2) 49 (zT (γ 2)), xI g (β 2) 49 (zI (γ 2)), cR (ρ 3) (α 3) (β 3) (γ 3), xI g (α 3) 49 (zT (γ 3)), xI g (β 3) 49 (zI (γ 3)), cR r a b σ, xI g a 49 (zT σ), xI g b 49 (zI σ)]) F w [5, 6, 7, 14, 15, 16] [0, 1, 2, 3, 4, 8, 9, 10, 11, 12, 13] [0, 1, 2, 3, 4, 11, 12, 13, 5, 6, 7, 8, 9, 10, 14, 15, 16] rfl rfl rfl (fun _ => rfl)
            (fun hp => va_runV (As := [.ref r]) (rest := []) F.1 (kX2_copyFrom l g (ρ 1) (α 1) (β 1) (γ 1) r a b σ H.size ) (cwV 1 hts gX0_push_X2_copyFrom rfl rfl rfl ⟨rfl, hd_X2_copyFrom⟩ ⟨Nat.le_of_ble_eq_true rfl, Nat.le_of_ble_eq_true rfl⟩) ⟨hp.1, va_recv F.2.2.2.1.1 w.1 (q0 := 5) (ci := 2) rfl rfl, hp.2⟩ rfl rfl hl.1 rfl (lv_room (Nat.le_of_ble_eq_true rfl)) dX0_push_55 ⟨Nat.le_of_ble_eq_true rfl, Nat.le_of_ble_eq_true rfl⟩)
            (fun _ H locs h_9 w => ?_)
          refine lv_aload_n hx hb dX0_push_58 rfl (lv_at hl 1 rfl) ?_
          refine lv_dup hx hb dX0_push_59 rfl ?_
          refine kget (fs := [.ref q, .int (nI 1)]) F w in_X0_push_X0 0 rfl rfl 1 (by decide) (by decide +kernel) rfl rfl dX0_push_60 ?_
          refine lv_iconst (v := nI 1) hx hb dX0_push_63 (by decide) ?_
          refine lv_iadd hx hb dX0_push_64 ?_
          refine ktopi (y := nI (1 + 1)) (nI_add 1 1) ?_
          refine kput (fs := [.ref q, .int (nI 1)]) F w in_X0_push_X0 tyX0_ok nmX0 0 rfl rfl 1 (by decide) (by decide +kernel) rfl rfl (rfl) (rfl) (Nat.le_of_ble_eq_true rfl) (wn := [cH h q (1 + 1), xQ g q 4 (rq ρ), cR (ρ 0) (α 0) (β 0) (γ 0), xI g (α 0) 49 (zT (γ 0)), xI g (β 0) 49 (zI (γ 0)), cR (ρ 1) (α 1) (β 1) σ, xI g (α 1) 49 (zT σ), xI g (β 1) 49 (zI σ), cR (ρ 2) (α 2) (β 2) (γ 2), xI g (α 2) 49 (zT (γ 2)), xI g (β 2) 49 (zI (γ 2)), cR (ρ 3) (α 3) (β 3) (γ 3), xI g (α 3) 49 (zT (γ 3)), xI g (β 3) 49 (zI (γ 3)), cR r a b σ, xI g a 49 (zT σ), xI g b 49 (zI σ)]) rfl dX0_push_65 (fun H locs w => ?_)
          have w : kW g A s [cH h q (pushN 1), xQ g q 4 (rq ρ), cR (ρ 0) (α 0) (β 0) ((pushG γ 1 σ) 0), xI g (α 0) 49 (zT ((pushG γ 1 σ) 0)), xI g (β 0) 49 (zI ((pushG γ 1 σ) 0)), cR (ρ 1) (α 1) (β 1) ((pushG γ 1 σ) 1), xI g (α 1) 49 (zT ((pushG γ 1 σ) 1)), xI g (β 1) 49 (zI ((pushG γ 1 σ) 1)), cR (ρ 2) (α 2) (β 2) ((pushG γ 1 σ) 2), xI g (α 2) 49 (zT ((pushG γ 1 σ) 2)), xI g (β 2) 49 (zI ((pushG γ 1 σ) 2)), cR (ρ 3) (α 3) (β 3) ((pushG γ 1 σ) 3), xI g (α 3) 49 (zT ((pushG γ 1 σ) 3)), xI g (β 3) 49 (zI ((pushG γ 1 σ) 3)), cR r a b σ, xI g a 49 (zT σ), xI g b 49 (zI σ)] H locs := by
            have w := w
            exact w
          subst hA
          subst hQ
          exact kretv F w (ρ, α, β) [0, 1, 2, 3, 4, 5, 6, 7, 8, 9, 10, 11, 12, 13, 14, 15, 16] rfl rfl (trivial) (Nat.le_of_ble_eq_true rfl) (Nat.le_of_ble_eq_true rfl) dX0_push_68
    · subst e4
      refine lv_aload_n hx hb dX0_push_16 rfl (lv_at hl 0 rfl) ?_
      refine kget (fs := [.ref q, .int (nI 2)]) F w in_X0_push_X0 0 rfl rfl 1 (by decide) (by decide +kernel) rfl rfl dX0_push_17 ?_
      refine lv_if_lt (tgt := 47) hx hb dX0_push_20 (by decide) (fun h_10 => ?_) (fun h_10 => ?_)
      · have h_10 : 2 < 0 := (kc0_lt_t (by omega)).mp h_10
        omega
      · have h_10 : 2 ≥ 0 := (kc0_lt_f (by omega)).mp h_10
        refine lv_aload_n hx hb dX0_push_23 rfl (lv_at hl 0 rfl) ?_
        refine kget (fs := [.ref q, .int (nI 2)]) F w in_X0_push_X0 0 rfl rfl 1 (by decide) (by decide +kernel) rfl rfl dX0_push_24 ?_
        refine lv_aload_n hx hb dX0_push_27 rfl (lv_at hl 0 rfl) ?_
        refine kget (fs := [.ref q, .int (nI 2)]) F w in_X0_push_X0 0 rfl rfl 0 (by decide) (by decide +kernel) rfl rfl dX0_push_28 ?_
        refine kalen (t0 := 2) (v := nI 4) F w 1 rfl rfl rfl dX0_push_31 ?_
        refine lv_icmp_ge (tgt := 47) hx hb dX0_push_32 (by decide) (fun h_11 => ?_) (fun h_11 => ?_)
        · have h_11 : 2 ≥ 4 := (kc_ge_t (by omega) (by omega)).mp h_11
          omega
        · have h_11 : 2 < 4 := (kc_ge_f (by omega) (by omega)).mp h_11
          refine lv_aload_n hx hb dX0_push_35 rfl (lv_at hl 0 rfl) ?_
          refine kget (fs := [.ref q, .int (nI 2)]) F w in_X0_push_X0 0 rfl rfl 0 (by decide) (by decide +kernel) rfl rfl dX0_push_36 ?_
          refine lv_aload_n hx hb dX0_push_39 rfl (lv_at hl 0 rfl) ?_
          refine kget (fs := [.ref q, .int (nI 2)]) F w in_X0_push_X0 0 rfl rfl 1 (by decide) (by decide +kernel) rfl rfl dX0_push_40 ?_
          refine kqald (v := .ref (ρ 2)) F w 1 rfl (vp_in_nI (by omega) (by omega)) (by rw [nI_clamp (n := 2) (by omega)]; rfl) dX0_push_43 ?_
          refine lv_goto (tgt := 48) hx hb dX0_push_44 (by decide) ?_
          refine lv_astore_n (lv' := [(2, .ref (ρ 2)), (0, .ref h), (1, .ref r)]) hx hb dX0_push_48 rfl hl (by decide) rfl (fun ls hl => ?_)
          refine lv_aload_n hx hb dX0_push_49 rfl (lv_at hl 0 rfl) ?_
          refine lv_ifnull hx hb dX0_push_50 ?_
          refine lv_aload_n hx hb dX0_push_53 rfl (lv_at hl 0 rfl) ?_
          refine lv_aload_n hx hb dX0_push_54 rfl (lv_at hl 2 rfl) ?_
          refine kcallv (wc := [cR (ρ 2) (α 2) (β 2) (γ 2), xI g (α 2) 49 (zT (γ 2)), xI g (β 2) 49 (zI (γ 2)), cR r a b σ, xI g a 49 (zT σ), xI g b 49 (zI σ)]) (wr := [cH h q 2, xQ g q 4 (rq ρ), cR (ρ 0) (α 0) (β 0) (γ 0), xI g (α 0) 49 (zT (γ 0)), xI g (β 0) 49 (zI (γ 0)), cR (ρ 1) (α 1) (β 1) (γ 1), xI g (α 1) 49 (zT (γ 1)), xI g (β 1) 49 (zI (γ 1)), cR (ρ 3) (α 3) (β 3) (γ 3), xI g (α 3) 49 (zT (γ 3)), xI g (β 3) 49 (zI (γ 3))]) (wn := fun (u : Unit) => [cH h q 2, xQ g q 4 (rq ρ), cR (ρ 0) (α 0) (β 0) (γ 0), xI g (α 0) 49 (zT (γ 0)), xI g (β 0) 49 (zI (γ 0)), cR (ρ 1) (α 1) (β 1) (γ 1), xI g (α 1) 49 (zT (γ 1)), xI g (β 1) 49 (zI (γ 1)), cR (ρ 2) (α 2) (β 2) σ, xI g (α 2) 49 (zT σ), xI g (β 2) 49 (zI σ), cR (ρ 3) (α 3) (β 3) (γ 3), xI g (α 3) 49 (zT (γ 3)), xI g (β 3) 49 (zI (γ 3)), cR r a b σ, xI g a 49 (zT σ), xI g b 49 (zI σ)]) F w [8, 9, 10, 14, 15, 16] [0, 1, 2, 3, 4, 5, 6, 7, 11, 12, 13] [0, 1, 2, 3, 4, 5, 6, 7, 11, 12, 13, 8, 9, 10, 14, 15, 16] rfl rfl rfl (fun _ => rfl)
            (fun hp => va_runV (As := [.ref r]) (rest := []) F.1 (kX2_copyFrom l g (ρ 2) (α 2) (β 2) (γ 2) r a b σ H.size ) (cwV 1 hts gX0_push_X2_copyFrom rfl rfl rfl ⟨rfl, hd_X2_copyFrom⟩ ⟨Nat.le_of_ble_eq_true rfl, Nat.le_of_ble_eq_true rfl⟩) ⟨hp.1, va_recv F.2.2.2.1.1 w.1 (q0 := 8) (ci := 2) rfl rfl, hp.2⟩ rfl rfl hl.1 rfl (lv_room (Nat.le_of_ble_eq_true rfl)) dX0_push_55 ⟨Nat.le_of_ble_eq_true rfl, Nat.le_of_ble_eq_true rfl⟩)
            (fun _ H locs h_13 w => ?_)
          refine lv_aload_n hx hb dX0_push_58 rfl (lv_at hl 1 rfl) ?_
          refine lv_dup hx hb dX0_push_59 rfl ?_
          refine kget (fs := [.ref q, .int (nI 2)]) F w in_X0_push_X0 0 rfl rfl 1 (by decide) (by decide +kernel) rfl rfl dX0_push_60 ?_
          refine lv_iconst (v := nI 1) hx hb dX0_push_63 (by decide) ?_
          refine lv_iadd hx hb dX0_push_64 ?_
          refine ktopi (y := nI (2 + 1)) (nI_add 2 1) ?_
          refine kput (fs := [.ref q, .int (nI 2)]) F w in_X0_push_X0 tyX0_ok nmX0 0 rfl rfl 1 (by decide) (by decide +kernel) rfl rfl (rfl) (rfl) (Nat.le_of_ble_eq_true rfl) (wn := [cH h q (2 + 1), xQ g q 4 (rq ρ), cR (ρ 0) (α 0) (β 0) (γ 0), xI g (α 0) 49 (zT (γ 0)), xI g (β 0) 49 (zI (γ 0)), cR (ρ 1) (α 1) (β 1) (γ 1), xI g (α 1) 49 (zT (γ 1)), xI g (β 1) 49 (zI (γ 1)), cR (ρ 2) (α 2) (β 2) σ, xI g (α 2) 49 (zT σ), xI g (β 2) 49 (zI σ), cR (ρ 3) (α 3) (β 3) (γ 3), xI g (α 3) 49 (zT (γ 3)), xI g (β 3) 49 (zI (γ 3)), cR r a b σ, xI g a 49 (zT σ), xI g b 49 (zI σ)]) rfl dX0_push_65 (fun H locs w => ?_)
          have w : kW g A s [cH h q (pushN 2), xQ g q 4 (rq ρ), cR (ρ 0) (α 0) (β 0) ((pushG γ 2 σ) 0), xI g (α 0) 49 (zT ((pushG γ 2 σ) 0)), xI g (β 0) 49 (zI ((pushG γ 2 σ) 0)), cR (ρ 1) (α 1) (β 1) ((pushG γ 2 σ) 1), xI g (α 1) 49 (zT ((pushG γ 2 σ) 1)), xI g (β 1) 49 (zI ((pushG γ 2 σ) 1)), cR (ρ 2) (α 2) (β 2) ((pushG γ 2 σ) 2), xI g (α 2) 49 (zT ((pushG γ 2 σ) 2)), xI g (β 2) 49 (zI ((pushG γ 2 σ) 2)), cR (ρ 3) (α 3) (β 3) ((pushG γ 2 σ) 3), xI g (α 3) 49 (zT ((pushG γ 2 σ) 3)), xI g (β 3) 49 (zI ((pushG γ 2 σ) 3)), cR r a b σ, xI g a 49 (zT σ), xI g b 49 (zI σ)] H locs := by
            have w := w
            exact w
          subst hA
          subst hQ
          exact kretv F w (ρ, α, β) [0, 1, 2, 3, 4, 5, 6, 7, 8, 9, 10, 11, 12, 13, 14, 15, 16] rfl rfl (trivial) (Nat.le_of_ble_eq_true rfl) (Nat.le_of_ble_eq_true rfl) dX0_push_68
    · subst e4
      refine lv_aload_n hx hb dX0_push_16 rfl (lv_at hl 0 rfl) ?_
      refine kget (fs := [.ref q, .int (nI 3)]) F w in_X0_push_X0 0 rfl rfl 1 (by decide) (by decide +kernel) rfl rfl dX0_push_17 ?_
      refine lv_if_lt (tgt := 47) hx hb dX0_push_20 (by decide) (fun h_14 => ?_) (fun h_14 => ?_)
      · have h_14 : 3 < 0 := (kc0_lt_t (by omega)).mp h_14
        omega
      · have h_14 : 3 ≥ 0 := (kc0_lt_f (by omega)).mp h_14
        refine lv_aload_n hx hb dX0_push_23 rfl (lv_at hl 0 rfl) ?_
        refine kget (fs := [.ref q, .int (nI 3)]) F w in_X0_push_X0 0 rfl rfl 1 (by decide) (by decide +kernel) rfl rfl dX0_push_24 ?_
        refine lv_aload_n hx hb dX0_push_27 rfl (lv_at hl 0 rfl) ?_
        refine kget (fs := [.ref q, .int (nI 3)]) F w in_X0_push_X0 0 rfl rfl 0 (by decide) (by decide +kernel) rfl rfl dX0_push_28 ?_
        refine kalen (t0 := 2) (v := nI 4) F w 1 rfl rfl rfl dX0_push_31 ?_
        refine lv_icmp_ge (tgt := 47) hx hb dX0_push_32 (by decide) (fun h_15 => ?_) (fun h_15 => ?_)
        · have h_15 : 3 ≥ 4 := (kc_ge_t (by omega) (by omega)).mp h_15
          omega
        · have h_15 : 3 < 4 := (kc_ge_f (by omega) (by omega)).mp h_15
          refine lv_aload_n hx hb dX0_push_35 rfl (lv_at hl 0 rfl) ?_
          refine kget (fs := [.ref q, .int (nI 3)]) F w in_X0_push_X0 0 rfl rfl 0 (by decide) (by decide +kernel) rfl rfl dX0_push_36 ?_
          refine lv_aload_n hx hb dX0_push_39 rfl (lv_at hl 0 rfl) ?_
          refine kget (fs := [.ref q, .int (nI 3)]) F w in_X0_push_X0 0 rfl rfl 1 (by decide) (by decide +kernel) rfl rfl dX0_push_40 ?_
          refine kqald (v := .ref (ρ 3)) F w 1 rfl (vp_in_nI (by omega) (by omega)) (by rw [nI_clamp (n := 3) (by omega)]; rfl) dX0_push_43 ?_
          refine lv_goto (tgt := 48) hx hb dX0_push_44 (by decide) ?_
          refine lv_astore_n (lv' := [(2, .ref (ρ 3)), (0, .ref h), (1, .ref r)]) hx hb dX0_push_48 rfl hl (by decide) rfl (fun ls hl => ?_)
          refine lv_aload_n hx hb dX0_push_49 rfl (lv_at hl 0 rfl) ?_
          refine lv_ifnull hx hb dX0_push_50 ?_
          refine lv_aload_n hx hb dX0_push_53 rfl (lv_at hl 0 rfl) ?_
          refine lv_aload_n hx hb dX0_push_54 rfl (lv_at hl 2 rfl) ?_
          refine kcallv (wc := [cR (ρ 3) (α 3) (β 3) (γ 3), xI g (α 3) 49 (zT (γ 3)), xI g (β 3) 49 (zI (γ 3)), cR r a b σ, xI g a 49 (zT σ), xI g b 49 (zI σ)]) (wr := [cH h q 3, xQ g q 4 (rq ρ), cR (ρ 0) (α 0) (β 0) (γ 0), xI g (α 0) 49 (zT (γ 0)), xI g (β 0) 49 (zI (γ 0)), cR (ρ 1) (α 1) (β 1) (γ 1), xI g (α 1) 49 (zT (γ 1)), xI g (β 1) 49 (zI (γ 1)), cR (ρ 2) (α 2) (β 2) (γ 2), xI g (α 2) 49 (zT (γ 2)), xI g (β 2) 49 (zI (γ 2))]) (wn := fun (u : Unit) => [cH h q 3, xQ g q 4 (rq ρ), cR (ρ 0) (α 0) (β 0) (γ 0), xI g (α 0) 49 (zT (γ 0)), xI g (β 0) 49 (zI (γ 0)), cR (ρ 1) (α 1) (β 1) (γ 1), xI g (α 1) 49 (zT (γ 1)), xI g (β 1) 49 (zI (γ 1)), cR (ρ 2) (α 2) (β 2) (γ 2), xI g (α 2) 49 (zT (γ 2)), xI g (β 2) 49 (zI (γ 2)), cR (ρ 3) (α 3) (β 3) σ, xI g (α 3) 49 (zT σ), xI g (β 3) 49 (zI σ), cR r a b σ, xI g a 49 (zT σ), xI g b 49 (zI σ)]) F w [11, 12, 13, 14, 15, 16] [0, 1, 2, 3, 4, 5, 6, 7, 8, 9, 10] [0, 1, 2, 3, 4, 5, 6, 7, 8, 9, 10, 11, 12, 13, 14, 15, 16] rfl rfl rfl (fun _ => rfl)
            (fun hp => va_runV (As := [.ref r]) (rest := []) F.1 (kX2_copyFrom l g (ρ 3) (α 3) (β 3) (γ 3) r a b σ H.size ) (cwV 1 hts gX0_push_X2_copyFrom rfl rfl rfl ⟨rfl, hd_X2_copyFrom⟩ ⟨Nat.le_of_ble_eq_true rfl, Nat.le_of_ble_eq_true rfl⟩) ⟨hp.1, va_recv F.2.2.2.1.1 w.1 (q0 := 11) (ci := 2) rfl rfl, hp.2⟩ rfl rfl hl.1 rfl (lv_room (Nat.le_of_ble_eq_true rfl)) dX0_push_55 ⟨Nat.le_of_ble_eq_true rfl, Nat.le_of_ble_eq_true rfl⟩)
            (fun _ H locs h_17 w => ?_)
          refine lv_aload_n hx hb dX0_push_58 rfl (lv_at hl 1 rfl) ?_
          refine lv_dup hx hb dX0_push_59 rfl ?_
          refine kget (fs := [.ref q, .int (nI 3)]) F w in_X0_push_X0 0 rfl rfl 1 (by decide) (by decide +kernel) rfl rfl dX0_push_60 ?_
          refine lv_iconst (v := nI 1) hx hb dX0_push_63 (by decide) ?_
          refine lv_iadd hx hb dX0_push_64 ?_
          refine ktopi (y := nI (3 + 1)) (nI_add 3 1) ?_
          refine kput (fs := [.ref q, .int (nI 3)]) F w in_X0_push_X0 tyX0_ok nmX0 0 rfl rfl 1 (by decide) (by decide +kernel) rfl rfl (rfl) (rfl) (Nat.le_of_ble_eq_true rfl) (wn := [cH h q (3 + 1), xQ g q 4 (rq ρ), cR (ρ 0) (α 0) (β 0) (γ 0), xI g (α 0) 49 (zT (γ 0)), xI g (β 0) 49 (zI (γ 0)), cR (ρ 1) (α 1) (β 1) (γ 1), xI g (α 1) 49 (zT (γ 1)), xI g (β 1) 49 (zI (γ 1)), cR (ρ 2) (α 2) (β 2) (γ 2), xI g (α 2) 49 (zT (γ 2)), xI g (β 2) 49 (zI (γ 2)), cR (ρ 3) (α 3) (β 3) σ, xI g (α 3) 49 (zT σ), xI g (β 3) 49 (zI σ), cR r a b σ, xI g a 49 (zT σ), xI g b 49 (zI σ)]) rfl dX0_push_65 (fun H locs w => ?_)
          have w : kW g A s [cH h q (pushN 3), xQ g q 4 (rq ρ), cR (ρ 0) (α 0) (β 0) ((pushG γ 3 σ) 0), xI g (α 0) 49 (zT ((pushG γ 3 σ) 0)), xI g (β 0) 49 (zI ((pushG γ 3 σ) 0)), cR (ρ 1) (α 1) (β 1) ((pushG γ 3 σ) 1), xI g (α 1) 49 (zT ((pushG γ 3 σ) 1)), xI g (β 1) 49 (zI ((pushG γ 3 σ) 1)), cR (ρ 2) (α 2) (β 2) ((pushG γ 3 σ) 2), xI g (α 2) 49 (zT ((pushG γ 3 σ) 2)), xI g (β 2) 49 (zI ((pushG γ 3 σ) 2)), cR (ρ 3) (α 3) (β 3) ((pushG γ 3 σ) 3), xI g (α 3) 49 (zT ((pushG γ 3 σ) 3)), xI g (β 3) 49 (zI ((pushG γ 3 σ) 3)), cR r a b σ, xI g a 49 (zT σ), xI g b 49 (zI σ)] H locs := by
            have w := w
            exact w
          subst hA
          subst hQ
          exact kretv F w (ρ, α, β) [0, 1, 2, 3, 4, 5, 6, 7, 8, 9, 10, 11, 12, 13, 14, 15, 16] rfl rfl (trivial) (Nat.le_of_ble_eq_true rfl) (Nat.le_of_ble_eq_true rfl) dX0_push_68
  · have h_1 : n ≥ 4 := (kc_lt_f (by omega) (by omega)).mp h_1
    have e_18 : n = 4 := by omega
    subst e_18
    refine lv_aload_n hx hb dX0_push_12 rfl (lv_at hl 0 rfl) ?_
    refine kcallv (wc := [cH h q 4, xQ g q 4 (rq ρ), cR (ρ 0) (α 0) (β 0) (γ 0), xI g (α 0) 49 (zT (γ 0)), xI g (β 0) 49 (zI (γ 0)), cR (ρ 1) (α 1) (β 1) (γ 1), xI g (α 1) 49 (zT (γ 1)), xI g (β 1) 49 (zI (γ 1)), cR (ρ 2) (α 2) (β 2) (γ 2), xI g (α 2) 49 (zT (γ 2)), xI g (β 2) 49 (zI (γ 2)), cR (ρ 3) (α 3) (β 3) (γ 3), xI g (α 3) 49 (zT (γ 3)), xI g (β 3) 49 (zI (γ 3))]) (wr := [cR r a b σ, xI g a 49 (zT σ), xI g b 49 (zI σ)]) (wn := fun (u : Unit) => [cH h q 3, xQ g q 4 (rq (rotA ρ)), cR (ρ 0) (α 0) (β 0) (γ 0), xI g (α 0) 49 (zT (γ 0)), xI g (β 0) 49 (zI (γ 0)), cR (ρ 1) (α 1) (β 1) (γ 1), xI g (α 1) 49 (zT (γ 1)), xI g (β 1) 49 (zI (γ 1)), cR (ρ 2) (α 2) (β 2) (γ 2), xI g (α 2) 49 (zT (γ 2)), xI g (β 2) 49 (zI (γ 2)), cR (ρ 3) (α 3) (β 3) (γ 3), xI g (α 3) 49 (zT (γ 3)), xI g (β 3) 49 (zI (γ 3)), cR r a b σ, xI g a 49 (zT σ), xI g b 49 (zI σ)]) F w [0, 1, 2, 3, 4, 5, 6, 7, 8, 9, 10, 11, 12, 13] [14, 15, 16] [3, 4, 5, 6, 7, 8, 9, 10, 11, 12, 13, 14, 15, 16, 0, 1, 2] rfl rfl rfl (fun _ => rfl)
      (fun hp => va_runV (As := []) (rest := []) F.1 (kX0_dropOldest l g h q 4 ρ α β γ H.size ) (cwV 0 hts gX0_push_X0_dropOldest rfl rfl rfl ⟨rfl, hd_X0_dropOldest⟩ ⟨Nat.le_of_ble_eq_true rfl, Nat.le_of_ble_eq_true rfl⟩) ⟨hp.1, va_recv F.2.2.2.1.1 w.1 (q0 := 0) (ci := 0) rfl rfl, hp.2⟩ rfl rfl hl.1 rfl (lv_room (Nat.le_of_ble_eq_true rfl)) dX0_push_13 ⟨Nat.le_of_ble_eq_true rfl, Nat.le_of_ble_eq_true rfl⟩)
      (fun _ H locs h_20 w => ?_)
    refine lv_aload_n hx hb dX0_push_16 rfl (lv_at hl 0 rfl) ?_
    refine kget (fs := [.ref q, .int (nI 3)]) F w in_X0_push_X0 0 rfl rfl 1 (by decide) (by decide +kernel) rfl rfl dX0_push_17 ?_
    refine lv_if_lt (tgt := 47) hx hb dX0_push_20 (by decide) (fun h_21 => ?_) (fun h_21 => ?_)
    · have h_21 : 3 < 0 := (kc0_lt_t (by omega)).mp h_21
      omega
    · have h_21 : 3 ≥ 0 := (kc0_lt_f (by omega)).mp h_21
      refine lv_aload_n hx hb dX0_push_23 rfl (lv_at hl 0 rfl) ?_
      refine kget (fs := [.ref q, .int (nI 3)]) F w in_X0_push_X0 0 rfl rfl 1 (by decide) (by decide +kernel) rfl rfl dX0_push_24 ?_
      refine lv_aload_n hx hb dX0_push_27 rfl (lv_at hl 0 rfl) ?_
      refine kget (fs := [.ref q, .int (nI 3)]) F w in_X0_push_X0 0 rfl rfl 0 (by decide) (by decide +kernel) rfl rfl dX0_push_28 ?_
      refine kalen (t0 := 2) (v := nI 4) F w 1 rfl rfl rfl dX0_push_31 ?_
      refine lv_icmp_ge (tgt := 47) hx hb dX0_push_32 (by decide) (fun h_22 => ?_) (fun h_22 => ?_)
      · have h_22 : 3 ≥ 4 := (kc_ge_t (by omega) (by omega)).mp h_22
        omega
      · have h_22 : 3 < 4 := (kc_ge_f (by omega) (by omega)).mp h_22
        refine lv_aload_n hx hb dX0_push_35 rfl (lv_at hl 0 rfl) ?_
        refine kget (fs := [.ref q, .int (nI 3)]) F w in_X0_push_X0 0 rfl rfl 0 (by decide) (by decide +kernel) rfl rfl dX0_push_36 ?_
        refine lv_aload_n hx hb dX0_push_39 rfl (lv_at hl 0 rfl) ?_
        refine kget (fs := [.ref q, .int (nI 3)]) F w in_X0_push_X0 0 rfl rfl 1 (by decide) (by decide +kernel) rfl rfl dX0_push_40 ?_
        refine kqald (v := .ref (ρ 0)) F w 1 rfl (vp_in_nI (by omega) (by omega)) (by rw [nI_clamp (n := 3) (by omega)]; rfl) dX0_push_43 ?_
        refine lv_goto (tgt := 48) hx hb dX0_push_44 (by decide) ?_
        refine lv_astore_n (lv' := [(2, .ref (ρ 0)), (0, .ref h), (1, .ref r)]) hx hb dX0_push_48 rfl hl (by decide) rfl (fun ls hl => ?_)
        refine lv_aload_n hx hb dX0_push_49 rfl (lv_at hl 0 rfl) ?_
        refine lv_ifnull hx hb dX0_push_50 ?_
        refine lv_aload_n hx hb dX0_push_53 rfl (lv_at hl 0 rfl) ?_
        refine lv_aload_n hx hb dX0_push_54 rfl (lv_at hl 2 rfl) ?_
        refine kcallv (wc := [cR (ρ 0) (α 0) (β 0) (γ 0), xI g (α 0) 49 (zT (γ 0)), xI g (β 0) 49 (zI (γ 0)), cR r a b σ, xI g a 49 (zT σ), xI g b 49 (zI σ)]) (wr := [cH h q 3, xQ g q 4 (rq (rotA ρ)), cR (ρ 1) (α 1) (β 1) (γ 1), xI g (α 1) 49 (zT (γ 1)), xI g (β 1) 49 (zI (γ 1)), cR (ρ 2) (α 2) (β 2) (γ 2), xI g (α 2) 49 (zT (γ 2)), xI g (β 2) 49 (zI (γ 2)), cR (ρ 3) (α 3) (β 3) (γ 3), xI g (α 3) 49 (zT (γ 3)), xI g (β 3) 49 (zI (γ 3))]) (wn := fun (u : Unit) => [cH h q 3, xQ g q 4 (rq (rotA ρ)), cR (ρ 0) (α 0) (β 0) σ, xI g (α 0) 49 (zT σ), xI g (β 0) 49 (zI σ), cR (ρ 1) (α 1) (β 1) (γ 1), xI g (α 1) 49 (zT (γ 1)), xI g (β 1) 49 (zI (γ 1)), cR (ρ 2) (α 2) (β 2) (γ 2), xI g (α 2) 49 (zT (γ 2)), xI g (β 2) 49 (zI (γ 2)), cR (ρ 3) (α 3) (β 3) (γ 3), xI g (α 3) 49 (zT (γ 3)), xI g (β 3) 49 (zI (γ 3)), cR r a b σ, xI g a 49 (zT σ), xI g b 49 (zI σ)]) F w [2, 3, 4, 14, 15, 16] [0, 1, 5, 6, 7, 8, 9, 10, 11, 12, 13] [0, 1, 11, 12, 13, 2, 3, 4, 5, 6, 7, 8, 9, 10, 14, 15, 16] rfl rfl rfl (fun _ => rfl)
          (fun hp => va_runV (As := [.ref r]) (rest := []) F.1 (kX2_copyFrom l g (ρ 0) (α 0) (β 0) (γ 0) r a b σ H.size ) (cwV 1 hts gX0_push_X2_copyFrom rfl rfl rfl ⟨rfl, hd_X2_copyFrom⟩ ⟨Nat.le_of_ble_eq_true rfl, Nat.le_of_ble_eq_true rfl⟩) ⟨hp.1, va_recv F.2.2.2.1.1 w.1 (q0 := 2) (ci := 2) rfl rfl, hp.2⟩ rfl rfl hl.1 rfl (lv_room (Nat.le_of_ble_eq_true rfl)) dX0_push_55 ⟨Nat.le_of_ble_eq_true rfl, Nat.le_of_ble_eq_true rfl⟩)
          (fun _ H locs h_24 w => ?_)
        refine lv_aload_n hx hb dX0_push_58 rfl (lv_at hl 1 rfl) ?_
        refine lv_dup hx hb dX0_push_59 rfl ?_
        refine kget (fs := [.ref q, .int (nI 3)]) F w in_X0_push_X0 0 rfl rfl 1 (by decide) (by decide +kernel) rfl rfl dX0_push_60 ?_
        refine lv_iconst (v := nI 1) hx hb dX0_push_63 (by decide) ?_
        refine lv_iadd hx hb dX0_push_64 ?_
        refine ktopi (y := nI (3 + 1)) (nI_add 3 1) ?_
        refine kput (fs := [.ref q, .int (nI 3)]) F w in_X0_push_X0 tyX0_ok nmX0 0 rfl rfl 1 (by decide) (by decide +kernel) rfl rfl (rfl) (rfl) (Nat.le_of_ble_eq_true rfl) (wn := [cH h q (3 + 1), xQ g q 4 (rq (rotA ρ)), cR (ρ 0) (α 0) (β 0) σ, xI g (α 0) 49 (zT σ), xI g (β 0) 49 (zI σ), cR (ρ 1) (α 1) (β 1) (γ 1), xI g (α 1) 49 (zT (γ 1)), xI g (β 1) 49 (zI (γ 1)), cR (ρ 2) (α 2) (β 2) (γ 2), xI g (α 2) 49 (zT (γ 2)), xI g (β 2) 49 (zI (γ 2)), cR (ρ 3) (α 3) (β 3) (γ 3), xI g (α 3) 49 (zT (γ 3)), xI g (β 3) 49 (zI (γ 3)), cR r a b σ, xI g a 49 (zT σ), xI g b 49 (zI σ)]) rfl dX0_push_65 (fun H locs w => ?_)
        have w := kW.perm w [0, 1, 5, 6, 7, 8, 9, 10, 11, 12, 13, 2, 3, 4, 14, 15, 16] (ws' := [cH h q (3 + 1), xQ g q 4 (rq (rotA ρ)), cR (ρ 1) (α 1) (β 1) (γ 1), xI g (α 1) 49 (zT (γ 1)), xI g (β 1) 49 (zI (γ 1)), cR (ρ 2) (α 2) (β 2) (γ 2), xI g (α 2) 49 (zT (γ 2)), xI g (β 2) 49 (zI (γ 2)), cR (ρ 3) (α 3) (β 3) (γ 3), xI g (α 3) 49 (zT (γ 3)), xI g (β 3) 49 (zI (γ 3)), cR (ρ 0) (α 0) (β 0) σ, xI g (α 0) 49 (zT σ), xI g (β 0) 49 (zI σ), cR r a b σ, xI g a 49 (zT σ), xI g b 49 (zI σ)]) rfl rfl
        have w : kW g A s [cH h q (pushN 4), xQ g q 4 (rq (rotA ρ)), cR ((rotA ρ) 0) ((rotA α) 0) ((rotA β) 0) ((pushG γ 4 σ) 0), xI g ((rotA α) 0) 49 (zT ((pushG γ 4 σ) 0)), xI g ((rotA β) 0) 49 (zI ((pushG γ 4 σ) 0)), cR ((rotA ρ) 1) ((rotA α) 1) ((rotA β) 1) ((pushG γ 4 σ) 1), xI g ((rotA α) 1) 49 (zT ((pushG γ 4 σ) 1)), xI g ((rotA β) 1) 49 (zI ((pushG γ 4 σ) 1)), cR ((rotA ρ) 2) ((rotA α) 2) ((rotA β) 2) ((pushG γ 4 σ) 2), xI g ((rotA α) 2) 49 (zT ((pushG γ 4 σ) 2)), xI g ((rotA β) 2) 49 (zI ((pushG γ 4 σ) 2)), cR ((rotA ρ) 3) ((rotA α) 3) ((rotA β) 3) ((pushG γ 4 σ) 3), xI g ((rotA α) 3) 49 (zT ((pushG γ 4 σ) 3)), xI g ((rotA β) 3) 49 (zI ((pushG γ 4 σ) 3)), cR r a b σ, xI g a 49 (zT σ), xI g b 49 (zI σ)] H locs := by
          have w := w
          exact w
        subst hA
        subst hQ
        exact kretv F w (rotA ρ, rotA α, rotA β) [0, 1, 2, 3, 4, 5, 6, 7, 8, 9, 10, 11, 12, 13, 14, 15, 16] rfl rfl (trivial) (Nat.le_of_ble_eq_true rfl) (Nat.le_of_ble_eq_true rfl) dX0_push_68
theorem in_X0_popInto_X0 : ∀ w ∈ wsX00, w ∈ wsX0_popInto := by decide +kernel
abbrev rmX0_popInto : Room := { frames := 2, cells := 0, slots := 0, locals := 43 }
set_option maxHeartbeats 4000000 in
set_option maxRecDepth 100000 in
theorem kX0_popInto (l : Launch) (g : GG) (h : Nat) (q : Nat) (n : Nat) (ρ : Nat → Nat) (α : Nat → Nat) (β : Nat → Nat) (γ : Nat → Sg) (r : Nat) (a : Nat) (b : Nat) (σ : Sg) (sz : Nat) (hn : n < 4) : Met l yX0_popInto wsX0_popInto rmX0_popInto (va_Pc [.ref h, .ref r] (kPre g [cH h q (n + 1), xQ g q 4 (rq ρ), cR (ρ 0) (α 0) (β 0) (γ 0), xI g (α 0) 49 (zT (γ 0)), xI g (β 0) 49 (zI (γ 0)), cR (ρ 1) (α 1) (β 1) (γ 1), xI g (α 1) 49 (zT (γ 1)), xI g (β 1) 49 (zI (γ 1)), cR (ρ 2) (α 2) (β 2) (γ 2), xI g (α 2) 49 (zT (γ 2)), xI g (β 2) 49 (zI (γ 2)), cR (ρ 3) (α 3) (β 3) (γ 3), xI g (α 3) 49 (zT (γ 3)), xI g (β 3) 49 (zI (γ 3)), cR r a b σ, xI g a 49 (zT σ), xI g b 49 (zI σ)] sz)) (va_Qv (fun (u : Unit) => True) (kB g (va_A [cH h q (n + 1), xQ g q 4 (rq ρ), cR (ρ 0) (α 0) (β 0) (γ 0), xI g (α 0) 49 (zT (γ 0)), xI g (β 0) 49 (zI (γ 0)), cR (ρ 1) (α 1) (β 1) (γ 1), xI g (α 1) 49 (zT (γ 1)), xI g (β 1) 49 (zI (γ 1)), cR (ρ 2) (α 2) (β 2) (γ 2), xI g (α 2) 49 (zT (γ 2)), xI g (β 2) 49 (zI (γ 2)), cR (ρ 3) (α 3) (β 3) (γ 3), xI g (α 3) 49 (zT (γ 3)), xI g (β 3) 49 (zI (γ 3)), cR r a b σ, xI g a 49 (zT σ), xI g b 49 (zI σ)] sz) (fun u => [cH h q n, xQ g q 4 (rq ρ), cR (ρ 0) (α 0) (β 0) (γ 0), xI g (α 0) 49 (zT (γ 0)), xI g (β 0) 49 (zI (γ 0)), cR (ρ 1) (α 1) (β 1) (γ 1), xI g (α 1) 49 (zT (γ 1)), xI g (β 1) 49 (zI (γ 1)), cR (ρ 2) (α 2) (β 2) (γ 2), xI g (α 2) 49 (zT (γ 2)), xI g (β 2) 49 (zI (γ 2)), cR (ρ 3) (α 3) (β 3) (γ 3), xI g (α 3) 49 (zT (γ 3)), xI g (β 3) 49 (zI (γ 3)), cR r a b (γ n), xI g a 49 (zT (γ n)), xI g b 49 (zI (γ n))])) (va_A [cH h q (n + 1), xQ g q 4 (rq ρ), cR (ρ 0) (α 0) (β 0) (γ 0), xI g (α 0) 49 (zT (γ 0)), xI g (β 0) 49 (zI (γ 0)), cR (ρ 1) (α 1) (β 1) (γ 1), xI g (α 1) 49 (zT (γ 1)), xI g (β 1) 49 (zI (γ 1)), cR (ρ 2) (α 2) (β 2) (γ 2), xI g (α 2) 49 (zT (γ 2)), xI g (β 2) 49 (zI (γ 2)), cR (ρ 3) (α 3) (β 3) (γ 3), xI g (α 3) 49 (zT (γ 3)), xI g (β 3) 49 (zI (γ 3)), cR r a b σ, xI g a 49 (zT σ), xI g b 49 (zI σ)] sz)) 0 0 (va_A [cH h q (n + 1), xQ g q 4 (rq ρ), cR (ρ 0) (α 0) (β 0) (γ 0), xI g (α 0) 49 (zT (γ 0)), xI g (β 0) 49 (zI (γ 0)), cR (ρ 1) (α 1) (β 1) (γ 1), xI g (α 1) 49 (zT (γ 1)), xI g (β 1) 49 (zI (γ 1)), cR (ρ 2) (α 2) (β 2) (γ 2), xI g (α 2) 49 (zT (γ 2)), xI g (β 2) 49 (zI (γ 2)), cR (ρ 3) (α 3) (β 3) (γ 3), xI g (α 3) 49 (zT (γ 3)), xI g (β 3) 49 (zI (γ 3)), cR r a b σ, xI g a 49 (zT σ), xI g b 49 (zI σ)] sz) := by
  refine kMet (cc := cX0_popInto) (maxL := 2) (ret := none) (own := RX0) (by decide) rfl rfl (Nat.le_of_ble_eq_true rfl) ?_
  intro p e s m args below meth c ls Q H locs A F w hl hnm hA hQ
  have hx := F.1.1
  have hb := F.1.2.1
  have hts := F.1.2.2.2.2
  have hl : lv_has ls 2 [(0, .ref h), (1, .ref r)] := hl
  rcases (show n = 0 ∨ n = 1 ∨ n = 2 ∨ n = 3 from (by omega)) with e4 | e4 | e4 | e4
  · subst e4
    refine lv_aload_n hx hb dX0_popInto_0 rfl (lv_at hl 0 rfl) ?_
    refine kget (fs := [.ref q, .int (nI (0 + 1))]) F w in_X0_popInto_X0 0 rfl rfl 1 (by decide) (by decide +kernel) rfl rfl dX0_popInto_1 ?_
    refine lv_iconst (v := nI 1) hx hb dX0_popInto_4 (by decide) ?_
    refine lv_icmp_lt (tgt := 47) hx hb dX0_popInto_5 (by decide) (fun h_1 => ?_) (fun h_1 => ?_)
    · have h_1 : 0 + 1 < 1 := (kc_lt_t (by omega) (by omega)).mp h_1
      omega
    · have h_1 : 0 + 1 ≥ 1 := (kc_lt_f (by omega) (by omega)).mp h_1
      refine lv_aload_n hx hb dX0_popInto_8 rfl (lv_at hl 0 rfl) ?_
      refine kget (fs := [.ref q, .int (nI (0 + 1))]) F w in_X0_popInto_X0 0 rfl rfl 1 (by decide) (by decide +kernel) rfl rfl dX0_popInto_9 ?_
      refine lv_aload_n hx hb dX0_popInto_12 rfl (lv_at hl 0 rfl) ?_
      refine kget (fs := [.ref q, .int (nI (0 + 1))]) F w in_X0_popInto_X0 0 rfl rfl 0 (by decide) (by decide +kernel) rfl rfl dX0_popInto_13 ?_
      refine kalen (t0 := 2) (v := nI 4) F w 1 rfl rfl rfl dX0_popInto_16 ?_
      refine lv_icmp_gt (tgt := 47) hx hb dX0_popInto_17 (by decide) (fun h_2 => ?_) (fun h_2 => ?_)
      · have h_2 : 0 + 1 > 4 := (kc_gt_t (by omega) (by omega)).mp h_2
        omega
      · have h_2 : 0 + 1 ≤ 4 := (kc_gt_f (by omega) (by omega)).mp h_2
        refine lv_aload_n hx hb dX0_popInto_20 rfl (lv_at hl 1 rfl) ?_
        refine lv_ifnull hx hb dX0_popInto_21 ?_
        refine lv_aload_n hx hb dX0_popInto_24 rfl (lv_at hl 0 rfl) ?_
        refine lv_dup hx hb dX0_popInto_25 rfl ?_
        refine kget (fs := [.ref q, .int (nI (0 + 1))]) F w in_X0_popInto_X0 0 rfl rfl 1 (by decide) (by decide +kernel) rfl rfl dX0_popInto_26 ?_
        refine lv_iconst (v := nI 1) hx hb dX0_popInto_29 (by decide) ?_
        refine lv_isub hx hb dX0_popInto_30 ?_
        refine ktopi (y := nI 0) (by decide) ?_
        refine kput (fs := [.ref q, .int (nI (0 + 1))]) F w in_X0_popInto_X0 tyX0_ok nmX0 0 rfl rfl 1 (by decide) (by decide +kernel) rfl rfl (rfl) (rfl) (Nat.le_of_ble_eq_true rfl) (wn := [cH h q 0, xQ g q 4 (rq ρ), cR (ρ 0) (α 0) (β 0) (γ 0), xI g (α 0) 49 (zT (γ 0)), xI g (β 0) 49 (zI (γ 0)), cR (ρ 1) (α 1) (β 1) (γ 1), xI g (α 1) 49 (zT (γ 1)), xI g (β 1) 49 (zI (γ 1)), cR (ρ 2) (α 2) (β 2) (γ 2), xI g (α 2) 49 (zT (γ 2)), xI g (β 2) 49 (zI (γ 2)), cR (ρ 3) (α 3) (β 3) (γ 3), xI g (α 3) 49 (zT (γ 3)), xI g (β 3) 49 (zI (γ 3)), cR r a b σ, xI g a 49 (zT σ), xI g b 49 (zI σ)]) rfl dX0_popInto_31 (fun H locs w => ?_)
        refine lv_aload_n hx hb dX0_popInto_34 rfl (lv_at hl 1 rfl) ?_
        refine lv_aload_n hx hb dX0_popInto_35 rfl (lv_at hl 0 rfl) ?_
        refine kget (fs := [.ref q, .int (nI 0)]) F w in_X0_popInto_X0 0 rfl rfl 0 (by decide) (by decide +kernel) rfl rfl dX0_popInto_36 ?_
        refine lv_aload_n hx hb dX0_popInto_39 rfl (lv_at hl 0 rfl) ?_
        refine kget (fs := [.ref q, .int (nI 0)]) F w in_X0_popInto_X0 0 rfl rfl 1 (by decide) (by decide +kernel) rfl rfl dX0_popInto_40 ?_
        refine kqald (v := .ref (ρ 0)) F w 1 rfl (vp_in_nI (by omega) (by omega)) (by rw [nI_clamp (n := 0) (by omega)]; rfl) dX0_popInto_43 ?_
        refine kcallv (wc := [cR r a b σ, xI g a 49 (zT σ), xI g b 49 (zI σ), cR (ρ 0) (α 0) (β 0) (γ 0), xI g (α 0) 49 (zT (γ 0)), xI g (β 0) 49 (zI (γ 0))]) (wr := [cH h q 0, xQ g q 4 (rq ρ), cR (ρ 1) (α 1) (β 1) (γ 1), xI g (α 1) 49 (zT (γ 1)), xI g (β 1) 49 (zI (γ 1)), cR (ρ 2) (α 2) (β 2) (γ 2), xI g (α 2) 49 (zT (γ 2)), xI g (β 2) 49 (zI (γ 2)), cR (ρ 3) (α 3) (β 3) (γ 3), xI g (α 3) 49 (zT (γ 3)), xI g (β 3) 49 (zI (γ 3))]) (wn := fun (u : Unit) => [cH h q 0, xQ g q 4 (rq ρ), cR (ρ 0) (α 0) (β 0) (γ 0), xI g (α 0) 49 (zT (γ 0)), xI g (β 0) 49 (zI (γ 0)), cR (ρ 1) (α 1) (β 1) (γ 1), xI g (α 1) 49 (zT (γ 1)), xI g (β 1) 49 (zI (γ 1)), cR (ρ 2) (α 2) (β 2) (γ 2), xI g (α 2) 49 (zT (γ 2)), xI g (β 2) 49 (zI (γ 2)), cR (ρ 3) (α 3) (β 3) (γ 3), xI g (α 3) 49 (zT (γ 3)), xI g (β 3) 49 (zI (γ 3)), cR r a b (γ 0), xI g a 49 (zT (γ 0)), xI g b 49 (zI (γ 0))]) F w [14, 15, 16, 2, 3, 4] [0, 1, 5, 6, 7, 8, 9, 10, 11, 12, 13] [0, 1, 14, 15, 16, 2, 3, 4, 5, 6, 7, 8, 9, 10, 11, 12, 13] rfl rfl rfl (fun _ => rfl)
          (fun hp => va_runV (As := [.ref (ρ 0)]) (rest := []) F.1 (kX2_copyFrom l g r a b σ (ρ 0) (α 0) (β 0) (γ 0) H.size ) (cwV 1 hts gX0_popInto_X2_copyFrom rfl rfl rfl ⟨rfl, hd_X2_copyFrom⟩ ⟨Nat.le_of_ble_eq_true rfl, Nat.le_of_ble_eq_true rfl⟩) ⟨hp.1, va_recv F.2.2.2.1.1 w.1 (q0 := 14) (ci := 2) rfl rfl, hp.2⟩ rfl rfl hl.1 rfl (lv_room (Nat.le_of_ble_eq_true rfl)) dX0_popInto_44 ⟨Nat.le_of_ble_eq_true rfl, Nat.le_of_ble_eq_true rfl⟩)
          (fun _ H locs h_4 w => ?_)
        have w : kW g A s [cH h q 0, xQ g q 4 (rq ρ), cR (ρ 0) (α 0) (β 0) (γ 0), xI g (α 0) 49 (zT (γ 0)), xI g (β 0) 49 (zI (γ 0)), cR (ρ 1) (α 1) (β 1) (γ 1), xI g (α 1) 49 (zT (γ 1)), xI g (β 1) 49 (zI (γ 1)), cR (ρ 2) (α 2) (β 2) (γ 2), xI g (α 2) 49 (zT (γ 2)), xI g (β 2) 49 (zI (γ 2)), cR (ρ 3) (α 3) (β 3) (γ 3), xI g (α 3) 49 (zT (γ 3)), xI g (β 3) 49 (zI (γ 3)), cR r a b (γ 0), xI g a 49 (zT (γ 0)), xI g b 49 (zI (γ 0))] H locs := by
          have w := w
          exact w
        subst hA
        subst hQ
        exact kretv F w () [0, 1, 2, 3, 4, 5, 6, 7, 8, 9, 10, 11, 12, 13, 14, 15, 16] rfl rfl (trivial) (Nat.le_of_ble_eq_true rfl) (Nat.le_of_ble_eq_true rfl) dX0_popInto_47
  · subst e4
    refine lv_aload_n hx hb dX0_popInto_0 rfl (lv_at hl 0 rfl) ?_
    refine kget (fs := [.ref q, .int (nI (1 + 1))]) F w in_X0_popInto_X0 0 rfl rfl 1 (by decide) (by decide +kernel) rfl rfl dX0_popInto_1 ?_
    refine lv_iconst (v := nI 1) hx hb dX0_popInto_4 (by decide) ?_
    refine lv_icmp_lt (tgt := 47) hx hb dX0_popInto_5 (by decide) (fun h_5 => ?_) (fun h_5 => ?_)
    · have h_5 : 1 + 1 < 1 := (kc_lt_t (by omega) (by omega)).mp h_5
      omega
    · have h_5 : 1 + 1 ≥ 1 := (kc_lt_f (by omega) (by omega)).mp h_5
      refine lv_aload_n hx hb dX0_popInto_8 rfl (lv_at hl 0 rfl) ?_
      refine kget (fs := [.ref q, .int (nI (1 + 1))]) F w in_X0_popInto_X0 0 rfl rfl 1 (by decide) (by decide +kernel) rfl rfl dX0_popInto_9 ?_
      refine lv_aload_n hx hb dX0_popInto_12 rfl (lv_at hl 0 rfl) ?_
      refine kget (fs := [.ref q, .int (nI (1 + 1))]) F w in_X0_popInto_X0 0 rfl rfl 0 (by decide) (by decide +kernel) rfl rfl dX0_popInto_13 ?_
      refine kalen (t0 := 2) (v := nI 4) F w 1 rfl rfl rfl dX0_popInto_16 ?_
      refine lv_icmp_gt (tgt := 47) hx hb dX0_popInto_17 (by decide) (fun h_6 => ?_) (fun h_6 => ?_)
      · have h_6 : 1 + 1 > 4 := (kc_gt_t (by omega) (by omega)).mp h_6
        omega
      · have h_6 : 1 + 1 ≤ 4 := (kc_gt_f (by omega) (by omega)).mp h_6
        refine lv_aload_n hx hb dX0_popInto_20 rfl (lv_at hl 1 rfl) ?_
        refine lv_ifnull hx hb dX0_popInto_21 ?_
        refine lv_aload_n hx hb dX0_popInto_24 rfl (lv_at hl 0 rfl) ?_
        refine lv_dup hx hb dX0_popInto_25 rfl ?_
        refine kget (fs := [.ref q, .int (nI (1 + 1))]) F w in_X0_popInto_X0 0 rfl rfl 1 (by decide) (by decide +kernel) rfl rfl dX0_popInto_26 ?_
        refine lv_iconst (v := nI 1) hx hb dX0_popInto_29 (by decide) ?_
        refine lv_isub hx hb dX0_popInto_30 ?_
        refine ktopi (y := nI 1) (by decide) ?_
        refine kput (fs := [.ref q, .int (nI (1 + 1))]) F w in_X0_popInto_X0 tyX0_ok nmX0 0 rfl rfl 1 (by decide) (by decide +kernel) rfl rfl (rfl) (rfl) (Nat.le_of_ble_eq_true rfl) (wn := [cH h q 1, xQ g q 4 (rq ρ), cR (ρ 0) (α 0) (β 0) (γ 0), xI g (α 0) 49 (zT (γ 0)), xI g (β 0) 49 (zI (γ 0)), cR (ρ 1) (α 1) (β 1) (γ 1), xI g (α 1) 49 (zT (γ 1)), xI g (β 1) 49 (zI (γ 1)), cR (ρ 2) (α 2) (β 2) (γ 2), xI g (α 2) 49 (zT (γ 2)), xI g (β 2) 49 (zI (γ 2)), cR (ρ 3) (α 3) (β 3) (γ 3), xI g (α 3) 49 (zT (γ 3)), xI g (β 3) 49 (zI (γ 3)), cR r a b σ, xI g a 49 (zT σ), xI g b 49 (zI σ)]) rfl dX0_popInto_31 (fun H locs w => ?_)
        refine lv_aload_n hx hb dX0_popInto_34 rfl (lv_at hl 1 rfl) ?_
        refine lv_aload_n hx hb dX0_popInto_35 rfl (lv_at hl 0 rfl) ?_
        refine kget (fs := [.ref q, .int (nI 1)]) F w in_X0_popInto_X0 0 rfl rfl 0 (by decide) (by decide +kernel) rfl rfl dX0_popInto_36 ?_
        refine lv_aload_n hx hb dX0_popInto_39 rfl (lv_at hl 0 rfl) ?_
        refine kget (fs := [.ref q, .int (nI 1)]) F w in_X0_popInto_X0 0 rfl rfl 1 (by decide) (by decide +kernel) rfl rfl dX0_popInto_40 ?_
        refine kqald (v := .ref (ρ 1)) F w 1 rfl (vp_in_nI (by omega) (by omega)) (by rw [nI_clamp (n := 1) (by omega)]; rfl) dX0_popInto_43 ?_
        refine kcallv (wc := [cR r a b σ, xI g a 49 (zT σ), xI g b 49 (zI σ), cR (ρ 1) (α 1) (β 1) (γ 1), xI g (α 1) 49 (zT (γ 1)), xI g (β 1) 49 (zI (γ 1))]) (wr := [cH h q 1, xQ g q 4 (rq ρ), cR (ρ 0) (α 0) (β 0) (γ 0), xI g (α 0) 49 (zT (γ 0)), xI g (β 0) 49 (zI (γ 0)), cR (ρ 2) (α 2) (β 2) (γ 2), xI g (α 2) 49 (zT (γ 2)), xI g (β 2) 49 (zI (γ 2)), cR (ρ 3) (α 3) (β 3) (γ 3), xI g (α 3) 49 (zT (γ 3)), xI g (β 3) 49 (zI (γ 3))]) (wn := fun (u : Unit) => [cH h q 1, xQ g q 4 (rq ρ), cR (ρ 0) (α 0) (β 0) (γ 0), xI g (α 0) 49 (zT (γ 0)), xI g (β 0) 49 (zI (γ 0)), cR (ρ 1) (α 1) (β 1) (γ 1), xI g (α 1) 49 (zT (γ 1)), xI g (β 1) 49 (zI (γ 1)), cR (ρ 2) (α 2) (β 2) (γ 2), xI g (α 2) 49 (zT (γ 2)), xI g (β 2) 49 (zI (γ 2)), cR (ρ 3) (α 3) (β 3) (γ 3), xI g (α 3) 49 (zT (γ 3)), xI g (β 3) 49 (zI (γ 3)), cR r a b (γ 1), xI g a 49 (zT (γ 1)), xI g b 49 (zI (γ 1))]) F w [14, 15, 16, 5, 6, 7] [0, 1, 2, 3, 4, 8, 9, 10, 11, 12, 13] [0, 1, 2, 3, 4, 14, 15, 16, 5, 6, 7, 8, 9, 10, 11, 12, 13] rfl rfl rfl (fun _ => rfl)
          (fun hp => va_runV (As := [.ref (ρ 1)]) (rest := []) F.1 (kX2_copyFrom l g r a b σ (ρ 1) (α 1) (β 1) (γ 1) H.size ) (cwV 1 hts gX0_popInto_X2_copyFrom rfl rfl rfl ⟨rfl, hd_X2_copyFrom⟩ ⟨Nat.le_of_ble_eq_true rfl, Nat.le_of_ble_eq_true rfl⟩) ⟨hp.1, va_recv F.2.2.2.1.1 w.1 (q0 := 14) (ci := 2) rfl rfl, hp.2⟩ rfl rfl hl.1 rfl (lv_room (Nat.le_of_ble_eq_true rfl)) dX0_popInto_44 ⟨Nat.le_of_ble_eq_true rfl, Nat.le_of_ble_eq_true rfl⟩)
          (fun _ H locs h_8 w => ?_)
        have w : kW g A s [cH h q 1, xQ g q 4 (rq ρ), cR (ρ 0) (α 0) (β 0) (γ 0), xI g (α 0) 49 (zT (γ 0)), xI g (β 0) 49 (zI (γ 0)), cR (ρ 1) (α 1) (β 1) (γ 1), xI g (α 1) 49 (zT (γ 1)), xI g (β 1) 49 (zI (γ 1)), cR (ρ 2) (α 2) (β 2) (γ 2), xI g (α 2) 49 (zT (γ 2)), xI g (β 2) 49 (zI (γ 2)), cR (ρ 3) (α 3) (β 3) (γ 3), xI g (α 3) 49 (zT (γ 3)), xI g (β 3) 49 (zI (γ 3)), cR r a b (γ 1), xI g a 49 (zT (γ 1)), xI g b 49 (zI (γ 1))] H locs := by
          have w := w
          exact w
        subst hA
        subst hQ
        exact kretv F w () [0, 1, 2, 3, 4, 5, 6, 7, 8, 9, 10, 11, 12, 13, 14, 15, 16] rfl rfl (trivial) (Nat.le_of_ble_eq_true rfl) (Nat.le_of_ble_eq_true rfl) dX0_popInto_47
  · subst e4
    refine lv_aload_n hx hb dX0_popInto_0 rfl (lv_at hl 0 rfl) ?_
    refine kget (fs := [.ref q, .int (nI (2 + 1))]) F w in_X0_popInto_X0 0 rfl rfl 1 (by decide) (by decide +kernel) rfl rfl dX0_popInto_1 ?_
    refine lv_iconst (v := nI 1) hx hb dX0_popInto_4 (by decide) ?_
    refine lv_icmp_lt (tgt := 47) hx hb dX0_popInto_5 (by decide) (fun h_9 => ?_) (fun h_9 => ?_)
    · have h_9 : 2 + 1 < 1 := (kc_lt_t (by omega) (by omega)).mp h_9
      omega
    · have h_9 : 2 + 1 ≥ 1 := (kc_lt_f (by omega) (by omega)).mp h_9
      refine lv_aload_n hx hb dX0_popInto_8 rfl (lv_at hl 0 rfl) ?_
      refine kget (fs := [.ref q, .int (nI (2 + 1))]) F w in_X0_popInto_X0 0 rfl rfl 1 (by decide) (by decide +kernel) rfl rfl dX0_popInto_9 ?_
      refine lv_aload_n hx hb dX0_popInto_12 rfl (lv_at hl 0 rfl) ?_
      refine kget (fs := [.ref q, .int (nI (2 + 1))]) F w in_X0_popInto_X0 0 rfl rfl 0 (by decide) (by decide +kernel) rfl rfl dX0_popInto_13 ?_
      refine kalen (t0 := 2) (v := nI 4) F w 1 rfl rfl rfl dX0_popInto_16 ?_
      refine lv_icmp_gt (tgt := 47) hx hb dX0_popInto_17 (by decide) (fun h_10 => ?_) (fun h_10 => ?_)
      · have h_10 : 2 + 1 > 4 := (kc_gt_t (by omega) (by omega)).mp h_10
        omega
      · have h_10 : 2 + 1 ≤ 4 := (kc_gt_f (by omega) (by omega)).mp h_10
        refine lv_aload_n hx hb dX0_popInto_20 rfl (lv_at hl 1 rfl) ?_
        refine lv_ifnull hx hb dX0_popInto_21 ?_
        refine lv_aload_n hx hb dX0_popInto_24 rfl (lv_at hl 0 rfl) ?_
        refine lv_dup hx hb dX0_popInto_25 rfl ?_
        refine kget (fs := [.ref q, .int (nI (2 + 1))]) F w in_X0_popInto_X0 0 rfl rfl 1 (by decide) (by decide +kernel) rfl rfl dX0_popInto_26 ?_
        refine lv_iconst (v := nI 1) hx hb dX0_popInto_29 (by decide) ?_
        refine lv_isub hx hb dX0_popInto_30 ?_
        refine ktopi (y := nI 2) (by decide) ?_
        refine kput (fs := [.ref q, .int (nI (2 + 1))]) F w in_X0_popInto_X0 tyX0_ok nmX0 0 rfl rfl 1 (by decide) (by decide +kernel) rfl rfl (rfl) (rfl) (Nat.le_of_ble_eq_true rfl) (wn := [cH h q 2, xQ g q 4 (rq ρ), cR (ρ 0) (α 0) (β 0) (γ 0), xI g (α 0) 49 (zT (γ 0)), xI g (β 0) 49 (zI (γ 0)), cR (ρ 1) (α 1) (β 1) (γ 1), xI g (α 1) 49 (zT (γ 1)), xI g (β 1) 49 (zI (γ 1)), cR (ρ 2) (α 2) (β 2) (γ 2), xI g (α 2) 49 (zT (γ 2)), xI g (β 2) 49 (zI (γ 2)), cR (ρ 3) (α 3) (β 3) (γ 3), xI g (α 3) 49 (zT (γ 3)), xI g (β 3) 49 (zI (γ 3)), cR r a b σ, xI g a 49 (zT σ), xI g b 49 (zI σ)]) rfl dX0_popInto_31 (fun H locs w => ?_)
        refine lv_aload_n hx hb dX0_popInto_34 rfl (lv_at hl 1 rfl) ?_
        refine lv_aload_n hx hb dX0_popInto_35 rfl (lv_at hl 0 rfl) ?_
        refine kget (fs := [.ref q, .int (nI 2)]) F w in_X0_popInto_X0 0 rfl rfl 0 (by decide) (by decide +kernel) rfl rfl dX0_popInto_36 ?_
        refine lv_aload_n hx hb dX0_popInto_39 rfl (lv_at hl 0 rfl) ?_
        refine kget (fs := [.ref q, .int (nI 2)]) F w in_X0_popInto_X0 0 rfl rfl 1 (by decide) (by decide +kernel) rfl rfl dX0_popInto_40 ?_
        refine kqald (v := .ref (ρ 2)) F w 1 rfl (vp_in_nI (by omega) (by omega)) (by rw [nI_clamp (n := 2) (by omega)]; rfl) dX0_popInto_43 ?_
        refine kcallv (wc := [cR r a b σ, xI g a 49 (zT σ), xI g b 49 (zI σ), cR (ρ 2) (α 2) (β 2) (γ 2), xI g (α 2) 49 (zT (γ 2)), xI g (β 2) 49 (zI (γ 2))]) (wr := [cH h q 2, xQ g q 4 (rq ρ), cR (ρ 0) (α 0) (β 0) (γ 0), xI g (α 0) 49 (zT (γ 0)), xI g (β 0) 49 (zI (γ 0)), cR (ρ 1) (α 1) (β 1) (γ 1), xI g (α 1) 49 (zT (γ 1)), xI g (β 1) 49 (zI (γ 1)), cR (ρ 3) (α 3) (β 3) (γ 3), xI g (α 3) 49 (zT (γ 3)), xI g (β 3) 49 (zI (γ 3))]) (wn := fun (u : Unit) => [cH h q 2, xQ g q 4 (rq ρ), cR (ρ 0) (α 0) (β 0) (γ 0), xI g (α 0) 49 (zT (γ 0)), xI g (β 0) 49 (zI (γ 0)), cR (ρ 1) (α 1) (β 1) (γ 1), xI g (α 1) 49 (zT (γ 1)), xI g (β 1) 49 (zI (γ 1)), cR (ρ 2) (α 2) (β 2) (γ 2), xI g (α 2) 49 (zT (γ 2)), xI g (β 2) 49 (zI (γ 2)), cR (ρ 3) (α 3) (β 3) (γ 3), xI g (α 3) 49 (zT (γ 3)), xI g (β 3) 49 (zI (γ 3)), cR r a b (γ 2), xI g a 49 (zT (γ 2)), xI g b 49 (zI (γ 2))]) F w [14, 15, 16, 8, 9, 10] [0, 1, 2, 3, 4, 5, 6, 7, 11, 12, 13] [0, 1, 2, 3, 4, 5, 6, 7, 14, 15, 16, 8, 9, 10, 11, 12, 13] rfl rfl rfl (fun _ => rfl)
          (fun hp => va_runV (As := [.ref (ρ 2)]) (rest := []) F.1 (kX2_copyFrom l g r a b σ (ρ 2) (α 2) (β 2) (γ 2) H.size ) (cwV 1 hts gX0_popInto_X2_copyFrom rfl rfl rfl ⟨rfl, hd_X2_copyFrom⟩ ⟨Nat.le_of_ble_eq_true rfl, Nat.le_of_ble_eq_true rfl⟩) ⟨hp.1, va_recv F.2.2.2.1.1 w.1 (q0 := 14) (ci := 2) rfl rfl, hp.2⟩ rfl rfl hl.1 rfl (lv_room (Nat.le_of_ble_eq_true rfl)) dX0_popInto_44 ⟨Nat.le_of_ble_eq_true rfl, Nat.le_of_ble_eq_true rfl⟩)
          (fun _ H locs h_12 w => ?_)
        have w : kW g A s [cH h q 2, xQ g q 4 (rq ρ), cR (ρ 0) (α 0) (β 0) (γ 0), xI g (α 0) 49 (zT (γ 0)), xI g (β 0) 49 (zI (γ 0)), cR (ρ 1) (α 1) (β 1) (γ 1), xI g (α 1) 49 (zT (γ 1)), xI g (β 1) 49 (zI (γ 1)), cR (ρ 2) (α 2) (β 2) (γ 2), xI g (α 2) 49 (zT (γ 2)), xI g (β 2) 49 (zI (γ 2)), cR (ρ 3) (α 3) (β 3) (γ 3), xI g (α 3) 49 (zT (γ 3)), xI g (β 3) 49 (zI (γ 3)), cR r a b (γ 2), xI g a 49 (zT (γ 2)), xI g b 49 (zI (γ 2))] H locs := by
          have w := w
          exact w
        subst hA
        subst hQ
        exact kretv F w () [0, 1, 2, 3, 4, 5, 6, 7, 8, 9, 10, 11, 12, 13, 14, 15, 16] rfl rfl (trivial) (Nat.le_of_ble_eq_true rfl) (Nat.le_of_ble_eq_true rfl) dX0_popInto_47
  · subst e4
    refine lv_aload_n hx hb dX0_popInto_0 rfl (lv_at hl 0 rfl) ?_
    refine kget (fs := [.ref q, .int (nI (3 + 1))]) F w in_X0_popInto_X0 0 rfl rfl 1 (by decide) (by decide +kernel) rfl rfl dX0_popInto_1 ?_
    refine lv_iconst (v := nI 1) hx hb dX0_popInto_4 (by decide) ?_
    refine lv_icmp_lt (tgt := 47) hx hb dX0_popInto_5 (by decide) (fun h_13 => ?_) (fun h_13 => ?_)
    · have h_13 : 3 + 1 < 1 := (kc_lt_t (by omega) (by omega)).mp h_13
      omega
    · have h_13 : 3 + 1 ≥ 1 := (kc_lt_f (by omega) (by omega)).mp h_13
      refine lv_aload_n hx hb dX0_popInto_8 rfl (lv_at hl 0 rfl) ?_
      refine kget (fs := [.ref q, .int (nI (3 + 1))]) F w in_X0_popInto_X0 0 rfl rfl 1 (by decide) (by decide +kernel) rfl rfl dX0_popInto_9 ?_
      refine lv_aload_n hx hb dX0_popInto_12 rfl (lv_at hl 0 rfl) ?_
      refine kget (fs := [.ref q, .int (nI (3 + 1))]) F w in_X0_popInto_X0 0 rfl rfl 0 (by decide) (by decide +kernel) rfl rfl dX0_popInto_13 ?_
      refine kalen (t0 := 2) (v := nI 4) F w 1 rfl rfl rfl dX0_popInto_16 ?_
      refine lv_icmp_gt (tgt := 47) hx hb dX0_popInto_17 (by decide) (fun h_14 => ?_) (fun h_14 => ?_)
      · have h_14 : 3 + 1 > 4 := (kc_gt_t (by omega) (by omega)).mp h_14
        omega
      · have h_14 : 3 + 1 ≤ 4 := (kc_gt_f (by omega) (by omega)).mp h_14
        refine lv_aload_n hx hb dX0_popInto_20 rfl (lv_at hl 1 rfl) ?_
        refine lv_ifnull hx hb dX0_popInto_21 ?_
        refine lv_aload_n hx hb dX0_popInto_24 rfl (lv_at hl 0 rfl) ?_
        refine lv_dup hx hb dX0_popInto_25 rfl ?_
        refine kget (fs := [.ref q, .int (nI (3 + 1))]) F w in_X0_popInto_X0 0 rfl rfl 1 (by decide) (by decide +kernel) rfl rfl dX0_popInto_26 ?_
        refine lv_iconst (v := nI 1) hx hb dX0_popInto_29 (by decide) ?_
        refine lv_isub hx hb dX0_popInto_30 ?_
        refine ktopi (y := nI 3) (by decide) ?_
        refine kput (fs := [.ref q, .int (nI (3 + 1))]) F w in_X0_popInto_X0 tyX0_ok nmX0 0 rfl rfl 1 (by decide) (by decide +kernel) rfl rfl (rfl) (rfl) (Nat.le_of_ble_eq_true rfl) (wn := [cH h q 3, xQ g q 4 (rq ρ), cR (ρ 0) (α 0) (β 0) (γ 0), xI g (α 0) 49 (zT (γ 0)), xI g (β 0) 49 (zI (γ 0)), cR (ρ 1) (α 1) (β 1) (γ 1), xI g (α 1) 49 (zT (γ 1)), xI g (β 1) 49 (zI (γ 1)), cR (ρ 2) (α 2) (β 2) (γ 2), xI g (α 2) 49 (zT (γ 2)), xI g (β 2) 49 (zI (γ 2)), cR (ρ 3) (α 3) (β 3) (γ 3), xI g (α 3) 49 (zT (γ 3)), xI g (β 3) 49 (zI (γ 3)), cR r a b σ, xI g a 49 (zT σ), xI g b 49 (zI σ)]) rfl dX0_popInto_31 (fun H locs w => ?_)
        refine lv_aload_n hx hb dX0_popInto_34 rfl (lv_at hl 1 rfl) ?_
        refine lv_aload_n hx hb dX0_popInto_35 rfl (lv_at hl 0 rfl) ?_
        refine kget (fs := [.ref q, .int (nI 3)]) F w in_X0_popInto_X0 0 rfl rfl 0 (by decide) (by decide +kernel) rfl rfl dX0_popInto_36 ?_
        refine lv_aload_n hx hb dX0_popInto_39 rfl (lv_at hl 0 rfl) ?_
        refine kget (fs := [.ref q, .int (nI 3)]) F w in_X0_popInto_X0 0 rfl rfl 1 (by decide) (by decide +kernel) rfl rfl dX0_popInto_40 ?_
        refine kqald (v := .ref (ρ 3)) F w 1 rfl (vp_in_nI (by omega) (by omega)) (by rw [nI_clamp (n := 3) (by omega)]; rfl) dX0_popInto_43 ?_
        refine kcallv (wc := [cR r a b σ, xI g a 49 (zT σ), xI g b 49 (zI σ), cR (ρ 3) (α 3) (β 3) (γ 3), xI g (α 3) 49 (zT (γ 3)), xI g (β 3) 49 (zI (γ 3))]) (wr := [cH h q 3, xQ g q 4 (rq ρ), cR (ρ 0) (α 0) (β 0) (γ 0), xI g (α 0) 49 (zT (γ 0)), xI g (β 0) 49 (zI (γ 0)), cR (ρ 1) (α 1) (β 1) (γ 1), xI g (α 1) 49 (zT (γ 1)), xI g (β 1) 49 (zI (γ 1)), cR (ρ 2) (α 2) (β 2) (γ 2), xI g (α 2) 49 (zT (γ 2)), xI g (β 2) 49 (zI (γ 2))]) (wn := fun (u : Unit) => [cH h q 3, xQ g q 4 (rq ρ), cR (ρ 0) (α 0) (β 0) (γ 0), xI g (α 0) 49 (zT (γ 0)), xI g (β 0) 49 (zI (γ 0)), cR (ρ 1) (α 1) (β 1) (γ 1), xI g (α 1) 49 (zT (γ 1)), xI g (β 1) 49 (zI (γ 1)), cR (ρ 2) (α 2) (β 2) (γ 2), xI g (α 2) 49 (zT (γ 2)), xI g (β 2) 49 (zI (γ 2)), cR (ρ 3) (α 3) (β 3) (γ 3), xI g (α 3) 49 (zT (γ 3)), xI g (β 3) 49 (zI (γ 3)), cR r a b (γ 3), xI g a 49 (zT (γ 3)), xI g b 49 (zI (γ 3))]) F w [14, 15, 16, 11, 12, 13] [0, 1, 2, 3, 4, 5, 6, 7, 8, 9, 10] [0, 1, 2, 3, 4, 5, 6, 7, 8, 9, 10, 14, 15, 16, 11, 12, 13] rfl rfl rfl (fun _ => rfl)
          (fun hp => va_runV (As := [.ref (ρ 3)]) (rest := []) F.1 (kX2_copyFrom l g r a b σ (ρ 3) (α 3) (β 3) (γ 3) H.size ) (cwV 1 hts gX0_popInto_X2_copyFrom rfl rfl rfl ⟨rfl, hd_X2_copyFrom⟩ ⟨Nat.le_of_ble_eq_true rfl, Nat.le_of_ble_eq_true rfl⟩) ⟨hp.1, va_recv F.2.2.2.1.1 w.1 (q0 := 14) (ci := 2) rfl rfl, hp.2⟩ rfl rfl hl.1 rfl (lv_room (Nat.le_of_ble_eq_true rfl)) dX0_popInto_44 ⟨Nat.le_of_ble_eq_true rfl, Nat.le_of_ble_eq_true rfl⟩)
          (fun _ H locs h_16 w => ?_)
        have w : kW g A s [cH h q 3, xQ g q 4 (rq ρ), cR (ρ 0) (α 0) (β 0) (γ 0), xI g (α 0) 49 (zT (γ 0)), xI g (β 0) 49 (zI (γ 0)), cR (ρ 1) (α 1) (β 1) (γ 1), xI g (α 1) 49 (zT (γ 1)), xI g (β 1) 49 (zI (γ 1)), cR (ρ 2) (α 2) (β 2) (γ 2), xI g (α 2) 49 (zT (γ 2)), xI g (β 2) 49 (zI (γ 2)), cR (ρ 3) (α 3) (β 3) (γ 3), xI g (α 3) 49 (zT (γ 3)), xI g (β 3) 49 (zI (γ 3)), cR r a b (γ 3), xI g a 49 (zT (γ 3)), xI g b 49 (zI (γ 3))] H locs := by
          have w := w
          exact w
        subst hA
        subst hQ
        exact kretv F w () [0, 1, 2, 3, 4, 5, 6, 7, 8, 9, 10, 11, 12, 13, 14, 15, 16] rfl rfl (trivial) (Nat.le_of_ble_eq_true rfl) (Nat.le_of_ble_eq_true rfl) dX0_popInto_47
theorem in_X4_run_X1 : ∀ w ∈ wsX10, w ∈ wsX4_run := by decide +kernel
theorem in_X4_run_X3 : ∀ w ∈ wsX30, w ∈ wsX4_run := by decide +kernel
theorem in_X4_run_X4 : ∀ w ∈ wsX40, w ∈ wsX4_run := by decide +kernel
theorem hd_X1_carryOut : yX1_carryOut.cls ≠ "java/lang/invoke/MethodHandle" ∧ yX1_carryOut.cls ≠ "java/lang/invoke/VarHandle" ∧ (parseMethodDescriptor yX1_carryOut.desc).map (fun d => d.parameters.length) = some 1 := by decide +kernel
theorem hd_X1_causeAgainst : yX1_causeAgainst.cls ≠ "java/lang/invoke/MethodHandle" ∧ yX1_causeAgainst.cls ≠ "java/lang/invoke/VarHandle" ∧ (parseMethodDescriptor yX1_causeAgainst.desc).map (fun d => d.parameters.length) = some 1 := by decide +kernel
theorem hd_X1_readFrom : yX1_readFrom.cls ≠ "java/lang/invoke/MethodHandle" ∧ yX1_readFrom.cls ≠ "java/lang/invoke/VarHandle" ∧ (parseMethodDescriptor yX1_readFrom.desc).map (fun d => d.parameters.length) = some 2 := by decide +kernel
abbrev rmX4_run : Room := { frames := 5, cells := 0, slots := 0, locals := 111 }
set_option maxHeartbeats 4000000 in
set_option maxRecDepth 100000 in
theorem kX4_run (l : Launch) (g : GG) (tr : Nat) (rw : Nat) (od : Nat) (os : Nat) (po : Nat) (re : Nat) (ca : Nat) (ra : Nat) (rb : Nat) (τ : Sg) (vb : Int32) (n1 : Nat) (n2 : Nat) (nm : Nat) (en : Nat) (t : Nat) (ch : Nat) (L : Nat) (T : Nat → Int32) (r : Nat) (a : Nat) (b : Nat) (σ : Sg) (sz : Nat) (hL : L ≤ 60) : Met l yX4_run wsX4_run rmX4_run (va_Pc [.ref tr, .ref t, .ref r] (kPre g [cTr tr rw od os po re ca, cR rw ra rb τ, xI g ra 49 (zT τ), xI g rb 49 (zI τ), cO od vb n1 n2 nm en, cT t ch L, xC g ch 60 T, cR r a b σ, xI g a 49 (zT σ), xI g b 49 (zI σ)] sz)) (va_Qv (fun (u : Int32 × Nat × Nat × Nat × Nat) => True) (kB g (va_A [cTr tr rw od os po re ca, cR rw ra rb τ, xI g ra 49 (zT τ), xI g rb 49 (zI τ), cO od vb n1 n2 nm en, cT t ch L, xC g ch 60 T, cR r a b σ, xI g a 49 (zT σ), xI g b 49 (zI σ)] sz) (fun u => [cTr tr rw od (zOs T L σ) (zPo T L σ) (zRe T L σ) (zCa T L σ), cR rw ra rb (zSt T L σ), xI g ra 49 (zT (zSt T L σ)), xI g rb 49 (zI (zSt T L σ)), cO od u.1 u.2.1 u.2.2.1 u.2.2.2.1 u.2.2.2.2, cT t ch L, xC g ch 60 T, cR r a b σ, xI g a 49 (zT σ), xI g b 49 (zI σ)])) (va_A [cTr tr rw od os po re ca, cR rw ra rb τ, xI g ra 49 (zT τ), xI g rb 49 (zI τ), cO od vb n1 n2 nm en, cT t ch L, xC g ch 60 T, cR r a b σ, xI g a 49 (zT σ), xI g b 49 (zI σ)] sz)) 0 0 (va_A [cTr tr rw od os po re ca, cR rw ra rb τ, xI g ra 49 (zT τ), xI g rb 49 (zI τ), cO od vb n1 n2 nm en, cT t ch L, xC g ch 60 T, cR r a b σ, xI g a 49 (zT σ), xI g b 49 (zI σ)] sz) := by
  refine kMet (cc := cX4_run) (maxL := 4) (ret := none) (own := RX4) (by decide) rfl rfl (Nat.le_of_ble_eq_true rfl) ?_
  intro p e s m args below meth c ls Q H locs A F w hl hnm hA hQ
  have hx := F.1.1
  have hb := F.1.2.1
  have hts := F.1.2.2.2.2
  have hl : lv_has ls 4 [(0, .ref tr), (1, .ref t), (2, .ref r)] := hl
  refine lv_aload_n hx hb dX4_run_0 rfl (lv_at hl 0 rfl) ?_
  refine kget (fs := [.ref rw, .ref od, .int (nI os), .int (nI po), .int (nI re), .int (nI ca)]) F w in_X4_run_X4 0 rfl rfl 0 (by decide) (by decide +kernel) rfl rfl dX4_run_1 ?_
  refine lv_aload_n hx hb dX4_run_4 rfl (lv_at hl 2 rfl) ?_
  refine kcallv (wc := [cR rw ra rb τ, xI g ra 49 (zT τ), xI g rb 49 (zI τ), cR r a b σ, xI g a 49 (zT σ), xI g b 49 (zI σ)]) (wr := [cTr tr rw od os po re ca, cO od vb n1 n2 nm en, cT t ch L, xC g ch 60 T]) (wn := fun (u : Unit) => [cTr tr rw od os po re ca, cR rw ra rb σ, xI g ra 49 (zT σ), xI g rb 49 (zI σ), cO od vb n1 n2 nm en, cT t ch L, xC g ch 60 T, cR r a b σ, xI g a 49 (zT σ), xI g b 49 (zI σ)]) F w [1, 2, 3, 7, 8, 9] [0, 4, 5, 6] [0, 4, 5, 6, 1, 2, 3, 7, 8, 9] rfl rfl rfl (fun _ => rfl)
    (fun hp => va_runV (As := [.ref r]) (rest := []) F.1 (kX2_copyFrom l g rw ra rb τ r a b σ H.size ) (cwV 1 hts gX4_run_X2_copyFrom rfl rfl rfl ⟨rfl, hd_X2_copyFrom⟩ ⟨Nat.le_of_ble_eq_true rfl, Nat.le_of_ble_eq_true rfl⟩) ⟨hp.1, va_recv F.2.2.2.1.1 w.1 (q0 := 1) (ci := 2) rfl rfl, hp.2⟩ rfl rfl hl.1 rfl (lv_room (Nat.le_of_ble_eq_true rfl)) dX4_run_5 ⟨Nat.le_of_ble_eq_true rfl, Nat.le_of_ble_eq_true rfl⟩)
    (fun _ H locs h_2 w => ?_)
  refine lv_aload_n hx hb dX4_run_8 rfl (lv_at hl 0 rfl) ?_
  refine lv_iconst (v := nI 0) hx hb dX4_run_9 (by decide) ?_
  refine kput (fs := [.ref rw, .ref od, .int (nI os), .int (nI po), .int (nI re), .int (nI ca)]) F w in_X4_run_X4 tyX4_ok nmX4 0 rfl rfl 2 (by decide) (by decide +kernel) rfl rfl (rfl) (rfl) (Nat.le_of_ble_eq_true rfl) (wn := [cTr tr rw od 0 po re ca, cR rw ra rb σ, xI g ra 49 (zT σ), xI g rb 49 (zI σ), cO od vb n1 n2 nm en, cT t ch L, xC g ch 60 T, cR r a b σ, xI g a 49 (zT σ), xI g b 49 (zI σ)]) rfl dX4_run_10 (fun H locs w => ?_)
  refine lv_aload_n hx hb dX4_run_13 rfl (lv_at hl 0 rfl) ?_
  refine lv_iconst (v := nI 0) hx hb dX4_run_14 (by decide) ?_
  refine kput (fs := [.ref rw, .ref od, .int (nI 0), .int (nI po), .int (nI re), .int (nI ca)]) F w in_X4_run_X4 tyX4_ok nmX4 0 rfl rfl 3 (by decide) (by decide +kernel) rfl rfl (rfl) (rfl) (Nat.le_of_ble_eq_true rfl) (wn := [cTr tr rw od 0 0 re ca, cR rw ra rb σ, xI g ra 49 (zT σ), xI g rb 49 (zI σ), cO od vb n1 n2 nm en, cT t ch L, xC g ch 60 T, cR r a b σ, xI g a 49 (zT σ), xI g b 49 (zI σ)]) rfl dX4_run_15 (fun H locs w => ?_)
  refine lv_aload_n hx hb dX4_run_18 rfl (lv_at hl 0 rfl) ?_
  refine lv_iconst (v := nI 0) hx hb dX4_run_19 (by decide) ?_
  refine kput (fs := [.ref rw, .ref od, .int (nI 0), .int (nI 0), .int (nI re), .int (nI ca)]) F w in_X4_run_X4 tyX4_ok nmX4 0 rfl rfl 4 (by decide) (by decide +kernel) rfl rfl (rfl) (rfl) (Nat.le_of_ble_eq_true rfl) (wn := [cTr tr rw od 0 0 0 ca, cR rw ra rb σ, xI g ra 49 (zT σ), xI g rb 49 (zI σ), cO od vb n1 n2 nm en, cT t ch L, xC g ch 60 T, cR r a b σ, xI g a 49 (zT σ), xI g b 49 (zI σ)]) rfl dX4_run_20 (fun H locs w => ?_)
  refine lv_aload_n hx hb dX4_run_23 rfl (lv_at hl 0 rfl) ?_
  refine lv_iconst (v := nI 0) hx hb dX4_run_24 (by decide) ?_
  refine kput (fs := [.ref rw, .ref od, .int (nI 0), .int (nI 0), .int (nI 0), .int (nI ca)]) F w in_X4_run_X4 tyX4_ok nmX4 0 rfl rfl 5 (by decide) (by decide +kernel) rfl rfl (rfl) (rfl) (Nat.le_of_ble_eq_true rfl) (wn := [cTr tr rw od 0 0 0 0, cR rw ra rb σ, xI g ra 49 (zT σ), xI g rb 49 (zI σ), cO od vb n1 n2 nm en, cT t ch L, xC g ch 60 T, cR r a b σ, xI g a 49 (zT σ), xI g b 49 (zI σ)]) rfl dX4_run_25 (fun H locs w => ?_)
  refine lv_iconst (v := nI 0) hx hb dX4_run_28 (by decide) ?_
  refine lv_istore_n (lv' := [(3, .int (nI 0)), (0, .ref tr), (1, .ref t), (2, .ref r)]) hx hb dX4_run_29 rfl hl (by decide) rfl (fun ls hl => ?_)
  have LP_3 : ∀ (fu : Nat) (i : Nat) (q : Nat) (st : Sg) (vb : Int32) (n1 : Nat) (n2 : Nat) (nm : Nat) (en : Nat) (h1 : i ≤ 60) (h2 : i ≤ q) (h3 : q ≤ 68) (hR : runF T L (60 - i) q st i = runF T L 60 0 σ 0) (H : Heap) (locs : List Loc) (ls : Array Slot), 100 - i < fu → kW g A s [cTr tr rw od i q 0 0, cR rw ra rb st, xI g ra 49 (zT st), xI g rb 49 (zI st), cO od vb n1 n2 nm en, cT t ch L, xC g ch 60 T, cR r a b σ, xI g a 49 (zT σ), xI g b 49 (zI σ)] H locs → lv_has ls 4 [(3, .int (nI i)), (0, .ref tr), (1, .ref t), (2, .ref r)] → W p l e rmX4_run s m args below meth c H locs 0 0 Q (F0 m 30 ls []) := by
    intro fu
    induction fu with
    | zero => intro i q st vb n1 n2 nm en h1 h2 h3 hR H locs ls hlt; omega
    | succ fu ih_3 =>
      intro i q st vb n1 n2 nm en h1 h2 h3 hR H locs ls hlt w hl
      refine lv_iload_n hx hb dX4_run_30 rfl (lv_at hl 0 rfl) ?_
      refine lv_bipush (v := nI 60) hx hb dX4_run_31 (by decide) ?_
      refine lv_icmp_ge (tgt := 150) hx hb dX4_run_33 (by decide) (fun h_4 => ?_) (fun h_4 => ?_)
      · have h_4 : i ≥ 60 := (kc_ge_t (by omega) (by omega)).mp h_4
        have hZ9 : runF T L 60 0 σ 0 = (0, 0, q, i, st) := hR.symm.trans (runF_end (by omega))
        have w : kW g A s [cTr tr rw od (zOs T L σ) (zPo T L σ) (zRe T L σ) (zCa T L σ), cR rw ra rb (zSt T L σ), xI g ra 49 (zT (zSt T L σ)), xI g rb 49 (zI (zSt T L σ)), cO od vb n1 n2 nm en, cT t ch L, xC g ch 60 T, cR r a b σ, xI g a 49 (zT σ), xI g b 49 (zI σ)] H locs := by
          have w := w
          unfold zOs zPo zRe zCa zSt
          rw [hZ9]
          exact w
        subst hA
        subst hQ
        exact kretv F w (vb, n1, n2, nm, en) [0, 1, 2, 3, 4, 5, 6, 7, 8, 9] rfl rfl (trivial) (Nat.le_of_ble_eq_true rfl) (Nat.le_of_ble_eq_true rfl) dX4_run_150
      · have h_4 : i < 60 := (kc_ge_f (by omega) (by omega)).mp h_4
        refine lv_aload_n hx hb dX4_run_36 rfl (lv_at hl 1 rfl) ?_
        refine kget (fs := [.ref rw, .ref od, .int (nI i), .int (nI q), .int (nI 0), .int (nI 0)]) F w in_X4_run_X4 0 rfl rfl 3 (by decide) (by decide +kernel) rfl rfl dX4_run_37 ?_
        refine lv_aload_n hx hb dX4_run_40 rfl (lv_at hl 2 rfl) ?_
        refine kgetN (host := RX5) (fs := [.ref ch, .int (nI L)]) F w in_X4_run_X3 5 rfl rfl 1 (by decide) (by decide +kernel) rfl rfl dX4_run_41 ?_
        refine lv_icmp_ge (tgt := 150) hx hb dX4_run_44 (by decide) (fun h_5 => ?_) (fun h_5 => ?_)
        · have h_5 : q ≥ L := (kc_ge_t (by omega) (by omega)).mp h_5
          have hZ9 : runF T L 60 0 σ 0 = (0, 0, q, i, st) := hR.symm.trans (runF_end (by omega))
          have w : kW g A s [cTr tr rw od (zOs T L σ) (zPo T L σ) (zRe T L σ) (zCa T L σ), cR rw ra rb (zSt T L σ), xI g ra 49 (zT (zSt T L σ)), xI g rb 49 (zI (zSt T L σ)), cO od vb n1 n2 nm en, cT t ch L, xC g ch 60 T, cR r a b σ, xI g a 49 (zT σ), xI g b 49 (zI σ)] H locs := by
            have w := w
            unfold zOs zPo zRe zCa zSt
            rw [hZ9]
            exact w
          subst hA
          subst hQ
          exact kretv F w (vb, n1, n2, nm, en) [0, 1, 2, 3, 4, 5, 6, 7, 8, 9] rfl rfl (trivial) (Nat.le_of_ble_eq_true rfl) (Nat.le_of_ble_eq_true rfl) dX4_run_150
        · have h_5 : q < L := (kc_ge_f (by omega) (by omega)).mp h_5
          have e60 : 60 - i = (59 - i) + 1 := by omega
          rw [e60] at hR
          refine lv_aload_n hx hb dX4_run_47 rfl (lv_at hl 1 rfl) ?_
          refine kget (fs := [.ref rw, .ref od, .int (nI i), .int (nI q), .int (nI 0), .int (nI 0)]) F w in_X4_run_X4 0 rfl rfl 1 (by decide) (by decide +kernel) rfl rfl dX4_run_48 ?_
          refine lv_aload_n hx hb dX4_run_51 rfl (lv_at hl 2 rfl) ?_
          refine lv_aload_n hx hb dX4_run_52 rfl (lv_at hl 1 rfl) ?_
          refine kget (fs := [.ref rw, .ref od, .int (nI i), .int (nI q), .int (nI 0), .int (nI 0)]) F w in_X4_run_X4 0 rfl rfl 3 (by decide) (by decide +kernel) rfl rfl dX4_run_53 ?_
          refine kcalli (wc := [cO od vb n1 n2 nm en, cT t ch L, xC g ch 60 T]) (wr := [cTr tr rw od i q 0 0, cR rw ra rb st, xI g ra 49 (zT st), xI g rb 49 (zI st), cR r a b σ, xI g a 49 (zT σ), xI g b 49 (zI σ)]) (wn := fun (u : Nat × Nat × Nat) => [cTr tr rw od i q 0 0, cR rw ra rb st, xI g ra 49 (zT st), xI g rb 49 (zI st), cO od (chZ T L q) u.1 u.2.1 u.2.2 (pE T L q), cT t ch L, xC g ch 60 T, cR r a b σ, xI g a 49 (zT σ), xI g b 49 (zI σ)]) F w [4, 5, 6] [0, 1, 2, 3, 7, 8, 9] [0, 1, 2, 3, 7, 8, 9, 4, 5, 6] rfl rfl rfl (fun _ => rfl)
            (fun hp => va_runV (As := [.ref t, .int (nI q)]) (rest := []) F.1 (kX1_readFrom l g od vb n1 n2 nm en t ch L T q H.size (by omega) (by omega)) (cwV 2 hts gX4_run_X1_readFrom rfl rfl rfl ⟨rfl, hd_X1_readFrom⟩ ⟨Nat.le_of_ble_eq_true rfl, Nat.le_of_ble_eq_true rfl⟩) ⟨hp.1, va_recv F.2.2.2.1.1 w.1 (q0 := 4) (ci := 1) rfl rfl, hp.2⟩ rfl rfl hl.1 rfl (lv_room (Nat.le_of_ble_eq_true rfl)) dX4_run_56 ⟨Nat.le_of_ble_eq_true rfl, Nat.le_of_ble_eq_true rfl⟩)
            (fun r_6 u H locs h_7 w => ?_)
          try dsimp only at h_7
          obtain ⟨u_8, hu9⟩ : ∃ z, z = u := ⟨_, rfl⟩
          subst hu9
          have w : kW g A s [cTr tr rw od i q 0 0, cR rw ra rb st, xI g ra 49 (zT st), xI g rb 49 (zI st), cO od (chZ T L q) u_8.1 u_8.2.1 u_8.2.2 (pE T L q), cT t ch L, xC g ch 60 T, cR r a b σ, xI g a 49 (zT σ), xI g b 49 (zI σ)] H locs := w
          refine ktopi (y := bI (pOK T L q)) (h_7.1) ?_
          refine lv_if_ne (tgt := 84) hx hb dX4_run_59 (by decide) (fun h_9 => ?_) (fun h_9 => ?_)
          · have h_9 : (pOK T L q) = true := bI_o.mp h_9
            have hpe := pE_le T L q
            have hpg := pE_gt h_9
            have hq1 := h_7.2 h_9
            have hb1 := pN1_le h_9
            have hb2 := pN2x_le h_9
            have w : kW g A s [cTr tr rw od i q 0 0, cR rw ra rb st, xI g ra 49 (zT st), xI g rb 49 (zI st), cO od (chZ T L q) (pN1 T L q) (pN2x T L q) u_8.2.2 (pE T L q), cT t ch L, xC g ch 60 T, cR r a b σ, xI g a 49 (zT σ), xI g b 49 (zI σ)] H locs := by
              have w := w
              rw [hq1.1, hq1.2] at w; exact w
            have hcl := cauZ_le (chZ T L q) (pN1 T L q) (pN2x T L q) st
            refine lv_aload_n hx hb dX4_run_84 rfl (lv_at hl 1 rfl) ?_
            refine lv_aload_n hx hb dX4_run_85 rfl (lv_at hl 1 rfl) ?_
            refine kget (fs := [.ref rw, .ref od, .int (nI i), .int (nI q), .int (nI 0), .int (nI 0)]) F w in_X4_run_X4 0 rfl rfl 1 (by decide) (by decide +kernel) rfl rfl dX4_run_86 ?_
            refine lv_aload_n hx hb dX4_run_89 rfl (lv_at hl 1 rfl) ?_
            refine kget (fs := [.ref rw, .ref od, .int (nI i), .int (nI q), .int (nI 0), .int (nI 0)]) F w in_X4_run_X4 0 rfl rfl 0 (by decide) (by decide +kernel) rfl rfl dX4_run_90 ?_
            refine kcalli (wc := [cO od (chZ T L q) (pN1 T L q) (pN2x T L q) u_8.2.2 (pE T L q), cR rw ra rb st, xI g ra 49 (zT st), xI g rb 49 (zI st)]) (wr := [cTr tr rw od i q 0 0, cT t ch L, xC g ch 60 T, cR r a b σ, xI g a 49 (zT σ), xI g b 49 (zI σ)]) (wn := fun (u : Unit) => [cTr tr rw od i q 0 0, cR rw ra rb st, xI g ra 49 (zT st), xI g rb 49 (zI st), cO od (chZ T L q) (pN1 T L q) (pN2x T L q) u_8.2.2 (pE T L q), cT t ch L, xC g ch 60 T, cR r a b σ, xI g a 49 (zT σ), xI g b 49 (zI σ)]) F w [4, 1, 2, 3] [0, 5, 6, 7, 8, 9] [0, 7, 8, 9, 6, 1, 2, 3, 4, 5] rfl rfl rfl (fun _ => rfl)
              (fun hp => va_runV (As := [.ref rw]) (rest := [.ref tr]) F.1 (kX1_causeAgainst l g od (chZ T L q) (pN1 T L q) (pN2x T L q) u_8.2.2 (pE T L q) rw ra rb st H.size (⟨hb1, hb2⟩)) (cwV 1 hts gX4_run_X1_causeAgainst rfl rfl rfl ⟨rfl, hd_X1_causeAgainst⟩ ⟨Nat.le_of_ble_eq_true rfl, Nat.le_of_ble_eq_true rfl⟩) ⟨hp.1, va_recv F.2.2.2.1.1 w.1 (q0 := 4) (ci := 1) rfl rfl, hp.2⟩ rfl rfl hl.1 rfl (lv_room (Nat.le_of_ble_eq_true rfl)) dX4_run_93 ⟨Nat.le_of_ble_eq_true rfl, Nat.le_of_ble_eq_true rfl⟩)
              (fun r_10 _ H locs h_11 w => ?_)
            subst h_11
            refine kput (fs := [.ref rw, .ref od, .int (nI i), .int (nI q), .int (nI 0), .int (nI 0)]) F w in_X4_run_X4 tyX4_ok nmX4 0 rfl rfl 5 (by decide) (by decide +kernel) rfl rfl (rfl) (rfl) (Nat.le_of_ble_eq_true rfl) (wn := [cTr tr rw od i q 0 (cauZ (chZ T L q) (pN1 T L q) (pN2x T L q) st), cR rw ra rb st, xI g ra 49 (zT st), xI g rb 49 (zI st), cO od (chZ T L q) (pN1 T L q) (pN2x T L q) u_8.2.2 (pE T L q), cT t ch L, xC g ch 60 T, cR r a b σ, xI g a 49 (zT σ), xI g b 49 (zI σ)]) rfl dX4_run_96 (fun H locs w => ?_)
            refine lv_aload_n hx hb dX4_run_99 rfl (lv_at hl 1 rfl) ?_
            refine kget (fs := [.ref rw, .ref od, .int (nI i), .int (nI q), .int (nI 0), .int (nI (cauZ (chZ T L q) (pN1 T L q) (pN2x T L q) st))]) F w in_X4_run_X4 0 rfl rfl 5 (by decide) (by decide +kernel) rfl rfl dX4_run_100 ?_
            refine lv_if_eq (tgt := 112) hx hb dX4_run_103 (by decide) (fun h_12 => ?_) (fun h_12 => ?_)
            · have h_12 : cauZ (chZ T L q) (pN1 T L q) (pN2x T L q) st = 0 := (kc0_eq_t (by omega)).mp h_12
              have hR2 := (runF_go (f := 59 - i) (n := i) (show ¬ L ≤ q by omega) h_9 h_12).symm.trans hR
              have w : kW g A s [cTr tr rw od i q 0 0, cR rw ra rb st, xI g ra 49 (zT st), xI g rb 49 (zI st), cO od (chZ T L q) (pN1 T L q) (pN2x T L q) u_8.2.2 (pE T L q), cT t ch L, xC g ch 60 T, cR r a b σ, xI g a 49 (zT σ), xI g b 49 (zI σ)] H locs := by
                have w := w
                rw [h_12] at w; exact w
              refine lv_aload_n hx hb dX4_run_112 rfl (lv_at hl 1 rfl) ?_
              refine kget (fs := [.ref rw, .ref od, .int (nI i), .int (nI q), .int (nI 0), .int (nI 0)]) F w in_X4_run_X4 0 rfl rfl 1 (by decide) (by decide +kernel) rfl rfl dX4_run_113 ?_
              refine lv_aload_n hx hb dX4_run_116 rfl (lv_at hl 1 rfl) ?_
              refine kget (fs := [.ref rw, .ref od, .int (nI i), .int (nI q), .int (nI 0), .int (nI 0)]) F w in_X4_run_X4 0 rfl rfl 0 (by decide) (by decide +kernel) rfl rfl dX4_run_117 ?_
              rcases (show chZ T L q = nI 112 ∨ chZ T L q = nI 100 ∨ chZ T L q = nI 108 ∨ chZ T L q = nI 114 ∨ chZ T L q = nI 116 from vbZ_cases (pOK_d1 h_9).1) with h_13 | h_13 | h_13 | h_13 | h_13
              · skip
                have hcv : cauZ (nI 112) (pN1 T L q) (pN2x T L q) st = 0 := by rw [← h_13]; exact h_12
                have w : kW g A s [cTr tr rw od i q 0 0, cR rw ra rb st, xI g ra 49 (zT st), xI g rb 49 (zI st), cO od (nI 112) (pN1 T L q) (pN2x T L q) u_8.2.2 (pE T L q), cT t ch L, xC g ch 60 T, cR r a b σ, xI g a 49 (zT σ), xI g b 49 (zI σ)] H locs := by
                  have w := w
                  rw [h_13] at w; exact w
                refine kcallv (wc := [cO od (nI 112) (pN1 T L q) (pN2x T L q) u_8.2.2 (pE T L q), cR rw ra rb st, xI g ra 49 (zT st), xI g rb 49 (zI st)]) (wr := [cTr tr rw od i q 0 0, cT t ch L, xC g ch 60 T, cR r a b σ, xI g a 49 (zT σ), xI g b 49 (zI σ)]) (wn := fun (u : Unit) => [cTr tr rw od i q 0 0, cR rw ra rb (actZ (nI 112) (pN1 T L q) (pN2x T L q) st), xI g ra 49 (zT (actZ (nI 112) (pN1 T L q) (pN2x T L q) st)), xI g rb 49 (zI (actZ (nI 112) (pN1 T L q) (pN2x T L q) st)), cO od (nI 112) (pN1 T L q) (pN2x T L q) u_8.2.2 (pE T L q), cT t ch L, xC g ch 60 T, cR r a b σ, xI g a 49 (zT σ), xI g b 49 (zI σ)]) F w [4, 1, 2, 3] [0, 5, 6, 7, 8, 9] [0, 7, 8, 9, 6, 1, 2, 3, 4, 5] rfl rfl rfl (fun _ => rfl)
                  (fun hp => va_runV (As := [.ref rw]) (rest := []) F.1 (kX1_carryOut_112 l g od (pN1 T L q) (pN2x T L q) u_8.2.2 (pE T L q) rw ra rb st H.size (⟨hb1, hb2⟩) hcv) (cwV 1 hts gX4_run_X1_carryOut rfl rfl rfl ⟨rfl, hd_X1_carryOut⟩ ⟨Nat.le_of_ble_eq_true rfl, Nat.le_of_ble_eq_true rfl⟩) ⟨hp.1, va_recv F.2.2.2.1.1 w.1 (q0 := 4) (ci := 1) rfl rfl, hp.2⟩ rfl rfl hl.1 rfl (lv_room (Nat.le_of_ble_eq_true rfl)) dX4_run_120 ⟨Nat.le_of_ble_eq_true rfl, Nat.le_of_ble_eq_true rfl⟩)
                  (fun _ H locs h_15 w => ?_)
                have w : kW g A s [cTr tr rw od i q 0 0, cR rw ra rb (actZ (chZ T L q) (pN1 T L q) (pN2x T L q) st), xI g ra 49 (zT (actZ (chZ T L q) (pN1 T L q) (pN2x T L q) st)), xI g rb 49 (zI (actZ (chZ T L q) (pN1 T L q) (pN2x T L q) st)), cO od (chZ T L q) (pN1 T L q) (pN2x T L q) u_8.2.2 (pE T L q), cT t ch L, xC g ch 60 T, cR r a b σ, xI g a 49 (zT σ), xI g b 49 (zI σ)] H locs := by
                  have w := w
                  rw [h_13]; exact w
                refine lv_aload_n hx hb dX4_run_123 rfl (lv_at hl 1 rfl) ?_
                refine lv_aload_n hx hb dX4_run_124 rfl (lv_at hl 1 rfl) ?_
                refine kget (fs := [.ref rw, .ref od, .int (nI i), .int (nI q), .int (nI 0), .int (nI 0)]) F w in_X4_run_X4 0 rfl rfl 1 (by decide) (by decide +kernel) rfl rfl dX4_run_125 ?_
                refine kgetN (host := RX5) (fs := [.int (chZ T L q), .int (nI (pN1 T L q)), .int (nI (pN2x T L q)), .int (nI u_8.2.2), .int (nI (pE T L q))]) F w in_X4_run_X1 4 rfl rfl 4 (by decide) (by decide +kernel) rfl rfl dX4_run_128 ?_
                refine kput (fs := [.ref rw, .ref od, .int (nI i), .int (nI q), .int (nI 0), .int (nI 0)]) F w in_X4_run_X4 tyX4_ok nmX4 0 rfl rfl 3 (by decide) (by decide +kernel) rfl rfl (rfl) (rfl) (Nat.le_of_ble_eq_true rfl) (wn := [cTr tr rw od i (pE T L q) 0 0, cR rw ra rb (actZ (chZ T L q) (pN1 T L q) (pN2x T L q) st), xI g ra 49 (zT (actZ (chZ T L q) (pN1 T L q) (pN2x T L q) st)), xI g rb 49 (zI (actZ (chZ T L q) (pN1 T L q) (pN2x T L q) st)), cO od (chZ T L q) (pN1 T L q) (pN2x T L q) u_8.2.2 (pE T L q), cT t ch L, xC g ch 60 T, cR r a b σ, xI g a 49 (zT σ), xI g b 49 (zI σ)]) rfl dX4_run_131 (fun H locs w => ?_)
                refine lv_aload_n hx hb dX4_run_134 rfl (lv_at hl 1 rfl) ?_
                refine lv_dup hx hb dX4_run_135 rfl ?_
                refine kget (fs := [.ref rw, .ref od, .int (nI i), .int (nI (pE T L q)), .int (nI 0), .int (nI 0)]) F w in_X4_run_X4 0 rfl rfl 2 (by decide) (by decide +kernel) rfl rfl dX4_run_136 ?_
                refine lv_iconst (v := nI 1) hx hb dX4_run_139 (by decide) ?_
                refine lv_iadd hx hb dX4_run_140 ?_
                refine ktopi (y := nI (i + 1)) (nI_add i 1) ?_
                refine kput (fs := [.ref rw, .ref od, .int (nI i), .int (nI (pE T L q)), .int (nI 0), .int (nI 0)]) F w in_X4_run_X4 tyX4_ok nmX4 0 rfl rfl 2 (by decide) (by decide +kernel) rfl rfl (rfl) (rfl) (Nat.le_of_ble_eq_true rfl) (wn := [cTr tr rw od (i + 1) (pE T L q) 0 0, cR rw ra rb (actZ (chZ T L q) (pN1 T L q) (pN2x T L q) st), xI g ra 49 (zT (actZ (chZ T L q) (pN1 T L q) (pN2x T L q) st)), xI g rb 49 (zI (actZ (chZ T L q) (pN1 T L q) (pN2x T L q) st)), cO od (chZ T L q) (pN1 T L q) (pN2x T L q) u_8.2.2 (pE T L q), cT t ch L, xC g ch 60 T, cR r a b σ, xI g a 49 (zT σ), xI g b 49 (zI σ)]) rfl dX4_run_141 (fun H locs w => ?_)
                refine lv_iinc (v := nI (i + 1)) (lv' := [(3, .int (nI (i + 1))), (0, .ref tr), (1, .ref t), (2, .ref r)]) hx hb dX4_run_144 hl (k := 0) rfl (nI_add i 1) (by decide) rfl (fun ls hl => ?_)
                refine lv_goto (tgt := 30) hx hb dX4_run_147 (by decide) ?_
                exact ih_3 (i + 1) (pE T L q) (actZ (chZ T L q) (pN1 T L q) (pN2x T L q) st) (chZ T L q) (pN1 T L q) (pN2x T L q) u_8.2.2 (pE T L q) (by omega) (by omega) (by omega) (by rw [show 60 - (i + 1) = 59 - i by omega]; exact hR2) _ _ _ (by omega) (kW.perm w [0, 1, 2, 3, 4, 5, 6, 7, 8, 9] rfl rfl) (lv_sub hl [0, 1, 2, 3] rfl)
              · skip
                have hcv : cauZ (nI 100) (pN1 T L q) (pN2x T L q) st = 0 := by rw [← h_13]; exact h_12
                have w : kW g A s [cTr tr rw od i q 0 0, cR rw ra rb st, xI g ra 49 (zT st), xI g rb 49 (zI st), cO od (nI 100) (pN1 T L q) (pN2x T L q) u_8.2.2 (pE T L q), cT t ch L, xC g ch 60 T, cR r a b σ, xI g a 49 (zT σ), xI g b 49 (zI σ)] H locs := by
                  have w := w
                  rw [h_13] at w; exact w
                refine kcallv (wc := [cO od (nI 100) (pN1 T L q) (pN2x T L q) u_8.2.2 (pE T L q), cR rw ra rb st, xI g ra 49 (zT st), xI g rb 49 (zI st)]) (wr := [cTr tr rw od i q 0 0, cT t ch L, xC g ch 60 T, cR r a b σ, xI g a 49 (zT σ), xI g b 49 (zI σ)]) (wn := fun (u : Unit) => [cTr tr rw od i q 0 0, cR rw ra rb (actZ (nI 100) (pN1 T L q) (pN2x T L q) st), xI g ra 49 (zT (actZ (nI 100) (pN1 T L q) (pN2x T L q) st)), xI g rb 49 (zI (actZ (nI 100) (pN1 T L q) (pN2x T L q) st)), cO od (nI 100) (pN1 T L q) (pN2x T L q) u_8.2.2 (pE T L q), cT t ch L, xC g ch 60 T, cR r a b σ, xI g a 49 (zT σ), xI g b 49 (zI σ)]) F w [4, 1, 2, 3] [0, 5, 6, 7, 8, 9] [0, 7, 8, 9, 6, 1, 2, 3, 4, 5] rfl rfl rfl (fun _ => rfl)
                  (fun hp => va_runV (As := [.ref rw]) (rest := []) F.1 (kX1_carryOut_100 l g od (pN1 T L q) (pN2x T L q) u_8.2.2 (pE T L q) rw ra rb st H.size (⟨hb1, hb2⟩) hcv) (cwV 1 hts gX4_run_X1_carryOut rfl rfl rfl ⟨rfl, hd_X1_carryOut⟩ ⟨Nat.le_of_ble_eq_true rfl, Nat.le_of_ble_eq_true rfl⟩) ⟨hp.1, va_recv F.2.2.2.1.1 w.1 (q0 := 4) (ci := 1) rfl rfl, hp.2⟩ rfl rfl hl.1 rfl (lv_room (Nat.le_of_ble_eq_true rfl)) dX4_run_120 ⟨Nat.le_of_ble_eq_true rfl, Nat.le_of_ble_eq_true rfl⟩)
                  (fun _ H locs h_17 w => ?_)
                have w : kW g A s [cTr tr rw od i q 0 0, cR rw ra rb (actZ (chZ T L q) (pN1 T L q) (pN2x T L q) st), xI g ra 49 (zT (actZ (chZ T L q) (pN1 T L q) (pN2x T L q) st)), xI g rb 49 (zI (actZ (chZ T L q) (pN1 T L q) (pN2x T L q) st)), cO od (chZ T L q) (pN1 T L q) (pN2x T L q) u_8.2.2 (pE T L q), cT t ch L, xC g ch 60 T, cR r a b σ, xI g a 49 (zT σ), xI g b 49 (zI σ)] H locs := by
                  have w := w
                  rw [h_13]; exact w
                refine lv_aload_n hx hb dX4_run_123 rfl (lv_at hl 1 rfl) ?_
                refine lv_aload_n hx hb dX4_run_124 rfl (lv_at hl 1 rfl) ?_
                refine kget (fs := [.ref rw, .ref od, .int (nI i), .int (nI q), .int (nI 0), .int (nI 0)]) F w in_X4_run_X4 0 rfl rfl 1 (by decide) (by decide +kernel) rfl rfl dX4_run_125 ?_
                refine kgetN (host := RX5) (fs := [.int (chZ T L q), .int (nI (pN1 T L q)), .int (nI (pN2x T L q)), .int (nI u_8.2.2), .int (nI (pE T L q))]) F w in_X4_run_X1 4 rfl rfl 4 (by decide) (by decide +kernel) rfl rfl dX4_run_128 ?_
                refine kput (fs := [.ref rw, .ref od, .int (nI i), .int (nI q), .int (nI 0), .int (nI 0)]) F w in_X4_run_X4 tyX4_ok nmX4 0 rfl rfl 3 (by decide) (by decide +kernel) rfl rfl (rfl) (rfl) (Nat.le_of_ble_eq_true rfl) (wn := [cTr tr rw od i (pE T L q) 0 0, cR rw ra rb (actZ (chZ T L q) (pN1 T L q) (pN2x T L q) st), xI g ra 49 (zT (actZ (chZ T L q) (pN1 T L q) (pN2x T L q) st)), xI g rb 49 (zI (actZ (chZ T L q) (pN1 T L q) (pN2x T L q) st)), cO od (chZ T L q) (pN1 T L q) (pN2x T L q) u_8.2.2 (pE T L q), cT t ch L, xC g ch 60 T, cR r a b σ, xI g a 49 (zT σ), xI g b 49 (zI σ)]) rfl dX4_run_131 (fun H locs w => ?_)
                refine lv_aload_n hx hb dX4_run_134 rfl (lv_at hl 1 rfl) ?_
                refine lv_dup hx hb dX4_run_135 rfl ?_
                refine kget (fs := [.ref rw, .ref od, .int (nI i), .int (nI (pE T L q)), .int (nI 0), .int (nI 0)]) F w in_X4_run_X4 0 rfl rfl 2 (by decide) (by decide +kernel) rfl rfl dX4_run_136 ?_
                refine lv_iconst (v := nI 1) hx hb dX4_run_139 (by decide) ?_
                refine lv_iadd hx hb dX4_run_140 ?_
                refine ktopi (y := nI (i + 1)) (nI_add i 1) ?_
                refine kput (fs := [.ref rw, .ref od, .int (nI i), .int (nI (pE T L q)), .int (nI 0), .int (nI 0)]) F w in_X4_run_X4 tyX4_ok nmX4 0 rfl rfl 2 (by decide) (by decide +kernel) rfl rfl (rfl) (rfl) (Nat.le_of_ble_eq_true rfl) (wn := [cTr tr rw od (i + 1) (pE T L q) 0 0, cR rw ra rb (actZ (chZ T L q) (pN1 T L q) (pN2x T L q) st), xI g ra 49 (zT (actZ (chZ T L q) (pN1 T L q) (pN2x T L q) st)), xI g rb 49 (zI (actZ (chZ T L q) (pN1 T L q) (pN2x T L q) st)), cO od (chZ T L q) (pN1 T L q) (pN2x T L q) u_8.2.2 (pE T L q), cT t ch L, xC g ch 60 T, cR r a b σ, xI g a 49 (zT σ), xI g b 49 (zI σ)]) rfl dX4_run_141 (fun H locs w => ?_)
                refine lv_iinc (v := nI (i + 1)) (lv' := [(3, .int (nI (i + 1))), (0, .ref tr), (1, .ref t), (2, .ref r)]) hx hb dX4_run_144 hl (k := 0) rfl (nI_add i 1) (by decide) rfl (fun ls hl => ?_)
                refine lv_goto (tgt := 30) hx hb dX4_run_147 (by decide) ?_
                exact ih_3 (i + 1) (pE T L q) (actZ (chZ T L q) (pN1 T L q) (pN2x T L q) st) (chZ T L q) (pN1 T L q) (pN2x T L q) u_8.2.2 (pE T L q) (by omega) (by omega) (by omega) (by rw [show 60 - (i + 1) = 59 - i by omega]; exact hR2) _ _ _ (by omega) (kW.perm w [0, 1, 2, 3, 4, 5, 6, 7, 8, 9] rfl rfl) (lv_sub hl [0, 1, 2, 3] rfl)
              · skip
                have hcv : cauZ (nI 108) (pN1 T L q) (pN2x T L q) st = 0 := by rw [← h_13]; exact h_12
                have w : kW g A s [cTr tr rw od i q 0 0, cR rw ra rb st, xI g ra 49 (zT st), xI g rb 49 (zI st), cO od (nI 108) (pN1 T L q) (pN2x T L q) u_8.2.2 (pE T L q), cT t ch L, xC g ch 60 T, cR r a b σ, xI g a 49 (zT σ), xI g b 49 (zI σ)] H locs := by
                  have w := w
                  rw [h_13] at w; exact w
                refine kcallv (wc := [cO od (nI 108) (pN1 T L q) (pN2x T L q) u_8.2.2 (pE T L q), cR rw ra rb st, xI g ra 49 (zT st), xI g rb 49 (zI st)]) (wr := [cTr tr rw od i q 0 0, cT t ch L, xC g ch 60 T, cR r a b σ, xI g a 49 (zT σ), xI g b 49 (zI σ)]) (wn := fun (u : Unit) => [cTr tr rw od i q 0 0, cR rw ra rb (actZ (nI 108) (pN1 T L q) (pN2x T L q) st), xI g ra 49 (zT (actZ (nI 108) (pN1 T L q) (pN2x T L q) st)), xI g rb 49 (zI (actZ (nI 108) (pN1 T L q) (pN2x T L q) st)), cO od (nI 108) (pN1 T L q) (pN2x T L q) u_8.2.2 (pE T L q), cT t ch L, xC g ch 60 T, cR r a b σ, xI g a 49 (zT σ), xI g b 49 (zI σ)]) F w [4, 1, 2, 3] [0, 5, 6, 7, 8, 9] [0, 7, 8, 9, 6, 1, 2, 3, 4, 5] rfl rfl rfl (fun _ => rfl)
                  (fun hp => va_runV (As := [.ref rw]) (rest := []) F.1 (kX1_carryOut_108 l g od (pN1 T L q) (pN2x T L q) u_8.2.2 (pE T L q) rw ra rb st H.size (⟨hb1, hb2⟩) hcv) (cwV 1 hts gX4_run_X1_carryOut rfl rfl rfl ⟨rfl, hd_X1_carryOut⟩ ⟨Nat.le_of_ble_eq_true rfl, Nat.le_of_ble_eq_true rfl⟩) ⟨hp.1, va_recv F.2.2.2.1.1 w.1 (q0 := 4) (ci := 1) rfl rfl, hp.2⟩ rfl rfl hl.1 rfl (lv_room (Nat.le_of_ble_eq_true rfl)) dX4_run_120 ⟨Nat.le_of_ble_eq_true rfl, Nat.le_of_ble_eq_true rfl⟩)
                  (fun _ H locs h_19 w => ?_)
                have w : kW g A s [cTr tr rw od i q 0 0, cR rw ra rb (actZ (chZ T L q) (pN1 T L q) (pN2x T L q) st), xI g ra 49 (zT (actZ (chZ T L q) (pN1 T L q) (pN2x T L q) st)), xI g rb 49 (zI (actZ (chZ T L q) (pN1 T L q) (pN2x T L q) st)), cO od (chZ T L q) (pN1 T L q) (pN2x T L q) u_8.2.2 (pE T L q), cT t ch L, xC g ch 60 T, cR r a b σ, xI g a 49 (zT σ), xI g b 49 (zI σ)] H locs := by
                  have w := w
                  rw [h_13]; exact w
                refine lv_aload_n hx hb dX4_run_123 rfl (lv_at hl 1 rfl) ?_
                refine lv_aload_n hx hb dX4_run_124 rfl (lv_at hl 1 rfl) ?_
                refine kget (fs := [.ref rw, .ref od, .int (nI i), .int (nI q), .int (nI 0), .int (nI 0)]) F w in_X4_run_X4 0 rfl rfl 1 (by decide) (by decide +kernel) rfl rfl dX4_run_125 ?_
                refine kgetN (host := RX5) (fs := [.int (chZ T L q), .int (nI (pN1 T L q)), .int (nI (pN2x T L q)), .int (nI u_8.2.2), .int (nI (pE T L q))]) F w in_X4_run_X1 4 rfl rfl 4 (by decide) (by decide +kernel) rfl rfl dX4_run_128 ?_
                refine kput (fs := [.ref rw, .ref od, .int (nI i), .int (nI q), .int (nI 0), .int (nI 0)]) F w in_X4_run_X4 tyX4_ok nmX4 0 rfl rfl 3 (by decide) (by decide +kernel) rfl rfl (rfl) (rfl) (Nat.le_of_ble_eq_true rfl) (wn := [cTr tr rw od i (pE T L q) 0 0, cR rw ra rb (actZ (chZ T L q) (pN1 T L q) (pN2x T L q) st), xI g ra 49 (zT (actZ (chZ T L q) (pN1 T L q) (pN2x T L q) st)), xI g rb 49 (zI (actZ (chZ T L q) (pN1 T L q) (pN2x T L q) st)), cO od (chZ T L q) (pN1 T L q) (pN2x T L q) u_8.2.2 (pE T L q), cT t ch L, xC g ch 60 T, cR r a b σ, xI g a 49 (zT σ), xI g b 49 (zI σ)]) rfl dX4_run_131 (fun H locs w => ?_)
                refine lv_aload_n hx hb dX4_run_134 rfl (lv_at hl 1 rfl) ?_
                refine lv_dup hx hb dX4_run_135 rfl ?_
                refine kget (fs := [.ref rw, .ref od, .int (nI i), .int (nI (pE T L q)), .int (nI 0), .int (nI 0)]) F w in_X4_run_X4 0 rfl rfl 2 (by decide) (by decide +kernel) rfl rfl dX4_run_136 ?_
                refine lv_iconst (v := nI 1) hx hb dX4_run_139 (by decide) ?_
                refine lv_iadd hx hb dX4_run_140 ?_
                refine ktopi (y := nI (i + 1)) (nI_add i 1) ?_
                refine kput (fs := [.ref rw, .ref od, .int (nI i), .int (nI (pE T L q)), .int (nI 0), .int (nI 0)]) F w in_X4_run_X4 tyX4_ok nmX4 0 rfl rfl 2 (by decide) (by decide +kernel) rfl rfl (rfl) (rfl) (Nat.le_of_ble_eq_true rfl) (wn := [cTr tr rw od (i + 1) (pE T L q) 0 0, cR rw ra rb (actZ (chZ T L q) (pN1 T L q) (pN2x T L q) st), xI g ra 49 (zT (actZ (chZ T L q) (pN1 T L q) (pN2x T L q) st)), xI g rb 49 (zI (actZ (chZ T L q) (pN1 T L q) (pN2x T L q) st)), cO od (chZ T L q) (pN1 T L q) (pN2x T L q) u_8.2.2 (pE T L q), cT t ch L, xC g ch 60 T, cR r a b σ, xI g a 49 (zT σ), xI g b 49 (zI σ)]) rfl dX4_run_141 (fun H locs w => ?_)
                refine lv_iinc (v := nI (i + 1)) (lv' := [(3, .int (nI (i + 1))), (0, .ref tr), (1, .ref t), (2, .ref r)]) hx hb dX4_run_144 hl (k := 0) rfl (nI_add i 1) (by decide) rfl (fun ls hl => ?_)
                refine lv_goto (tgt := 30) hx hb dX4_run_147 (by decide) ?_
                exact ih_3 (i + 1) (pE T L q) (actZ (chZ T L q) (pN1 T L q) (pN2x T L q) st) (chZ T L q) (pN1 T L q) (pN2x T L q) u_8.2.2 (pE T L q) (by omega) (by omega) (by omega) (by rw [show 60 - (i + 1) = 59 - i by omega]; exact hR2) _ _ _ (by omega) (kW.perm w [0, 1, 2, 3, 4, 5, 6, 7, 8, 9] rfl rfl) (lv_sub hl [0, 1, 2, 3] rfl)
              · skip
                have hcv : cauZ (nI 114) (pN1 T L q) (pN2x T L q) st = 0 := by rw [← h_13]; exact h_12
                have w : kW g A s [cTr tr rw od i q 0 0, cR rw ra rb st, xI g ra 49 (zT st), xI g rb 49 (zI st), cO od (nI 114) (pN1 T L q) (pN2x T L q) u_8.2.2 (pE T L q), cT t ch L, xC g ch 60 T, cR r a b σ, xI g a 49 (zT σ), xI g b 49 (zI σ)] H locs := by
                  have w := w
                  rw [h_13] at w; exact w
                refine kcallv (wc := [cO od (nI 114) (pN1 T L q) (pN2x T L q) u_8.2.2 (pE T L q), cR rw ra rb st, xI g ra 49 (zT st), xI g rb 49 (zI st)]) (wr := [cTr tr rw od i q 0 0, cT t ch L, xC g ch 60 T, cR r a b σ, xI g a 49 (zT σ), xI g b 49 (zI σ)]) (wn := fun (u : Unit) => [cTr tr rw od i q 0 0, cR rw ra rb (actZ (nI 114) (pN1 T L q) (pN2x T L q) st), xI g ra 49 (zT (actZ (nI 114) (pN1 T L q) (pN2x T L q) st)), xI g rb 49 (zI (actZ (nI 114) (pN1 T L q) (pN2x T L q) st)), cO od (nI 114) (pN1 T L q) (pN2x T L q) u_8.2.2 (pE T L q), cT t ch L, xC g ch 60 T, cR r a b σ, xI g a 49 (zT σ), xI g b 49 (zI σ)]) F w [4, 1, 2, 3] [0, 5, 6, 7, 8, 9] [0, 7, 8, 9, 6, 1, 2, 3, 4, 5] rfl rfl rfl (fun _ => rfl)
                  (fun hp => va_runV (As := [.ref rw]) (rest := []) F.1 (kX1_carryOut_114 l g od (pN1 T L q) (pN2x T L q) u_8.2.2 (pE T L q) rw ra rb st H.size (⟨hb1, hb2⟩) hcv) (cwV 1 hts gX4_run_X1_carryOut rfl rfl rfl ⟨rfl, hd_X1_carryOut⟩ ⟨Nat.le_of_ble_eq_true rfl, Nat.le_of_ble_eq_true rfl⟩) ⟨hp.1, va_recv F.2.2.2.1.1 w.1 (q0 := 4) (ci := 1) rfl rfl, hp.2⟩ rfl rfl hl.1 rfl (lv_room (Nat.le_of_ble_eq_true rfl)) dX4_run_120 ⟨Nat.le_of_ble_eq_true rfl, Nat.le_of_ble_eq_true rfl⟩)
                  (fun _ H locs h_21 w => ?_)
                have w : kW g A s [cTr tr rw od i q 0 0, cR rw ra rb (actZ (chZ T L q) (pN1 T L q) (pN2x T L q) st), xI g ra 49 (zT (actZ (chZ T L q) (pN1 T L q) (pN2x T L q) st)), xI g rb 49 (zI (actZ (chZ T L q) (pN1 T L q) (pN2x T L q) st)), cO od (chZ T L q) (pN1 T L q) (pN2x T L q) u_8.2.2 (pE T L q), cT t ch L, xC g ch 60 T, cR r a b σ, xI g a 49 (zT σ), xI g b 49 (zI σ)] H locs := by
                  have w := w
                  rw [h_13]; exact w
                refine lv_aload_n hx hb dX4_run_123 rfl (lv_at hl 1 rfl) ?_
                refine lv_aload_n hx hb dX4_run_124 rfl (lv_at hl 1 rfl) ?_
                refine kget (fs := [.ref rw, .ref od, .int (nI i), .int (nI q), .int (nI 0), .int (nI 0)]) F w in_X4_run_X4 0 rfl rfl 1 (by decide) (by decide +kernel) rfl rfl dX4_run_125 ?_
                refine kgetN (host := RX5) (fs := [.int (chZ T L q), .int (nI (pN1 T L q)), .int (nI (pN2x T L q)), .int (nI u_8.2.2), .int (nI (pE T L q))]) F w in_X4_run_X1 4 rfl rfl 4 (by decide) (by decide +kernel) rfl rfl dX4_run_128 ?_
                refine kput (fs := [.ref rw, .ref od, .int (nI i), .int (nI q), .int (nI 0), .int (nI 0)]) F w in_X4_run_X4 tyX4_ok nmX4 0 rfl rfl 3 (by decide) (by decide +kernel) rfl rfl (rfl) (rfl) (Nat.le_of_ble_eq_true rfl) (wn := [cTr tr rw od i (pE T L q) 0 0, cR rw ra rb (actZ (chZ T L q) (pN1 T L q) (pN2x T L q) st), xI g ra 49 (zT (actZ (chZ T L q) (pN1 T L q) (pN2x T L q) st)), xI g rb 49 (zI (actZ (chZ T L q) (pN1 T L q) (pN2x T L q) st)), cO od (chZ T L q) (pN1 T L q) (pN2x T L q) u_8.2.2 (pE T L q), cT t ch L, xC g ch 60 T, cR r a b σ, xI g a 49 (zT σ), xI g b 49 (zI σ)]) rfl dX4_run_131 (fun H locs w => ?_)
                refine lv_aload_n hx hb dX4_run_134 rfl (lv_at hl 1 rfl) ?_
                refine lv_dup hx hb dX4_run_135 rfl ?_
                refine kget (fs := [.ref rw, .ref od, .int (nI i), .int (nI (pE T L q)), .int (nI 0), .int (nI 0)]) F w in_X4_run_X4 0 rfl rfl 2 (by decide) (by decide +kernel) rfl rfl dX4_run_136 ?_
                refine lv_iconst (v := nI 1) hx hb dX4_run_139 (by decide) ?_
                refine lv_iadd hx hb dX4_run_140 ?_
                refine ktopi (y := nI (i + 1)) (nI_add i 1) ?_
                refine kput (fs := [.ref rw, .ref od, .int (nI i), .int (nI (pE T L q)), .int (nI 0), .int (nI 0)]) F w in_X4_run_X4 tyX4_ok nmX4 0 rfl rfl 2 (by decide) (by decide +kernel) rfl rfl (rfl) (rfl) (Nat.le_of_ble_eq_true rfl) (wn := [cTr tr rw od (i + 1) (pE T L q) 0 0, cR rw ra rb (actZ (chZ T L q) (pN1 T L q) (pN2x T L q) st), xI g ra 49 (zT (actZ (chZ T L q) (pN1 T L q) (pN2x T L q) st)), xI g rb 49 (zI (actZ (chZ T L q) (pN1 T L q) (pN2x T L q) st)), cO od (chZ T L q) (pN1 T L q) (pN2x T L q) u_8.2.2 (pE T L q), cT t ch L, xC g ch 60 T, cR r a b σ, xI g a 49 (zT σ), xI g b 49 (zI σ)]) rfl dX4_run_141 (fun H locs w => ?_)
                refine lv_iinc (v := nI (i + 1)) (lv' := [(3, .int (nI (i + 1))), (0, .ref tr), (1, .ref t), (2, .ref r)]) hx hb dX4_run_144 hl (k := 0) rfl (nI_add i 1) (by decide) rfl (fun ls hl => ?_)
                refine lv_goto (tgt := 30) hx hb dX4_run_147 (by decide) ?_
                exact ih_3 (i + 1) (pE T L q) (actZ (chZ T L q) (pN1 T L q) (pN2x T L q) st) (chZ T L q) (pN1 T L q) (pN2x T L q) u_8.2.2 (pE T L q) (by omega) (by omega) (by omega) (by rw [show 60 - (i + 1) = 59 - i by omega]; exact hR2) _ _ _ (by omega) (kW.perm w [0, 1, 2, 3, 4, 5, 6, 7, 8, 9] rfl rfl) (lv_sub hl [0, 1, 2, 3] rfl)
              · skip
                have hcv : cauZ (nI 116) (pN1 T L q) (pN2x T L q) st = 0 := by rw [← h_13]; exact h_12
                have w : kW g A s [cTr tr rw od i q 0 0, cR rw ra rb st, xI g ra 49 (zT st), xI g rb 49 (zI st), cO od (nI 116) (pN1 T L q) (pN2x T L q) u_8.2.2 (pE T L q), cT t ch L, xC g ch 60 T, cR r a b σ, xI g a 49 (zT σ), xI g b 49 (zI σ)] H locs := by
                  have w := w
                  rw [h_13] at w; exact w
                refine kcallv (wc := [cO od (nI 116) (pN1 T L q) (pN2x T L q) u_8.2.2 (pE T L q), cR rw ra rb st, xI g ra 49 (zT st), xI g rb 49 (zI st)]) (wr := [cTr tr rw od i q 0 0, cT t ch L, xC g ch 60 T, cR r a b σ, xI g a 49 (zT σ), xI g b 49 (zI σ)]) (wn := fun (u : Unit) => [cTr tr rw od i q 0 0, cR rw ra rb (actZ (nI 116) (pN1 T L q) (pN2x T L q) st), xI g ra 49 (zT (actZ (nI 116) (pN1 T L q) (pN2x T L q) st)), xI g rb 49 (zI (actZ (nI 116) (pN1 T L q) (pN2x T L q) st)), cO od (nI 116) (pN1 T L q) (pN2x T L q) u_8.2.2 (pE T L q), cT t ch L, xC g ch 60 T, cR r a b σ, xI g a 49 (zT σ), xI g b 49 (zI σ)]) F w [4, 1, 2, 3] [0, 5, 6, 7, 8, 9] [0, 7, 8, 9, 6, 1, 2, 3, 4, 5] rfl rfl rfl (fun _ => rfl)
                  (fun hp => va_runV (As := [.ref rw]) (rest := []) F.1 (kX1_carryOut_116 l g od (pN1 T L q) (pN2x T L q) u_8.2.2 (pE T L q) rw ra rb st H.size (⟨hb1, hb2⟩) hcv) (cwV 1 hts gX4_run_X1_carryOut rfl rfl rfl ⟨rfl, hd_X1_carryOut⟩ ⟨Nat.le_of_ble_eq_true rfl, Nat.le_of_ble_eq_true rfl⟩) ⟨hp.1, va_recv F.2.2.2.1.1 w.1 (q0 := 4) (ci := 1) rfl rfl, hp.2⟩ rfl rfl hl.1 rfl (lv_room (Nat.le_of_ble_eq_true rfl)) dX4_run_120 ⟨Nat.le_of_ble_eq_true rfl, Nat.le_of_ble_eq_true rfl⟩)
                  (fun _ H locs h_23 w => ?_)
                have w : kW g A s [cTr tr rw od i q 0 0, cR rw ra rb (actZ (chZ T L q) (pN1 T L q) (pN2x T L q) st), xI g ra 49 (zT (actZ (chZ T L q) (pN1 T L q) (pN2x T L q) st)), xI g rb 49 (zI (actZ (chZ T L q) (pN1 T L q) (pN2x T L q) st)), cO od (chZ T L q) (pN1 T L q) (pN2x T L q) u_8.2.2 (pE T L q), cT t ch L, xC g ch 60 T, cR r a b σ, xI g a 49 (zT σ), xI g b 49 (zI σ)] H locs := by
                  have w := w
                  rw [h_13]; exact w
                refine lv_aload_n hx hb dX4_run_123 rfl (lv_at hl 1 rfl) ?_
                refine lv_aload_n hx hb dX4_run_124 rfl (lv_at hl 1 rfl) ?_
                refine kget (fs := [.ref rw, .ref od, .int (nI i), .int (nI q), .int (nI 0), .int (nI 0)]) F w in_X4_run_X4 0 rfl rfl 1 (by decide) (by decide +kernel) rfl rfl dX4_run_125 ?_
                refine kgetN (host := RX5) (fs := [.int (chZ T L q), .int (nI (pN1 T L q)), .int (nI (pN2x T L q)), .int (nI u_8.2.2), .int (nI (pE T L q))]) F w in_X4_run_X1 4 rfl rfl 4 (by decide) (by decide +kernel) rfl rfl dX4_run_128 ?_
                refine kput (fs := [.ref rw, .ref od, .int (nI i), .int (nI q), .int (nI 0), .int (nI 0)]) F w in_X4_run_X4 tyX4_ok nmX4 0 rfl rfl 3 (by decide) (by decide +kernel) rfl rfl (rfl) (rfl) (Nat.le_of_ble_eq_true rfl) (wn := [cTr tr rw od i (pE T L q) 0 0, cR rw ra rb (actZ (chZ T L q) (pN1 T L q) (pN2x T L q) st), xI g ra 49 (zT (actZ (chZ T L q) (pN1 T L q) (pN2x T L q) st)), xI g rb 49 (zI (actZ (chZ T L q) (pN1 T L q) (pN2x T L q) st)), cO od (chZ T L q) (pN1 T L q) (pN2x T L q) u_8.2.2 (pE T L q), cT t ch L, xC g ch 60 T, cR r a b σ, xI g a 49 (zT σ), xI g b 49 (zI σ)]) rfl dX4_run_131 (fun H locs w => ?_)
                refine lv_aload_n hx hb dX4_run_134 rfl (lv_at hl 1 rfl) ?_
                refine lv_dup hx hb dX4_run_135 rfl ?_
                refine kget (fs := [.ref rw, .ref od, .int (nI i), .int (nI (pE T L q)), .int (nI 0), .int (nI 0)]) F w in_X4_run_X4 0 rfl rfl 2 (by decide) (by decide +kernel) rfl rfl dX4_run_136 ?_
                refine lv_iconst (v := nI 1) hx hb dX4_run_139 (by decide) ?_
                refine lv_iadd hx hb dX4_run_140 ?_
                refine ktopi (y := nI (i + 1)) (nI_add i 1) ?_
                refine kput (fs := [.ref rw, .ref od, .int (nI i), .int (nI (pE T L q)), .int (nI 0), .int (nI 0)]) F w in_X4_run_X4 tyX4_ok nmX4 0 rfl rfl 2 (by decide) (by decide +kernel) rfl rfl (rfl) (rfl) (Nat.le_of_ble_eq_true rfl) (wn := [cTr tr rw od (i + 1) (pE T L q) 0 0, cR rw ra rb (actZ (chZ T L q) (pN1 T L q) (pN2x T L q) st), xI g ra 49 (zT (actZ (chZ T L q) (pN1 T L q) (pN2x T L q) st)), xI g rb 49 (zI (actZ (chZ T L q) (pN1 T L q) (pN2x T L q) st)), cO od (chZ T L q) (pN1 T L q) (pN2x T L q) u_8.2.2 (pE T L q), cT t ch L, xC g ch 60 T, cR r a b σ, xI g a 49 (zT σ), xI g b 49 (zI σ)]) rfl dX4_run_141 (fun H locs w => ?_)
                refine lv_iinc (v := nI (i + 1)) (lv' := [(3, .int (nI (i + 1))), (0, .ref tr), (1, .ref t), (2, .ref r)]) hx hb dX4_run_144 hl (k := 0) rfl (nI_add i 1) (by decide) rfl (fun ls hl => ?_)
                refine lv_goto (tgt := 30) hx hb dX4_run_147 (by decide) ?_
                exact ih_3 (i + 1) (pE T L q) (actZ (chZ T L q) (pN1 T L q) (pN2x T L q) st) (chZ T L q) (pN1 T L q) (pN2x T L q) u_8.2.2 (pE T L q) (by omega) (by omega) (by omega) (by rw [show 60 - (i + 1) = 59 - i by omega]; exact hR2) _ _ _ (by omega) (kW.perm w [0, 1, 2, 3, 4, 5, 6, 7, 8, 9] rfl rfl) (lv_sub hl [0, 1, 2, 3] rfl)
            · have h_12 : cauZ (chZ T L q) (pN1 T L q) (pN2x T L q) st ≠ 0 := (kc0_eq_f (by omega)).mp h_12
              refine lv_aload_n hx hb dX4_run_106 rfl (lv_at hl 1 rfl) ?_
              refine lv_iconst (v := nI 2) hx hb dX4_run_107 (by decide) ?_
              refine kput (fs := [.ref rw, .ref od, .int (nI i), .int (nI q), .int (nI 0), .int (nI (cauZ (chZ T L q) (pN1 T L q) (pN2x T L q) st))]) F w in_X4_run_X4 tyX4_ok nmX4 0 rfl rfl 4 (by decide) (by decide +kernel) rfl rfl (rfl) (rfl) (Nat.le_of_ble_eq_true rfl) (wn := [cTr tr rw od i q 2 (cauZ (chZ T L q) (pN1 T L q) (pN2x T L q) st), cR rw ra rb st, xI g ra 49 (zT st), xI g rb 49 (zI st), cO od (chZ T L q) (pN1 T L q) (pN2x T L q) u_8.2.2 (pE T L q), cT t ch L, xC g ch 60 T, cR r a b σ, xI g a 49 (zT σ), xI g b 49 (zI σ)]) rfl dX4_run_108 (fun H locs w => ?_)
              have hZ9 : runF T L 60 0 σ 0 = (2, cauZ (chZ T L q) (pN1 T L q) (pN2x T L q) st, q, i, st) := hR.symm.trans (runF_no (by omega) h_9 h_12)
              have w : kW g A s [cTr tr rw od (zOs T L σ) (zPo T L σ) (zRe T L σ) (zCa T L σ), cR rw ra rb (zSt T L σ), xI g ra 49 (zT (zSt T L σ)), xI g rb 49 (zI (zSt T L σ)), cO od (chZ T L q) (pN1 T L q) (pN2x T L q) u_8.2.2 (pE T L q), cT t ch L, xC g ch 60 T, cR r a b σ, xI g a 49 (zT σ), xI g b 49 (zI σ)] H locs := by
                have w := w
                unfold zOs zPo zRe zCa zSt
                rw [hZ9]
                exact w
              subst hA
              subst hQ
              exact kretv F w (chZ T L q, pN1 T L q, pN2x T L q, u_8.2.2, pE T L q) [0, 1, 2, 3, 4, 5, 6, 7, 8, 9] rfl rfl (trivial) (Nat.le_of_ble_eq_true rfl) (Nat.le_of_ble_eq_true rfl) dX4_run_111
          · have h_9 : (pOK T L q) = false := bI_z.mp h_9
            have hpe := pE_le T L q
            refine lv_aload_n hx hb dX4_run_62 rfl (lv_at hl 1 rfl) ?_
            refine lv_iconst (v := nI 1) hx hb dX4_run_63 (by decide) ?_
            refine kput (fs := [.ref rw, .ref od, .int (nI i), .int (nI q), .int (nI 0), .int (nI 0)]) F w in_X4_run_X4 tyX4_ok nmX4 0 rfl rfl 4 (by decide) (by decide +kernel) rfl rfl (rfl) (rfl) (Nat.le_of_ble_eq_true rfl) (wn := [cTr tr rw od i q 1 0, cR rw ra rb st, xI g ra 49 (zT st), xI g rb 49 (zI st), cO od (chZ T L q) u_8.1 u_8.2.1 u_8.2.2 (pE T L q), cT t ch L, xC g ch 60 T, cR r a b σ, xI g a 49 (zT σ), xI g b 49 (zI σ)]) rfl dX4_run_64 (fun H locs w => ?_)
            refine lv_aload_n hx hb dX4_run_67 rfl (lv_at hl 1 rfl) ?_
            refine lv_aload_n hx hb dX4_run_68 rfl (lv_at hl 1 rfl) ?_
            refine kget (fs := [.ref rw, .ref od, .int (nI i), .int (nI q), .int (nI 1), .int (nI 0)]) F w in_X4_run_X4 0 rfl rfl 1 (by decide) (by decide +kernel) rfl rfl dX4_run_69 ?_
            refine kgetN (host := RX5) (fs := [.int (chZ T L q), .int (nI u_8.1), .int (nI u_8.2.1), .int (nI u_8.2.2), .int (nI (pE T L q))]) F w in_X4_run_X1 4 rfl rfl 4 (by decide) (by decide +kernel) rfl rfl dX4_run_72 ?_
            refine lv_aload_n hx hb dX4_run_75 rfl (lv_at hl 1 rfl) ?_
            refine kget (fs := [.ref rw, .ref od, .int (nI i), .int (nI q), .int (nI 1), .int (nI 0)]) F w in_X4_run_X4 0 rfl rfl 3 (by decide) (by decide +kernel) rfl rfl dX4_run_76 ?_
            refine lv_isub hx hb dX4_run_79 ?_
            refine ktopi (y := nI (pE T L q - q)) (pk_sub (by omega)) ?_
            refine kput (fs := [.ref rw, .ref od, .int (nI i), .int (nI q), .int (nI 1), .int (nI 0)]) F w in_X4_run_X4 tyX4_ok nmX4 0 rfl rfl 5 (by decide) (by decide +kernel) rfl rfl (rfl) (rfl) (Nat.le_of_ble_eq_true rfl) (wn := [cTr tr rw od i q 1 (pE T L q - q), cR rw ra rb st, xI g ra 49 (zT st), xI g rb 49 (zI st), cO od (chZ T L q) u_8.1 u_8.2.1 u_8.2.2 (pE T L q), cT t ch L, xC g ch 60 T, cR r a b σ, xI g a 49 (zT σ), xI g b 49 (zI σ)]) rfl dX4_run_80 (fun H locs w => ?_)
            have hZ9 : runF T L 60 0 σ 0 = (1, pE T L q - q, q, i, st) := hR.symm.trans (runF_bad (by omega) h_9)
            have w : kW g A s [cTr tr rw od (zOs T L σ) (zPo T L σ) (zRe T L σ) (zCa T L σ), cR rw ra rb (zSt T L σ), xI g ra 49 (zT (zSt T L σ)), xI g rb 49 (zI (zSt T L σ)), cO od (chZ T L q) u_8.1 u_8.2.1 u_8.2.2 (pE T L q), cT t ch L, xC g ch 60 T, cR r a b σ, xI g a 49 (zT σ), xI g b 49 (zI σ)] H locs := by
              have w := w
              unfold zOs zPo zRe zCa zSt
              rw [hZ9]
              exact w
            subst hA
            subst hQ
            exact kretv F w (chZ T L q, u_8.1, u_8.2.1, u_8.2.2, pE T L q) [0, 1, 2, 3, 4, 5, 6, 7, 8, 9] rfl rfl (trivial) (Nat.le_of_ble_eq_true rfl) (Nat.le_of_ble_eq_true rfl) dX4_run_83
  exact LP_3 _ 0 0 σ vb n1 n2 nm en (by omega) (by omega) (by omega) rfl _ _ _ (Nat.lt_succ_self _) (kW.perm w [0, 1, 2, 3, 4, 5, 6, 7, 8, 9] rfl rfl) (lv_sub hl [0, 1, 2, 3] rfl)
