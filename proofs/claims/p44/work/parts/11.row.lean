/-! ===== a row of lockers: what its calls do ===== -/
def zV (σ : Sg) (d : Nat) : Bool := zF σ d && zH σ d
abbrev cR (r a b : Nat) (σ : Sg) : Nat × va_E := xO r 2 [.long (zB (zO σ)), .long (zB (zL σ)), .long (zB (zS σ)), .long (zB (zF σ)), .long (zB (zV σ)), .ref a, .ref b]
def turnS (d : Nat) (σ : Sg) : Sg := (zL σ, zS σ, zF σ, zH σ, upd (zT σ) d (zT σ d + 1), zI σ)
def turnL (d : Nat) (σ : Sg) : Sg := if zL σ d = true then σ else turnS d σ
theorem turnL_t {d : Nat} {σ : Sg} (h : zL σ d = true) : turnL d σ = σ := if_pos h
theorem turnL_n {d : Nat} {σ : Sg} (h : zL σ d = false) : turnL d σ = turnS d σ := if_neg (by rw [h]; decide)
def timeS (k : Nat) (σ : Sg) : Sg := (zL σ, zS σ, zF σ, zH σ, zT σ, upd (zI σ) k (zI σ k + 1))
def passN (k : Nat) : Nat → Sg → Sg
  | 0, σ => σ
  | j + 1, σ => turnL ((j + 1) * k) (passN k j σ)
def passS (k : Nat) (σ : Sg) : Sg := passN k (48 / k) (timeS k σ)
def rowN (n : Nat) : Nat → Sg → Sg
  | 0, σ => σ
  | j + 1, σ => if zS (rowN n j σ) (n + j) = true then rowN n j σ else passS (n + j) (rowN n j σ)
def rowC (n : Nat) : Nat → Sg → Nat
  | 0, _ => 0
  | j + 1, σ => if zS (rowN n j σ) (n + j) = true then rowC n j σ else rowC n j σ + 1
theorem rowN_t {n j : Nat} {σ : Sg} (h : zS (rowN n j σ) (n + j) = true) : rowN n (j + 1) σ = rowN n j σ := if_pos h
theorem rowN_n {n j : Nat} {σ : Sg} (h : zS (rowN n j σ) (n + j) = false) : rowN n (j + 1) σ = passS (n + j) (rowN n j σ) := if_neg (by rw [h]; decide)
theorem rowC_t {n j : Nat} {σ : Sg} (h : zS (rowN n j σ) (n + j) = true) : rowC n (j + 1) σ = rowC n j σ := if_pos h
theorem rowC_n {n j : Nat} {σ : Sg} (h : zS (rowN n j σ) (n + j) = false) : rowC n (j + 1) σ = rowC n j σ + 1 := if_neg (by rw [h]; decide)
def lockS (d : Nat) (σ : Sg) : Sg := (bup (zL σ) d (!zL σ d), zS σ, zF σ, zH σ, zT σ, zI σ)
def skipS (d : Nat) (σ : Sg) : Sg := (zL σ, bup (zS σ) d (!zS σ d), zF σ, zH σ, zT σ, zI σ)
def putS (d : Nat) (kd : Bool) (σ : Sg) : Sg := (zL σ, zS σ, bup (zF σ) d true, bup (zH σ) d kd, zT σ, zI σ)
def clrS (d : Nat) (σ : Sg) : Sg := (zL σ, zS σ, bup (zF σ) d false, zH σ, zT σ, zI σ)
def fitZ (d : Nat) (kd : Bool) : Bool := if d ≤ 16 then !kd else if d ≤ 32 then kd else true
def reasZ (σ : Sg) (d : Nat) (kd : Bool) : Nat := if zO σ d = false then 1 else if zF σ d = true then 2 else if fitZ d kd = true then 0 else 3
def kindP (σ : Sg) (kd : Bool) (d : Nat) : Bool := zF σ d && (zH σ d == kd)
def turnP (σ : Sg) (k d : Nat) : Bool := mulA k d && !zL σ d
theorem zodd_1 (x : Int32) : zodd (x + 1) = !zodd x := by
  unfold zodd
  rw [Int32.toBitVec_add]
  have e : (1 : Int32).toBitVec = 1#32 := rfl
  rw [e, BitVec.getLsbD_add (by omega)]
  simp
theorem zO_turn {d : Nat} {σ : Sg} (h1 : 1 ≤ d) (h2 : d ≤ 48) : zB (zO σ) ^^^ zbit d = zB (zO (turnS d σ)) := by
  refine zB_flip h1 h2 ?_ ?_
  · show zodd (upd (zT σ) d (zT σ d + 1) d) = !zodd (zT σ d)
    rw [upd_s, zodd_1]
  · intro j hj
    show zodd (upd (zT σ) d (zT σ d + 1) j) = zodd (zT σ j)
    rw [upd_n hj]
theorem zL_lock {d : Nat} {σ : Sg} (h1 : 1 ≤ d) (h2 : d ≤ 48) : zB (zL σ) ^^^ zbit d = zB (zL (lockS d σ)) := zB_flip h1 h2 (bup_s) (fun _ hj => bup_n hj)
theorem zS_skip {d : Nat} {σ : Sg} (h1 : 1 ≤ d) (h2 : d ≤ 48) : zB (zS σ) ^^^ zbit d = zB (zS (skipS d σ)) := zB_flip h1 h2 (bup_s) (fun _ hj => bup_n hj)
theorem zF_put {d : Nat} {kd : Bool} {σ : Sg} (h1 : 1 ≤ d) (h2 : d ≤ 48) : zB (zF σ) ||| zbit d = zB (zF (putS d kd σ)) := zB_set h1 h2 (bup_s) (fun _ hj => bup_n hj)
theorem zV_put0 {d : Nat} {kd : Bool} {σ : Sg} (h : kd = false) (hf : zF σ d = false) : zB (zV σ) = zB (zV (putS d kd σ)) := by
  subst h
  refine zB_cong fun j _ _ => ?_
  by_cases e : j = d
  · subst e; show (zF σ j && zH σ j) = (bup (zF σ) j true j && bup (zH σ) j false j); rw [hf, bup_s, bup_s]; rfl
  · show (zF σ j && zH σ j) = (bup (zF σ) d true j && bup (zH σ) d false j); rw [bup_n e, bup_n e]
theorem zV_put1 {d : Nat} {kd : Bool} {σ : Sg} (h1 : 1 ≤ d) (h2 : d ≤ 48) (h : kd = true) (hf : zF σ d = false) : zB (zV σ) ||| zbit d = zB (zV (putS d kd σ)) := by
  subst h
  refine zB_set h1 h2 ?_ ?_
  · show (bup (zF σ) d true d && bup (zH σ) d true d) = true; rw [bup_s, bup_s]; rfl
  · intro j hj; show (bup (zF σ) d true j && bup (zH σ) d true j) = (zF σ j && zH σ j); rw [bup_n hj, bup_n hj]
theorem zF_clr {d : Nat} {σ : Sg} (h1 : 1 ≤ d) (h2 : d ≤ 48) : zB (zF σ) &&& (zbit d ^^^ (-1)) = zB (zF (clrS d σ)) := zB_clr h1 h2 (bup_s) (fun _ hj => bup_n hj)
theorem zV_clr {d : Nat} {σ : Sg} (h1 : 1 ≤ d) (h2 : d ≤ 48) : zB (zV σ) &&& (zbit d ^^^ (-1)) = zB (zV (clrS d σ)) := by
  refine zB_clr h1 h2 ?_ ?_
  · show (bup (zF σ) d false d && zH σ d) = false; rw [bup_s]; rfl
  · intro j hj; show (bup (zF σ) d false j && zH σ j) = (zF σ j && zH σ j); rw [bup_n hj]
theorem kindP_0 {σ : Sg} {kd : Bool} (h : kd = false) : zB (zF σ) &&& (zB (zV σ) ^^^ (-1)) = zB (kindP σ kd) := by
  subst h
  refine zG_ext fun j hj => ?_
  rw [zG_and, zG_not _ _ hj, zG_B, zG_B, zG_B]
  unfold zV kindP
  cases decide (1 ≤ j) <;> cases decide (j ≤ 48) <;> cases zF σ j <;> cases zH σ j <;> rfl
theorem kindP_1 {σ : Sg} {kd : Bool} (h : kd = true) : zB (zV σ) = zB (kindP σ kd) := by
  subst h
  refine zB_cong fun j _ _ => ?_
  unfold zV kindP
  cases zF σ j <;> cases zH σ j <;> rfl
theorem turnP_b {σ : Sg} {k : Nat} : zB (mulA k) &&& (zB (zL σ) ^^^ (-1)) = zB (turnP σ k) := by
  refine zG_ext fun j hj => ?_
  rw [zG_and, zG_not _ _ hj, zG_B, zG_B, zG_B]
  unfold turnP
  cases decide (1 ≤ j) <;> cases decide (j ≤ 48) <;> cases mulA k j <;> cases zL σ j <;> rfl
def fillU (f h : Nat → Int32) (i j : Nat) : Int32 := if j < i then f j else h j
theorem fillU_0 {f h : Nat → Int32} : fillU f h 0 = h := by funext j; simp [fillU]
theorem fillU_s {f h : Nat → Int32} {i : Nat} : upd (fillU f h i) i (f i) = fillU f h (i + 1) := by
  funext j
  unfold upd fillU
  by_cases e : j = i
  · subst e; simp
  · rw [if_neg e]
    by_cases e2 : j < i
    · rw [if_pos e2, if_pos (by omega)]
    · rw [if_neg e2, if_neg (by omega)]
theorem fillU_in {f h : Nat → Int32} {i j : Nat} (hj : j < i) : fillU f h i j = f j := if_pos hj
abbrev rmX2_copyCounts : Room := { frames := 0, cells := 0, slots := 0, locals := 0 }
set_option maxHeartbeats 4000000 in
set_option maxRecDepth 100000 in
theorem kX2_copyCounts (l : Launch) (g : GG) (a : Nat) (b : Nat) (f : Nat → Int32) (h : Nat → Int32) (sz : Nat)  : Met l yX2_copyCounts wsX2_copyCounts rmX2_copyCounts (va_Pc [.ref a, .ref b] (kPre g [xI g a 49 f, xI g b 49 h] sz)) (va_Qv (fun (u : Unit) => True) (kB g (va_A [xI g a 49 f, xI g b 49 h] sz) (fun u => [xI g a 49 f, xI g b 49 f])) (va_A [xI g a 49 f, xI g b 49 h] sz)) 0 0 (va_A [xI g a 49 f, xI g b 49 h] sz) := by
  refine kMet (cc := cX2_copyCounts) (maxL := 3) (ret := none) (own := RX2) (by decide) rfl rfl (Nat.le_of_ble_eq_true rfl) ?_
  intro p e s m args below meth c ls Q H locs A F w hl hnm hA hQ
  have hx := F.1.1
  have hb := F.1.2.1
  have hts := F.1.2.2.2.2
  have hl : lv_has ls 3 [(0, .ref a), (1, .ref b)] := hl
  refine lv_iconst (v := nI 0) hx hb dX2_copyCounts_0 (by decide) ?_
  refine lv_istore_n (lv' := [(2, .int (nI 0)), (0, .ref a), (1, .ref b)]) hx hb dX2_copyCounts_1 rfl hl (by decide) rfl (fun ls hl => ?_)
  have w : kW g A s [xI g a 49 f, xI g b 49 (fillU f h 0)] H locs := by
    have w := w
    rw [fillU_0]; exact w
  have LP_1 : ∀ (fu : Nat) (i : Nat) (h1 : i ≤ 49) (H : Heap) (locs : List Loc) (ls : Array Slot), 50 - i < fu → kW g A s [xI g a 49 f, xI g b 49 (fillU f h i)] H locs → lv_has ls 3 [(2, .int (nI i)), (0, .ref a), (1, .ref b)] → W p l e rmX2_copyCounts s m args below meth c H locs 0 0 Q (F0 m 2 ls []) := by
    intro fu
    induction fu with
    | zero => intro i h1 H locs ls hlt; omega
    | succ fu ih_1 =>
      intro i h1 H locs ls hlt w hl
      refine lv_iload_n hx hb dX2_copyCounts_2 rfl (lv_at hl 0 rfl) ?_
      refine lv_aload_n hx hb dX2_copyCounts_3 rfl (lv_at hl 1 rfl) ?_
      refine kalen (t0 := 0) (v := nI 49) F w 0 rfl rfl rfl dX2_copyCounts_4 ?_
      refine lv_icmp_ge (tgt := 26) hx hb dX2_copyCounts_5 (by decide) (fun h_2 => ?_) (fun h_2 => ?_)
      · have h_2 : i ≥ 49 := (kc_ge_t (by omega) (by omega)).mp h_2
        have e_3 : i = 49 := by omega
        subst e_3
        have w : kW g A s [xI g a 49 f, xI g b 49 f] H locs := kW.arr w 1 rfl (fun j hj => fillU_in hj) rfl
        subst hA
        subst hQ
        exact kretv F w () [0, 1] rfl rfl (trivial) (Nat.le_of_ble_eq_true rfl) (Nat.le_of_ble_eq_true rfl) dX2_copyCounts_26
      · have h_2 : i < 49 := (kc_ge_f (by omega) (by omega)).mp h_2
        refine lv_iload_n hx hb dX2_copyCounts_8 rfl (lv_at hl 0 rfl) ?_
        refine lv_aload_n hx hb dX2_copyCounts_9 rfl (lv_at hl 2 rfl) ?_
        refine kalen (t0 := 0) (v := nI 49) F w 1 rfl rfl rfl dX2_copyCounts_10 ?_
        refine lv_icmp_ge (tgt := 26) hx hb dX2_copyCounts_11 (by decide) (fun h_4 => ?_) (fun h_4 => ?_)
        · have h_4 : i ≥ 49 := (kc_ge_t (by omega) (by omega)).mp h_4
          omega
        · have h_4 : i < 49 := (kc_ge_f (by omega) (by omega)).mp h_4
          refine lv_aload_n hx hb dX2_copyCounts_14 rfl (lv_at hl 2 rfl) ?_
          refine lv_iload_n hx hb dX2_copyCounts_15 rfl (lv_at hl 0 rfl) ?_
          refine lv_aload_n hx hb dX2_copyCounts_16 rfl (lv_at hl 1 rfl) ?_
          refine lv_iload_n hx hb dX2_copyCounts_17 rfl (lv_at hl 0 rfl) ?_
          refine kiald (v := f i) F w 0 rfl (vp_in_nI (by omega) (by omega)) (congrArg f (nI_clamp (n := i) (by omega))) dX2_copyCounts_18 ?_
          refine kiast (f' := upd (fillU f h i) i (f i)) F w 1 rfl (vp_in_nI (by omega) (by omega)) (congrArg (fun z => upd (fillU f h i) z (f i)) (nI_clamp (n := i) (by omega))) (wn := [xI g a 49 f, xI g b 49 (upd (fillU f h i) i (f i))]) rfl dX2_copyCounts_19 (fun H locs w => ?_)
          have w : kW g A s [xI g a 49 f, xI g b 49 (fillU f h (i + 1))] H locs := by
            have w := w
            rw [← fillU_s]; exact w
          refine lv_iinc (v := nI (i + 1)) (lv' := [(2, .int (nI (i + 1))), (0, .ref a), (1, .ref b)]) hx hb dX2_copyCounts_20 hl (k := 0) rfl (nI_add i 1) (by decide) rfl (fun ls hl => ?_)
          refine lv_goto (tgt := 2) hx hb dX2_copyCounts_23 (by decide) ?_
          exact ih_1 (i + 1) (by omega) _ _ _ (by omega) (kW.perm w [0, 1] rfl rfl) (lv_sub hl [0, 1, 2] rfl)
  exact LP_1 _ 0 (by omega) _ _ _ (Nat.lt_succ_self _) (kW.perm w [0, 1] rfl rfl) (lv_sub hl [0, 1, 2] rfl)
theorem in_X2_copyFrom_X2 : ∀ w ∈ wsX20, w ∈ wsX2_copyFrom := by decide +kernel
theorem hd_X2_copyCounts : yX2_copyCounts.cls ≠ "java/lang/invoke/MethodHandle" ∧ yX2_copyCounts.cls ≠ "java/lang/invoke/VarHandle" ∧ (parseMethodDescriptor yX2_copyCounts.desc).map (fun d => d.parameters.length) = some 2 := by decide +kernel
abbrev rmX2_copyFrom : Room := { frames := 1, cells := 0, slots := 0, locals := 22 }
set_option maxHeartbeats 4000000 in
set_option maxRecDepth 100000 in
theorem kX2_copyFrom (l : Launch) (g : GG) (r : Nat) (a : Nat) (b : Nat) (σ : Sg) (r2 : Nat) (a2 : Nat) (b2 : Nat) (τ : Sg) (sz : Nat)  : Met l yX2_copyFrom wsX2_copyFrom rmX2_copyFrom (va_Pc [.ref r, .ref r2] (kPre g [cR r a b σ, xI g a 49 (zT σ), xI g b 49 (zI σ), cR r2 a2 b2 τ, xI g a2 49 (zT τ), xI g b2 49 (zI τ)] sz)) (va_Qv (fun (u : Unit) => True) (kB g (va_A [cR r a b σ, xI g a 49 (zT σ), xI g b 49 (zI σ), cR r2 a2 b2 τ, xI g a2 49 (zT τ), xI g b2 49 (zI τ)] sz) (fun u => [cR r a b τ, xI g a 49 (zT τ), xI g b 49 (zI τ), cR r2 a2 b2 τ, xI g a2 49 (zT τ), xI g b2 49 (zI τ)])) (va_A [cR r a b σ, xI g a 49 (zT σ), xI g b 49 (zI σ), cR r2 a2 b2 τ, xI g a2 49 (zT τ), xI g b2 49 (zI τ)] sz)) 0 0 (va_A [cR r a b σ, xI g a 49 (zT σ), xI g b 49 (zI σ), cR r2 a2 b2 τ, xI g a2 49 (zT τ), xI g b2 49 (zI τ)] sz) := by
  refine kMet (cc := cX2_copyFrom) (maxL := 2) (ret := none) (own := RX2) (by decide) rfl rfl (Nat.le_of_ble_eq_true rfl) ?_
  intro p e s m args below meth c ls Q H locs A F w hl hnm hA hQ
  have hx := F.1.1
  have hb := F.1.2.1
  have hts := F.1.2.2.2.2
  have hl : lv_has ls 2 [(0, .ref r), (1, .ref r2)] := hl
  refine lv_aload_n hx hb dX2_copyFrom_0 rfl (lv_at hl 1 rfl) ?_
  refine lv_ifnonnull (tgt := 5) hx hb dX2_copyFrom_1 (by decide) ?_
  refine lv_aload_n hx hb dX2_copyFrom_5 rfl (lv_at hl 0 rfl) ?_
  refine lv_aload_n hx hb dX2_copyFrom_6 rfl (lv_at hl 1 rfl) ?_
  refine kget (fs := [.long (zB (zO τ)), .long (zB (zL τ)), .long (zB (zS τ)), .long (zB (zF τ)), .long (zB (zV τ)), .ref a2, .ref b2]) F w in_X2_copyFrom_X2 3 rfl rfl 0 (by decide) (by decide +kernel) rfl rfl dX2_copyFrom_7 ?_
  refine kput (fs := [.long (zB (zO σ)), .long (zB (zL σ)), .long (zB (zS σ)), .long (zB (zF σ)), .long (zB (zV σ)), .ref a, .ref b]) F w in_X2_copyFrom_X2 tyX2_ok nmX2 0 rfl rfl 0 (by decide) (by decide +kernel) rfl rfl (rfl) (rfl) (Nat.le_of_ble_eq_true rfl) (wn := [xO r 2 [.long (zB (zO τ)), .long (zB (zL σ)), .long (zB (zS σ)), .long (zB (zF σ)), .long (zB (zV σ)), .ref a, .ref b], xI g a 49 (zT σ), xI g b 49 (zI σ), cR r2 a2 b2 τ, xI g a2 49 (zT τ), xI g b2 49 (zI τ)]) rfl dX2_copyFrom_10 (fun H locs w => ?_)
  refine lv_aload_n hx hb dX2_copyFrom_13 rfl (lv_at hl 0 rfl) ?_
  refine lv_aload_n hx hb dX2_copyFrom_14 rfl (lv_at hl 1 rfl) ?_
  refine kget (fs := [.long (zB (zO τ)), .long (zB (zL τ)), .long (zB (zS τ)), .long (zB (zF τ)), .long (zB (zV τ)), .ref a2, .ref b2]) F w in_X2_copyFrom_X2 3 rfl rfl 1 (by decide) (by decide +kernel) rfl rfl dX2_copyFrom_15 ?_
  refine kput (fs := [.long (zB (zO τ)), .long (zB (zL σ)), .long (zB (zS σ)), .long (zB (zF σ)), .long (zB (zV σ)), .ref a, .ref b]) F w in_X2_copyFrom_X2 tyX2_ok nmX2 0 rfl rfl 1 (by decide) (by decide +kernel) rfl rfl (rfl) (rfl) (Nat.le_of_ble_eq_true rfl) (wn := [xO r 2 [.long (zB (zO τ)), .long (zB (zL τ)), .long (zB (zS σ)), .long (zB (zF σ)), .long (zB (zV σ)), .ref a, .ref b], xI g a 49 (zT σ), xI g b 49 (zI σ), cR r2 a2 b2 τ, xI g a2 49 (zT τ), xI g b2 49 (zI τ)]) rfl dX2_copyFrom_18 (fun H locs w => ?_)
  refine lv_aload_n hx hb dX2_copyFrom_21 rfl (lv_at hl 0 rfl) ?_
  refine lv_aload_n hx hb dX2_copyFrom_22 rfl (lv_at hl 1 rfl) ?_
  refine kget (fs := [.long (zB (zO τ)), .long (zB (zL τ)), .long (zB (zS τ)), .long (zB (zF τ)), .long (zB (zV τ)), .ref a2, .ref b2]) F w in_X2_copyFrom_X2 3 rfl rfl 2 (by decide) (by decide +kernel) rfl rfl dX2_copyFrom_23 ?_
  refine kput (fs := [.long (zB (zO τ)), .long (zB (zL τ)), .long (zB (zS σ)), .long (zB (zF σ)), .long (zB (zV σ)), .ref a, .ref b]) F w in_X2_copyFrom_X2 tyX2_ok nmX2 0 rfl rfl 2 (by decide) (by decide +kernel) rfl rfl (rfl) (rfl) (Nat.le_of_ble_eq_true rfl) (wn := [xO r 2 [.long (zB (zO τ)), .long (zB (zL τ)), .long (zB (zS τ)), .long (zB (zF σ)), .long (zB (zV σ)), .ref a, .ref b], xI g a 49 (zT σ), xI g b 49 (zI σ), cR r2 a2 b2 τ, xI g a2 49 (zT τ), xI g b2 49 (zI τ)]) rfl dX2_copyFrom_26 (fun H locs w => ?_)
  refine lv_aload_n hx hb dX2_copyFrom_29 rfl (lv_at hl 0 rfl) ?_
  refine lv_aload_n hx hb dX2_copyFrom_30 rfl (lv_at hl 1 rfl) ?_
  refine kget (fs := [.long (zB (zO τ)), .long (zB (zL τ)), .long (zB (zS τ)), .long (zB (zF τ)), .long (zB (zV τ)), .ref a2, .ref b2]) F w in_X2_copyFrom_X2 3 rfl rfl 3 (by decide) (by decide +kernel) rfl rfl dX2_copyFrom_31 ?_
  refine kput (fs := [.long (zB (zO τ)), .long (zB (zL τ)), .long (zB (zS τ)), .long (zB (zF σ)), .long (zB (zV σ)), .ref a, .ref b]) F w in_X2_copyFrom_X2 tyX2_ok nmX2 0 rfl rfl 3 (by decide) (by decide +kernel) rfl rfl (rfl) (rfl) (Nat.le_of_ble_eq_true rfl) (wn := [xO r 2 [.long (zB (zO τ)), .long (zB (zL τ)), .long (zB (zS τ)), .long (zB (zF τ)), .long (zB (zV σ)), .ref a, .ref b], xI g a 49 (zT σ), xI g b 49 (zI σ), cR r2 a2 b2 τ, xI g a2 49 (zT τ), xI g b2 49 (zI τ)]) rfl dX2_copyFrom_34 (fun H locs w => ?_)
  refine lv_aload_n hx hb dX2_copyFrom_37 rfl (lv_at hl 0 rfl) ?_
  refine lv_aload_n hx hb dX2_copyFrom_38 rfl (lv_at hl 1 rfl) ?_
  refine kget (fs := [.long (zB (zO τ)), .long (zB (zL τ)), .long (zB (zS τ)), .long (zB (zF τ)), .long (zB (zV τ)), .ref a2, .ref b2]) F w in_X2_copyFrom_X2 3 rfl rfl 4 (by decide) (by decide +kernel) rfl rfl dX2_copyFrom_39 ?_
  refine kput (fs := [.long (zB (zO τ)), .long (zB (zL τ)), .long (zB (zS τ)), .long (zB (zF τ)), .long (zB (zV σ)), .ref a, .ref b]) F w in_X2_copyFrom_X2 tyX2_ok nmX2 0 rfl rfl 4 (by decide) (by decide +kernel) rfl rfl (rfl) (rfl) (Nat.le_of_ble_eq_true rfl) (wn := [xO r 2 [.long (zB (zO τ)), .long (zB (zL τ)), .long (zB (zS τ)), .long (zB (zF τ)), .long (zB (zV τ)), .ref a, .ref b], xI g a 49 (zT σ), xI g b 49 (zI σ), cR r2 a2 b2 τ, xI g a2 49 (zT τ), xI g b2 49 (zI τ)]) rfl dX2_copyFrom_42 (fun H locs w => ?_)
  refine lv_aload_n hx hb dX2_copyFrom_45 rfl (lv_at hl 1 rfl) ?_
  refine kget (fs := [.long (zB (zO τ)), .long (zB (zL τ)), .long (zB (zS τ)), .long (zB (zF τ)), .long (zB (zV τ)), .ref a2, .ref b2]) F w in_X2_copyFrom_X2 3 rfl rfl 5 (by decide) (by decide +kernel) rfl rfl dX2_copyFrom_46 ?_
  refine lv_aload_n hx hb dX2_copyFrom_49 rfl (lv_at hl 0 rfl) ?_
  refine kget (fs := [.long (zB (zO τ)), .long (zB (zL τ)), .long (zB (zS τ)), .long (zB (zF τ)), .long (zB (zV τ)), .ref a, .ref b]) F w in_X2_copyFrom_X2 0 rfl rfl 5 (by decide) (by decide +kernel) rfl rfl dX2_copyFrom_50 ?_
  refine kcallv (wc := [xI g a2 49 (zT τ), xI g a 49 (zT σ)]) (wr := [xO r 2 [.long (zB (zO τ)), .long (zB (zL τ)), .long (zB (zS τ)), .long (zB (zF τ)), .long (zB (zV τ)), .ref a, .ref b], xI g b 49 (zI σ), cR r2 a2 b2 τ, xI g b2 49 (zI τ)]) (wn := fun (u : Unit) => [xO r 2 [.long (zB (zO τ)), .long (zB (zL τ)), .long (zB (zS τ)), .long (zB (zF τ)), .long (zB (zV τ)), .ref a, .ref b], xI g a 49 (zT τ), xI g b 49 (zI σ), cR r2 a2 b2 τ, xI g a2 49 (zT τ), xI g b2 49 (zI τ)]) F w [4, 1] [0, 2, 3, 5] [0, 5, 1, 2, 4, 3] rfl rfl rfl (fun _ => rfl)
    (fun hp => va_runS (As := [.ref a2, .ref a]) (rest := []) F.1 (kX2_copyCounts l g a2 a (zT τ) (zT σ) H.size ) (va_cwS 2 hts gX2_copyFrom_X2_copyCounts rfl rfl rfl hd_X2_copyCounts ⟨Nat.le_of_ble_eq_true rfl, Nat.le_of_ble_eq_true rfl⟩) hp rfl rfl hl.1 rfl (lv_room (Nat.le_of_ble_eq_true rfl)) dX2_copyFrom_53 ⟨Nat.le_of_ble_eq_true rfl, Nat.le_of_ble_eq_true rfl⟩)
    (fun _ H locs h_2 w => ?_)
  refine lv_aload_n hx hb dX2_copyFrom_56 rfl (lv_at hl 1 rfl) ?_
  refine kget (fs := [.long (zB (zO τ)), .long (zB (zL τ)), .long (zB (zS τ)), .long (zB (zF τ)), .long (zB (zV τ)), .ref a2, .ref b2]) F w in_X2_copyFrom_X2 3 rfl rfl 6 (by decide) (by decide +kernel) rfl rfl dX2_copyFrom_57 ?_
  refine lv_aload_n hx hb dX2_copyFrom_60 rfl (lv_at hl 0 rfl) ?_
  refine kget (fs := [.long (zB (zO τ)), .long (zB (zL τ)), .long (zB (zS τ)), .long (zB (zF τ)), .long (zB (zV τ)), .ref a, .ref b]) F w in_X2_copyFrom_X2 0 rfl rfl 6 (by decide) (by decide +kernel) rfl rfl dX2_copyFrom_61 ?_
  refine kcallv (wc := [xI g b2 49 (zI τ), xI g b 49 (zI σ)]) (wr := [xO r 2 [.long (zB (zO τ)), .long (zB (zL τ)), .long (zB (zS τ)), .long (zB (zF τ)), .long (zB (zV τ)), .ref a, .ref b], xI g a 49 (zT τ), cR r2 a2 b2 τ, xI g a2 49 (zT τ)]) (wn := fun (u : Unit) => [xO r 2 [.long (zB (zO τ)), .long (zB (zL τ)), .long (zB (zS τ)), .long (zB (zF τ)), .long (zB (zV τ)), .ref a, .ref b], xI g a 49 (zT τ), xI g b 49 (zI τ), cR r2 a2 b2 τ, xI g a2 49 (zT τ), xI g b2 49 (zI τ)]) F w [5, 2] [0, 1, 3, 4] [0, 1, 5, 2, 3, 4] rfl rfl rfl (fun _ => rfl)
    (fun hp => va_runS (As := [.ref b2, .ref b]) (rest := []) F.1 (kX2_copyCounts l g b2 b (zI τ) (zI σ) H.size ) (va_cwS 2 hts gX2_copyFrom_X2_copyCounts rfl rfl rfl hd_X2_copyCounts ⟨Nat.le_of_ble_eq_true rfl, Nat.le_of_ble_eq_true rfl⟩) hp rfl rfl hl.1 rfl (lv_room (Nat.le_of_ble_eq_true rfl)) dX2_copyFrom_64 ⟨Nat.le_of_ble_eq_true rfl, Nat.le_of_ble_eq_true rfl⟩)
    (fun _ H locs h_4 w => ?_)
  have w : kW g A s [cR r a b τ, xI g a 49 (zT τ), xI g b 49 (zI τ), cR r2 a2 b2 τ, xI g a2 49 (zT τ), xI g b2 49 (zI τ)] H locs := by
    have w := w
    exact w
  subst hA
  subst hQ
  exact kretv F w () [0, 1, 2, 3, 4, 5] rfl rfl (trivial) (Nat.le_of_ble_eq_true rfl) (Nat.le_of_ble_eq_true rfl) dX2_copyFrom_67
theorem in_X2_turn_X2 : ∀ w ∈ wsX20, w ∈ wsX2_turn := by decide +kernel
theorem hd_X5_contains : yX5_contains.cls ≠ "java/lang/invoke/MethodHandle" ∧ yX5_contains.cls ≠ "java/lang/invoke/VarHandle" ∧ (parseMethodDescriptor yX5_contains.desc).map (fun d => d.parameters.length) = some 2 := by decide +kernel
theorem hd_X5_countUp : yX5_countUp.cls ≠ "java/lang/invoke/MethodHandle" ∧ yX5_countUp.cls ≠ "java/lang/invoke/VarHandle" ∧ (parseMethodDescriptor yX5_countUp.desc).map (fun d => d.parameters.length) = some 2 := by decide +kernel
abbrev rmX2_turn : Room := { frames := 1, cells := 0, slots := 0, locals := 22 }
set_option maxHeartbeats 4000000 in
set_option maxRecDepth 100000 in
theorem kX2_turn (l : Launch) (g : GG) (r : Nat) (a : Nat) (b : Nat) (σ : Sg) (d : Nat) (sz : Nat) (hd : 1 ≤ d ∧ d ≤ 48) : Met l yX2_turn wsX2_turn rmX2_turn (va_Pc [.ref r, .int (nI d)] (kPre g [cR r a b σ, xI g a 49 (zT σ), xI g b 49 (zI σ)] sz)) (va_Qv (fun (u : Unit) => True) (kB g (va_A [cR r a b σ, xI g a 49 (zT σ), xI g b 49 (zI σ)] sz) (fun u => [cR r a b (turnL d σ), xI g a 49 (zT (turnL d σ)), xI g b 49 (zI (turnL d σ))])) (va_A [cR r a b σ, xI g a 49 (zT σ), xI g b 49 (zI σ)] sz)) 0 0 (va_A [cR r a b σ, xI g a 49 (zT σ), xI g b 49 (zI σ)] sz) := by
  refine kMet (cc := cX2_turn) (maxL := 2) (ret := none) (own := RX2) (by decide) rfl rfl (Nat.le_of_ble_eq_true rfl) ?_
  intro p e s m args below meth c ls Q H locs A F w hl hnm hA hQ
  have hx := F.1.1
  have hb := F.1.2.1
  have hts := F.1.2.2.2.2
  have hl : lv_has ls 2 [(0, .ref r), (1, .int (nI d))] := hl
  refine lv_aload_n hx hb dX2_turn_0 rfl (lv_at hl 0 rfl) ?_
  refine kget (fs := [.long (zB (zO σ)), .long (zB (zL σ)), .long (zB (zS σ)), .long (zB (zF σ)), .long (zB (zV σ)), .ref a, .ref b]) F w in_X2_turn_X2 0 rfl rfl 1 (by decide) (by decide +kernel) rfl rfl dX2_turn_1 ?_
  refine lv_iload_n hx hb dX2_turn_4 rfl (lv_at hl 1 rfl) ?_
  refine kcalli (wc := []) (wr := [cR r a b σ, xI g a 49 (zT σ), xI g b 49 (zI σ)]) (wn := fun (u : Unit) => [cR r a b σ, xI g a 49 (zT σ), xI g b 49 (zI σ)]) F w [] [0, 1, 2] [0, 1, 2] rfl rfl rfl (fun _ => rfl)
    (fun hp => va_runSN (As := [.long (zB (zL σ)), .int (nI d)]) (rest := []) F.1 (kX5_contains l g (zB (zL σ)) d H.size (by omega)) (⟨va_cnB (host := RX5) 2 hts gX2_turn_X5_contains_n38 rfl rfl rfl (F.2.2.2.1.2.1 _ (by decide +kernel)) (hts (.initialized RX5) (by decide +kernel)) hd_X5_contains ⟨Nat.le_of_ble_eq_true rfl, Nat.le_of_ble_eq_true rfl⟩, hts (.static yX5_contains) (by decide +kernel), trivial⟩) hp rfl rfl hl.1 rfl (lv_room (Nat.le_of_ble_eq_true rfl)) dX2_turn_5 ⟨Nat.le_of_ble_eq_true rfl, Nat.le_of_ble_eq_true rfl⟩)
    (fun r_1 _ H locs h_2 w => ?_)
  subst h_2
  refine ktopi (y := bI (zL σ d)) (congrArg bI (zG_in (by omega) (by omega))) ?_
  refine lv_if_eq (tgt := 12) hx hb dX2_turn_8 (by decide) (fun h_3 => ?_) (fun h_3 => ?_)
  · have h_3 : (zL σ d) = false := bI_z.mp h_3
    refine lv_aload_n hx hb dX2_turn_12 rfl (lv_at hl 0 rfl) ?_
    refine lv_dup hx hb dX2_turn_13 rfl ?_
    refine kget (fs := [.long (zB (zO σ)), .long (zB (zL σ)), .long (zB (zS σ)), .long (zB (zF σ)), .long (zB (zV σ)), .ref a, .ref b]) F w in_X2_turn_X2 0 rfl rfl 0 (by decide) (by decide +kernel) rfl rfl dX2_turn_14 ?_
    refine lv_iload_n hx hb dX2_turn_17 rfl (lv_at hl 1 rfl) ?_
    refine kcalll (wc := []) (wr := [cR r a b σ, xI g a 49 (zT σ), xI g b 49 (zI σ)]) (wn := fun (u : Unit) => [cR r a b σ, xI g a 49 (zT σ), xI g b 49 (zI σ)]) F w [] [0, 1, 2] [0, 1, 2] rfl rfl rfl (fun _ => rfl)
      (fun hp => va_runSN (As := [.int (nI d)]) (rest := [.long (zB (zO σ)), .ref r]) F.1 (kX5_bit l g d H.size (by omega)) (⟨va_cnB (host := RX5) 1 hts gX2_turn_X5_bit_n42 rfl rfl rfl (F.2.2.2.1.2.1 _ (by decide +kernel)) (hts (.initialized RX5) (by decide +kernel)) hd_X5_bit ⟨Nat.le_of_ble_eq_true rfl, Nat.le_of_ble_eq_true rfl⟩, hts (.static yX5_bit) (by decide +kernel), trivial⟩) hp rfl rfl hl.1 rfl (lv_room (Nat.le_of_ble_eq_true rfl)) dX2_turn_18 ⟨Nat.le_of_ble_eq_true rfl, Nat.le_of_ble_eq_true rfl⟩)
      (fun r_4 _ H locs h_5 w => ?_)
    subst h_5
    refine lv_lxor hx hb dX2_turn_21 ?_
    refine ktopl (y := zB (zO (turnS d σ))) (zO_turn hd.1 hd.2) ?_
    refine kput (fs := [.long (zB (zO σ)), .long (zB (zL σ)), .long (zB (zS σ)), .long (zB (zF σ)), .long (zB (zV σ)), .ref a, .ref b]) F w in_X2_turn_X2 tyX2_ok nmX2 0 rfl rfl 0 (by decide) (by decide +kernel) rfl rfl (rfl) (rfl) (Nat.le_of_ble_eq_true rfl) (wn := [xO r 2 [.long (zB (zO (turnS d σ))), .long (zB (zL σ)), .long (zB (zS σ)), .long (zB (zF σ)), .long (zB (zV σ)), .ref a, .ref b], xI g a 49 (zT σ), xI g b 49 (zI σ)]) rfl dX2_turn_22 (fun H locs w => ?_)
    refine lv_aload_n hx hb dX2_turn_25 rfl (lv_at hl 0 rfl) ?_
    refine kget (fs := [.long (zB (zO (turnS d σ))), .long (zB (zL σ)), .long (zB (zS σ)), .long (zB (zF σ)), .long (zB (zV σ)), .ref a, .ref b]) F w in_X2_turn_X2 0 rfl rfl 5 (by decide) (by decide +kernel) rfl rfl dX2_turn_26 ?_
    refine lv_iload_n hx hb dX2_turn_29 rfl (lv_at hl 1 rfl) ?_
    refine kcallv (wc := [xI g a 49 (zT σ)]) (wr := [xO r 2 [.long (zB (zO (turnS d σ))), .long (zB (zL σ)), .long (zB (zS σ)), .long (zB (zF σ)), .long (zB (zV σ)), .ref a, .ref b], xI g b 49 (zI σ)]) (wn := fun (u : Unit) => [xO r 2 [.long (zB (zO (turnS d σ))), .long (zB (zL σ)), .long (zB (zS σ)), .long (zB (zF σ)), .long (zB (zV σ)), .ref a, .ref b], xI g a 49 (upd (zT σ) d ((zT σ) d + 1)), xI g b 49 (zI σ)]) F w [1] [0, 2] [0, 2, 1] rfl rfl rfl (fun _ => rfl)
      (fun hp => va_runSN (As := [.ref a, .int (nI d)]) (rest := []) F.1 (kX5_countUp l g a (zT σ) d H.size (by omega)) (⟨va_cnB (host := RX5) 2 hts gX2_turn_X5_countUp_n46 rfl rfl rfl (F.2.2.2.1.2.1 _ (by decide +kernel)) (hts (.initialized RX5) (by decide +kernel)) hd_X5_countUp ⟨Nat.le_of_ble_eq_true rfl, Nat.le_of_ble_eq_true rfl⟩, hts (.static yX5_countUp) (by decide +kernel), trivial⟩) hp rfl rfl hl.1 rfl (lv_room (Nat.le_of_ble_eq_true rfl)) dX2_turn_30 ⟨Nat.le_of_ble_eq_true rfl, Nat.le_of_ble_eq_true rfl⟩)
      (fun _ H locs h_7 w => ?_)
    have w : kW g A s [cR r a b (turnL d σ), xI g a 49 (zT (turnL d σ)), xI g b 49 (zI (turnL d σ))] H locs := by
      have w := w
      rw [turnL_n h_3]; exact w
    subst hA
    subst hQ
    exact kretv F w () [0, 1, 2] rfl rfl (trivial) (Nat.le_of_ble_eq_true rfl) (Nat.le_of_ble_eq_true rfl) dX2_turn_33
  · have h_3 : (zL σ d) = true := bI_o.mp h_3
    have w : kW g A s [cR r a b (turnL d σ), xI g a 49 (zT (turnL d σ)), xI g b 49 (zI (turnL d σ))] H locs := by
      have w := w
      rw [turnL_t h_3]; exact w
    subst hA
    subst hQ
    exact kretv F w () [0, 1, 2] rfl rfl (trivial) (Nat.le_of_ble_eq_true rfl) (Nat.le_of_ble_eq_true rfl) dX2_turn_11
theorem in_X2_turnedBy_X2 : ∀ w ∈ wsX20, w ∈ wsX2_turnedBy := by decide +kernel
theorem hd_X5_multiplesOf : yX5_multiplesOf.cls ≠ "java/lang/invoke/MethodHandle" ∧ yX5_multiplesOf.cls ≠ "java/lang/invoke/VarHandle" ∧ (parseMethodDescriptor yX5_multiplesOf.desc).map (fun d => d.parameters.length) = some 1 := by decide +kernel
abbrev rmX2_turnedBy : Room := { frames := 2, cells := 0, slots := 0, locals := 44 }
set_option maxHeartbeats 4000000 in
set_option maxRecDepth 100000 in
theorem kX2_turnedBy (l : Launch) (g : GG) (r : Nat) (a : Nat) (b : Nat) (σ : Sg) (k : Nat) (sz : Nat) (hk : 1 ≤ k ∧ k ≤ 48) : Met l yX2_turnedBy wsX2_turnedBy rmX2_turnedBy (va_Pc [.ref r, .int (nI k)] (kPre g [cR r a b σ, xI g a 49 (zT σ), xI g b 49 (zI σ)] sz)) (va_Ql (fun (r : Int64) (u : Unit) => r = zB (turnP σ k)) (kB g (va_A [cR r a b σ, xI g a 49 (zT σ), xI g b 49 (zI σ)] sz) (fun u => [cR r a b σ, xI g a 49 (zT σ), xI g b 49 (zI σ)])) (va_A [cR r a b σ, xI g a 49 (zT σ), xI g b 49 (zI σ)] sz)) 0 0 (va_A [cR r a b σ, xI g a 49 (zT σ), xI g b 49 (zI σ)] sz) := by
  refine kMet (cc := cX2_turnedBy) (maxL := 2) (ret := (some .long)) (own := RX2) (by decide) rfl rfl (Nat.le_of_ble_eq_true rfl) ?_
  intro p e s m args below meth c ls Q H locs A F w hl hnm hA hQ
  have hx := F.1.1
  have hb := F.1.2.1
  have hts := F.1.2.2.2.2
  have hl : lv_has ls 2 [(0, .ref r), (1, .int (nI k))] := hl
  refine lv_iload_n hx hb dX2_turnedBy_0 rfl (lv_at hl 1 rfl) ?_
  refine kcalll (wc := []) (wr := [cR r a b σ, xI g a 49 (zT σ), xI g b 49 (zI σ)]) (wn := fun (u : Unit) => [cR r a b σ, xI g a 49 (zT σ), xI g b 49 (zI σ)]) F w [] [0, 1, 2] [0, 1, 2] rfl rfl rfl (fun _ => rfl)
    (fun hp => va_runSN (As := [.int (nI k)]) (rest := []) F.1 (kX5_multiplesOf l g k H.size (by omega)) (⟨va_cnB (host := RX5) 1 hts gX2_turnedBy_X5_multiplesOf_n50 rfl rfl rfl (F.2.2.2.1.2.1 _ (by decide +kernel)) (hts (.initialized RX5) (by decide +kernel)) hd_X5_multiplesOf ⟨Nat.le_of_ble_eq_true rfl, Nat.le_of_ble_eq_true rfl⟩, hts (.static yX5_multiplesOf) (by decide +kernel), trivial⟩) hp rfl rfl hl.1 rfl (lv_room (Nat.le_of_ble_eq_true rfl)) dX2_turnedBy_1 ⟨Nat.le_of_ble_eq_true rfl, Nat.le_of_ble_eq_true rfl⟩)
    (fun r_1 _ H locs h_2 w => ?_)
  subst h_2
  refine lv_aload_n hx hb dX2_turnedBy_4 rfl (lv_at hl 0 rfl) ?_
  refine kget (fs := [.long (zB (zO σ)), .long (zB (zL σ)), .long (zB (zS σ)), .long (zB (zF σ)), .long (zB (zV σ)), .ref a, .ref b]) F w in_X2_turnedBy_X2 0 rfl rfl 1 (by decide) (by decide +kernel) rfl rfl dX2_turnedBy_5 ?_
  refine lv_ldc2 (v := (-1)) hx hb F.1.2.2.2.1 (hts (.constantLong RX2 53 (-1)) (by decide +kernel)) dX2_turnedBy_8 ?_
  refine lv_lxor hx hb dX2_turnedBy_11 ?_
  refine lv_land hx hb dX2_turnedBy_12 ?_
  refine ktopl (y := zB (turnP σ k)) (turnP_b) ?_
  subst hA
  subst hQ
  exact kretl F w () [0, 1, 2] rfl rfl (rfl) (Nat.le_of_ble_eq_true rfl) (Nat.le_of_ble_eq_true rfl) dX2_turnedBy_13
theorem in_X2_makePass_X2 : ∀ w ∈ wsX20, w ∈ wsX2_makePass := by decide +kernel
theorem hd_X2_turn : yX2_turn.cls ≠ "java/lang/invoke/MethodHandle" ∧ yX2_turn.cls ≠ "java/lang/invoke/VarHandle" ∧ (parseMethodDescriptor yX2_turn.desc).map (fun d => d.parameters.length) = some 1 := by decide +kernel
abbrev rmX2_makePass : Room := { frames := 2, cells := 0, slots := 0, locals := 43 }
set_option maxHeartbeats 4000000 in
set_option maxRecDepth 100000 in
theorem kX2_makePass (l : Launch) (g : GG) (r : Nat) (a : Nat) (b : Nat) (σ : Sg) (k : Nat) (sz : Nat) (hk : 1 ≤ k ∧ k ≤ 48) : Met l yX2_makePass wsX2_makePass rmX2_makePass (va_Pc [.ref r, .int (nI k)] (kPre g [cR r a b σ, xI g a 49 (zT σ), xI g b 49 (zI σ)] sz)) (va_Qv (fun (u : Unit) => True) (kB g (va_A [cR r a b σ, xI g a 49 (zT σ), xI g b 49 (zI σ)] sz) (fun u => [cR r a b (passS k σ), xI g a 49 (zT (passS k σ)), xI g b 49 (zI (passS k σ))])) (va_A [cR r a b σ, xI g a 49 (zT σ), xI g b 49 (zI σ)] sz)) 0 0 (va_A [cR r a b σ, xI g a 49 (zT σ), xI g b 49 (zI σ)] sz) := by
  refine kMet (cc := cX2_makePass) (maxL := 4) (ret := none) (own := RX2) (by decide) rfl rfl (Nat.le_of_ble_eq_true rfl) ?_
  intro p e s m args below meth c ls Q H locs A F w hl hnm hA hQ
  have hx := F.1.1
  have hb := F.1.2.1
  have hts := F.1.2.2.2.2
  have hl : lv_has ls 4 [(0, .ref r), (1, .int (nI k))] := hl
  refine lv_aload_n hx hb dX2_makePass_0 rfl (lv_at hl 0 rfl) ?_
  refine kget (fs := [.long (zB (zO σ)), .long (zB (zL σ)), .long (zB (zS σ)), .long (zB (zF σ)), .long (zB (zV σ)), .ref a, .ref b]) F w in_X2_makePass_X2 0 rfl rfl 6 (by decide) (by decide +kernel) rfl rfl dX2_makePass_1 ?_
  refine lv_iload_n hx hb dX2_makePass_4 rfl (lv_at hl 1 rfl) ?_
  refine kcallv (wc := [xI g b 49 (zI σ)]) (wr := [cR r a b σ, xI g a 49 (zT σ)]) (wn := fun (u : Unit) => [cR r a b σ, xI g a 49 (zT σ), xI g b 49 (upd (zI σ) k ((zI σ) k + 1))]) F w [2] [0, 1] [0, 1, 2] rfl rfl rfl (fun _ => rfl)
    (fun hp => va_runSN (As := [.ref b, .int (nI k)]) (rest := []) F.1 (kX5_countUp l g b (zI σ) k H.size (by omega)) (⟨va_cnB (host := RX5) 2 hts gX2_makePass_X5_countUp_n46 rfl rfl rfl (F.2.2.2.1.2.1 _ (by decide +kernel)) (hts (.initialized RX5) (by decide +kernel)) hd_X5_countUp ⟨Nat.le_of_ble_eq_true rfl, Nat.le_of_ble_eq_true rfl⟩, hts (.static yX5_countUp) (by decide +kernel), trivial⟩) hp rfl rfl hl.1 rfl (lv_room (Nat.le_of_ble_eq_true rfl)) dX2_makePass_5 ⟨Nat.le_of_ble_eq_true rfl, Nat.le_of_ble_eq_true rfl⟩)
    (fun _ H locs h_2 w => ?_)
  have w : kW g A s [cR r a b (timeS k σ), xI g a 49 (zT (timeS k σ)), xI g b 49 (zI (timeS k σ))] H locs := by
    have w := w
    exact w
  refine lv_iload_n hx hb dX2_makePass_8 rfl (lv_at hl 1 rfl) ?_
  refine kcalli (wc := []) (wr := [cR r a b (timeS k σ), xI g a 49 (zT (timeS k σ)), xI g b 49 (zI (timeS k σ))]) (wn := fun (u : Unit) => [cR r a b (timeS k σ), xI g a 49 (zT (timeS k σ)), xI g b 49 (zI (timeS k σ))]) F w [] [0, 1, 2] [0, 1, 2] rfl rfl rfl (fun _ => rfl)
    (fun hp => va_runSN (As := [.int (nI k)]) (rest := []) F.1 (kX5_timesInRow l g k H.size (by omega)) (⟨va_cnB (host := RX5) 1 hts gX2_makePass_X5_timesInRow_n55 rfl rfl rfl (F.2.2.2.1.2.1 _ (by decide +kernel)) (hts (.initialized RX5) (by decide +kernel)) hd_X5_timesInRow ⟨Nat.le_of_ble_eq_true rfl, Nat.le_of_ble_eq_true rfl⟩, hts (.static yX5_timesInRow) (by decide +kernel), trivial⟩) hp rfl rfl hl.1 rfl (lv_room (Nat.le_of_ble_eq_true rfl)) dX2_makePass_9 ⟨Nat.le_of_ble_eq_true rfl, Nat.le_of_ble_eq_true rfl⟩)
    (fun r_3 _ H locs h_4 w => ?_)
  subst h_4
  refine lv_istore_n (lv' := [(2, .int (nI (48 / k))), (0, .ref r), (1, .int (nI k))]) hx hb dX2_makePass_12 rfl hl (by decide) rfl (fun ls hl => ?_)
  refine lv_iconst (v := nI 1) hx hb dX2_makePass_13 (by decide) ?_
  refine ktopi (y := nI (0 + 1)) (rfl) ?_
  refine lv_istore_n (lv' := [(3, .int (nI (0 + 1))), (2, .int (nI (48 / k))), (0, .ref r), (1, .int (nI k))]) hx hb dX2_makePass_14 rfl hl (by decide) rfl (fun ls hl => ?_)
  have w : kW g A s [cR r a b (passN k 0 (timeS k σ)), xI g a 49 (zT (passN k 0 (timeS k σ))), xI g b 49 (zI (passN k 0 (timeS k σ)))] H locs := by
    have w := w
    exact w
  have hq : 48 / k ≤ 48 := Nat.div_le_self _ _
  have LP_5 : ∀ (fu : Nat) (j : Nat) (h1 : j ≤ 48 / k) (H : Heap) (locs : List Loc) (ls : Array Slot), 50 - j < fu → kW g A s [cR r a b (passN k j (timeS k σ)), xI g a 49 (zT (passN k j (timeS k σ))), xI g b 49 (zI (passN k j (timeS k σ)))] H locs → lv_has ls 4 [(3, .int (nI (j + 1))), (2, .int (nI (48 / k))), (0, .ref r), (1, .int (nI k))] → W p l e rmX2_makePass s m args below meth c H locs 0 0 Q (F0 m 15 ls []) := by
    intro fu
    induction fu with
    | zero => intro j h1 H locs ls hlt; omega
    | succ fu ih_5 =>
      intro j h1 H locs ls hlt w hl
      refine lv_iload_n hx hb dX2_makePass_15 rfl (lv_at hl 0 rfl) ?_
      refine lv_iload_n hx hb dX2_makePass_16 rfl (lv_at hl 1 rfl) ?_
      refine lv_icmp_gt (tgt := 33) hx hb dX2_makePass_17 (by decide) (fun h_6 => ?_) (fun h_6 => ?_)
      · have h_6 : j + 1 > 48 / k := (kc_gt_t (by omega) (by omega)).mp h_6
        have e_7 : j = 48 / k := by omega
        subst e_7
        have w : kW g A s [cR r a b (passS k σ), xI g a 49 (zT (passS k σ)), xI g b 49 (zI (passS k σ))] H locs := by
          have w := w
          exact w
        subst hA
        subst hQ
        exact kretv F w () [0, 1, 2] rfl rfl (trivial) (Nat.le_of_ble_eq_true rfl) (Nat.le_of_ble_eq_true rfl) dX2_makePass_33
      · have h_6 : j + 1 ≤ 48 / k := (kc_gt_f (by omega) (by omega)).mp h_6
        have him : (j + 1) * k ≤ 48 := mul_in hk.1 (by omega)
        have him1 : 1 ≤ (j + 1) * k := Nat.mul_pos (by omega) hk.1
        refine lv_aload_n hx hb dX2_makePass_20 rfl (lv_at hl 2 rfl) ?_
        refine lv_iload_n hx hb dX2_makePass_21 rfl (lv_at hl 0 rfl) ?_
        refine lv_iload_n hx hb dX2_makePass_22 rfl (lv_at hl 3 rfl) ?_
        refine lv_imul hx hb dX2_makePass_23 ?_
        refine ktopi (y := nI ((j + 1) * k)) (pk_mul (j + 1) k) ?_
        refine kcallv (wc := [cR r a b (passN k j (timeS k σ)), xI g a 49 (zT (passN k j (timeS k σ))), xI g b 49 (zI (passN k j (timeS k σ)))]) (wr := []) (wn := fun (u : Unit) => [cR r a b (turnL ((j + 1) * k) (passN k j (timeS k σ))), xI g a 49 (zT (turnL ((j + 1) * k) (passN k j (timeS k σ)))), xI g b 49 (zI (turnL ((j + 1) * k) (passN k j (timeS k σ))))]) F w [0, 1, 2] [] [0, 1, 2] rfl rfl rfl (fun _ => rfl)
          (fun hp => va_runV (As := [.int (nI ((j + 1) * k))]) (rest := []) F.1 (kX2_turn l g r a b (passN k j (timeS k σ)) ((j + 1) * k) H.size (⟨him1, him⟩)) (cwV 1 hts gX2_makePass_X2_turn rfl rfl rfl ⟨rfl, hd_X2_turn⟩ ⟨Nat.le_of_ble_eq_true rfl, Nat.le_of_ble_eq_true rfl⟩) ⟨hp.1, va_recv F.2.2.2.1.1 w.1 (q0 := 0) (ci := 2) rfl rfl, hp.2⟩ rfl rfl hl.1 rfl (lv_room (Nat.le_of_ble_eq_true rfl)) dX2_makePass_24 ⟨Nat.le_of_ble_eq_true rfl, Nat.le_of_ble_eq_true rfl⟩)
          (fun _ H locs h_9 w => ?_)
        have w : kW g A s [cR r a b (passN k (j + 1) (timeS k σ)), xI g a 49 (zT (passN k (j + 1) (timeS k σ))), xI g b 49 (zI (passN k (j + 1) (timeS k σ)))] H locs := by
          have w := w
          exact w
        refine lv_iinc (v := nI (j + 1 + 1)) (lv' := [(3, .int (nI (j + 1 + 1))), (2, .int (nI (48 / k))), (0, .ref r), (1, .int (nI k))]) hx hb dX2_makePass_27 hl (k := 0) rfl (nI_add (j + 1) 1) (by decide) rfl (fun ls hl => ?_)
        refine lv_goto (tgt := 15) hx hb dX2_makePass_30 (by decide) ?_
        exact ih_5 (j + 1) (by omega) _ _ _ (by omega) (kW.perm w [0, 1, 2] rfl rfl) (lv_sub hl [0, 1, 2, 3] rfl)
  exact LP_5 _ 0 (Nat.zero_le _) _ _ _ (Nat.lt_succ_self _) (kW.perm w [0, 1, 2] rfl rfl) (lv_sub hl [0, 1, 2, 3] rfl)
theorem in_X2_makePasses_X2 : ∀ w ∈ wsX20, w ∈ wsX2_makePasses := by decide +kernel
theorem hd_X2_makePass : yX2_makePass.cls ≠ "java/lang/invoke/MethodHandle" ∧ yX2_makePass.cls ≠ "java/lang/invoke/VarHandle" ∧ (parseMethodDescriptor yX2_makePass.desc).map (fun d => d.parameters.length) = some 1 := by decide +kernel
abbrev rmX2_makePasses : Room := { frames := 3, cells := 0, slots := 0, locals := 66 }
set_option maxHeartbeats 4000000 in
set_option maxRecDepth 100000 in
theorem kX2_makePasses (l : Launch) (g : GG) (r : Nat) (a : Nat) (b : Nat) (σ : Sg) (n : Nat) (t : Nat) (sz : Nat) (hn : 1 ≤ n ∧ n ≤ t ∧ t ≤ 48) : Met l yX2_makePasses wsX2_makePasses rmX2_makePasses (va_Pc [.ref r, .int (nI n), .int (nI t)] (kPre g [cR r a b σ, xI g a 49 (zT σ), xI g b 49 (zI σ)] sz)) (va_Qi (fun (r : Int32) (u : Unit) => r = nI (rowC n (t + 1 - n) σ)) (kB g (va_A [cR r a b σ, xI g a 49 (zT σ), xI g b 49 (zI σ)] sz) (fun u => [cR r a b (rowN n (t + 1 - n) σ), xI g a 49 (zT (rowN n (t + 1 - n) σ)), xI g b 49 (zI (rowN n (t + 1 - n) σ))])) (va_A [cR r a b σ, xI g a 49 (zT σ), xI g b 49 (zI σ)] sz)) 0 0 (va_A [cR r a b σ, xI g a 49 (zT σ), xI g b 49 (zI σ)] sz) := by
  refine kMet (cc := cX2_makePasses) (maxL := 5) (ret := (some .int)) (own := RX2) (by decide) rfl rfl (Nat.le_of_ble_eq_true rfl) ?_
  intro p e s m args below meth c ls Q H locs A F w hl hnm hA hQ
  have hx := F.1.1
  have hb := F.1.2.1
  have hts := F.1.2.2.2.2
  have hl : lv_has ls 5 [(0, .ref r), (1, .int (nI n)), (2, .int (nI t))] := hl
  refine lv_iconst (v := nI 0) hx hb dX2_makePasses_0 (by decide) ?_
  refine ktopi (y := nI (rowC n 0 σ)) (rfl) ?_
  refine lv_istore_n (lv' := [(3, .int (nI (rowC n 0 σ))), (0, .ref r), (1, .int (nI n)), (2, .int (nI t))]) hx hb dX2_makePasses_1 rfl hl (by decide) rfl (fun ls hl => ?_)
  refine lv_iload_n hx hb dX2_makePasses_2 rfl (lv_at hl 2 rfl) ?_
  refine ktopi (y := nI (n + 0)) (rfl) ?_
  refine lv_istore (lv' := [(4, .int (nI (n + 0))), (3, .int (nI (rowC n 0 σ))), (0, .ref r), (1, .int (nI n)), (2, .int (nI t))]) hx hb dX2_makePasses_3 hl (by decide) rfl (fun ls hl => ?_)
  have w : kW g A s [cR r a b (rowN n 0 σ), xI g a 49 (zT (rowN n 0 σ)), xI g b 49 (zI (rowN n 0 σ))] H locs := by
    have w := w
    exact w
  have LP_1 : ∀ (fu : Nat) (j : Nat) (h1 : j ≤ t + 1 - n) (h2 : j ≤ 48) (H : Heap) (locs : List Loc) (ls : Array Slot), 50 - j < fu → kW g A s [cR r a b (rowN n j σ), xI g a 49 (zT (rowN n j σ)), xI g b 49 (zI (rowN n j σ))] H locs → lv_has ls 5 [(4, .int (nI (n + j))), (3, .int (nI (rowC n j σ))), (0, .ref r), (1, .int (nI n)), (2, .int (nI t))] → W p l e rmX2_makePasses s m args below meth c H locs 0 0 Q (F0 m 5 ls []) := by
    intro fu
    induction fu with
    | zero => intro j h1 h2 H locs ls hlt; omega
    | succ fu ih_1 =>
      intro j h1 h2 H locs ls hlt w hl
      refine lv_iload hx hb dX2_makePasses_5 (lv_at hl 0 rfl) ?_
      refine lv_iload_n hx hb dX2_makePasses_7 rfl (lv_at hl 4 rfl) ?_
      refine lv_icmp_gt (tgt := 45) hx hb dX2_makePasses_8 (by decide) (fun h_2 => ?_) (fun h_2 => ?_)
      · have h_2 : n + j > t := (kc_gt_t (by omega) (by omega)).mp h_2
        have e_3 : j = t + 1 - n := by omega
        subst e_3
        refine lv_iload_n hx hb dX2_makePasses_45 rfl (lv_at hl 1 rfl) ?_
        subst hA
        subst hQ
        exact kreti F w () [0, 1, 2] rfl rfl (rfl) (Nat.le_of_ble_eq_true rfl) (Nat.le_of_ble_eq_true rfl) dX2_makePasses_46
      · have h_2 : n + j ≤ t := (kc_gt_f (by omega) (by omega)).mp h_2
        refine lv_iload hx hb dX2_makePasses_11 (lv_at hl 0 rfl) ?_
        refine lv_bipush (v := nI 48) hx hb dX2_makePasses_13 (by decide) ?_
        refine lv_icmp_gt (tgt := 45) hx hb dX2_makePasses_15 (by decide) (fun h_4 => ?_) (fun h_4 => ?_)
        · have h_4 : n + j > 48 := (kc_gt_t (by omega) (by omega)).mp h_4
          omega
        · have h_4 : n + j ≤ 48 := (kc_gt_f (by omega) (by omega)).mp h_4
          refine lv_aload_n hx hb dX2_makePasses_18 rfl (lv_at hl 2 rfl) ?_
          refine kget (fs := [.long (zB (zO (rowN n j σ))), .long (zB (zL (rowN n j σ))), .long (zB (zS (rowN n j σ))), .long (zB (zF (rowN n j σ))), .long (zB (zV (rowN n j σ))), .ref a, .ref b]) F w in_X2_makePasses_X2 0 rfl rfl 2 (by decide) (by decide +kernel) rfl rfl dX2_makePasses_19 ?_
          refine lv_iload hx hb dX2_makePasses_22 (lv_at hl 0 rfl) ?_
          refine kcalli (wc := []) (wr := [cR r a b (rowN n j σ), xI g a 49 (zT (rowN n j σ)), xI g b 49 (zI (rowN n j σ))]) (wn := fun (u : Unit) => [cR r a b (rowN n j σ), xI g a 49 (zT (rowN n j σ)), xI g b 49 (zI (rowN n j σ))]) F w [] [0, 1, 2] [0, 1, 2] rfl rfl rfl (fun _ => rfl)
            (fun hp => va_runSN (As := [.long (zB (zS (rowN n j σ))), .int (nI (n + j))]) (rest := []) F.1 (kX5_contains l g (zB (zS (rowN n j σ))) (n + j) H.size (by omega)) (⟨va_cnB (host := RX5) 2 hts gX2_makePasses_X5_contains_n38 rfl rfl rfl (F.2.2.2.1.2.1 _ (by decide +kernel)) (hts (.initialized RX5) (by decide +kernel)) hd_X5_contains ⟨Nat.le_of_ble_eq_true rfl, Nat.le_of_ble_eq_true rfl⟩, hts (.static yX5_contains) (by decide +kernel), trivial⟩) hp rfl rfl hl.1 rfl (lv_room (Nat.le_of_ble_eq_true rfl)) dX2_makePasses_24 ⟨Nat.le_of_ble_eq_true rfl, Nat.le_of_ble_eq_true rfl⟩)
            (fun r_5 _ H locs h_6 w => ?_)
          subst h_6
          refine ktopi (y := bI (zS (rowN n j σ) (n + j))) (congrArg bI (zG_in (by omega) (by omega))) ?_
          refine lv_if_ne (tgt := 39) hx hb dX2_makePasses_27 (by decide) (fun h_7 => ?_) (fun h_7 => ?_)
          · have h_7 : (zS (rowN n j σ) (n + j)) = true := bI_o.mp h_7
            have w : kW g A s [cR r a b (rowN n (j + 1) σ), xI g a 49 (zT (rowN n (j + 1) σ)), xI g b 49 (zI (rowN n (j + 1) σ))] H locs := by
              have w := w
              rw [rowN_t h_7]; exact w
            have hc : rowC n (j + 1) σ = rowC n j σ := rowC_t h_7
            rw [← hc] at hl
            refine lv_iinc (v := nI (n + j + 1)) (lv' := [(4, .int (nI (n + j + 1))), (3, .int (nI (rowC n (j + 1) σ))), (0, .ref r), (1, .int (nI n)), (2, .int (nI t))]) hx hb dX2_makePasses_39 hl (k := 0) rfl (nI_add (n + j) 1) (by decide) rfl (fun ls hl => ?_)
            have hl := hl
            rw [show n + j + 1 = n + (j + 1) from rfl] at hl
            refine lv_goto (tgt := 5) hx hb dX2_makePasses_42 (by decide) ?_
            exact ih_1 (j + 1) (by omega) (by omega) _ _ _ (by omega) (kW.perm w [0, 1, 2] rfl rfl) (lv_sub hl [0, 1, 2, 3, 4] rfl)
          · have h_7 : (zS (rowN n j σ) (n + j)) = false := bI_z.mp h_7
            refine lv_aload_n hx hb dX2_makePasses_30 rfl (lv_at hl 2 rfl) ?_
            refine lv_iload hx hb dX2_makePasses_31 (lv_at hl 0 rfl) ?_
            refine kcallv (wc := [cR r a b (rowN n j σ), xI g a 49 (zT (rowN n j σ)), xI g b 49 (zI (rowN n j σ))]) (wr := []) (wn := fun (u : Unit) => [cR r a b (passS (n + j) (rowN n j σ)), xI g a 49 (zT (passS (n + j) (rowN n j σ))), xI g b 49 (zI (passS (n + j) (rowN n j σ)))]) F w [0, 1, 2] [] [0, 1, 2] rfl rfl rfl (fun _ => rfl)
              (fun hp => va_runV (As := [.int (nI (n + j))]) (rest := []) F.1 (kX2_makePass l g r a b (rowN n j σ) (n + j) H.size (by omega)) (cwV 1 hts gX2_makePasses_X2_makePass rfl rfl rfl ⟨rfl, hd_X2_makePass⟩ ⟨Nat.le_of_ble_eq_true rfl, Nat.le_of_ble_eq_true rfl⟩) ⟨hp.1, va_recv F.2.2.2.1.1 w.1 (q0 := 0) (ci := 2) rfl rfl, hp.2⟩ rfl rfl hl.1 rfl (lv_room (Nat.le_of_ble_eq_true rfl)) dX2_makePasses_33 ⟨Nat.le_of_ble_eq_true rfl, Nat.le_of_ble_eq_true rfl⟩)
              (fun _ H locs h_9 w => ?_)
            have w : kW g A s [cR r a b (rowN n (j + 1) σ), xI g a 49 (zT (rowN n (j + 1) σ)), xI g b 49 (zI (rowN n (j + 1) σ))] H locs := by
              have w := w
              rw [rowN_n h_7]; exact w
            refine lv_iinc (v := nI (rowC n j σ + 1)) (lv' := [(3, .int (nI (rowC n j σ + 1))), (4, .int (nI (n + j))), (0, .ref r), (1, .int (nI n)), (2, .int (nI t))]) hx hb dX2_makePasses_36 hl (k := 1) rfl (nI_add (rowC n j σ) 1) (by decide) rfl (fun ls hl => ?_)
            have hc : rowC n (j + 1) σ = rowC n j σ + 1 := rowC_n h_7
            rw [← hc] at hl
            refine lv_iinc (v := nI (n + j + 1)) (lv' := [(4, .int (nI (n + j + 1))), (3, .int (nI (rowC n (j + 1) σ))), (0, .ref r), (1, .int (nI n)), (2, .int (nI t))]) hx hb dX2_makePasses_39 hl (k := 1) rfl (nI_add (n + j) 1) (by decide) rfl (fun ls hl => ?_)
            rw [show n + j + 1 = n + (j + 1) from rfl] at hl
            refine lv_goto (tgt := 5) hx hb dX2_makePasses_42 (by decide) ?_
            exact ih_1 (j + 1) (by omega) (by omega) _ _ _ (by omega) (kW.perm w [0, 1, 2] rfl rfl) (lv_sub hl [0, 1, 2, 3, 4] rfl)
  exact LP_1 _ 0 (by omega) (by omega) _ _ _ (Nat.lt_succ_self _) (kW.perm w [0, 1, 2] rfl rfl) (lv_sub hl [0, 1, 2, 3, 4] rfl)
theorem in_X2_switchLock_X2 : ∀ w ∈ wsX20, w ∈ wsX2_switchLock := by decide +kernel
abbrev rmX2_switchLock : Room := { frames := 1, cells := 0, slots := 0, locals := 20 }
set_option maxHeartbeats 4000000 in
set_option maxRecDepth 100000 in
theorem kX2_switchLock (l : Launch) (g : GG) (r : Nat) (a : Nat) (b : Nat) (σ : Sg) (d : Nat) (sz : Nat) (hd : 1 ≤ d ∧ d ≤ 48) : Met l yX2_switchLock wsX2_switchLock rmX2_switchLock (va_Pc [.ref r, .int (nI d)] (kPre g [cR r a b σ, xI g a 49 (zT σ), xI g b 49 (zI σ)] sz)) (va_Qv (fun (u : Unit) => True) (kB g (va_A [cR r a b σ, xI g a 49 (zT σ), xI g b 49 (zI σ)] sz) (fun u => [cR r a b (lockS d σ), xI g a 49 (zT (lockS d σ)), xI g b 49 (zI (lockS d σ))])) (va_A [cR r a b σ, xI g a 49 (zT σ), xI g b 49 (zI σ)] sz)) 0 0 (va_A [cR r a b σ, xI g a 49 (zT σ), xI g b 49 (zI σ)] sz) := by
  refine kMet (cc := cX2_switchLock) (maxL := 2) (ret := none) (own := RX2) (by decide) rfl rfl (Nat.le_of_ble_eq_true rfl) ?_
  intro p e s m args below meth c ls Q H locs A F w hl hnm hA hQ
  have hx := F.1.1
  have hb := F.1.2.1
  have hts := F.1.2.2.2.2
  have hl : lv_has ls 2 [(0, .ref r), (1, .int (nI d))] := hl
  refine lv_aload_n hx hb dX2_switchLock_0 rfl (lv_at hl 0 rfl) ?_
  refine lv_dup hx hb dX2_switchLock_1 rfl ?_
  refine kget (fs := [.long (zB (zO σ)), .long (zB (zL σ)), .long (zB (zS σ)), .long (zB (zF σ)), .long (zB (zV σ)), .ref a, .ref b]) F w in_X2_switchLock_X2 0 rfl rfl 1 (by decide) (by decide +kernel) rfl rfl dX2_switchLock_2 ?_
  refine lv_iload_n hx hb dX2_switchLock_5 rfl (lv_at hl 1 rfl) ?_
  refine kcalll (wc := []) (wr := [cR r a b σ, xI g a 49 (zT σ), xI g b 49 (zI σ)]) (wn := fun (u : Unit) => [cR r a b σ, xI g a 49 (zT σ), xI g b 49 (zI σ)]) F w [] [0, 1, 2] [0, 1, 2] rfl rfl rfl (fun _ => rfl)
    (fun hp => va_runSN (As := [.int (nI d)]) (rest := [.long (zB (zL σ)), .ref r]) F.1 (kX5_bit l g d H.size (by omega)) (⟨va_cnB (host := RX5) 1 hts gX2_switchLock_X5_bit_n42 rfl rfl rfl (F.2.2.2.1.2.1 _ (by decide +kernel)) (hts (.initialized RX5) (by decide +kernel)) hd_X5_bit ⟨Nat.le_of_ble_eq_true rfl, Nat.le_of_ble_eq_true rfl⟩, hts (.static yX5_bit) (by decide +kernel), trivial⟩) hp rfl rfl hl.1 rfl (lv_room (Nat.le_of_ble_eq_true rfl)) dX2_switchLock_6 ⟨Nat.le_of_ble_eq_true rfl, Nat.le_of_ble_eq_true rfl⟩)
    (fun r_1 _ H locs h_2 w => ?_)
  subst h_2
  refine lv_lxor hx hb dX2_switchLock_9 ?_
  refine ktopl (y := zB (zL (lockS d σ))) (zL_lock hd.1 hd.2) ?_
  refine kput (fs := [.long (zB (zO σ)), .long (zB (zL σ)), .long (zB (zS σ)), .long (zB (zF σ)), .long (zB (zV σ)), .ref a, .ref b]) F w in_X2_switchLock_X2 tyX2_ok nmX2 0 rfl rfl 1 (by decide) (by decide +kernel) rfl rfl (rfl) (rfl) (Nat.le_of_ble_eq_true rfl) (wn := [xO r 2 [.long (zB (zO σ)), .long (zB (zL (lockS d σ))), .long (zB (zS σ)), .long (zB (zF σ)), .long (zB (zV σ)), .ref a, .ref b], xI g a 49 (zT σ), xI g b 49 (zI σ)]) rfl dX2_switchLock_10 (fun H locs w => ?_)
  have w : kW g A s [cR r a b (lockS d σ), xI g a 49 (zT (lockS d σ)), xI g b 49 (zI (lockS d σ))] H locs := by
    have w := w
    exact w
  subst hA
  subst hQ
  exact kretv F w () [0, 1, 2] rfl rfl (trivial) (Nat.le_of_ble_eq_true rfl) (Nat.le_of_ble_eq_true rfl) dX2_switchLock_13
abbrev rmX2_fits : Room := { frames := 0, cells := 0, slots := 0, locals := 0 }
set_option maxHeartbeats 4000000 in
set_option maxRecDepth 100000 in
theorem kX2_fits (l : Launch) (g : GG) (d : Nat) (kd : Bool) (sz : Nat) (hd : 1 ≤ d ∧ d ≤ 48) : Met l yX2_fits wsX2_fits rmX2_fits (va_Pc [.int (nI d), .int (bI kd)] (kPre g [] sz)) (va_Qi (fun (r : Int32) (u : Unit) => r = bI (fitZ d kd)) (kB g (va_A [] sz) (fun u => [])) (va_A [] sz)) 0 0 (va_A [] sz) := by
  refine kMet (cc := cX2_fits) (maxL := 2) (ret := (some .boolean)) (own := RX2) (by decide) rfl rfl (Nat.le_of_ble_eq_true rfl) ?_
  intro p e s m args below meth c ls Q H locs A F w hl hnm hA hQ
  have hx := F.1.1
  have hb := F.1.2.1
  have hts := F.1.2.2.2.2
  have hl : lv_has ls 2 [(0, .int (nI d)), (1, .int (bI kd))] := hl
  refine lv_iload_n hx hb dX2_fits_0 rfl (lv_at hl 0 rfl) ?_
  refine lv_bipush (v := nI 16) hx hb dX2_fits_1 (by decide) ?_
  refine lv_icmp_gt (tgt := 16) hx hb dX2_fits_3 (by decide) (fun h_1 => ?_) (fun h_1 => ?_)
  · have h_1 : d > 16 := (kc_gt_t (by omega) (by omega)).mp h_1
    refine lv_iload_n hx hb dX2_fits_16 rfl (lv_at hl 0 rfl) ?_
    refine lv_bipush (v := nI 32) hx hb dX2_fits_17 (by decide) ?_
    refine lv_icmp_gt (tgt := 33) hx hb dX2_fits_19 (by decide) (fun h_2 => ?_) (fun h_2 => ?_)
    · have h_2 : d > 32 := (kc_gt_t (by omega) (by omega)).mp h_2
      refine lv_iconst (v := nI 1) hx hb dX2_fits_33 (by decide) ?_
      have hz : fitZ d kd = true := by simp [fitZ, show ¬ d ≤ 16 by omega, show ¬ d ≤ 32 by omega]
      subst hA
      subst hQ
      exact kretz F w () [] rfl rfl (by show nI 1 = bI (fitZ d kd); rw [hz]; rfl) (by decide +kernel) (Nat.le_of_ble_eq_true rfl) (Nat.le_of_ble_eq_true rfl) dX2_fits_34
    · have h_2 : d ≤ 32 := (kc_gt_f (by omega) (by omega)).mp h_2
      refine lv_iload_n hx hb dX2_fits_22 rfl (lv_at hl 1 rfl) ?_
      refine lv_iconst (v := nI 1) hx hb dX2_fits_23 (by decide) ?_
      refine lv_icmp_ne (tgt := 31) hx hb dX2_fits_24 (by decide) (fun h_3 => ?_) (fun h_3 => ?_)
      · have h_3 : kd = false := bI_n1.mp h_3
        refine lv_iconst (v := nI 0) hx hb dX2_fits_31 (by decide) ?_
        have hz : fitZ d kd = false := by simp [fitZ, h_3, show ¬ d ≤ 16 by omega, show d ≤ 32 from h_2]
        subst hA
        subst hQ
        exact kretz F w () [] rfl rfl (by show nI 0 = bI (fitZ d kd); rw [hz]; rfl) (by decide +kernel) (Nat.le_of_ble_eq_true rfl) (Nat.le_of_ble_eq_true rfl) dX2_fits_32
      · have h_3 : kd = true := bI_1.mp h_3
        refine lv_iconst (v := nI 1) hx hb dX2_fits_27 (by decide) ?_
        refine lv_goto (tgt := 32) hx hb dX2_fits_28 (by decide) ?_
        have hz : fitZ d kd = true := by simp [fitZ, h_3, show ¬ d ≤ 16 by omega, show d ≤ 32 from h_2]
        subst hA
        subst hQ
        exact kretz F w () [] rfl rfl (by show nI 1 = bI (fitZ d kd); rw [hz]; rfl) (by decide +kernel) (Nat.le_of_ble_eq_true rfl) (Nat.le_of_ble_eq_true rfl) dX2_fits_32
  · have h_1 : d ≤ 16 := (kc_gt_f (by omega) (by omega)).mp h_1
    refine lv_iload_n hx hb dX2_fits_6 rfl (lv_at hl 1 rfl) ?_
    refine lv_if_ne (tgt := 14) hx hb dX2_fits_7 (by decide) (fun h_4 => ?_) (fun h_4 => ?_)
    · have h_4 : kd = true := bI_o.mp h_4
      refine lv_iconst (v := nI 0) hx hb dX2_fits_14 (by decide) ?_
      have hz : fitZ d kd = false := by simp [fitZ, h_4, show d ≤ 16 from h_1]
      subst hA
      subst hQ
      exact kretz F w () [] rfl rfl (by show nI 0 = bI (fitZ d kd); rw [hz]; rfl) (by decide +kernel) (Nat.le_of_ble_eq_true rfl) (Nat.le_of_ble_eq_true rfl) dX2_fits_15
    · have h_4 : kd = false := bI_z.mp h_4
      refine lv_iconst (v := nI 1) hx hb dX2_fits_10 (by decide) ?_
      refine lv_goto (tgt := 15) hx hb dX2_fits_11 (by decide) ?_
      have hz : fitZ d kd = true := by simp [fitZ, h_4, show d ≤ 16 from h_1]
      subst hA
      subst hQ
      exact kretz F w () [] rfl rfl (by show nI 1 = bI (fitZ d kd); rw [hz]; rfl) (by decide +kernel) (Nat.le_of_ble_eq_true rfl) (Nat.le_of_ble_eq_true rfl) dX2_fits_15
theorem in_X2_reasonAgainst_X2 : ∀ w ∈ wsX20, w ∈ wsX2_reasonAgainst := by decide +kernel
theorem hd_X2_fits : yX2_fits.cls ≠ "java/lang/invoke/MethodHandle" ∧ yX2_fits.cls ≠ "java/lang/invoke/VarHandle" ∧ (parseMethodDescriptor yX2_fits.desc).map (fun d => d.parameters.length) = some 2 := by decide +kernel
abbrev rmX2_reasonAgainst : Room := { frames := 1, cells := 0, slots := 0, locals := 22 }
set_option maxHeartbeats 4000000 in
set_option maxRecDepth 100000 in
theorem kX2_reasonAgainst (l : Launch) (g : GG) (r : Nat) (a : Nat) (b : Nat) (σ : Sg) (d : Nat) (kd : Bool) (sz : Nat) (hd : 1 ≤ d ∧ d ≤ 48) : Met l yX2_reasonAgainst wsX2_reasonAgainst rmX2_reasonAgainst (va_Pc [.ref r, .int (nI d), .int (bI kd)] (kPre g [cR r a b σ, xI g a 49 (zT σ), xI g b 49 (zI σ)] sz)) (va_Qi (fun (r : Int32) (u : Unit) => r = nI (reasZ σ d kd)) (kB g (va_A [cR r a b σ, xI g a 49 (zT σ), xI g b 49 (zI σ)] sz) (fun u => [cR r a b σ, xI g a 49 (zT σ), xI g b 49 (zI σ)])) (va_A [cR r a b σ, xI g a 49 (zT σ), xI g b 49 (zI σ)] sz)) 0 0 (va_A [cR r a b σ, xI g a 49 (zT σ), xI g b 49 (zI σ)] sz) := by
  refine kMet (cc := cX2_reasonAgainst) (maxL := 3) (ret := (some .int)) (own := RX2) (by decide) rfl rfl (Nat.le_of_ble_eq_true rfl) ?_
  intro p e s m args below meth c ls Q H locs A F w hl hnm hA hQ
  have hx := F.1.1
  have hb := F.1.2.1
  have hts := F.1.2.2.2.2
  have hl : lv_has ls 3 [(0, .ref r), (1, .int (nI d)), (2, .int (bI kd))] := hl
  refine lv_aload_n hx hb dX2_reasonAgainst_0 rfl (lv_at hl 0 rfl) ?_
  refine kget (fs := [.long (zB (zO σ)), .long (zB (zL σ)), .long (zB (zS σ)), .long (zB (zF σ)), .long (zB (zV σ)), .ref a, .ref b]) F w in_X2_reasonAgainst_X2 0 rfl rfl 0 (by decide) (by decide +kernel) rfl rfl dX2_reasonAgainst_1 ?_
  refine lv_iload_n hx hb dX2_reasonAgainst_4 rfl (lv_at hl 1 rfl) ?_
  refine kcalli (wc := []) (wr := [cR r a b σ, xI g a 49 (zT σ), xI g b 49 (zI σ)]) (wn := fun (u : Unit) => [cR r a b σ, xI g a 49 (zT σ), xI g b 49 (zI σ)]) F w [] [0, 1, 2] [0, 1, 2] rfl rfl rfl (fun _ => rfl)
    (fun hp => va_runSN (As := [.long (zB (zO σ)), .int (nI d)]) (rest := []) F.1 (kX5_contains l g (zB (zO σ)) d H.size (by omega)) (⟨va_cnB (host := RX5) 2 hts gX2_reasonAgainst_X5_contains_n38 rfl rfl rfl (F.2.2.2.1.2.1 _ (by decide +kernel)) (hts (.initialized RX5) (by decide +kernel)) hd_X5_contains ⟨Nat.le_of_ble_eq_true rfl, Nat.le_of_ble_eq_true rfl⟩, hts (.static yX5_contains) (by decide +kernel), trivial⟩) hp rfl rfl hl.1 rfl (lv_room (Nat.le_of_ble_eq_true rfl)) dX2_reasonAgainst_5 ⟨Nat.le_of_ble_eq_true rfl, Nat.le_of_ble_eq_true rfl⟩)
    (fun r_1 _ H locs h_2 w => ?_)
  subst h_2
  refine ktopi (y := bI (zO σ d)) (congrArg bI (zG_in (by omega) (by omega))) ?_
  refine lv_if_ne (tgt := 13) hx hb dX2_reasonAgainst_8 (by decide) (fun h_3 => ?_) (fun h_3 => ?_)
  · have h_3 : (zO σ d) = true := bI_o.mp h_3
    refine lv_aload_n hx hb dX2_reasonAgainst_13 rfl (lv_at hl 0 rfl) ?_
    refine kget (fs := [.long (zB (zO σ)), .long (zB (zL σ)), .long (zB (zS σ)), .long (zB (zF σ)), .long (zB (zV σ)), .ref a, .ref b]) F w in_X2_reasonAgainst_X2 0 rfl rfl 3 (by decide) (by decide +kernel) rfl rfl dX2_reasonAgainst_14 ?_
    refine lv_iload_n hx hb dX2_reasonAgainst_17 rfl (lv_at hl 1 rfl) ?_
    refine kcalli (wc := []) (wr := [cR r a b σ, xI g a 49 (zT σ), xI g b 49 (zI σ)]) (wn := fun (u : Unit) => [cR r a b σ, xI g a 49 (zT σ), xI g b 49 (zI σ)]) F w [] [0, 1, 2] [0, 1, 2] rfl rfl rfl (fun _ => rfl)
      (fun hp => va_runSN (As := [.long (zB (zF σ)), .int (nI d)]) (rest := []) F.1 (kX5_contains l g (zB (zF σ)) d H.size (by omega)) (⟨va_cnB (host := RX5) 2 hts gX2_reasonAgainst_X5_contains_n38 rfl rfl rfl (F.2.2.2.1.2.1 _ (by decide +kernel)) (hts (.initialized RX5) (by decide +kernel)) hd_X5_contains ⟨Nat.le_of_ble_eq_true rfl, Nat.le_of_ble_eq_true rfl⟩, hts (.static yX5_contains) (by decide +kernel), trivial⟩) hp rfl rfl hl.1 rfl (lv_room (Nat.le_of_ble_eq_true rfl)) dX2_reasonAgainst_18 ⟨Nat.le_of_ble_eq_true rfl, Nat.le_of_ble_eq_true rfl⟩)
      (fun r_4 _ H locs h_5 w => ?_)
    subst h_5
    refine ktopi (y := bI (zF σ d)) (congrArg bI (zG_in (by omega) (by omega))) ?_
    refine lv_if_eq (tgt := 26) hx hb dX2_reasonAgainst_21 (by decide) (fun h_6 => ?_) (fun h_6 => ?_)
    · have h_6 : (zF σ d) = false := bI_z.mp h_6
      refine lv_iload_n hx hb dX2_reasonAgainst_26 rfl (lv_at hl 1 rfl) ?_
      refine lv_iload_n hx hb dX2_reasonAgainst_27 rfl (lv_at hl 2 rfl) ?_
      refine kcalli (wc := []) (wr := [cR r a b σ, xI g a 49 (zT σ), xI g b 49 (zI σ)]) (wn := fun (u : Unit) => [cR r a b σ, xI g a 49 (zT σ), xI g b 49 (zI σ)]) F w [] [0, 1, 2] [0, 1, 2] rfl rfl rfl (fun _ => rfl)
        (fun hp => va_runS (As := [.int (nI d), .int (bI kd)]) (rest := []) F.1 (kX2_fits l g d kd H.size (by omega)) (va_cwS 2 hts gX2_reasonAgainst_X2_fits rfl rfl rfl hd_X2_fits ⟨Nat.le_of_ble_eq_true rfl, Nat.le_of_ble_eq_true rfl⟩) hp rfl rfl hl.1 rfl (lv_room (Nat.le_of_ble_eq_true rfl)) dX2_reasonAgainst_28 ⟨Nat.le_of_ble_eq_true rfl, Nat.le_of_ble_eq_true rfl⟩)
        (fun r_7 _ H locs h_8 w => ?_)
      subst h_8
      refine lv_if_eq (tgt := 38) hx hb dX2_reasonAgainst_31 (by decide) (fun h_9 => ?_) (fun h_9 => ?_)
      · have h_9 : (fitZ d kd) = false := bI_z.mp h_9
        refine lv_iconst (v := nI 3) hx hb dX2_reasonAgainst_38 (by decide) ?_
        subst hA
        subst hQ
        exact kreti F w () [0, 1, 2] rfl rfl (by show nI 3 = nI (reasZ σ d kd); rw [show reasZ σ d kd = 3 by simp [reasZ, h_3, h_6, h_9]]) (Nat.le_of_ble_eq_true rfl) (Nat.le_of_ble_eq_true rfl) dX2_reasonAgainst_39
      · have h_9 : (fitZ d kd) = true := bI_o.mp h_9
        refine lv_iconst (v := nI 0) hx hb dX2_reasonAgainst_34 (by decide) ?_
        refine lv_goto (tgt := 39) hx hb dX2_reasonAgainst_35 (by decide) ?_
        subst hA
        subst hQ
        exact kreti F w () [0, 1, 2] rfl rfl (by show nI 0 = nI (reasZ σ d kd); rw [show reasZ σ d kd = 0 by simp [reasZ, h_3, h_6, h_9]]) (Nat.le_of_ble_eq_true rfl) (Nat.le_of_ble_eq_true rfl) dX2_reasonAgainst_39
    · have h_6 : (zF σ d) = true := bI_o.mp h_6
      refine lv_iconst (v := nI 2) hx hb dX2_reasonAgainst_24 (by decide) ?_
      subst hA
      subst hQ
      exact kreti F w () [0, 1, 2] rfl rfl (by show nI 2 = nI (reasZ σ d kd); rw [show reasZ σ d kd = 2 by simp [reasZ, h_3, h_6]]) (Nat.le_of_ble_eq_true rfl) (Nat.le_of_ble_eq_true rfl) dX2_reasonAgainst_25
  · have h_3 : (zO σ d) = false := bI_z.mp h_3
    refine lv_iconst (v := nI 1) hx hb dX2_reasonAgainst_11 (by decide) ?_
    subst hA
    subst hQ
    exact kreti F w () [0, 1, 2] rfl rfl (by show nI 1 = nI (reasZ σ d kd); rw [show reasZ σ d kd = 1 by simp [reasZ, h_3]]) (Nat.le_of_ble_eq_true rfl) (Nat.le_of_ble_eq_true rfl) dX2_reasonAgainst_12
theorem in_X2_put_X2 : ∀ w ∈ wsX20, w ∈ wsX2_put := by decide +kernel
abbrev rmX2_put : Room := { frames := 1, cells := 0, slots := 0, locals := 20 }
set_option maxHeartbeats 4000000 in
set_option maxRecDepth 100000 in
theorem kX2_put (l : Launch) (g : GG) (r : Nat) (a : Nat) (b : Nat) (σ : Sg) (d : Nat) (kd : Bool) (sz : Nat) (hd : 1 ≤ d ∧ d ≤ 48) (hf : zF σ d = false) : Met l yX2_put wsX2_put rmX2_put (va_Pc [.ref r, .int (nI d), .int (bI kd)] (kPre g [cR r a b σ, xI g a 49 (zT σ), xI g b 49 (zI σ)] sz)) (va_Qv (fun (u : Unit) => True) (kB g (va_A [cR r a b σ, xI g a 49 (zT σ), xI g b 49 (zI σ)] sz) (fun u => [cR r a b (putS d kd σ), xI g a 49 (zT (putS d kd σ)), xI g b 49 (zI (putS d kd σ))])) (va_A [cR r a b σ, xI g a 49 (zT σ), xI g b 49 (zI σ)] sz)) 0 0 (va_A [cR r a b σ, xI g a 49 (zT σ), xI g b 49 (zI σ)] sz) := by
  refine kMet (cc := cX2_put) (maxL := 3) (ret := none) (own := RX2) (by decide) rfl rfl (Nat.le_of_ble_eq_true rfl) ?_
  intro p e s m args below meth c ls Q H locs A F w hl hnm hA hQ
  have hx := F.1.1
  have hb := F.1.2.1
  have hts := F.1.2.2.2.2
  have hl : lv_has ls 3 [(0, .ref r), (1, .int (nI d)), (2, .int (bI kd))] := hl
  refine lv_aload_n hx hb dX2_put_0 rfl (lv_at hl 0 rfl) ?_
  refine lv_dup hx hb dX2_put_1 rfl ?_
  refine kget (fs := [.long (zB (zO σ)), .long (zB (zL σ)), .long (zB (zS σ)), .long (zB (zF σ)), .long (zB (zV σ)), .ref a, .ref b]) F w in_X2_put_X2 0 rfl rfl 3 (by decide) (by decide +kernel) rfl rfl dX2_put_2 ?_
  refine lv_iload_n hx hb dX2_put_5 rfl (lv_at hl 1 rfl) ?_
  refine kcalll (wc := []) (wr := [cR r a b σ, xI g a 49 (zT σ), xI g b 49 (zI σ)]) (wn := fun (u : Unit) => [cR r a b σ, xI g a 49 (zT σ), xI g b 49 (zI σ)]) F w [] [0, 1, 2] [0, 1, 2] rfl rfl rfl (fun _ => rfl)
    (fun hp => va_runSN (As := [.int (nI d)]) (rest := [.long (zB (zF σ)), .ref r]) F.1 (kX5_bit l g d H.size (by omega)) (⟨va_cnB (host := RX5) 1 hts gX2_put_X5_bit_n42 rfl rfl rfl (F.2.2.2.1.2.1 _ (by decide +kernel)) (hts (.initialized RX5) (by decide +kernel)) hd_X5_bit ⟨Nat.le_of_ble_eq_true rfl, Nat.le_of_ble_eq_true rfl⟩, hts (.static yX5_bit) (by decide +kernel), trivial⟩) hp rfl rfl hl.1 rfl (lv_room (Nat.le_of_ble_eq_true rfl)) dX2_put_6 ⟨Nat.le_of_ble_eq_true rfl, Nat.le_of_ble_eq_true rfl⟩)
    (fun r_1 _ H locs h_2 w => ?_)
  subst h_2
  refine lv_lor hx hb dX2_put_9 ?_
  refine ktopl (y := zB (zF (putS d kd σ))) (zF_put hd.1 hd.2) ?_
  refine kput (fs := [.long (zB (zO σ)), .long (zB (zL σ)), .long (zB (zS σ)), .long (zB (zF σ)), .long (zB (zV σ)), .ref a, .ref b]) F w in_X2_put_X2 tyX2_ok nmX2 0 rfl rfl 3 (by decide) (by decide +kernel) rfl rfl (rfl) (rfl) (Nat.le_of_ble_eq_true rfl) (wn := [xO r 2 [.long (zB (zO σ)), .long (zB (zL σ)), .long (zB (zS σ)), .long (zB (zF (putS d kd σ))), .long (zB (zV σ)), .ref a, .ref b], xI g a 49 (zT σ), xI g b 49 (zI σ)]) rfl dX2_put_10 (fun H locs w => ?_)
  refine lv_iload_n hx hb dX2_put_13 rfl (lv_at hl 2 rfl) ?_
  refine lv_iconst (v := nI 1) hx hb dX2_put_14 (by decide) ?_
  refine lv_icmp_ne (tgt := 31) hx hb dX2_put_15 (by decide) (fun h_3 => ?_) (fun h_3 => ?_)
  · have h_3 : kd = false := bI_n1.mp h_3
    have w : kW g A s [cR r a b (putS d kd σ), xI g a 49 (zT (putS d kd σ)), xI g b 49 (zI (putS d kd σ))] H locs := by
      have w := w
      rw [zV_put0 h_3 hf] at w; exact w
    subst hA
    subst hQ
    exact kretv F w () [0, 1, 2] rfl rfl (trivial) (Nat.le_of_ble_eq_true rfl) (Nat.le_of_ble_eq_true rfl) dX2_put_31
  · have h_3 : kd = true := bI_1.mp h_3
    refine lv_aload_n hx hb dX2_put_18 rfl (lv_at hl 0 rfl) ?_
    refine lv_dup hx hb dX2_put_19 rfl ?_
    refine kget (fs := [.long (zB (zO σ)), .long (zB (zL σ)), .long (zB (zS σ)), .long (zB (zF (putS d kd σ))), .long (zB (zV σ)), .ref a, .ref b]) F w in_X2_put_X2 0 rfl rfl 4 (by decide) (by decide +kernel) rfl rfl dX2_put_20 ?_
    refine lv_iload_n hx hb dX2_put_23 rfl (lv_at hl 1 rfl) ?_
    refine kcalll (wc := []) (wr := [xO r 2 [.long (zB (zO σ)), .long (zB (zL σ)), .long (zB (zS σ)), .long (zB (zF (putS d kd σ))), .long (zB (zV σ)), .ref a, .ref b], xI g a 49 (zT σ), xI g b 49 (zI σ)]) (wn := fun (u : Unit) => [xO r 2 [.long (zB (zO σ)), .long (zB (zL σ)), .long (zB (zS σ)), .long (zB (zF (putS d kd σ))), .long (zB (zV σ)), .ref a, .ref b], xI g a 49 (zT σ), xI g b 49 (zI σ)]) F w [] [0, 1, 2] [0, 1, 2] rfl rfl rfl (fun _ => rfl)
      (fun hp => va_runSN (As := [.int (nI d)]) (rest := [.long (zB (zV σ)), .ref r]) F.1 (kX5_bit l g d H.size (by omega)) (⟨va_cnB (host := RX5) 1 hts gX2_put_X5_bit_n42 rfl rfl rfl (F.2.2.2.1.2.1 _ (by decide +kernel)) (hts (.initialized RX5) (by decide +kernel)) hd_X5_bit ⟨Nat.le_of_ble_eq_true rfl, Nat.le_of_ble_eq_true rfl⟩, hts (.static yX5_bit) (by decide +kernel), trivial⟩) hp rfl rfl hl.1 rfl (lv_room (Nat.le_of_ble_eq_true rfl)) dX2_put_24 ⟨Nat.le_of_ble_eq_true rfl, Nat.le_of_ble_eq_true rfl⟩)
      (fun r_4 _ H locs h_5 w => ?_)
    subst h_5
    refine lv_lor hx hb dX2_put_27 ?_
    refine ktopl (y := zB (zV (putS d kd σ))) (zV_put1 hd.1 hd.2 h_3 hf) ?_
    refine kput (fs := [.long (zB (zO σ)), .long (zB (zL σ)), .long (zB (zS σ)), .long (zB (zF (putS d kd σ))), .long (zB (zV σ)), .ref a, .ref b]) F w in_X2_put_X2 tyX2_ok nmX2 0 rfl rfl 4 (by decide) (by decide +kernel) rfl rfl (rfl) (rfl) (Nat.le_of_ble_eq_true rfl) (wn := [xO r 2 [.long (zB (zO σ)), .long (zB (zL σ)), .long (zB (zS σ)), .long (zB (zF (putS d kd σ))), .long (zB (zV (putS d kd σ))), .ref a, .ref b], xI g a 49 (zT σ), xI g b 49 (zI σ)]) rfl dX2_put_28 (fun H locs w => ?_)
    have w : kW g A s [cR r a b (putS d kd σ), xI g a 49 (zT (putS d kd σ)), xI g b 49 (zI (putS d kd σ))] H locs := by
      have w := w
      exact w
    subst hA
    subst hQ
    exact kretv F w () [0, 1, 2] rfl rfl (trivial) (Nat.le_of_ble_eq_true rfl) (Nat.le_of_ble_eq_true rfl) dX2_put_31
theorem in_X2_clear_X2 : ∀ w ∈ wsX20, w ∈ wsX2_clear := by decide +kernel
abbrev rmX2_clear : Room := { frames := 1, cells := 0, slots := 0, locals := 20 }
set_option maxHeartbeats 4000000 in
set_option maxRecDepth 100000 in
theorem kX2_clear (l : Launch) (g : GG) (r : Nat) (a : Nat) (b : Nat) (σ : Sg) (d : Nat) (sz : Nat) (hd : 1 ≤ d ∧ d ≤ 48) : Met l yX2_clear wsX2_clear rmX2_clear (va_Pc [.ref r, .int (nI d)] (kPre g [cR r a b σ, xI g a 49 (zT σ), xI g b 49 (zI σ)] sz)) (va_Qv (fun (u : Unit) => True) (kB g (va_A [cR r a b σ, xI g a 49 (zT σ), xI g b 49 (zI σ)] sz) (fun u => [cR r a b (clrS d σ), xI g a 49 (zT (clrS d σ)), xI g b 49 (zI (clrS d σ))])) (va_A [cR r a b σ, xI g a 49 (zT σ), xI g b 49 (zI σ)] sz)) 0 0 (va_A [cR r a b σ, xI g a 49 (zT σ), xI g b 49 (zI σ)] sz) := by
  refine kMet (cc := cX2_clear) (maxL := 2) (ret := none) (own := RX2) (by decide) rfl rfl (Nat.le_of_ble_eq_true rfl) ?_
  intro p e s m args below meth c ls Q H locs A F w hl hnm hA hQ
  have hx := F.1.1
  have hb := F.1.2.1
  have hts := F.1.2.2.2.2
  have hl : lv_has ls 2 [(0, .ref r), (1, .int (nI d))] := hl
  refine lv_aload_n hx hb dX2_clear_0 rfl (lv_at hl 0 rfl) ?_
  refine lv_dup hx hb dX2_clear_1 rfl ?_
  refine kget (fs := [.long (zB (zO σ)), .long (zB (zL σ)), .long (zB (zS σ)), .long (zB (zF σ)), .long (zB (zV σ)), .ref a, .ref b]) F w in_X2_clear_X2 0 rfl rfl 3 (by decide) (by decide +kernel) rfl rfl dX2_clear_2 ?_
  refine lv_iload_n hx hb dX2_clear_5 rfl (lv_at hl 1 rfl) ?_
  refine kcalll (wc := []) (wr := [cR r a b σ, xI g a 49 (zT σ), xI g b 49 (zI σ)]) (wn := fun (u : Unit) => [cR r a b σ, xI g a 49 (zT σ), xI g b 49 (zI σ)]) F w [] [0, 1, 2] [0, 1, 2] rfl rfl rfl (fun _ => rfl)
    (fun hp => va_runSN (As := [.int (nI d)]) (rest := [.long (zB (zF σ)), .ref r]) F.1 (kX5_bit l g d H.size (by omega)) (⟨va_cnB (host := RX5) 1 hts gX2_clear_X5_bit_n42 rfl rfl rfl (F.2.2.2.1.2.1 _ (by decide +kernel)) (hts (.initialized RX5) (by decide +kernel)) hd_X5_bit ⟨Nat.le_of_ble_eq_true rfl, Nat.le_of_ble_eq_true rfl⟩, hts (.static yX5_bit) (by decide +kernel), trivial⟩) hp rfl rfl hl.1 rfl (lv_room (Nat.le_of_ble_eq_true rfl)) dX2_clear_6 ⟨Nat.le_of_ble_eq_true rfl, Nat.le_of_ble_eq_true rfl⟩)
    (fun r_1 _ H locs h_2 w => ?_)
  subst h_2
  refine lv_ldc2 (v := (-1)) hx hb F.1.2.2.2.1 (hts (.constantLong RX2 53 (-1)) (by decide +kernel)) dX2_clear_9 ?_
  refine lv_lxor hx hb dX2_clear_12 ?_
  refine lv_land hx hb dX2_clear_13 ?_
  refine ktopl (y := zB (zF (clrS d σ))) (zF_clr hd.1 hd.2) ?_
  refine kput (fs := [.long (zB (zO σ)), .long (zB (zL σ)), .long (zB (zS σ)), .long (zB (zF σ)), .long (zB (zV σ)), .ref a, .ref b]) F w in_X2_clear_X2 tyX2_ok nmX2 0 rfl rfl 3 (by decide) (by decide +kernel) rfl rfl (rfl) (rfl) (Nat.le_of_ble_eq_true rfl) (wn := [xO r 2 [.long (zB (zO σ)), .long (zB (zL σ)), .long (zB (zS σ)), .long (zB (zF (clrS d σ))), .long (zB (zV σ)), .ref a, .ref b], xI g a 49 (zT σ), xI g b 49 (zI σ)]) rfl dX2_clear_14 (fun H locs w => ?_)
  refine lv_aload_n hx hb dX2_clear_17 rfl (lv_at hl 0 rfl) ?_
  refine lv_dup hx hb dX2_clear_18 rfl ?_
  refine kget (fs := [.long (zB (zO σ)), .long (zB (zL σ)), .long (zB (zS σ)), .long (zB (zF (clrS d σ))), .long (zB (zV σ)), .ref a, .ref b]) F w in_X2_clear_X2 0 rfl rfl 4 (by decide) (by decide +kernel) rfl rfl dX2_clear_19 ?_
  refine lv_iload_n hx hb dX2_clear_22 rfl (lv_at hl 1 rfl) ?_
  refine kcalll (wc := []) (wr := [xO r 2 [.long (zB (zO σ)), .long (zB (zL σ)), .long (zB (zS σ)), .long (zB (zF (clrS d σ))), .long (zB (zV σ)), .ref a, .ref b], xI g a 49 (zT σ), xI g b 49 (zI σ)]) (wn := fun (u : Unit) => [xO r 2 [.long (zB (zO σ)), .long (zB (zL σ)), .long (zB (zS σ)), .long (zB (zF (clrS d σ))), .long (zB (zV σ)), .ref a, .ref b], xI g a 49 (zT σ), xI g b 49 (zI σ)]) F w [] [0, 1, 2] [0, 1, 2] rfl rfl rfl (fun _ => rfl)
    (fun hp => va_runSN (As := [.int (nI d)]) (rest := [.long (zB (zV σ)), .ref r]) F.1 (kX5_bit l g d H.size (by omega)) (⟨va_cnB (host := RX5) 1 hts gX2_clear_X5_bit_n42 rfl rfl rfl (F.2.2.2.1.2.1 _ (by decide +kernel)) (hts (.initialized RX5) (by decide +kernel)) hd_X5_bit ⟨Nat.le_of_ble_eq_true rfl, Nat.le_of_ble_eq_true rfl⟩, hts (.static yX5_bit) (by decide +kernel), trivial⟩) hp rfl rfl hl.1 rfl (lv_room (Nat.le_of_ble_eq_true rfl)) dX2_clear_23 ⟨Nat.le_of_ble_eq_true rfl, Nat.le_of_ble_eq_true rfl⟩)
    (fun r_3 _ H locs h_4 w => ?_)
  subst h_4
  refine lv_ldc2 (v := (-1)) hx hb F.1.2.2.2.1 (hts (.constantLong RX2 53 (-1)) (by decide +kernel)) dX2_clear_26 ?_
  refine lv_lxor hx hb dX2_clear_29 ?_
  refine lv_land hx hb dX2_clear_30 ?_
  refine ktopl (y := zB (zV (clrS d σ))) (zV_clr hd.1 hd.2) ?_
  refine kput (fs := [.long (zB (zO σ)), .long (zB (zL σ)), .long (zB (zS σ)), .long (zB (zF (clrS d σ))), .long (zB (zV σ)), .ref a, .ref b]) F w in_X2_clear_X2 tyX2_ok nmX2 0 rfl rfl 4 (by decide) (by decide +kernel) rfl rfl (rfl) (rfl) (Nat.le_of_ble_eq_true rfl) (wn := [xO r 2 [.long (zB (zO σ)), .long (zB (zL σ)), .long (zB (zS σ)), .long (zB (zF (clrS d σ))), .long (zB (zV (clrS d σ))), .ref a, .ref b], xI g a 49 (zT σ), xI g b 49 (zI σ)]) rfl dX2_clear_31 (fun H locs w => ?_)
  have w : kW g A s [cR r a b (clrS d σ), xI g a 49 (zT (clrS d σ)), xI g b 49 (zI (clrS d σ))] H locs := by
    have w := w
    exact w
  subst hA
  subst hQ
  exact kretv F w () [0, 1, 2] rfl rfl (trivial) (Nat.le_of_ble_eq_true rfl) (Nat.le_of_ble_eq_true rfl) dX2_clear_34
theorem in_X2_kindAt_X2 : ∀ w ∈ wsX20, w ∈ wsX2_kindAt := by decide +kernel
abbrev rmX2_kindAt : Room := { frames := 1, cells := 0, slots := 0, locals := 22 }
set_option maxHeartbeats 4000000 in
set_option maxRecDepth 100000 in
theorem kX2_kindAt (l : Launch) (g : GG) (r : Nat) (a : Nat) (b : Nat) (σ : Sg) (d : Nat) (sz : Nat) (hd : 1 ≤ d ∧ d ≤ 48) : Met l yX2_kindAt wsX2_kindAt rmX2_kindAt (va_Pc [.ref r, .int (nI d)] (kPre g [cR r a b σ, xI g a 49 (zT σ), xI g b 49 (zI σ)] sz)) (va_Qi (fun (r : Int32) (u : Unit) => r = bI (zV σ d)) (kB g (va_A [cR r a b σ, xI g a 49 (zT σ), xI g b 49 (zI σ)] sz) (fun u => [cR r a b σ, xI g a 49 (zT σ), xI g b 49 (zI σ)])) (va_A [cR r a b σ, xI g a 49 (zT σ), xI g b 49 (zI σ)] sz)) 0 0 (va_A [cR r a b σ, xI g a 49 (zT σ), xI g b 49 (zI σ)] sz) := by
  refine kMet (cc := cX2_kindAt) (maxL := 2) (ret := (some .int)) (own := RX2) (by decide) rfl rfl (Nat.le_of_ble_eq_true rfl) ?_
  intro p e s m args below meth c ls Q H locs A F w hl hnm hA hQ
  have hx := F.1.1
  have hb := F.1.2.1
  have hts := F.1.2.2.2.2
  have hl : lv_has ls 2 [(0, .ref r), (1, .int (nI d))] := hl
  refine lv_aload_n hx hb dX2_kindAt_0 rfl (lv_at hl 0 rfl) ?_
  refine kget (fs := [.long (zB (zO σ)), .long (zB (zL σ)), .long (zB (zS σ)), .long (zB (zF σ)), .long (zB (zV σ)), .ref a, .ref b]) F w in_X2_kindAt_X2 0 rfl rfl 4 (by decide) (by decide +kernel) rfl rfl dX2_kindAt_1 ?_
  refine lv_iload_n hx hb dX2_kindAt_4 rfl (lv_at hl 1 rfl) ?_
  refine kcalli (wc := []) (wr := [cR r a b σ, xI g a 49 (zT σ), xI g b 49 (zI σ)]) (wn := fun (u : Unit) => [cR r a b σ, xI g a 49 (zT σ), xI g b 49 (zI σ)]) F w [] [0, 1, 2] [0, 1, 2] rfl rfl rfl (fun _ => rfl)
    (fun hp => va_runSN (As := [.long (zB (zV σ)), .int (nI d)]) (rest := []) F.1 (kX5_contains l g (zB (zV σ)) d H.size (by omega)) (⟨va_cnB (host := RX5) 2 hts gX2_kindAt_X5_contains_n38 rfl rfl rfl (F.2.2.2.1.2.1 _ (by decide +kernel)) (hts (.initialized RX5) (by decide +kernel)) hd_X5_contains ⟨Nat.le_of_ble_eq_true rfl, Nat.le_of_ble_eq_true rfl⟩, hts (.static yX5_contains) (by decide +kernel), trivial⟩) hp rfl rfl hl.1 rfl (lv_room (Nat.le_of_ble_eq_true rfl)) dX2_kindAt_5 ⟨Nat.le_of_ble_eq_true rfl, Nat.le_of_ble_eq_true rfl⟩)
    (fun r_1 _ H locs h_2 w => ?_)
  subst h_2
  refine ktopi (y := bI (zV σ d)) (congrArg bI (zG_in (by omega) (by omega))) ?_
  refine lv_if_eq (tgt := 15) hx hb dX2_kindAt_8 (by decide) (fun h_3 => ?_) (fun h_3 => ?_)
  · have h_3 : (zV σ d) = false := bI_z.mp h_3
    refine lv_iconst (v := nI 0) hx hb dX2_kindAt_15 (by decide) ?_
    subst hA
    subst hQ
    exact kreti F w () [0, 1, 2] rfl rfl (by show nI 0 = bI (zV σ d); rw [h_3]; rfl) (Nat.le_of_ble_eq_true rfl) (Nat.le_of_ble_eq_true rfl) dX2_kindAt_16
  · have h_3 : (zV σ d) = true := bI_o.mp h_3
    refine lv_iconst (v := nI 1) hx hb dX2_kindAt_11 (by decide) ?_
    refine lv_goto (tgt := 16) hx hb dX2_kindAt_12 (by decide) ?_
    subst hA
    subst hQ
    exact kreti F w () [0, 1, 2] rfl rfl (by show nI 1 = bI (zV σ d); rw [h_3]; rfl) (Nat.le_of_ble_eq_true rfl) (Nat.le_of_ble_eq_true rfl) dX2_kindAt_16
theorem in_X2_doorsWith_X2 : ∀ w ∈ wsX20, w ∈ wsX2_doorsWith := by decide +kernel
abbrev rmX2_doorsWith : Room := { frames := 0, cells := 0, slots := 0, locals := 0 }
set_option maxHeartbeats 4000000 in
set_option maxRecDepth 100000 in
theorem kX2_doorsWith (l : Launch) (g : GG) (r : Nat) (a : Nat) (b : Nat) (σ : Sg) (kd : Bool) (sz : Nat)  : Met l yX2_doorsWith wsX2_doorsWith rmX2_doorsWith (va_Pc [.ref r, .int (bI kd)] (kPre g [cR r a b σ, xI g a 49 (zT σ), xI g b 49 (zI σ)] sz)) (va_Ql (fun (r : Int64) (u : Unit) => r = zB (kindP σ kd)) (kB g (va_A [cR r a b σ, xI g a 49 (zT σ), xI g b 49 (zI σ)] sz) (fun u => [cR r a b σ, xI g a 49 (zT σ), xI g b 49 (zI σ)])) (va_A [cR r a b σ, xI g a 49 (zT σ), xI g b 49 (zI σ)] sz)) 0 0 (va_A [cR r a b σ, xI g a 49 (zT σ), xI g b 49 (zI σ)] sz) := by
  refine kMet (cc := cX2_doorsWith) (maxL := 2) (ret := (some .long)) (own := RX2) (by decide) rfl rfl (Nat.le_of_ble_eq_true rfl) ?_
  intro p e s m args below meth c ls Q H locs A F w hl hnm hA hQ
  have hx := F.1.1
  have hb := F.1.2.1
  have hts := F.1.2.2.2.2
  have hl : lv_has ls 2 [(0, .ref r), (1, .int (bI kd))] := hl
  refine lv_iload_n hx hb dX2_doorsWith_0 rfl (lv_at hl 1 rfl) ?_
  refine lv_iconst (v := nI 1) hx hb dX2_doorsWith_1 (by decide) ?_
  refine lv_icmp_ne (tgt := 12) hx hb dX2_doorsWith_2 (by decide) (fun h_1 => ?_) (fun h_1 => ?_)
  · have h_1 : kd = false := bI_n1.mp h_1
    refine lv_aload_n hx hb dX2_doorsWith_12 rfl (lv_at hl 0 rfl) ?_
    refine kget (fs := [.long (zB (zO σ)), .long (zB (zL σ)), .long (zB (zS σ)), .long (zB (zF σ)), .long (zB (zV σ)), .ref a, .ref b]) F w in_X2_doorsWith_X2 0 rfl rfl 3 (by decide) (by decide +kernel) rfl rfl dX2_doorsWith_13 ?_
    refine lv_aload_n hx hb dX2_doorsWith_16 rfl (lv_at hl 0 rfl) ?_
    refine kget (fs := [.long (zB (zO σ)), .long (zB (zL σ)), .long (zB (zS σ)), .long (zB (zF σ)), .long (zB (zV σ)), .ref a, .ref b]) F w in_X2_doorsWith_X2 0 rfl rfl 4 (by decide) (by decide +kernel) rfl rfl dX2_doorsWith_17 ?_
    refine lv_ldc2 (v := (-1)) hx hb F.1.2.2.2.1 (hts (.constantLong RX2 53 (-1)) (by decide +kernel)) dX2_doorsWith_20 ?_
    refine lv_lxor hx hb dX2_doorsWith_23 ?_
    refine lv_land hx hb dX2_doorsWith_24 ?_
    refine ktopl (y := zB (kindP σ kd)) (kindP_0 h_1) ?_
    subst hA
    subst hQ
    exact kretl F w () [0, 1, 2] rfl rfl (rfl) (Nat.le_of_ble_eq_true rfl) (Nat.le_of_ble_eq_true rfl) dX2_doorsWith_25
  · have h_1 : kd = true := bI_1.mp h_1
    refine lv_aload_n hx hb dX2_doorsWith_5 rfl (lv_at hl 0 rfl) ?_
    refine kget (fs := [.long (zB (zO σ)), .long (zB (zL σ)), .long (zB (zS σ)), .long (zB (zF σ)), .long (zB (zV σ)), .ref a, .ref b]) F w in_X2_doorsWith_X2 0 rfl rfl 4 (by decide) (by decide +kernel) rfl rfl dX2_doorsWith_6 ?_
    refine lv_goto (tgt := 25) hx hb dX2_doorsWith_9 (by decide) ?_
    refine ktopl (y := zB (kindP σ kd)) (kindP_1 h_1) ?_
    subst hA
    subst hQ
    exact kretl F w () [0, 1, 2] rfl rfl (rfl) (Nat.le_of_ble_eq_true rfl) (Nat.le_of_ble_eq_true rfl) dX2_doorsWith_25
