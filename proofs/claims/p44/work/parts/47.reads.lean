/-! ===== the law's texts: typed, asked for faults, played ===== -/
theorem ty_s (T : Nat → Int32) (cs : List Nat) (k : Nat) : upd (tyL T 0 cs) cs.length (nI k) = tyL T 0 (cs ++ [k]) := by
  rw [tyL_app, Nat.zero_add]; rfl
theorem ty_a (T : Nat → Int32) (cs ds : List Nat) : tyL (tyL T 0 cs) cs.length ds = tyL T 0 (cs ++ ds) := by
  rw [tyL_app, Nat.zero_add]
theorem le_s (cs : List Nat) (k : Nat) : cs.length + 1 = (cs ++ [k]).length := by simp
theorem le_a (cs ds : List Nat) : cs.length + ds.length = (cs ++ ds).length := by simp
theorem dgs_1 {v : Nat} (h : v < 10) (T : Nat → Int32) (L : Nat) : L + 1 = L + (dgs v).length ∧ upd T L (nI (48 + v % 10)) = tyL T L (dgs v) := by
  rcases dgs_l v with ⟨-, h2, h3⟩ | ⟨h1, -, -⟩
  · rw [h3, h2, Nat.mod_eq_of_lt h]; exact ⟨rfl, rfl⟩
  · omega
theorem dgs_2 {v : Nat} (h : v ≥ 10) (T : Nat → Int32) (L : Nat) : L + 1 + 1 = L + (dgs v).length ∧ upd (upd T L (nI (48 + v / 10))) (L + 1) (nI (48 + v % 10)) = tyL T L (dgs v) := by
  rcases dgs_l v with ⟨h1, -, -⟩ | ⟨-, h2, h3⟩
  · omega
  · rw [h3, h2]; exact ⟨rfl, rfl⟩
theorem dgs_le (v : Nat) : (dgs v).length ≤ 2 ∧ 1 ≤ (dgs v).length := by rcases dgs_l v with h | h <;> omega
/-- all that the law's acts may leave otherwise -/
abbrev SA : Type := Sg × Nat × (Nat → Nat) × (Nat → Nat) × (Nat → Nat) × (Nat → Sg) × Nat × (Nat → Int32) × Nat × Nat × Nat × Nat × Sg × Int32 × Nat × Nat × Nat × Nat
/-- nothing is changed, or it is one change -/
def actP (σ : Sg) (kn : Nat) (γ : Nat → Sg) (σ' : Sg) (kn' : Nat) (γ' : Nat → Sg) (L' : Nat) : Prop :=
  ((σ' = σ ∧ kn' = kn ∧ γ' = γ) ∨ (kn' = pushN kn ∧ γ' = pushG γ kn σ)) ∧ L' ≤ 60 ∧ ∀ B, gB B σ → gB (B + 288000) σ'
theorem actP_0 {σ : Sg} {kn : Nat} {γ : Nat → Sg} {L' : Nat} (h : L' ≤ 60) : actP σ kn γ σ kn γ L' := ⟨Or.inl ⟨rfl, rfl, rfl⟩, h, fun _ hB => hB.mono (by omega)⟩
theorem actP_1 {σ σ' : Sg} {kn : Nat} {γ : Nat → Sg} {L' : Nat} (h : L' ≤ 60) (hg : ∀ B, gB B σ → gB (B + 288000) σ') : actP σ kn γ σ' (pushN kn) (pushG γ kn σ) L' := ⟨Or.inr ⟨rfl, rfl⟩, h, hg⟩
theorem ord1 {vb a : Nat} (h : vb = 112 ∨ vb = 100 ∨ vb = 108) (ha : a ≤ 99) : ∀ e, e = 59 ∨ e = 46 → isOrd (([vb] ++ dgs a) ++ [e]) := fun e he => Or.inl ⟨vb, a, e, h, ha, he, by simp⟩
theorem ord2 {vb a sp b : Nat} (h : vb = 114 ∨ vb = 116) (ha : a ≤ 99) (hs : sp = 44 ∨ sp = 46) (hb : b ≤ 99) : ∀ e, e = 59 ∨ e = 46 → isOrd (([vb] ++ dgs a ++ [sp] ++ dgs b) ++ [e]) := fun e he => Or.inr ⟨vb, a, sp, b, e, h, ha, hs, hb, he, by simp⟩
theorem hd_X5_type : yX5_type.cls ≠ "java/lang/invoke/MethodHandle" ∧ yX5_type.cls ≠ "java/lang/invoke/VarHandle" ∧ (parseMethodDescriptor yX5_type.desc).map (fun d => d.parameters.length) = some 1 := by decide +kernel
abbrev rmL_number : Room := { frames := 2, cells := 0, slots := 0, locals := 42 }
set_option maxHeartbeats 4000000 in
set_option maxRecDepth 100000 in
theorem kL_number (l : Launch) (g : GG) (x : Nat) (nw : Nat) (sn : Nat) (tk : Bool) (hs : Nat) (tx : Nat) (tr : Nat) (ch : Nat) (L : Nat) (T : Nat → Int32) (v9 : Nat) (sz : Nat) (hv9 : v9 ≤ 99) (hL58 : L ≤ 58) : Met l yL_number wsL_number rmL_number (va_Pc [.ref x, .int (nI v9)] (kPre g [cX x nw sn tk hs tx tr, cT tx ch L, xC g ch 60 T] sz)) (va_Qi (fun (r : Int32) (u : Unit) => r = bI true) (kB g (va_A [cX x nw sn tk hs tx tr, cT tx ch L, xC g ch 60 T] sz) (fun u => [cX x nw sn tk hs tx tr, cT tx ch (L + (dgs v9).length), xC g ch 60 (tyL T L (dgs v9))])) (va_A [cX x nw sn tk hs tx tr, cT tx ch L, xC g ch 60 T] sz)) 0 0 (va_A [cX x nw sn tk hs tx tr, cT tx ch L, xC g ch 60 T] sz) := by
  refine kMet (cc := cL_number) (maxL := 2) (ret := (some .boolean)) (own := RL) (by decide) rfl rfl (Nat.le_of_ble_eq_true rfl) ?_
  intro p e s m args below meth c ls Q H locs A F w hl hnm hA hQ
  have hx := F.1.1
  have hb := F.1.2.1
  have hts := F.1.2.2.2.2
  have hl : lv_has ls 2 [(0, .ref x), (1, .int (nI v9))] := hl
  refine lv_iload_n hx hb dL_number_0 rfl (lv_at hl 1 rfl) ?_
  refine lv_bipush (v := nI 10) hx hb dL_number_1 (by decide) ?_
  refine lv_icmp_lt (tgt := 20) hx hb dL_number_3 (by decide) (fun h_1 => ?_) (fun h_1 => ?_)
  · have h_1 : v9 < 10 := (kc_lt_t (by omega) (by omega)).mp h_1
    have hvd : v9 / 10 ≤ 9 ∧ v9 % 10 ≤ 9 := by omega
    refine lv_aload_n hx hb dL_number_20 rfl (lv_at hl 0 rfl) ?_
    refine lv_bipush (v := nI 48) hx hb dL_number_21 (by decide) ?_
    refine lv_iload_n hx hb dL_number_23 rfl (lv_at hl 1 rfl) ?_
    refine lv_bipush (v := nI 10) hx hb dL_number_24 (by decide) ?_
    refine lv_irem hx hb dL_number_26 ((kc0_eq_f (by omega)).mpr (by omega)) ?_
    refine ktopi (y := nI (v9 % 10)) (pk_rem (a := v9) (d := 10) (by omega) (by omega) (by omega)) ?_
    refine lv_iadd hx hb dL_number_27 ?_
    refine ktopi (y := nI (48 + v9 % 10)) (nI_add 48 (v9 % 10)) ?_
    refine kcalli (wc := [cX x nw sn tk hs tx tr, cT tx ch L, xC g ch 60 T]) (wr := []) (wn := fun (u : Unit) => [cX x nw sn tk hs tx tr, cT tx ch (L + 1), xC g ch 60 (upd T L (nI (48 + v9 % 10)))]) F w [0, 1, 2] [] [0, 1, 2] rfl rfl rfl (fun _ => rfl)
      (fun hp => va_runV (As := [.int (nI (48 + v9 % 10))]) (rest := []) F.1 (kX5_type_k l g x nw sn tk hs tx tr ch L T (48 + v9 % 10) H.size (by omega) (by omega)) (cwV 1 hts gL_number_X5_type rfl rfl rfl ⟨rfl, hd_X5_type⟩ ⟨Nat.le_of_ble_eq_true rfl, Nat.le_of_ble_eq_true rfl⟩) ⟨hp.1, va_recv F.2.2.2.1.1 w.1 (q0 := 0) (ci := 5) rfl rfl, hp.2⟩ rfl rfl hl.1 rfl (lv_room (Nat.le_of_ble_eq_true rfl)) dL_number_28 ⟨Nat.le_of_ble_eq_true rfl, Nat.le_of_ble_eq_true rfl⟩)
      (fun r_2 _ H locs h_3 w => ?_)
    subst h_3
    have w : kW g A s [cX x nw sn tk hs tx tr, cT tx ch (L + (dgs v9).length), xC g ch 60 (tyL T L (dgs v9))] H locs := by
      have w := w
      rw [← (dgs_1 h_1 T L).1, ← (dgs_1 h_1 T L).2]; exact w
    refine lv_if_le (tgt := 38) hx hb dL_number_31 (by decide) (fun h_4 => ?_) (fun h_4 => ?_)
    · exact absurd ((kc0_le_t (by omega)).mp h_4) (by omega)
    refine lv_iconst (v := nI 1) hx hb dL_number_34 (by decide) ?_
    refine lv_goto (tgt := 39) hx hb dL_number_35 (by decide) ?_
    refine ktopi (y := bI true) (by decide) ?_
    subst hA
    subst hQ
    exact kretz F w () [0, 1, 2] rfl rfl (rfl) (kz_n _) (Nat.le_of_ble_eq_true rfl) (Nat.le_of_ble_eq_true rfl) dL_number_39
  · have h_1 : v9 ≥ 10 := (kc_lt_f (by omega) (by omega)).mp h_1
    have hvd : v9 / 10 ≤ 9 ∧ v9 % 10 ≤ 9 := by omega
    refine lv_aload_n hx hb dL_number_6 rfl (lv_at hl 0 rfl) ?_
    refine lv_bipush (v := nI 48) hx hb dL_number_7 (by decide) ?_
    refine lv_iload_n hx hb dL_number_9 rfl (lv_at hl 1 rfl) ?_
    refine lv_bipush (v := nI 10) hx hb dL_number_10 (by decide) ?_
    refine lv_idiv hx hb dL_number_12 ((kc0_eq_f (by omega)).mpr (by omega)) ?_
    refine ktopi (y := nI (v9 / 10)) (pk_div (a := v9) (d := 10) (by omega) (by omega) (by omega)) ?_
    refine lv_iadd hx hb dL_number_13 ?_
    refine ktopi (y := nI (48 + v9 / 10)) (nI_add 48 (v9 / 10)) ?_
    refine kcalli (wc := [cX x nw sn tk hs tx tr, cT tx ch L, xC g ch 60 T]) (wr := []) (wn := fun (u : Unit) => [cX x nw sn tk hs tx tr, cT tx ch (L + 1), xC g ch 60 (upd T L (nI (48 + v9 / 10)))]) F w [0, 1, 2] [] [0, 1, 2] rfl rfl rfl (fun _ => rfl)
      (fun hp => va_runV (As := [.int (nI (48 + v9 / 10))]) (rest := []) F.1 (kX5_type_k l g x nw sn tk hs tx tr ch L T (48 + v9 / 10) H.size (by omega) (by omega)) (cwV 1 hts gL_number_X5_type rfl rfl rfl ⟨rfl, hd_X5_type⟩ ⟨Nat.le_of_ble_eq_true rfl, Nat.le_of_ble_eq_true rfl⟩) ⟨hp.1, va_recv F.2.2.2.1.1 w.1 (q0 := 0) (ci := 5) rfl rfl, hp.2⟩ rfl rfl hl.1 rfl (lv_room (Nat.le_of_ble_eq_true rfl)) dL_number_14 ⟨Nat.le_of_ble_eq_true rfl, Nat.le_of_ble_eq_true rfl⟩)
      (fun r_5 _ H locs h_6 w => ?_)
    subst h_6
    refine lv_if_le (tgt := 38) hx hb dL_number_17 (by decide) (fun h_7 => ?_) (fun h_7 => ?_)
    · exact absurd ((kc0_le_t (by omega)).mp h_7) (by omega)
    have hvd : v9 / 10 ≤ 9 ∧ v9 % 10 ≤ 9 := by omega
    refine lv_aload_n hx hb dL_number_20 rfl (lv_at hl 0 rfl) ?_
    refine lv_bipush (v := nI 48) hx hb dL_number_21 (by decide) ?_
    refine lv_iload_n hx hb dL_number_23 rfl (lv_at hl 1 rfl) ?_
    refine lv_bipush (v := nI 10) hx hb dL_number_24 (by decide) ?_
    refine lv_irem hx hb dL_number_26 ((kc0_eq_f (by omega)).mpr (by omega)) ?_
    refine ktopi (y := nI (v9 % 10)) (pk_rem (a := v9) (d := 10) (by omega) (by omega) (by omega)) ?_
    refine lv_iadd hx hb dL_number_27 ?_
    refine ktopi (y := nI (48 + v9 % 10)) (nI_add 48 (v9 % 10)) ?_
    refine kcalli (wc := [cX x nw sn tk hs tx tr, cT tx ch (L + 1), xC g ch 60 (upd T L (nI (48 + v9 / 10)))]) (wr := []) (wn := fun (u : Unit) => [cX x nw sn tk hs tx tr, cT tx ch (L + 1 + 1), xC g ch 60 (upd (upd T L (nI (48 + v9 / 10))) (L + 1) (nI (48 + v9 % 10)))]) F w [0, 1, 2] [] [0, 1, 2] rfl rfl rfl (fun _ => rfl)
      (fun hp => va_runV (As := [.int (nI (48 + v9 % 10))]) (rest := []) F.1 (kX5_type_k l g x nw sn tk hs tx tr ch (L + 1) (upd T L (nI (48 + v9 / 10))) (48 + v9 % 10) H.size (by omega) (by omega)) (cwV 1 hts gL_number_X5_type rfl rfl rfl ⟨rfl, hd_X5_type⟩ ⟨Nat.le_of_ble_eq_true rfl, Nat.le_of_ble_eq_true rfl⟩) ⟨hp.1, va_recv F.2.2.2.1.1 w.1 (q0 := 0) (ci := 5) rfl rfl, hp.2⟩ rfl rfl hl.1 rfl (lv_room (Nat.le_of_ble_eq_true rfl)) dL_number_28 ⟨Nat.le_of_ble_eq_true rfl, Nat.le_of_ble_eq_true rfl⟩)
      (fun r_8 _ H locs h_9 w => ?_)
    subst h_9
    have w : kW g A s [cX x nw sn tk hs tx tr, cT tx ch (L + (dgs v9).length), xC g ch 60 (tyL T L (dgs v9))] H locs := by
      have w := w
      rw [← (dgs_2 h_1 T L).1, ← (dgs_2 h_1 T L).2]; exact w
    refine lv_if_le (tgt := 38) hx hb dL_number_31 (by decide) (fun h_10 => ?_) (fun h_10 => ?_)
    · exact absurd ((kc0_le_t (by omega)).mp h_10) (by omega)
    refine lv_iconst (v := nI 1) hx hb dL_number_34 (by decide) ?_
    refine lv_goto (tgt := 39) hx hb dL_number_35 (by decide) ?_
    refine ktopi (y := bI true) (by decide) ?_
    subst hA
    subst hQ
    exact kretz F w () [0, 1, 2] rfl rfl (rfl) (kz_n _) (Nat.le_of_ble_eq_true rfl) (Nat.le_of_ble_eq_true rfl) dL_number_39
theorem hd_L_faultCause : yL_faultCause.cls ≠ "java/lang/invoke/MethodHandle" ∧ yL_faultCause.cls ≠ "java/lang/invoke/VarHandle" ∧ (parseMethodDescriptor yL_faultCause.desc).map (fun d => d.parameters.length) = some 1 := by decide +kernel
theorem hd_L_faultPosition : yL_faultPosition.cls ≠ "java/lang/invoke/MethodHandle" ∧ yL_faultPosition.cls ≠ "java/lang/invoke/VarHandle" ∧ (parseMethodDescriptor yL_faultPosition.desc).map (fun d => d.parameters.length) = some 1 := by decide +kernel
theorem hd_L_faultReason : yL_faultReason.cls ≠ "java/lang/invoke/MethodHandle" ∧ yL_faultReason.cls ≠ "java/lang/invoke/VarHandle" ∧ (parseMethodDescriptor yL_faultReason.desc).map (fun d => d.parameters.length) = some 1 := by decide +kernel
theorem hd_L_number : yL_number.cls ≠ "java/lang/invoke/MethodHandle" ∧ yL_number.cls ≠ "java/lang/invoke/VarHandle" ∧ (parseMethodDescriptor yL_number.desc).map (fun d => d.parameters.length) = some 2 := by decide +kernel
theorem hd_L_play : yL_play.cls ≠ "java/lang/invoke/MethodHandle" ∧ yL_play.cls ≠ "java/lang/invoke/VarHandle" ∧ (parseMethodDescriptor yL_play.desc).map (fun d => d.parameters.length) = some 1 := by decide +kernel
theorem hd_X5_clearText : yX5_clearText.cls ≠ "java/lang/invoke/MethodHandle" ∧ yX5_clearText.cls ≠ "java/lang/invoke/VarHandle" ∧ (parseMethodDescriptor yX5_clearText.desc).map (fun d => d.parameters.length) = some 0 := by decide +kernel
abbrev rmL_reads : Room := { frames := 8, cells := 3, slots := 18, locals := 175 }
set_option maxHeartbeats 4000000 in
set_option maxRecDepth 100000 in
theorem kL_reads (l : Launch) (hnl : l.stackTraces = false) (g : GG) (x : Nat) (nw : Nat) (sn : Nat) (tk : Bool) (hs : Nat) (tx : Nat) (tr : Nat) (na : Nat) (nb : Nat) (σ : Sg) (hq : Nat) (kn : Nat) (ρ : Nat → Nat) (α : Nat → Nat) (β : Nat → Nat) (γ : Nat → Sg) (ch : Nat) (L : Nat) (T : Nat → Int32) (tw : Nat) (od : Nat) (os : Nat) (po : Nat) (re : Nat) (ca : Nat) (ta : Nat) (tb : Nat) (τ : Sg) (vb : Int32) (n1 : Nat) (n2 : Nat) (nm : Nat) (en : Nat) (v : Int32) (sz : Nat) (hL : L ≤ 60) (hkn : kn ≤ 4) : Met l yL_reads wsL_reads rmL_reads (va_Pc [.ref x, .int v] (kPre g [cX x nw sn tk hs tx tr, cR nw na nb σ, xI g na 49 (zT σ), xI g nb 49 (zI σ), cH hs hq kn, xQ g hq 4 (rq ρ), cR (ρ 0) (α 0) (β 0) (γ 0), xI g (α 0) 49 (zT (γ 0)), xI g (β 0) 49 (zI (γ 0)), cR (ρ 1) (α 1) (β 1) (γ 1), xI g (α 1) 49 (zT (γ 1)), xI g (β 1) 49 (zI (γ 1)), cR (ρ 2) (α 2) (β 2) (γ 2), xI g (α 2) 49 (zT (γ 2)), xI g (β 2) 49 (zI (γ 2)), cR (ρ 3) (α 3) (β 3) (γ 3), xI g (α 3) 49 (zT (γ 3)), xI g (β 3) 49 (zI (γ 3)), cT tx ch L, xC g ch 60 T, cTr tr tw od os po re ca, cR tw ta tb τ, xI g ta 49 (zT τ), xI g tb 49 (zI τ), cO od vb n1 n2 nm en] sz)) (va_Qi (fun (r : Int32) (u : SA) => r = bI true ∧ actP σ kn γ u.1 u.2.1 u.2.2.2.2.2.1 u.2.2.2.2.2.2.1) (kB g (va_A [cX x nw sn tk hs tx tr, cR nw na nb σ, xI g na 49 (zT σ), xI g nb 49 (zI σ), cH hs hq kn, xQ g hq 4 (rq ρ), cR (ρ 0) (α 0) (β 0) (γ 0), xI g (α 0) 49 (zT (γ 0)), xI g (β 0) 49 (zI (γ 0)), cR (ρ 1) (α 1) (β 1) (γ 1), xI g (α 1) 49 (zT (γ 1)), xI g (β 1) 49 (zI (γ 1)), cR (ρ 2) (α 2) (β 2) (γ 2), xI g (α 2) 49 (zT (γ 2)), xI g (β 2) 49 (zI (γ 2)), cR (ρ 3) (α 3) (β 3) (γ 3), xI g (α 3) 49 (zT (γ 3)), xI g (β 3) 49 (zI (γ 3)), cT tx ch L, xC g ch 60 T, cTr tr tw od os po re ca, cR tw ta tb τ, xI g ta 49 (zT τ), xI g tb 49 (zI τ), cO od vb n1 n2 nm en] sz) (fun u => [cX x nw sn tk hs tx tr, cR nw na nb u.1, xI g na 49 (zT u.1), xI g nb 49 (zI u.1), cH hs hq u.2.1, xQ g hq 4 (rq u.2.2.1), cR (u.2.2.1 0) (u.2.2.2.1 0) (u.2.2.2.2.1 0) (u.2.2.2.2.2.1 0), xI g (u.2.2.2.1 0) 49 (zT (u.2.2.2.2.2.1 0)), xI g (u.2.2.2.2.1 0) 49 (zI (u.2.2.2.2.2.1 0)), cR (u.2.2.1 1) (u.2.2.2.1 1) (u.2.2.2.2.1 1) (u.2.2.2.2.2.1 1), xI g (u.2.2.2.1 1) 49 (zT (u.2.2.2.2.2.1 1)), xI g (u.2.2.2.2.1 1) 49 (zI (u.2.2.2.2.2.1 1)), cR (u.2.2.1 2) (u.2.2.2.1 2) (u.2.2.2.2.1 2) (u.2.2.2.2.2.1 2), xI g (u.2.2.2.1 2) 49 (zT (u.2.2.2.2.2.1 2)), xI g (u.2.2.2.2.1 2) 49 (zI (u.2.2.2.2.2.1 2)), cR (u.2.2.1 3) (u.2.2.2.1 3) (u.2.2.2.2.1 3) (u.2.2.2.2.2.1 3), xI g (u.2.2.2.1 3) 49 (zT (u.2.2.2.2.2.1 3)), xI g (u.2.2.2.2.1 3) 49 (zI (u.2.2.2.2.2.1 3)), cT tx ch u.2.2.2.2.2.2.1, xC g ch 60 u.2.2.2.2.2.2.2.1, cTr tr tw od u.2.2.2.2.2.2.2.2.1 u.2.2.2.2.2.2.2.2.2.1 u.2.2.2.2.2.2.2.2.2.2.1 u.2.2.2.2.2.2.2.2.2.2.2.1, cR tw ta tb u.2.2.2.2.2.2.2.2.2.2.2.2.1, xI g ta 49 (zT u.2.2.2.2.2.2.2.2.2.2.2.2.1), xI g tb 49 (zI u.2.2.2.2.2.2.2.2.2.2.2.2.1), cO od u.2.2.2.2.2.2.2.2.2.2.2.2.2.1 u.2.2.2.2.2.2.2.2.2.2.2.2.2.2.1 u.2.2.2.2.2.2.2.2.2.2.2.2.2.2.2.1 u.2.2.2.2.2.2.2.2.2.2.2.2.2.2.2.2.1 u.2.2.2.2.2.2.2.2.2.2.2.2.2.2.2.2.2])) (va_A [cX x nw sn tk hs tx tr, cR nw na nb σ, xI g na 49 (zT σ), xI g nb 49 (zI σ), cH hs hq kn, xQ g hq 4 (rq ρ), cR (ρ 0) (α 0) (β 0) (γ 0), xI g (α 0) 49 (zT (γ 0)), xI g (β 0) 49 (zI (γ 0)), cR (ρ 1) (α 1) (β 1) (γ 1), xI g (α 1) 49 (zT (γ 1)), xI g (β 1) 49 (zI (γ 1)), cR (ρ 2) (α 2) (β 2) (γ 2), xI g (α 2) 49 (zT (γ 2)), xI g (β 2) 49 (zI (γ 2)), cR (ρ 3) (α 3) (β 3) (γ 3), xI g (α 3) 49 (zT (γ 3)), xI g (β 3) 49 (zI (γ 3)), cT tx ch L, xC g ch 60 T, cTr tr tw od os po re ca, cR tw ta tb τ, xI g ta 49 (zT τ), xI g tb 49 (zI τ), cO od vb n1 n2 nm en] sz)) 3 18 (va_A [cX x nw sn tk hs tx tr, cR nw na nb σ, xI g na 49 (zT σ), xI g nb 49 (zI σ), cH hs hq kn, xQ g hq 4 (rq ρ), cR (ρ 0) (α 0) (β 0) (γ 0), xI g (α 0) 49 (zT (γ 0)), xI g (β 0) 49 (zI (γ 0)), cR (ρ 1) (α 1) (β 1) (γ 1), xI g (α 1) 49 (zT (γ 1)), xI g (β 1) 49 (zI (γ 1)), cR (ρ 2) (α 2) (β 2) (γ 2), xI g (α 2) 49 (zT (γ 2)), xI g (β 2) 49 (zI (γ 2)), cR (ρ 3) (α 3) (β 3) (γ 3), xI g (α 3) 49 (zT (γ 3)), xI g (β 3) 49 (zI (γ 3)), cT tx ch L, xC g ch 60 T, cTr tr tw od os po re ca, cR tw ta tb τ, xI g ta 49 (zT τ), xI g tb 49 (zI τ), cO od vb n1 n2 nm en] sz) := by
  refine kMet (cc := cL_reads) (maxL := 11) (ret := (some .boolean)) (own := RL) (by decide) rfl rfl (Nat.le_of_ble_eq_true rfl) ?_
  intro p e s m args below meth c ls Q H locs A F w hl hnm hA hQ
  have hx := F.1.1
  have hb := F.1.2.1
  have hts := F.1.2.2.2.2
  have hl : lv_has ls 11 [(0, .ref x), (1, .int v)] := hl
  have hn9l := lowN_lt v (n := 9) (by decide)
  refine lv_iload_n hx hb dL_reads_0 rfl (lv_at hl 1 rfl) ?_
  refine lv_bipush (v := nI 9) hx hb dL_reads_1 (by decide) ?_
  have lw_1 := lowN_lt v (n := 9) (by omega)
  refine kcalli (wc := []) (wr := [cX x nw sn tk hs tx tr, cR nw na nb σ, xI g na 49 (zT σ), xI g nb 49 (zI σ), cH hs hq kn, xQ g hq 4 (rq ρ), cR (ρ 0) (α 0) (β 0) (γ 0), xI g (α 0) 49 (zT (γ 0)), xI g (β 0) 49 (zI (γ 0)), cR (ρ 1) (α 1) (β 1) (γ 1), xI g (α 1) 49 (zT (γ 1)), xI g (β 1) 49 (zI (γ 1)), cR (ρ 2) (α 2) (β 2) (γ 2), xI g (α 2) 49 (zT (γ 2)), xI g (β 2) 49 (zI (γ 2)), cR (ρ 3) (α 3) (β 3) (γ 3), xI g (α 3) 49 (zT (γ 3)), xI g (β 3) 49 (zI (γ 3)), cT tx ch L, xC g ch 60 T, cTr tr tw od os po re ca, cR tw ta tb τ, xI g ta 49 (zT τ), xI g tb 49 (zI τ), cO od vb n1 n2 nm en]) (wn := fun (u : Unit) => [cX x nw sn tk hs tx tr, cR nw na nb σ, xI g na 49 (zT σ), xI g nb 49 (zI σ), cH hs hq kn, xQ g hq 4 (rq ρ), cR (ρ 0) (α 0) (β 0) (γ 0), xI g (α 0) 49 (zT (γ 0)), xI g (β 0) 49 (zI (γ 0)), cR (ρ 1) (α 1) (β 1) (γ 1), xI g (α 1) 49 (zT (γ 1)), xI g (β 1) 49 (zI (γ 1)), cR (ρ 2) (α 2) (β 2) (γ 2), xI g (α 2) 49 (zT (γ 2)), xI g (β 2) 49 (zI (γ 2)), cR (ρ 3) (α 3) (β 3) (γ 3), xI g (α 3) 49 (zT (γ 3)), xI g (β 3) 49 (zI (γ 3)), cT tx ch L, xC g ch 60 T, cTr tr tw od os po re ca, cR tw ta tb τ, xI g ta 49 (zT τ), xI g tb 49 (zI τ), cO od vb n1 n2 nm en]) F w [] [0, 1, 2, 3, 4, 5, 6, 7, 8, 9, 10, 11, 12, 13, 14, 15, 16, 17, 18, 19, 20, 21, 22, 23, 24] [0, 1, 2, 3, 4, 5, 6, 7, 8, 9, 10, 11, 12, 13, 14, 15, 16, 17, 18, 19, 20, 21, 22, 23, 24] rfl rfl rfl (fun _ => rfl)
    (fun hp => va_runS (As := [.int v, .int (nI 9)]) (rest := []) F.1 (kL_low l g v 9 H.size (by omega)) (va_cwS 2 hts gL_reads_L_low rfl rfl rfl hd_L_low ⟨Nat.le_of_ble_eq_true rfl, Nat.le_of_ble_eq_true rfl⟩) hp rfl rfl hl.1 rfl (lv_room (Nat.le_of_ble_eq_true rfl)) dL_reads_3 ⟨Nat.le_of_ble_eq_true rfl, Nat.le_of_ble_eq_true rfl⟩)
    (fun r_2 _ H locs h_3 w => ?_)
  subst h_3
  obtain ⟨n9, hn9⟩ : ∃ z, z = lowN v 9 := ⟨_, rfl⟩
  refine ktopi (y := nI n9) (by rw [hn9]) ?_
  refine lv_istore_n (lv' := [(2, .int (nI n9)), (0, .ref x), (1, .int v)]) hx hb dL_reads_6 rfl hl (by decide) rfl (fun ls hl => ?_)
  refine lv_aload_n hx hb dL_reads_7 rfl (lv_at hl 1 rfl) ?_
  refine kcalli (wc := [cX x nw sn tk hs tx tr, cT tx ch L, xC g ch 60 T]) (wr := [cR nw na nb σ, xI g na 49 (zT σ), xI g nb 49 (zI σ), cH hs hq kn, xQ g hq 4 (rq ρ), cR (ρ 0) (α 0) (β 0) (γ 0), xI g (α 0) 49 (zT (γ 0)), xI g (β 0) 49 (zI (γ 0)), cR (ρ 1) (α 1) (β 1) (γ 1), xI g (α 1) 49 (zT (γ 1)), xI g (β 1) 49 (zI (γ 1)), cR (ρ 2) (α 2) (β 2) (γ 2), xI g (α 2) 49 (zT (γ 2)), xI g (β 2) 49 (zI (γ 2)), cR (ρ 3) (α 3) (β 3) (γ 3), xI g (α 3) 49 (zT (γ 3)), xI g (β 3) 49 (zI (γ 3)), cTr tr tw od os po re ca, cR tw ta tb τ, xI g ta 49 (zT τ), xI g tb 49 (zI τ), cO od vb n1 n2 nm en]) (wn := fun (u : Unit) => [cX x nw sn tk hs tx tr, cR nw na nb σ, xI g na 49 (zT σ), xI g nb 49 (zI σ), cH hs hq kn, xQ g hq 4 (rq ρ), cR (ρ 0) (α 0) (β 0) (γ 0), xI g (α 0) 49 (zT (γ 0)), xI g (β 0) 49 (zI (γ 0)), cR (ρ 1) (α 1) (β 1) (γ 1), xI g (α 1) 49 (zT (γ 1)), xI g (β 1) 49 (zI (γ 1)), cR (ρ 2) (α 2) (β 2) (γ 2), xI g (α 2) 49 (zT (γ 2)), xI g (β 2) 49 (zI (γ 2)), cR (ρ 3) (α 3) (β 3) (γ 3), xI g (α 3) 49 (zT (γ 3)), xI g (β 3) 49 (zI (γ 3)), cT tx ch 0, xC g ch 60 T, cTr tr tw od os po re ca, cR tw ta tb τ, xI g ta 49 (zT τ), xI g tb 49 (zI τ), cO od vb n1 n2 nm en]) F w [0, 18, 19] [1, 2, 3, 4, 5, 6, 7, 8, 9, 10, 11, 12, 13, 14, 15, 16, 17, 20, 21, 22, 23, 24] [22, 0, 1, 2, 3, 4, 5, 6, 7, 8, 9, 10, 11, 12, 13, 14, 15, 16, 23, 24, 17, 18, 19, 20, 21] rfl rfl rfl (fun _ => rfl)
    (fun hp => va_runV (As := []) (rest := []) F.1 (kX5_clearText l g x nw sn tk hs tx tr ch L T H.size ) (cwV 0 hts gL_reads_X5_clearText rfl rfl rfl ⟨rfl, hd_X5_clearText⟩ ⟨Nat.le_of_ble_eq_true rfl, Nat.le_of_ble_eq_true rfl⟩) ⟨hp.1, va_recv F.2.2.2.1.1 w.1 (q0 := 0) (ci := 5) rfl rfl, hp.2⟩ rfl rfl hl.1 rfl (lv_room (Nat.le_of_ble_eq_true rfl)) dL_reads_8 ⟨Nat.le_of_ble_eq_true rfl, Nat.le_of_ble_eq_true rfl⟩)
    (fun r_4 _ H locs h_5 w => ?_)
  subst h_5
  refine lv_if_lt (tgt := 18) hx hb dL_reads_11 (by decide) (fun h_6 => ?_) (fun h_6 => ?_)
  · exact absurd h_6 (nI_nn (by omega))
  refine lv_iconst (v := nI 1) hx hb dL_reads_14 (by decide) ?_
  refine lv_goto (tgt := 19) hx hb dL_reads_15 (by decide) ?_
  refine lv_istore_n (lv' := [(3, .int (nI 1)), (2, .int (nI n9)), (0, .ref x), (1, .int v)]) hx hb dL_reads_19 rfl hl (by decide) rfl (fun ls hl => ?_)
  refine lv_iconst (v := nI 0) hx hb dL_reads_20 (by decide) ?_
  refine lv_istore (lv' := [(4, .int (nI 0)), (3, .int (nI 1)), (2, .int (nI n9)), (0, .ref x), (1, .int v)]) hx hb dL_reads_21 hl (by decide) rfl (fun ls hl => ?_)
  have w : kW g A s [cX x nw sn tk hs tx tr, cR nw na nb σ, xI g na 49 (zT σ), xI g nb 49 (zI σ), cH hs hq kn, xQ g hq 4 (rq ρ), cR (ρ 0) (α 0) (β 0) (γ 0), xI g (α 0) 49 (zT (γ 0)), xI g (β 0) 49 (zI (γ 0)), cR (ρ 1) (α 1) (β 1) (γ 1), xI g (α 1) 49 (zT (γ 1)), xI g (β 1) 49 (zI (γ 1)), cR (ρ 2) (α 2) (β 2) (γ 2), xI g (α 2) 49 (zT (γ 2)), xI g (β 2) 49 (zI (γ 2)), cR (ρ 3) (α 3) (β 3) (γ 3), xI g (α 3) 49 (zT (γ 3)), xI g (β 3) 49 (zI (γ 3)), cT tx ch (([] : List Nat).length), xC g ch 60 (tyL T 0 ([] : List Nat)), cTr tr tw od os po re ca, cR tw ta tb τ, xI g ta 49 (zT τ), xI g tb 49 (zI τ), cO od vb n1 n2 nm en] H locs := by
    have w := w
    exact w
  have LP_7 : ∀ (fu : Nat) (k : Nat) (cs : List Nat) (hk9 : k ≤ n9) (hO : Ords k cs) (H : Heap) (locs : List Loc) (ls : Array Slot), 20 - k < fu → kW g A s [cX x nw sn tk hs tx tr, cR nw na nb σ, xI g na 49 (zT σ), xI g nb 49 (zI σ), cH hs hq kn, xQ g hq 4 (rq ρ), cR (ρ 0) (α 0) (β 0) (γ 0), xI g (α 0) 49 (zT (γ 0)), xI g (β 0) 49 (zI (γ 0)), cR (ρ 1) (α 1) (β 1) (γ 1), xI g (α 1) 49 (zT (γ 1)), xI g (β 1) 49 (zI (γ 1)), cR (ρ 2) (α 2) (β 2) (γ 2), xI g (α 2) 49 (zT (γ 2)), xI g (β 2) 49 (zI (γ 2)), cR (ρ 3) (α 3) (β 3) (γ 3), xI g (α 3) 49 (zT (γ 3)), xI g (β 3) 49 (zI (γ 3)), cT tx ch cs.length, xC g ch 60 (tyL T 0 cs), cTr tr tw od os po re ca, cR tw ta tb τ, xI g ta 49 (zT τ), xI g tb 49 (zI τ), cO od vb n1 n2 nm en] H locs → lv_has ls 11 [(4, .int (nI k)), (3, .int (nI 1)), (2, .int (nI n9)), (0, .ref x), (1, .int v)] → W p l e rmL_reads s m args below meth c H locs 0 0 Q (F0 m 23 ls []) := by
    intro fu
    induction fu with
    | zero => intro k cs hk9 hO H locs ls hlt; omega
    | succ fu ih_7 =>
      intro k cs hk9 hO H locs ls hlt w hl
      refine lv_iload hx hb dL_reads_23 (lv_at hl 0 rfl) ?_
      refine lv_iload_n hx hb dL_reads_25 rfl (lv_at hl 2 rfl) ?_
      have hcl := Ords_l hO
      refine lv_icmp_ge (tgt := 357) hx hb dL_reads_26 (by decide) (fun h_8 => ?_) (fun h_8 => ?_)
      · have h_8 : k ≥ n9 := (kc_ge_t (by omega) (by omega)).mp h_8
        have hkn9 : k = n9 := by omega
        rw [hkn9] at hl hO
        have hL6 : cs.length ≤ 60 := by omega
        refine lv_aload_n hx hb dL_reads_357 rfl (lv_at hl 3 rfl) ?_
        refine kcalli (wc := [cX x nw sn tk hs tx tr, cH hs hq kn]) (wr := [cR nw na nb σ, xI g na 49 (zT σ), xI g nb 49 (zI σ), xQ g hq 4 (rq ρ), cR (ρ 0) (α 0) (β 0) (γ 0), xI g (α 0) 49 (zT (γ 0)), xI g (β 0) 49 (zI (γ 0)), cR (ρ 1) (α 1) (β 1) (γ 1), xI g (α 1) 49 (zT (γ 1)), xI g (β 1) 49 (zI (γ 1)), cR (ρ 2) (α 2) (β 2) (γ 2), xI g (α 2) 49 (zT (γ 2)), xI g (β 2) 49 (zI (γ 2)), cR (ρ 3) (α 3) (β 3) (γ 3), xI g (α 3) 49 (zT (γ 3)), xI g (β 3) 49 (zI (γ 3)), cT tx ch cs.length, xC g ch 60 (tyL T 0 cs), cTr tr tw od os po re ca, cR tw ta tb τ, xI g ta 49 (zT τ), xI g tb 49 (zI τ), cO od vb n1 n2 nm en]) (wn := fun (u : Unit) => [cX x nw sn tk hs tx tr, cR nw na nb σ, xI g na 49 (zT σ), xI g nb 49 (zI σ), cH hs hq kn, xQ g hq 4 (rq ρ), cR (ρ 0) (α 0) (β 0) (γ 0), xI g (α 0) 49 (zT (γ 0)), xI g (β 0) 49 (zI (γ 0)), cR (ρ 1) (α 1) (β 1) (γ 1), xI g (α 1) 49 (zT (γ 1)), xI g (β 1) 49 (zI (γ 1)), cR (ρ 2) (α 2) (β 2) (γ 2), xI g (α 2) 49 (zT (γ 2)), xI g (β 2) 49 (zI (γ 2)), cR (ρ 3) (α 3) (β 3) (γ 3), xI g (α 3) 49 (zT (γ 3)), xI g (β 3) 49 (zI (γ 3)), cT tx ch cs.length, xC g ch 60 (tyL T 0 cs), cTr tr tw od os po re ca, cR tw ta tb τ, xI g ta 49 (zT τ), xI g tb 49 (zI τ), cO od vb n1 n2 nm en]) F w [0, 4] [1, 2, 3, 5, 6, 7, 8, 9, 10, 11, 12, 13, 14, 15, 16, 17, 18, 19, 20, 21, 22, 23, 24] [23, 0, 1, 2, 24, 3, 4, 5, 6, 7, 8, 9, 10, 11, 12, 13, 14, 15, 16, 17, 18, 19, 20, 21, 22] rfl rfl rfl (fun _ => rfl)
          (fun hp => va_runV (As := []) (rest := []) F.1 (kX5_states_s l g x nw sn tk hs tx tr hq kn H.size ) (cwV 0 hts gL_reads_X5_states rfl rfl rfl ⟨rfl, hd_X5_states⟩ ⟨Nat.le_of_ble_eq_true rfl, Nat.le_of_ble_eq_true rfl⟩) ⟨hp.1, va_recv F.2.2.2.1.1 w.1 (q0 := 0) (ci := 5) rfl rfl, hp.2⟩ rfl rfl hl.1 rfl (lv_room (Nat.le_of_ble_eq_true rfl)) dL_reads_358 ⟨Nat.le_of_ble_eq_true rfl, Nat.le_of_ble_eq_true rfl⟩)
          (fun r_9 _ H locs h_10 w => ?_)
        subst h_10
        refine lv_istore (lv' := [(4, .int (nI kn)), (3, .int (nI 1)), (2, .int (nI n9)), (0, .ref x), (1, .int v)]) hx hb dL_reads_361 hl (by decide) rfl (fun ls hl => ?_)
        rcases (show zRe (tyL T 0 cs) cs.length σ = 0 ∨ zRe (tyL T 0 cs) cs.length σ ≠ 0 from Decidable.em _) with h_11 | h_11
        · skip
          refine lv_aload_n hx hb dL_reads_363 rfl (lv_at hl 3 rfl) ?_
          refine kcalli (wc := [cX x nw sn tk hs tx tr, cR nw na nb σ, xI g na 49 (zT σ), xI g nb 49 (zI σ), cT tx ch cs.length, xC g ch 60 (tyL T 0 cs), cTr tr tw od os po re ca, cR tw ta tb τ, xI g ta 49 (zT τ), xI g tb 49 (zI τ), cO od vb n1 n2 nm en]) (wr := [cH hs hq kn, xQ g hq 4 (rq ρ), cR (ρ 0) (α 0) (β 0) (γ 0), xI g (α 0) 49 (zT (γ 0)), xI g (β 0) 49 (zI (γ 0)), cR (ρ 1) (α 1) (β 1) (γ 1), xI g (α 1) 49 (zT (γ 1)), xI g (β 1) 49 (zI (γ 1)), cR (ρ 2) (α 2) (β 2) (γ 2), xI g (α 2) 49 (zT (γ 2)), xI g (β 2) 49 (zI (γ 2)), cR (ρ 3) (α 3) (β 3) (γ 3), xI g (α 3) 49 (zT (γ 3)), xI g (β 3) 49 (zI (γ 3))]) (wn := fun (u : Int32 × Nat × Nat × Nat × Nat) => [cX x nw sn tk hs tx tr, cR nw na nb σ, xI g na 49 (zT σ), xI g nb 49 (zI σ), cH hs hq kn, xQ g hq 4 (rq ρ), cR (ρ 0) (α 0) (β 0) (γ 0), xI g (α 0) 49 (zT (γ 0)), xI g (β 0) 49 (zI (γ 0)), cR (ρ 1) (α 1) (β 1) (γ 1), xI g (α 1) 49 (zT (γ 1)), xI g (β 1) 49 (zI (γ 1)), cR (ρ 2) (α 2) (β 2) (γ 2), xI g (α 2) 49 (zT (γ 2)), xI g (β 2) 49 (zI (γ 2)), cR (ρ 3) (α 3) (β 3) (γ 3), xI g (α 3) 49 (zT (γ 3)), xI g (β 3) 49 (zI (γ 3)), cT tx ch cs.length, xC g ch 60 (tyL T 0 cs), cTr tr tw od (zOs (tyL T 0 cs) cs.length σ) (zPo (tyL T 0 cs) cs.length σ) (zRe (tyL T 0 cs) cs.length σ) (zCa (tyL T 0 cs) cs.length σ), cR tw ta tb (zSt (tyL T 0 cs) cs.length σ), xI g ta 49 (zT (zSt (tyL T 0 cs) cs.length σ)), xI g tb 49 (zI (zSt (tyL T 0 cs) cs.length σ)), cO od u.1 u.2.1 u.2.2.1 u.2.2.2.1 u.2.2.2.2]) F w [0, 1, 2, 3, 18, 19, 20, 21, 22, 23, 24] [4, 5, 6, 7, 8, 9, 10, 11, 12, 13, 14, 15, 16, 17] [14, 15, 16, 17, 0, 1, 2, 3, 4, 5, 6, 7, 8, 9, 10, 11, 12, 13, 18, 19, 20, 21, 22, 23, 24] rfl rfl rfl (fun _ => rfl)
            (fun hp => vx_runSW (As := [.ref x]) (rest := []) F.1 (kL_faultPosition_N l hnl g x nw sn tk hs tx tr na nb σ ch cs.length (tyL T 0 cs) tw od os po re ca ta tb τ vb n1 n2 nm en H.size hL6 h_11) (vx_cwSW 1 hts gL_reads_L_faultPosition rfl rfl rfl hd_L_faultPosition ⟨Nat.le_of_ble_eq_true rfl, Nat.le_of_ble_eq_true rfl⟩) hp rfl rfl hl.1 rfl (lv_room (Nat.le_of_ble_eq_true rfl)) dL_reads_364 ⟨Nat.le_of_ble_eq_true rfl, Nat.le_of_ble_eq_true rfl⟩)
            (fun r_12 u H locs h_13 w => ?_)
          try dsimp only at h_13
          obtain ⟨u_14, hu9⟩ : ∃ z, z = u := ⟨_, rfl⟩
          subst hu9
          have w : kW g A s [cX x nw sn tk hs tx tr, cR nw na nb σ, xI g na 49 (zT σ), xI g nb 49 (zI σ), cH hs hq kn, xQ g hq 4 (rq ρ), cR (ρ 0) (α 0) (β 0) (γ 0), xI g (α 0) 49 (zT (γ 0)), xI g (β 0) 49 (zI (γ 0)), cR (ρ 1) (α 1) (β 1) (γ 1), xI g (α 1) 49 (zT (γ 1)), xI g (β 1) 49 (zI (γ 1)), cR (ρ 2) (α 2) (β 2) (γ 2), xI g (α 2) 49 (zT (γ 2)), xI g (β 2) 49 (zI (γ 2)), cR (ρ 3) (α 3) (β 3) (γ 3), xI g (α 3) 49 (zT (γ 3)), xI g (β 3) 49 (zI (γ 3)), cT tx ch cs.length, xC g ch 60 (tyL T 0 cs), cTr tr tw od (zOs (tyL T 0 cs) cs.length σ) (zPo (tyL T 0 cs) cs.length σ) (zRe (tyL T 0 cs) cs.length σ) (zCa (tyL T 0 cs) cs.length σ), cR tw ta tb (zSt (tyL T 0 cs) cs.length σ), xI g ta 49 (zT (zSt (tyL T 0 cs) cs.length σ)), xI g tb 49 (zI (zSt (tyL T 0 cs) cs.length σ)), cO od u_14.1 u_14.2.1 u_14.2.2.1 u_14.2.2.2.1 u_14.2.2.2.2] H locs := w
          subst h_13
          refine lv_istore (lv' := [(5, .int (-104)), (4, .int (nI kn)), (3, .int (nI 1)), (2, .int (nI n9)), (0, .ref x), (1, .int v)]) hx hb dL_reads_367 hl (by decide) rfl (fun ls hl => ?_)
          refine lv_aload_n hx hb dL_reads_369 rfl (lv_at hl 4 rfl) ?_
          refine kcalli (wc := [cX x nw sn tk hs tx tr, cR nw na nb σ, xI g na 49 (zT σ), xI g nb 49 (zI σ), cT tx ch cs.length, xC g ch 60 (tyL T 0 cs), cTr tr tw od (zOs (tyL T 0 cs) cs.length σ) (zPo (tyL T 0 cs) cs.length σ) (zRe (tyL T 0 cs) cs.length σ) (zCa (tyL T 0 cs) cs.length σ), cR tw ta tb (zSt (tyL T 0 cs) cs.length σ), xI g ta 49 (zT (zSt (tyL T 0 cs) cs.length σ)), xI g tb 49 (zI (zSt (tyL T 0 cs) cs.length σ)), cO od u_14.1 u_14.2.1 u_14.2.2.1 u_14.2.2.2.1 u_14.2.2.2.2]) (wr := [cH hs hq kn, xQ g hq 4 (rq ρ), cR (ρ 0) (α 0) (β 0) (γ 0), xI g (α 0) 49 (zT (γ 0)), xI g (β 0) 49 (zI (γ 0)), cR (ρ 1) (α 1) (β 1) (γ 1), xI g (α 1) 49 (zT (γ 1)), xI g (β 1) 49 (zI (γ 1)), cR (ρ 2) (α 2) (β 2) (γ 2), xI g (α 2) 49 (zT (γ 2)), xI g (β 2) 49 (zI (γ 2)), cR (ρ 3) (α 3) (β 3) (γ 3), xI g (α 3) 49 (zT (γ 3)), xI g (β 3) 49 (zI (γ 3))]) (wn := fun (u : Int32 × Nat × Nat × Nat × Nat) => [cX x nw sn tk hs tx tr, cR nw na nb σ, xI g na 49 (zT σ), xI g nb 49 (zI σ), cH hs hq kn, xQ g hq 4 (rq ρ), cR (ρ 0) (α 0) (β 0) (γ 0), xI g (α 0) 49 (zT (γ 0)), xI g (β 0) 49 (zI (γ 0)), cR (ρ 1) (α 1) (β 1) (γ 1), xI g (α 1) 49 (zT (γ 1)), xI g (β 1) 49 (zI (γ 1)), cR (ρ 2) (α 2) (β 2) (γ 2), xI g (α 2) 49 (zT (γ 2)), xI g (β 2) 49 (zI (γ 2)), cR (ρ 3) (α 3) (β 3) (γ 3), xI g (α 3) 49 (zT (γ 3)), xI g (β 3) 49 (zI (γ 3)), cT tx ch cs.length, xC g ch 60 (tyL T 0 cs), cTr tr tw od (zOs (tyL T 0 cs) cs.length σ) (zPo (tyL T 0 cs) cs.length σ) (zRe (tyL T 0 cs) cs.length σ) (zCa (tyL T 0 cs) cs.length σ), cR tw ta tb (zSt (tyL T 0 cs) cs.length σ), xI g ta 49 (zT (zSt (tyL T 0 cs) cs.length σ)), xI g tb 49 (zI (zSt (tyL T 0 cs) cs.length σ)), cO od u.1 u.2.1 u.2.2.1 u.2.2.2.1 u.2.2.2.2]) F w [0, 1, 2, 3, 18, 19, 20, 21, 22, 23, 24] [4, 5, 6, 7, 8, 9, 10, 11, 12, 13, 14, 15, 16, 17] [14, 15, 16, 17, 0, 1, 2, 3, 4, 5, 6, 7, 8, 9, 10, 11, 12, 13, 18, 19, 20, 21, 22, 23, 24] rfl rfl rfl (fun _ => rfl)
            (fun hp => vx_runSW (As := [.ref x]) (rest := []) F.1 (kL_faultReason_N l hnl g x nw sn tk hs tx tr na nb σ ch cs.length (tyL T 0 cs) tw od (zOs (tyL T 0 cs) cs.length σ) (zPo (tyL T 0 cs) cs.length σ) (zRe (tyL T 0 cs) cs.length σ) (zCa (tyL T 0 cs) cs.length σ) ta tb (zSt (tyL T 0 cs) cs.length σ) u_14.1 u_14.2.1 u_14.2.2.1 u_14.2.2.2.1 u_14.2.2.2.2 H.size hL6 h_11) (vx_cwSW 1 hts gL_reads_L_faultReason rfl rfl rfl hd_L_faultReason ⟨Nat.le_of_ble_eq_true rfl, Nat.le_of_ble_eq_true rfl⟩) hp rfl rfl hl.1 rfl (lv_room (Nat.le_of_ble_eq_true rfl)) dL_reads_370 ⟨Nat.le_of_ble_eq_true rfl, Nat.le_of_ble_eq_true rfl⟩)
            (fun r_15 u H locs h_16 w => ?_)
          try dsimp only at h_16
          obtain ⟨u_17, hu9⟩ : ∃ z, z = u := ⟨_, rfl⟩
          subst hu9
          have w : kW g A s [cX x nw sn tk hs tx tr, cR nw na nb σ, xI g na 49 (zT σ), xI g nb 49 (zI σ), cH hs hq kn, xQ g hq 4 (rq ρ), cR (ρ 0) (α 0) (β 0) (γ 0), xI g (α 0) 49 (zT (γ 0)), xI g (β 0) 49 (zI (γ 0)), cR (ρ 1) (α 1) (β 1) (γ 1), xI g (α 1) 49 (zT (γ 1)), xI g (β 1) 49 (zI (γ 1)), cR (ρ 2) (α 2) (β 2) (γ 2), xI g (α 2) 49 (zT (γ 2)), xI g (β 2) 49 (zI (γ 2)), cR (ρ 3) (α 3) (β 3) (γ 3), xI g (α 3) 49 (zT (γ 3)), xI g (β 3) 49 (zI (γ 3)), cT tx ch cs.length, xC g ch 60 (tyL T 0 cs), cTr tr tw od (zOs (tyL T 0 cs) cs.length σ) (zPo (tyL T 0 cs) cs.length σ) (zRe (tyL T 0 cs) cs.length σ) (zCa (tyL T 0 cs) cs.length σ), cR tw ta tb (zSt (tyL T 0 cs) cs.length σ), xI g ta 49 (zT (zSt (tyL T 0 cs) cs.length σ)), xI g tb 49 (zI (zSt (tyL T 0 cs) cs.length σ)), cO od u_17.1 u_17.2.1 u_17.2.2.1 u_17.2.2.2.1 u_17.2.2.2.2] H locs := w
          subst h_16
          refine lv_istore (lv' := [(6, .int (-104)), (5, .int (-104)), (4, .int (nI kn)), (3, .int (nI 1)), (2, .int (nI n9)), (0, .ref x), (1, .int v)]) hx hb dL_reads_373 hl (by decide) rfl (fun ls hl => ?_)
          refine lv_aload_n hx hb dL_reads_375 rfl (lv_at hl 5 rfl) ?_
          refine kcalli (wc := [cX x nw sn tk hs tx tr, cR nw na nb σ, xI g na 49 (zT σ), xI g nb 49 (zI σ), cT tx ch cs.length, xC g ch 60 (tyL T 0 cs), cTr tr tw od (zOs (tyL T 0 cs) cs.length σ) (zPo (tyL T 0 cs) cs.length σ) (zRe (tyL T 0 cs) cs.length σ) (zCa (tyL T 0 cs) cs.length σ), cR tw ta tb (zSt (tyL T 0 cs) cs.length σ), xI g ta 49 (zT (zSt (tyL T 0 cs) cs.length σ)), xI g tb 49 (zI (zSt (tyL T 0 cs) cs.length σ)), cO od u_17.1 u_17.2.1 u_17.2.2.1 u_17.2.2.2.1 u_17.2.2.2.2]) (wr := [cH hs hq kn, xQ g hq 4 (rq ρ), cR (ρ 0) (α 0) (β 0) (γ 0), xI g (α 0) 49 (zT (γ 0)), xI g (β 0) 49 (zI (γ 0)), cR (ρ 1) (α 1) (β 1) (γ 1), xI g (α 1) 49 (zT (γ 1)), xI g (β 1) 49 (zI (γ 1)), cR (ρ 2) (α 2) (β 2) (γ 2), xI g (α 2) 49 (zT (γ 2)), xI g (β 2) 49 (zI (γ 2)), cR (ρ 3) (α 3) (β 3) (γ 3), xI g (α 3) 49 (zT (γ 3)), xI g (β 3) 49 (zI (γ 3))]) (wn := fun (u : Int32 × Nat × Nat × Nat × Nat) => [cX x nw sn tk hs tx tr, cR nw na nb σ, xI g na 49 (zT σ), xI g nb 49 (zI σ), cH hs hq kn, xQ g hq 4 (rq ρ), cR (ρ 0) (α 0) (β 0) (γ 0), xI g (α 0) 49 (zT (γ 0)), xI g (β 0) 49 (zI (γ 0)), cR (ρ 1) (α 1) (β 1) (γ 1), xI g (α 1) 49 (zT (γ 1)), xI g (β 1) 49 (zI (γ 1)), cR (ρ 2) (α 2) (β 2) (γ 2), xI g (α 2) 49 (zT (γ 2)), xI g (β 2) 49 (zI (γ 2)), cR (ρ 3) (α 3) (β 3) (γ 3), xI g (α 3) 49 (zT (γ 3)), xI g (β 3) 49 (zI (γ 3)), cT tx ch cs.length, xC g ch 60 (tyL T 0 cs), cTr tr tw od (zOs (tyL T 0 cs) cs.length σ) (zPo (tyL T 0 cs) cs.length σ) (zRe (tyL T 0 cs) cs.length σ) (zCa (tyL T 0 cs) cs.length σ), cR tw ta tb (zSt (tyL T 0 cs) cs.length σ), xI g ta 49 (zT (zSt (tyL T 0 cs) cs.length σ)), xI g tb 49 (zI (zSt (tyL T 0 cs) cs.length σ)), cO od u.1 u.2.1 u.2.2.1 u.2.2.2.1 u.2.2.2.2]) F w [0, 1, 2, 3, 18, 19, 20, 21, 22, 23, 24] [4, 5, 6, 7, 8, 9, 10, 11, 12, 13, 14, 15, 16, 17] [14, 15, 16, 17, 0, 1, 2, 3, 4, 5, 6, 7, 8, 9, 10, 11, 12, 13, 18, 19, 20, 21, 22, 23, 24] rfl rfl rfl (fun _ => rfl)
            (fun hp => vx_runSW (As := [.ref x]) (rest := []) F.1 (kL_faultCause_N l hnl g x nw sn tk hs tx tr na nb σ ch cs.length (tyL T 0 cs) tw od (zOs (tyL T 0 cs) cs.length σ) (zPo (tyL T 0 cs) cs.length σ) (zRe (tyL T 0 cs) cs.length σ) (zCa (tyL T 0 cs) cs.length σ) ta tb (zSt (tyL T 0 cs) cs.length σ) u_17.1 u_17.2.1 u_17.2.2.1 u_17.2.2.2.1 u_17.2.2.2.2 H.size hL6 h_11) (vx_cwSW 1 hts gL_reads_L_faultCause rfl rfl rfl hd_L_faultCause ⟨Nat.le_of_ble_eq_true rfl, Nat.le_of_ble_eq_true rfl⟩) hp rfl rfl hl.1 rfl (lv_room (Nat.le_of_ble_eq_true rfl)) dL_reads_376 ⟨Nat.le_of_ble_eq_true rfl, Nat.le_of_ble_eq_true rfl⟩)
            (fun r_18 u H locs h_19 w => ?_)
          try dsimp only at h_19
          obtain ⟨u_20, hu9⟩ : ∃ z, z = u := ⟨_, rfl⟩
          subst hu9
          have w : kW g A s [cX x nw sn tk hs tx tr, cR nw na nb σ, xI g na 49 (zT σ), xI g nb 49 (zI σ), cH hs hq kn, xQ g hq 4 (rq ρ), cR (ρ 0) (α 0) (β 0) (γ 0), xI g (α 0) 49 (zT (γ 0)), xI g (β 0) 49 (zI (γ 0)), cR (ρ 1) (α 1) (β 1) (γ 1), xI g (α 1) 49 (zT (γ 1)), xI g (β 1) 49 (zI (γ 1)), cR (ρ 2) (α 2) (β 2) (γ 2), xI g (α 2) 49 (zT (γ 2)), xI g (β 2) 49 (zI (γ 2)), cR (ρ 3) (α 3) (β 3) (γ 3), xI g (α 3) 49 (zT (γ 3)), xI g (β 3) 49 (zI (γ 3)), cT tx ch cs.length, xC g ch 60 (tyL T 0 cs), cTr tr tw od (zOs (tyL T 0 cs) cs.length σ) (zPo (tyL T 0 cs) cs.length σ) (zRe (tyL T 0 cs) cs.length σ) (zCa (tyL T 0 cs) cs.length σ), cR tw ta tb (zSt (tyL T 0 cs) cs.length σ), xI g ta 49 (zT (zSt (tyL T 0 cs) cs.length σ)), xI g tb 49 (zI (zSt (tyL T 0 cs) cs.length σ)), cO od u_20.1 u_20.2.1 u_20.2.2.1 u_20.2.2.2.1 u_20.2.2.2.2] H locs := w
          subst h_19
          refine lv_istore (lv' := [(7, .int (-104)), (6, .int (-104)), (5, .int (-104)), (4, .int (nI kn)), (3, .int (nI 1)), (2, .int (nI n9)), (0, .ref x), (1, .int v)]) hx hb dL_reads_379 hl (by decide) rfl (fun ls hl => ?_)
          refine lv_aload_n hx hb dL_reads_381 rfl (lv_at hl 6 rfl) ?_
          refine kcalli (wc := [cX x nw sn tk hs tx tr, cR nw na nb σ, xI g na 49 (zT σ), xI g nb 49 (zI σ), cH hs hq kn, xQ g hq 4 (rq ρ), cR (ρ 0) (α 0) (β 0) (γ 0), xI g (α 0) 49 (zT (γ 0)), xI g (β 0) 49 (zI (γ 0)), cR (ρ 1) (α 1) (β 1) (γ 1), xI g (α 1) 49 (zT (γ 1)), xI g (β 1) 49 (zI (γ 1)), cR (ρ 2) (α 2) (β 2) (γ 2), xI g (α 2) 49 (zT (γ 2)), xI g (β 2) 49 (zI (γ 2)), cR (ρ 3) (α 3) (β 3) (γ 3), xI g (α 3) 49 (zT (γ 3)), xI g (β 3) 49 (zI (γ 3)), cT tx ch cs.length, xC g ch 60 (tyL T 0 cs), cTr tr tw od (zOs (tyL T 0 cs) cs.length σ) (zPo (tyL T 0 cs) cs.length σ) (zRe (tyL T 0 cs) cs.length σ) (zCa (tyL T 0 cs) cs.length σ), cR tw ta tb (zSt (tyL T 0 cs) cs.length σ), xI g ta 49 (zT (zSt (tyL T 0 cs) cs.length σ)), xI g tb 49 (zI (zSt (tyL T 0 cs) cs.length σ)), cO od u_20.1 u_20.2.1 u_20.2.2.1 u_20.2.2.2.1 u_20.2.2.2.2]) (wr := []) (wn := fun (u : (Int32 × Nat × Nat × Nat × Nat) × ((Nat → Nat) × (Nat → Nat) × (Nat → Nat))) => [cX x nw sn tk hs tx tr, cR nw na nb (zSt (tyL T 0 cs) cs.length σ), xI g na 49 (zT (zSt (tyL T 0 cs) cs.length σ)), xI g nb 49 (zI (zSt (tyL T 0 cs) cs.length σ)), cH hs hq (pushN kn), xQ g hq 4 (rq u.2.1), cR (u.2.1 0) (u.2.2.1 0) (u.2.2.2 0) ((pushG γ kn σ) 0), xI g (u.2.2.1 0) 49 (zT ((pushG γ kn σ) 0)), xI g (u.2.2.2 0) 49 (zI ((pushG γ kn σ) 0)), cR (u.2.1 1) (u.2.2.1 1) (u.2.2.2 1) ((pushG γ kn σ) 1), xI g (u.2.2.1 1) 49 (zT ((pushG γ kn σ) 1)), xI g (u.2.2.2 1) 49 (zI ((pushG γ kn σ) 1)), cR (u.2.1 2) (u.2.2.1 2) (u.2.2.2 2) ((pushG γ kn σ) 2), xI g (u.2.2.1 2) 49 (zT ((pushG γ kn σ) 2)), xI g (u.2.2.2 2) 49 (zI ((pushG γ kn σ) 2)), cR (u.2.1 3) (u.2.2.1 3) (u.2.2.2 3) ((pushG γ kn σ) 3), xI g (u.2.2.1 3) 49 (zT ((pushG γ kn σ) 3)), xI g (u.2.2.2 3) 49 (zI ((pushG γ kn σ) 3)), cT tx ch cs.length, xC g ch 60 (tyL T 0 cs), cTr tr tw od (zOs (tyL T 0 cs) cs.length σ) (zPo (tyL T 0 cs) cs.length σ) (zRe (tyL T 0 cs) cs.length σ) (zCa (tyL T 0 cs) cs.length σ), cR tw ta tb (zSt (tyL T 0 cs) cs.length σ), xI g ta 49 (zT (zSt (tyL T 0 cs) cs.length σ)), xI g tb 49 (zI (zSt (tyL T 0 cs) cs.length σ)), cO od u.1.1 u.1.2.1 u.1.2.2.1 u.1.2.2.2.1 u.1.2.2.2.2]) F w [0, 1, 2, 3, 4, 5, 6, 7, 8, 9, 10, 11, 12, 13, 14, 15, 16, 17, 18, 19, 20, 21, 22, 23, 24] [] [0, 1, 2, 3, 4, 5, 6, 7, 8, 9, 10, 11, 12, 13, 14, 15, 16, 17, 18, 19, 20, 21, 22, 23, 24] rfl rfl rfl (fun _ => rfl)
            (fun hp => vx_runSW (As := [.ref x]) (rest := []) F.1 (kL_play_k l g x nw sn tk hs tx tr na nb σ hq kn ρ α β γ ch cs.length (tyL T 0 cs) tw od (zOs (tyL T 0 cs) cs.length σ) (zPo (tyL T 0 cs) cs.length σ) (zRe (tyL T 0 cs) cs.length σ) (zCa (tyL T 0 cs) cs.length σ) ta tb (zSt (tyL T 0 cs) cs.length σ) u_20.1 u_20.2.1 u_20.2.2.1 u_20.2.2.2.1 u_20.2.2.2.2 H.size hL6 h_11 hkn) (vx_cwSW 1 hts gL_reads_L_play rfl rfl rfl hd_L_play ⟨Nat.le_of_ble_eq_true rfl, Nat.le_of_ble_eq_true rfl⟩) hp rfl rfl hl.1 rfl (lv_room (Nat.le_of_ble_eq_true rfl)) dL_reads_382 ⟨Nat.le_of_ble_eq_true rfl, Nat.le_of_ble_eq_true rfl⟩)
            (fun r_21 u H locs h_22 w => ?_)
          try dsimp only at h_22
          obtain ⟨u_23, hu9⟩ : ∃ z, z = u := ⟨_, rfl⟩
          subst hu9
          have w : kW g A s [cX x nw sn tk hs tx tr, cR nw na nb (zSt (tyL T 0 cs) cs.length σ), xI g na 49 (zT (zSt (tyL T 0 cs) cs.length σ)), xI g nb 49 (zI (zSt (tyL T 0 cs) cs.length σ)), cH hs hq (pushN kn), xQ g hq 4 (rq u_23.2.1), cR (u_23.2.1 0) (u_23.2.2.1 0) (u_23.2.2.2 0) ((pushG γ kn σ) 0), xI g (u_23.2.2.1 0) 49 (zT ((pushG γ kn σ) 0)), xI g (u_23.2.2.2 0) 49 (zI ((pushG γ kn σ) 0)), cR (u_23.2.1 1) (u_23.2.2.1 1) (u_23.2.2.2 1) ((pushG γ kn σ) 1), xI g (u_23.2.2.1 1) 49 (zT ((pushG γ kn σ) 1)), xI g (u_23.2.2.2 1) 49 (zI ((pushG γ kn σ) 1)), cR (u_23.2.1 2) (u_23.2.2.1 2) (u_23.2.2.2 2) ((pushG γ kn σ) 2), xI g (u_23.2.2.1 2) 49 (zT ((pushG γ kn σ) 2)), xI g (u_23.2.2.2 2) 49 (zI ((pushG γ kn σ) 2)), cR (u_23.2.1 3) (u_23.2.2.1 3) (u_23.2.2.2 3) ((pushG γ kn σ) 3), xI g (u_23.2.2.1 3) 49 (zT ((pushG γ kn σ) 3)), xI g (u_23.2.2.2 3) 49 (zI ((pushG γ kn σ) 3)), cT tx ch cs.length, xC g ch 60 (tyL T 0 cs), cTr tr tw od (zOs (tyL T 0 cs) cs.length σ) (zPo (tyL T 0 cs) cs.length σ) (zRe (tyL T 0 cs) cs.length σ) (zCa (tyL T 0 cs) cs.length σ), cR tw ta tb (zSt (tyL T 0 cs) cs.length σ), xI g ta 49 (zT (zSt (tyL T 0 cs) cs.length σ)), xI g tb 49 (zI (zSt (tyL T 0 cs) cs.length σ)), cO od u_23.1.1 u_23.1.2.1 u_23.1.2.2.1 u_23.1.2.2.2.1 u_23.1.2.2.2.2] H locs := w
          subst h_22
          refine ktopi (y := nI n9) (by rw [told_n hO (by omega) σ h_11]) ?_
          refine lv_istore (lv' := [(8, .int (nI n9)), (7, .int (-104)), (6, .int (-104)), (5, .int (-104)), (4, .int (nI kn)), (3, .int (nI 1)), (2, .int (nI n9)), (0, .ref x), (1, .int v)]) hx hb dL_reads_385 hl (by decide) rfl (fun ls hl => ?_)
          refine lv_aload_n hx hb dL_reads_387 rfl (lv_at hl 7 rfl) ?_
          refine kcalli (wc := [cX x nw sn tk hs tx tr, cT tx ch cs.length, xC g ch 60 (tyL T 0 cs)]) (wr := [cR nw na nb (zSt (tyL T 0 cs) cs.length σ), xI g na 49 (zT (zSt (tyL T 0 cs) cs.length σ)), xI g nb 49 (zI (zSt (tyL T 0 cs) cs.length σ)), cH hs hq (pushN kn), xQ g hq 4 (rq u_23.2.1), cR (u_23.2.1 0) (u_23.2.2.1 0) (u_23.2.2.2 0) ((pushG γ kn σ) 0), xI g (u_23.2.2.1 0) 49 (zT ((pushG γ kn σ) 0)), xI g (u_23.2.2.2 0) 49 (zI ((pushG γ kn σ) 0)), cR (u_23.2.1 1) (u_23.2.2.1 1) (u_23.2.2.2 1) ((pushG γ kn σ) 1), xI g (u_23.2.2.1 1) 49 (zT ((pushG γ kn σ) 1)), xI g (u_23.2.2.2 1) 49 (zI ((pushG γ kn σ) 1)), cR (u_23.2.1 2) (u_23.2.2.1 2) (u_23.2.2.2 2) ((pushG γ kn σ) 2), xI g (u_23.2.2.1 2) 49 (zT ((pushG γ kn σ) 2)), xI g (u_23.2.2.2 2) 49 (zI ((pushG γ kn σ) 2)), cR (u_23.2.1 3) (u_23.2.2.1 3) (u_23.2.2.2 3) ((pushG γ kn σ) 3), xI g (u_23.2.2.1 3) 49 (zT ((pushG γ kn σ) 3)), xI g (u_23.2.2.2 3) 49 (zI ((pushG γ kn σ) 3)), cTr tr tw od (zOs (tyL T 0 cs) cs.length σ) (zPo (tyL T 0 cs) cs.length σ) (zRe (tyL T 0 cs) cs.length σ) (zCa (tyL T 0 cs) cs.length σ), cR tw ta tb (zSt (tyL T 0 cs) cs.length σ), xI g ta 49 (zT (zSt (tyL T 0 cs) cs.length σ)), xI g tb 49 (zI (zSt (tyL T 0 cs) cs.length σ)), cO od u_23.1.1 u_23.1.2.1 u_23.1.2.2.1 u_23.1.2.2.2.1 u_23.1.2.2.2.2]) (wn := fun (u : Unit) => [cX x nw sn tk hs tx tr, cR nw na nb (zSt (tyL T 0 cs) cs.length σ), xI g na 49 (zT (zSt (tyL T 0 cs) cs.length σ)), xI g nb 49 (zI (zSt (tyL T 0 cs) cs.length σ)), cH hs hq (pushN kn), xQ g hq 4 (rq u_23.2.1), cR (u_23.2.1 0) (u_23.2.2.1 0) (u_23.2.2.2 0) ((pushG γ kn σ) 0), xI g (u_23.2.2.1 0) 49 (zT ((pushG γ kn σ) 0)), xI g (u_23.2.2.2 0) 49 (zI ((pushG γ kn σ) 0)), cR (u_23.2.1 1) (u_23.2.2.1 1) (u_23.2.2.2 1) ((pushG γ kn σ) 1), xI g (u_23.2.2.1 1) 49 (zT ((pushG γ kn σ) 1)), xI g (u_23.2.2.2 1) 49 (zI ((pushG γ kn σ) 1)), cR (u_23.2.1 2) (u_23.2.2.1 2) (u_23.2.2.2 2) ((pushG γ kn σ) 2), xI g (u_23.2.2.1 2) 49 (zT ((pushG γ kn σ) 2)), xI g (u_23.2.2.2 2) 49 (zI ((pushG γ kn σ) 2)), cR (u_23.2.1 3) (u_23.2.2.1 3) (u_23.2.2.2 3) ((pushG γ kn σ) 3), xI g (u_23.2.2.1 3) 49 (zT ((pushG γ kn σ) 3)), xI g (u_23.2.2.2 3) 49 (zI ((pushG γ kn σ) 3)), cT tx ch 0, xC g ch 60 (tyL T 0 cs), cTr tr tw od (zOs (tyL T 0 cs) cs.length σ) (zPo (tyL T 0 cs) cs.length σ) (zRe (tyL T 0 cs) cs.length σ) (zCa (tyL T 0 cs) cs.length σ), cR tw ta tb (zSt (tyL T 0 cs) cs.length σ), xI g ta 49 (zT (zSt (tyL T 0 cs) cs.length σ)), xI g tb 49 (zI (zSt (tyL T 0 cs) cs.length σ)), cO od u_23.1.1 u_23.1.2.1 u_23.1.2.2.1 u_23.1.2.2.2.1 u_23.1.2.2.2.2]) F w [0, 18, 19] [1, 2, 3, 4, 5, 6, 7, 8, 9, 10, 11, 12, 13, 14, 15, 16, 17, 20, 21, 22, 23, 24] [22, 0, 1, 2, 3, 4, 5, 6, 7, 8, 9, 10, 11, 12, 13, 14, 15, 16, 23, 24, 17, 18, 19, 20, 21] rfl rfl rfl (fun _ => rfl)
            (fun hp => va_runV (As := []) (rest := []) F.1 (kX5_clearText l g x nw sn tk hs tx tr ch cs.length (tyL T 0 cs) H.size ) (cwV 0 hts gL_reads_X5_clearText rfl rfl rfl ⟨rfl, hd_X5_clearText⟩ ⟨Nat.le_of_ble_eq_true rfl, Nat.le_of_ble_eq_true rfl⟩) ⟨hp.1, va_recv F.2.2.2.1.1 w.1 (q0 := 0) (ci := 5) rfl rfl, hp.2⟩ rfl rfl hl.1 rfl (lv_room (Nat.le_of_ble_eq_true rfl)) dL_reads_388 ⟨Nat.le_of_ble_eq_true rfl, Nat.le_of_ble_eq_true rfl⟩)
            (fun r_24 _ H locs h_25 w => ?_)
          subst h_25
          refine lv_istore (lv' := [(9, .int (nI cs.length)), (8, .int (nI n9)), (7, .int (-104)), (6, .int (-104)), (5, .int (-104)), (4, .int (nI kn)), (3, .int (nI 1)), (2, .int (nI n9)), (0, .ref x), (1, .int v)]) hx hb dL_reads_391 hl (by decide) rfl (fun ls hl => ?_)
          refine lv_iload_n hx hb dL_reads_393 rfl (lv_at hl 6 rfl) ?_
          refine lv_if_eq (tgt := 480) hx hb dL_reads_394 (by decide) (fun h_26 => ?_) (fun h_26 => ?_)
          · exact absurd h_26 (by decide)
          refine lv_iload hx hb dL_reads_397 (lv_at hl 4 rfl) ?_
          refine lv_bipush (v := (-104)) hx hb dL_reads_399 (by decide) ?_
          refine lv_icmp_ne (tgt := 408) hx hb dL_reads_401 (by decide) (fun h_27 => ?_) (fun h_27 => ?_)
          · exact absurd rfl h_27
          refine lv_iconst (v := nI 1) hx hb dL_reads_404 (by decide) ?_
          refine lv_goto (tgt := 409) hx hb dL_reads_405 (by decide) ?_
          refine lv_iload hx hb dL_reads_409 (lv_at hl 3 rfl) ?_
          refine lv_bipush (v := (-104)) hx hb dL_reads_411 (by decide) ?_
          refine lv_icmp_ne (tgt := 420) hx hb dL_reads_413 (by decide) (fun h_28 => ?_) (fun h_28 => ?_)
          · exact absurd rfl h_28
          refine lv_iconst (v := nI 1) hx hb dL_reads_416 (by decide) ?_
          refine lv_goto (tgt := 421) hx hb dL_reads_417 (by decide) ?_
          refine lv_icmp_ne (tgt := 480) hx hb dL_reads_421 (by decide) (fun h_29 => ?_) (fun h_29 => ?_)
          · exact absurd rfl h_29
          refine lv_iload hx hb dL_reads_424 (lv_at hl 4 rfl) ?_
          refine lv_bipush (v := (-104)) hx hb dL_reads_426 (by decide) ?_
          refine lv_icmp_ne (tgt := 435) hx hb dL_reads_428 (by decide) (fun h_30 => ?_) (fun h_30 => ?_)
          · exact absurd rfl h_30
          refine lv_iconst (v := nI 1) hx hb dL_reads_431 (by decide) ?_
          refine lv_goto (tgt := 436) hx hb dL_reads_432 (by decide) ?_
          refine lv_iload hx hb dL_reads_436 (lv_at hl 2 rfl) ?_
          refine lv_bipush (v := (-104)) hx hb dL_reads_438 (by decide) ?_
          refine lv_icmp_ne (tgt := 447) hx hb dL_reads_440 (by decide) (fun h_31 => ?_) (fun h_31 => ?_)
          · exact absurd rfl h_31
          refine lv_iconst (v := nI 1) hx hb dL_reads_443 (by decide) ?_
          refine lv_goto (tgt := 448) hx hb dL_reads_444 (by decide) ?_
          refine lv_icmp_ne (tgt := 480) hx hb dL_reads_448 (by decide) (fun h_32 => ?_) (fun h_32 => ?_)
          · exact absurd rfl h_32
          refine lv_iload hx hb dL_reads_451 (lv_at hl 1 rfl) ?_
          refine lv_bipush (v := (-103)) hx hb dL_reads_453 (by decide) ?_
          refine lv_icmp_ne (tgt := 462) hx hb dL_reads_455 (by decide) (fun h_33 => ?_) (fun h_33 => ?_)
          rotate_left 1
          · exact absurd h_33 (nI_m103 (by omega))
          refine lv_iconst (v := nI 0) hx hb dL_reads_462 (by decide) ?_
          refine lv_iload hx hb dL_reads_463 (lv_at hl 4 rfl) ?_
          refine lv_if_lt (tgt := 472) hx hb dL_reads_465 (by decide) (fun h_34 => ?_) (fun h_34 => ?_)
          rotate_left 1
          · exact absurd (by decide) h_34
          refine lv_iconst (v := nI 0) hx hb dL_reads_472 (by decide) ?_
          refine lv_icmp_ne (tgt := 480) hx hb dL_reads_473 (by decide) (fun h_35 => ?_) (fun h_35 => ?_)
          · exact absurd rfl h_35
          refine lv_iconst (v := nI 1) hx hb dL_reads_476 (by decide) ?_
          refine lv_goto (tgt := 481) hx hb dL_reads_477 (by decide) ?_
          refine lv_istore (lv' := [(10, .int (nI 1)), (9, .int (nI cs.length)), (8, .int (nI n9)), (7, .int (-104)), (6, .int (-104)), (5, .int (-104)), (4, .int (nI kn)), (3, .int (nI 1)), (2, .int (nI n9)), (0, .ref x), (1, .int v)]) hx hb dL_reads_481 hl (by decide) rfl (fun ls hl => ?_)
          refine lv_iload hx hb dL_reads_483 (lv_at hl 0 rfl) ?_
          refine lv_if_eq (tgt := 585) hx hb dL_reads_485 (by decide) (fun h_36 => ?_) (fun h_36 => ?_)
          · exact absurd h_36 (by decide)
          refine lv_iload hx hb dL_reads_488 (lv_at hl 5 rfl) ?_
          refine lv_if_lt (tgt := 554) hx hb dL_reads_490 (by decide) (fun h_37 => ?_) (fun h_37 => ?_)
          rotate_left 1
          · exact absurd (by decide) h_37
          refine lv_iload hx hb dL_reads_554 (lv_at hl 2 rfl) ?_
          refine lv_iload_n hx hb dL_reads_556 rfl (lv_at hl 8 rfl) ?_
          refine lv_icmp_ne (tgt := 585) hx hb dL_reads_557 (by decide) (fun h_38 => ?_) (fun h_38 => ?_)
          · exact absurd rfl h_38
          refine lv_aload_n hx hb dL_reads_560 rfl (lv_at hl 9 rfl) ?_
          refine kcalli (wc := [cX x nw sn tk hs tx tr, cH hs hq (pushN kn)]) (wr := [cR nw na nb (zSt (tyL T 0 cs) cs.length σ), xI g na 49 (zT (zSt (tyL T 0 cs) cs.length σ)), xI g nb 49 (zI (zSt (tyL T 0 cs) cs.length σ)), xQ g hq 4 (rq u_23.2.1), cR (u_23.2.1 0) (u_23.2.2.1 0) (u_23.2.2.2 0) ((pushG γ kn σ) 0), xI g (u_23.2.2.1 0) 49 (zT ((pushG γ kn σ) 0)), xI g (u_23.2.2.2 0) 49 (zI ((pushG γ kn σ) 0)), cR (u_23.2.1 1) (u_23.2.2.1 1) (u_23.2.2.2 1) ((pushG γ kn σ) 1), xI g (u_23.2.2.1 1) 49 (zT ((pushG γ kn σ) 1)), xI g (u_23.2.2.2 1) 49 (zI ((pushG γ kn σ) 1)), cR (u_23.2.1 2) (u_23.2.2.1 2) (u_23.2.2.2 2) ((pushG γ kn σ) 2), xI g (u_23.2.2.1 2) 49 (zT ((pushG γ kn σ) 2)), xI g (u_23.2.2.2 2) 49 (zI ((pushG γ kn σ) 2)), cR (u_23.2.1 3) (u_23.2.2.1 3) (u_23.2.2.2 3) ((pushG γ kn σ) 3), xI g (u_23.2.2.1 3) 49 (zT ((pushG γ kn σ) 3)), xI g (u_23.2.2.2 3) 49 (zI ((pushG γ kn σ) 3)), cT tx ch 0, xC g ch 60 (tyL T 0 cs), cTr tr tw od (zOs (tyL T 0 cs) cs.length σ) (zPo (tyL T 0 cs) cs.length σ) (zRe (tyL T 0 cs) cs.length σ) (zCa (tyL T 0 cs) cs.length σ), cR tw ta tb (zSt (tyL T 0 cs) cs.length σ), xI g ta 49 (zT (zSt (tyL T 0 cs) cs.length σ)), xI g tb 49 (zI (zSt (tyL T 0 cs) cs.length σ)), cO od u_23.1.1 u_23.1.2.1 u_23.1.2.2.1 u_23.1.2.2.2.1 u_23.1.2.2.2.2]) (wn := fun (u : Unit) => [cX x nw sn tk hs tx tr, cR nw na nb (zSt (tyL T 0 cs) cs.length σ), xI g na 49 (zT (zSt (tyL T 0 cs) cs.length σ)), xI g nb 49 (zI (zSt (tyL T 0 cs) cs.length σ)), cH hs hq (pushN kn), xQ g hq 4 (rq u_23.2.1), cR (u_23.2.1 0) (u_23.2.2.1 0) (u_23.2.2.2 0) ((pushG γ kn σ) 0), xI g (u_23.2.2.1 0) 49 (zT ((pushG γ kn σ) 0)), xI g (u_23.2.2.2 0) 49 (zI ((pushG γ kn σ) 0)), cR (u_23.2.1 1) (u_23.2.2.1 1) (u_23.2.2.2 1) ((pushG γ kn σ) 1), xI g (u_23.2.2.1 1) 49 (zT ((pushG γ kn σ) 1)), xI g (u_23.2.2.2 1) 49 (zI ((pushG γ kn σ) 1)), cR (u_23.2.1 2) (u_23.2.2.1 2) (u_23.2.2.2 2) ((pushG γ kn σ) 2), xI g (u_23.2.2.1 2) 49 (zT ((pushG γ kn σ) 2)), xI g (u_23.2.2.2 2) 49 (zI ((pushG γ kn σ) 2)), cR (u_23.2.1 3) (u_23.2.2.1 3) (u_23.2.2.2 3) ((pushG γ kn σ) 3), xI g (u_23.2.2.1 3) 49 (zT ((pushG γ kn σ) 3)), xI g (u_23.2.2.2 3) 49 (zI ((pushG γ kn σ) 3)), cT tx ch 0, xC g ch 60 (tyL T 0 cs), cTr tr tw od (zOs (tyL T 0 cs) cs.length σ) (zPo (tyL T 0 cs) cs.length σ) (zRe (tyL T 0 cs) cs.length σ) (zCa (tyL T 0 cs) cs.length σ), cR tw ta tb (zSt (tyL T 0 cs) cs.length σ), xI g ta 49 (zT (zSt (tyL T 0 cs) cs.length σ)), xI g tb 49 (zI (zSt (tyL T 0 cs) cs.length σ)), cO od u_23.1.1 u_23.1.2.1 u_23.1.2.2.1 u_23.1.2.2.2.1 u_23.1.2.2.2.2]) F w [0, 4] [1, 2, 3, 5, 6, 7, 8, 9, 10, 11, 12, 13, 14, 15, 16, 17, 18, 19, 20, 21, 22, 23, 24] [23, 0, 1, 2, 24, 3, 4, 5, 6, 7, 8, 9, 10, 11, 12, 13, 14, 15, 16, 17, 18, 19, 20, 21, 22] rfl rfl rfl (fun _ => rfl)
            (fun hp => va_runV (As := []) (rest := []) F.1 (kX5_states_s l g x nw sn tk hs tx tr hq (pushN kn) H.size ) (cwV 0 hts gL_reads_X5_states rfl rfl rfl ⟨rfl, hd_X5_states⟩ ⟨Nat.le_of_ble_eq_true rfl, Nat.le_of_ble_eq_true rfl⟩) ⟨hp.1, va_recv F.2.2.2.1.1 w.1 (q0 := 0) (ci := 5) rfl rfl, hp.2⟩ rfl rfl hl.1 rfl (lv_room (Nat.le_of_ble_eq_true rfl)) dL_reads_561 ⟨Nat.le_of_ble_eq_true rfl, Nat.le_of_ble_eq_true rfl⟩)
            (fun r_39 _ H locs h_40 w => ?_)
          subst h_40
          refine lv_iload hx hb dL_reads_564 (lv_at hl 6 rfl) ?_
          refine lv_iconst (v := nI 4) hx hb dL_reads_566 (by decide) ?_
          refine lv_icmp_ge (tgt := 577) hx hb dL_reads_567 (by decide) (fun h_41 => ?_) (fun h_41 => ?_)
          · have h_41 : kn ≥ 4 := (kc_ge_t (by omega) (by omega)).mp h_41
            have hk4 : kn = 4 := by omega
            refine lv_iconst (v := nI 4) hx hb dL_reads_577 (by decide) ?_
            refine lv_icmp_ne (tgt := 585) hx hb dL_reads_578 (by decide) (fun h_42 => ?_) (fun h_42 => ?_)
            · exact absurd (congrArg nI (show pushN kn = 4 by rw [hk4]; rfl)) h_42
            refine lv_iconst (v := nI 1) hx hb dL_reads_581 (by decide) ?_
            refine lv_goto (tgt := 586) hx hb dL_reads_582 (by decide) ?_
            refine ktopi (y := bI true) (by decide) ?_
            subst hA
            subst hQ
            exact kretz F w (zSt (tyL T 0 cs) cs.length σ, pushN kn, u_23.2.1, u_23.2.2.1, u_23.2.2.2, pushG γ kn σ, 0, tyL T 0 cs, zOs (tyL T 0 cs) cs.length σ, zPo (tyL T 0 cs) cs.length σ, zRe (tyL T 0 cs) cs.length σ, zCa (tyL T 0 cs) cs.length σ, zSt (tyL T 0 cs) cs.length σ, u_23.1.1, u_23.1.2.1, u_23.1.2.2.1, u_23.1.2.2.2.1, u_23.1.2.2.2.2) [0, 1, 2, 3, 4, 5, 6, 7, 8, 9, 10, 11, 12, 13, 14, 15, 16, 17, 18, 19, 20, 21, 22, 23, 24] rfl rfl (⟨rfl, actP_1 (Nat.zero_le _) (fun B hB => gB_zSt hB _ _)⟩) (kz_n _) (Nat.le_of_ble_eq_true rfl) (Nat.le_of_ble_eq_true rfl) dL_reads_586
          · have h_41 : kn < 4 := (kc_ge_f (by omega) (by omega)).mp h_41
            refine lv_iload hx hb dL_reads_570 (lv_at hl 6 rfl) ?_
            refine lv_iconst (v := nI 1) hx hb dL_reads_572 (by decide) ?_
            refine lv_iadd hx hb dL_reads_573 ?_
            refine ktopi (y := nI (kn + 1)) (nI_add kn 1) ?_
            refine lv_goto (tgt := 578) hx hb dL_reads_574 (by decide) ?_
            refine lv_icmp_ne (tgt := 585) hx hb dL_reads_578 (by decide) (fun h_43 => ?_) (fun h_43 => ?_)
            · exact absurd (congrArg nI (pushN_l h_41)) h_43
            refine lv_iconst (v := nI 1) hx hb dL_reads_581 (by decide) ?_
            refine lv_goto (tgt := 586) hx hb dL_reads_582 (by decide) ?_
            refine ktopi (y := bI true) (by decide) ?_
            subst hA
            subst hQ
            exact kretz F w (zSt (tyL T 0 cs) cs.length σ, pushN kn, u_23.2.1, u_23.2.2.1, u_23.2.2.2, pushG γ kn σ, 0, tyL T 0 cs, zOs (tyL T 0 cs) cs.length σ, zPo (tyL T 0 cs) cs.length σ, zRe (tyL T 0 cs) cs.length σ, zCa (tyL T 0 cs) cs.length σ, zSt (tyL T 0 cs) cs.length σ, u_23.1.1, u_23.1.2.1, u_23.1.2.2.1, u_23.1.2.2.2.1, u_23.1.2.2.2.2) [0, 1, 2, 3, 4, 5, 6, 7, 8, 9, 10, 11, 12, 13, 14, 15, 16, 17, 18, 19, 20, 21, 22, 23, 24] rfl rfl (⟨rfl, actP_1 (Nat.zero_le _) (fun B hB => gB_zSt hB _ _)⟩) (kz_n _) (Nat.le_of_ble_eq_true rfl) (Nat.le_of_ble_eq_true rfl) dL_reads_586
        · skip
          obtain ⟨q1, q2⟩ := flt_f (tyL T 0 cs) cs.length σ h_11
          have hzl := zRe_le (tyL T 0 cs) cs.length σ
          refine lv_aload_n hx hb dL_reads_363 rfl (lv_at hl 3 rfl) ?_
          refine kcalli (wc := [cX x nw sn tk hs tx tr, cR nw na nb σ, xI g na 49 (zT σ), xI g nb 49 (zI σ), cT tx ch cs.length, xC g ch 60 (tyL T 0 cs), cTr tr tw od os po re ca, cR tw ta tb τ, xI g ta 49 (zT τ), xI g tb 49 (zI τ), cO od vb n1 n2 nm en]) (wr := [cH hs hq kn, xQ g hq 4 (rq ρ), cR (ρ 0) (α 0) (β 0) (γ 0), xI g (α 0) 49 (zT (γ 0)), xI g (β 0) 49 (zI (γ 0)), cR (ρ 1) (α 1) (β 1) (γ 1), xI g (α 1) 49 (zT (γ 1)), xI g (β 1) 49 (zI (γ 1)), cR (ρ 2) (α 2) (β 2) (γ 2), xI g (α 2) 49 (zT (γ 2)), xI g (β 2) 49 (zI (γ 2)), cR (ρ 3) (α 3) (β 3) (γ 3), xI g (α 3) 49 (zT (γ 3)), xI g (β 3) 49 (zI (γ 3))]) (wn := fun (u : Int32 × Nat × Nat × Nat × Nat) => [cX x nw sn tk hs tx tr, cR nw na nb σ, xI g na 49 (zT σ), xI g nb 49 (zI σ), cH hs hq kn, xQ g hq 4 (rq ρ), cR (ρ 0) (α 0) (β 0) (γ 0), xI g (α 0) 49 (zT (γ 0)), xI g (β 0) 49 (zI (γ 0)), cR (ρ 1) (α 1) (β 1) (γ 1), xI g (α 1) 49 (zT (γ 1)), xI g (β 1) 49 (zI (γ 1)), cR (ρ 2) (α 2) (β 2) (γ 2), xI g (α 2) 49 (zT (γ 2)), xI g (β 2) 49 (zI (γ 2)), cR (ρ 3) (α 3) (β 3) (γ 3), xI g (α 3) 49 (zT (γ 3)), xI g (β 3) 49 (zI (γ 3)), cT tx ch cs.length, xC g ch 60 (tyL T 0 cs), cTr tr tw od (zOs (tyL T 0 cs) cs.length σ) (zPo (tyL T 0 cs) cs.length σ) (zRe (tyL T 0 cs) cs.length σ) (zCa (tyL T 0 cs) cs.length σ), cR tw ta tb (zSt (tyL T 0 cs) cs.length σ), xI g ta 49 (zT (zSt (tyL T 0 cs) cs.length σ)), xI g tb 49 (zI (zSt (tyL T 0 cs) cs.length σ)), cO od u.1 u.2.1 u.2.2.1 u.2.2.2.1 u.2.2.2.2]) F w [0, 1, 2, 3, 18, 19, 20, 21, 22, 23, 24] [4, 5, 6, 7, 8, 9, 10, 11, 12, 13, 14, 15, 16, 17] [14, 15, 16, 17, 0, 1, 2, 3, 4, 5, 6, 7, 8, 9, 10, 11, 12, 13, 18, 19, 20, 21, 22, 23, 24] rfl rfl rfl (fun _ => rfl)
            (fun hp => vx_runSW (As := [.ref x]) (rest := []) F.1 (kL_faultPosition_k l g x nw sn tk hs tx tr na nb σ ch cs.length (tyL T 0 cs) tw od os po re ca ta tb τ vb n1 n2 nm en H.size hL6 h_11) (vx_cwSW 1 hts gL_reads_L_faultPosition rfl rfl rfl hd_L_faultPosition ⟨Nat.le_of_ble_eq_true rfl, Nat.le_of_ble_eq_true rfl⟩) hp rfl rfl hl.1 rfl (lv_room (Nat.le_of_ble_eq_true rfl)) dL_reads_364 ⟨Nat.le_of_ble_eq_true rfl, Nat.le_of_ble_eq_true rfl⟩)
            (fun r_44 u H locs h_45 w => ?_)
          try dsimp only at h_45
          obtain ⟨u_46, hu9⟩ : ∃ z, z = u := ⟨_, rfl⟩
          subst hu9
          have w : kW g A s [cX x nw sn tk hs tx tr, cR nw na nb σ, xI g na 49 (zT σ), xI g nb 49 (zI σ), cH hs hq kn, xQ g hq 4 (rq ρ), cR (ρ 0) (α 0) (β 0) (γ 0), xI g (α 0) 49 (zT (γ 0)), xI g (β 0) 49 (zI (γ 0)), cR (ρ 1) (α 1) (β 1) (γ 1), xI g (α 1) 49 (zT (γ 1)), xI g (β 1) 49 (zI (γ 1)), cR (ρ 2) (α 2) (β 2) (γ 2), xI g (α 2) 49 (zT (γ 2)), xI g (β 2) 49 (zI (γ 2)), cR (ρ 3) (α 3) (β 3) (γ 3), xI g (α 3) 49 (zT (γ 3)), xI g (β 3) 49 (zI (γ 3)), cT tx ch cs.length, xC g ch 60 (tyL T 0 cs), cTr tr tw od (zOs (tyL T 0 cs) cs.length σ) (zPo (tyL T 0 cs) cs.length σ) (zRe (tyL T 0 cs) cs.length σ) (zCa (tyL T 0 cs) cs.length σ), cR tw ta tb (zSt (tyL T 0 cs) cs.length σ), xI g ta 49 (zT (zSt (tyL T 0 cs) cs.length σ)), xI g tb 49 (zI (zSt (tyL T 0 cs) cs.length σ)), cO od u_46.1 u_46.2.1 u_46.2.2.1 u_46.2.2.2.1 u_46.2.2.2.2] H locs := w
          subst h_45
          refine lv_istore (lv' := [(5, .int (nI (zPo (tyL T 0 cs) cs.length σ))), (4, .int (nI kn)), (3, .int (nI 1)), (2, .int (nI n9)), (0, .ref x), (1, .int v)]) hx hb dL_reads_367 hl (by decide) rfl (fun ls hl => ?_)
          refine lv_aload_n hx hb dL_reads_369 rfl (lv_at hl 4 rfl) ?_
          refine kcalli (wc := [cX x nw sn tk hs tx tr, cR nw na nb σ, xI g na 49 (zT σ), xI g nb 49 (zI σ), cT tx ch cs.length, xC g ch 60 (tyL T 0 cs), cTr tr tw od (zOs (tyL T 0 cs) cs.length σ) (zPo (tyL T 0 cs) cs.length σ) (zRe (tyL T 0 cs) cs.length σ) (zCa (tyL T 0 cs) cs.length σ), cR tw ta tb (zSt (tyL T 0 cs) cs.length σ), xI g ta 49 (zT (zSt (tyL T 0 cs) cs.length σ)), xI g tb 49 (zI (zSt (tyL T 0 cs) cs.length σ)), cO od u_46.1 u_46.2.1 u_46.2.2.1 u_46.2.2.2.1 u_46.2.2.2.2]) (wr := [cH hs hq kn, xQ g hq 4 (rq ρ), cR (ρ 0) (α 0) (β 0) (γ 0), xI g (α 0) 49 (zT (γ 0)), xI g (β 0) 49 (zI (γ 0)), cR (ρ 1) (α 1) (β 1) (γ 1), xI g (α 1) 49 (zT (γ 1)), xI g (β 1) 49 (zI (γ 1)), cR (ρ 2) (α 2) (β 2) (γ 2), xI g (α 2) 49 (zT (γ 2)), xI g (β 2) 49 (zI (γ 2)), cR (ρ 3) (α 3) (β 3) (γ 3), xI g (α 3) 49 (zT (γ 3)), xI g (β 3) 49 (zI (γ 3))]) (wn := fun (u : Int32 × Nat × Nat × Nat × Nat) => [cX x nw sn tk hs tx tr, cR nw na nb σ, xI g na 49 (zT σ), xI g nb 49 (zI σ), cH hs hq kn, xQ g hq 4 (rq ρ), cR (ρ 0) (α 0) (β 0) (γ 0), xI g (α 0) 49 (zT (γ 0)), xI g (β 0) 49 (zI (γ 0)), cR (ρ 1) (α 1) (β 1) (γ 1), xI g (α 1) 49 (zT (γ 1)), xI g (β 1) 49 (zI (γ 1)), cR (ρ 2) (α 2) (β 2) (γ 2), xI g (α 2) 49 (zT (γ 2)), xI g (β 2) 49 (zI (γ 2)), cR (ρ 3) (α 3) (β 3) (γ 3), xI g (α 3) 49 (zT (γ 3)), xI g (β 3) 49 (zI (γ 3)), cT tx ch cs.length, xC g ch 60 (tyL T 0 cs), cTr tr tw od (zOs (tyL T 0 cs) cs.length σ) (zPo (tyL T 0 cs) cs.length σ) (zRe (tyL T 0 cs) cs.length σ) (zCa (tyL T 0 cs) cs.length σ), cR tw ta tb (zSt (tyL T 0 cs) cs.length σ), xI g ta 49 (zT (zSt (tyL T 0 cs) cs.length σ)), xI g tb 49 (zI (zSt (tyL T 0 cs) cs.length σ)), cO od u.1 u.2.1 u.2.2.1 u.2.2.2.1 u.2.2.2.2]) F w [0, 1, 2, 3, 18, 19, 20, 21, 22, 23, 24] [4, 5, 6, 7, 8, 9, 10, 11, 12, 13, 14, 15, 16, 17] [14, 15, 16, 17, 0, 1, 2, 3, 4, 5, 6, 7, 8, 9, 10, 11, 12, 13, 18, 19, 20, 21, 22, 23, 24] rfl rfl rfl (fun _ => rfl)
            (fun hp => vx_runSW (As := [.ref x]) (rest := []) F.1 (kL_faultReason_k l g x nw sn tk hs tx tr na nb σ ch cs.length (tyL T 0 cs) tw od (zOs (tyL T 0 cs) cs.length σ) (zPo (tyL T 0 cs) cs.length σ) (zRe (tyL T 0 cs) cs.length σ) (zCa (tyL T 0 cs) cs.length σ) ta tb (zSt (tyL T 0 cs) cs.length σ) u_46.1 u_46.2.1 u_46.2.2.1 u_46.2.2.2.1 u_46.2.2.2.2 H.size hL6 h_11) (vx_cwSW 1 hts gL_reads_L_faultReason rfl rfl rfl hd_L_faultReason ⟨Nat.le_of_ble_eq_true rfl, Nat.le_of_ble_eq_true rfl⟩) hp rfl rfl hl.1 rfl (lv_room (Nat.le_of_ble_eq_true rfl)) dL_reads_370 ⟨Nat.le_of_ble_eq_true rfl, Nat.le_of_ble_eq_true rfl⟩)
            (fun r_47 u H locs h_48 w => ?_)
          try dsimp only at h_48
          obtain ⟨u_49, hu9⟩ : ∃ z, z = u := ⟨_, rfl⟩
          subst hu9
          have w : kW g A s [cX x nw sn tk hs tx tr, cR nw na nb σ, xI g na 49 (zT σ), xI g nb 49 (zI σ), cH hs hq kn, xQ g hq 4 (rq ρ), cR (ρ 0) (α 0) (β 0) (γ 0), xI g (α 0) 49 (zT (γ 0)), xI g (β 0) 49 (zI (γ 0)), cR (ρ 1) (α 1) (β 1) (γ 1), xI g (α 1) 49 (zT (γ 1)), xI g (β 1) 49 (zI (γ 1)), cR (ρ 2) (α 2) (β 2) (γ 2), xI g (α 2) 49 (zT (γ 2)), xI g (β 2) 49 (zI (γ 2)), cR (ρ 3) (α 3) (β 3) (γ 3), xI g (α 3) 49 (zT (γ 3)), xI g (β 3) 49 (zI (γ 3)), cT tx ch cs.length, xC g ch 60 (tyL T 0 cs), cTr tr tw od (zOs (tyL T 0 cs) cs.length σ) (zPo (tyL T 0 cs) cs.length σ) (zRe (tyL T 0 cs) cs.length σ) (zCa (tyL T 0 cs) cs.length σ), cR tw ta tb (zSt (tyL T 0 cs) cs.length σ), xI g ta 49 (zT (zSt (tyL T 0 cs) cs.length σ)), xI g tb 49 (zI (zSt (tyL T 0 cs) cs.length σ)), cO od u_49.1 u_49.2.1 u_49.2.2.1 u_49.2.2.2.1 u_49.2.2.2.2] H locs := w
          subst h_48
          refine lv_istore (lv' := [(6, .int (nI (zRe (tyL T 0 cs) cs.length σ))), (5, .int (nI (zPo (tyL T 0 cs) cs.length σ))), (4, .int (nI kn)), (3, .int (nI 1)), (2, .int (nI n9)), (0, .ref x), (1, .int v)]) hx hb dL_reads_373 hl (by decide) rfl (fun ls hl => ?_)
          refine lv_aload_n hx hb dL_reads_375 rfl (lv_at hl 5 rfl) ?_
          refine kcalli (wc := [cX x nw sn tk hs tx tr, cR nw na nb σ, xI g na 49 (zT σ), xI g nb 49 (zI σ), cT tx ch cs.length, xC g ch 60 (tyL T 0 cs), cTr tr tw od (zOs (tyL T 0 cs) cs.length σ) (zPo (tyL T 0 cs) cs.length σ) (zRe (tyL T 0 cs) cs.length σ) (zCa (tyL T 0 cs) cs.length σ), cR tw ta tb (zSt (tyL T 0 cs) cs.length σ), xI g ta 49 (zT (zSt (tyL T 0 cs) cs.length σ)), xI g tb 49 (zI (zSt (tyL T 0 cs) cs.length σ)), cO od u_49.1 u_49.2.1 u_49.2.2.1 u_49.2.2.2.1 u_49.2.2.2.2]) (wr := [cH hs hq kn, xQ g hq 4 (rq ρ), cR (ρ 0) (α 0) (β 0) (γ 0), xI g (α 0) 49 (zT (γ 0)), xI g (β 0) 49 (zI (γ 0)), cR (ρ 1) (α 1) (β 1) (γ 1), xI g (α 1) 49 (zT (γ 1)), xI g (β 1) 49 (zI (γ 1)), cR (ρ 2) (α 2) (β 2) (γ 2), xI g (α 2) 49 (zT (γ 2)), xI g (β 2) 49 (zI (γ 2)), cR (ρ 3) (α 3) (β 3) (γ 3), xI g (α 3) 49 (zT (γ 3)), xI g (β 3) 49 (zI (γ 3))]) (wn := fun (u : Int32 × Nat × Nat × Nat × Nat) => [cX x nw sn tk hs tx tr, cR nw na nb σ, xI g na 49 (zT σ), xI g nb 49 (zI σ), cH hs hq kn, xQ g hq 4 (rq ρ), cR (ρ 0) (α 0) (β 0) (γ 0), xI g (α 0) 49 (zT (γ 0)), xI g (β 0) 49 (zI (γ 0)), cR (ρ 1) (α 1) (β 1) (γ 1), xI g (α 1) 49 (zT (γ 1)), xI g (β 1) 49 (zI (γ 1)), cR (ρ 2) (α 2) (β 2) (γ 2), xI g (α 2) 49 (zT (γ 2)), xI g (β 2) 49 (zI (γ 2)), cR (ρ 3) (α 3) (β 3) (γ 3), xI g (α 3) 49 (zT (γ 3)), xI g (β 3) 49 (zI (γ 3)), cT tx ch cs.length, xC g ch 60 (tyL T 0 cs), cTr tr tw od (zOs (tyL T 0 cs) cs.length σ) (zPo (tyL T 0 cs) cs.length σ) (zRe (tyL T 0 cs) cs.length σ) (zCa (tyL T 0 cs) cs.length σ), cR tw ta tb (zSt (tyL T 0 cs) cs.length σ), xI g ta 49 (zT (zSt (tyL T 0 cs) cs.length σ)), xI g tb 49 (zI (zSt (tyL T 0 cs) cs.length σ)), cO od u.1 u.2.1 u.2.2.1 u.2.2.2.1 u.2.2.2.2]) F w [0, 1, 2, 3, 18, 19, 20, 21, 22, 23, 24] [4, 5, 6, 7, 8, 9, 10, 11, 12, 13, 14, 15, 16, 17] [14, 15, 16, 17, 0, 1, 2, 3, 4, 5, 6, 7, 8, 9, 10, 11, 12, 13, 18, 19, 20, 21, 22, 23, 24] rfl rfl rfl (fun _ => rfl)
            (fun hp => vx_runSW (As := [.ref x]) (rest := []) F.1 (kL_faultCause_k l g x nw sn tk hs tx tr na nb σ ch cs.length (tyL T 0 cs) tw od (zOs (tyL T 0 cs) cs.length σ) (zPo (tyL T 0 cs) cs.length σ) (zRe (tyL T 0 cs) cs.length σ) (zCa (tyL T 0 cs) cs.length σ) ta tb (zSt (tyL T 0 cs) cs.length σ) u_49.1 u_49.2.1 u_49.2.2.1 u_49.2.2.2.1 u_49.2.2.2.2 H.size hL6 h_11) (vx_cwSW 1 hts gL_reads_L_faultCause rfl rfl rfl hd_L_faultCause ⟨Nat.le_of_ble_eq_true rfl, Nat.le_of_ble_eq_true rfl⟩) hp rfl rfl hl.1 rfl (lv_room (Nat.le_of_ble_eq_true rfl)) dL_reads_376 ⟨Nat.le_of_ble_eq_true rfl, Nat.le_of_ble_eq_true rfl⟩)
            (fun r_50 u H locs h_51 w => ?_)
          try dsimp only at h_51
          obtain ⟨u_52, hu9⟩ : ∃ z, z = u := ⟨_, rfl⟩
          subst hu9
          have w : kW g A s [cX x nw sn tk hs tx tr, cR nw na nb σ, xI g na 49 (zT σ), xI g nb 49 (zI σ), cH hs hq kn, xQ g hq 4 (rq ρ), cR (ρ 0) (α 0) (β 0) (γ 0), xI g (α 0) 49 (zT (γ 0)), xI g (β 0) 49 (zI (γ 0)), cR (ρ 1) (α 1) (β 1) (γ 1), xI g (α 1) 49 (zT (γ 1)), xI g (β 1) 49 (zI (γ 1)), cR (ρ 2) (α 2) (β 2) (γ 2), xI g (α 2) 49 (zT (γ 2)), xI g (β 2) 49 (zI (γ 2)), cR (ρ 3) (α 3) (β 3) (γ 3), xI g (α 3) 49 (zT (γ 3)), xI g (β 3) 49 (zI (γ 3)), cT tx ch cs.length, xC g ch 60 (tyL T 0 cs), cTr tr tw od (zOs (tyL T 0 cs) cs.length σ) (zPo (tyL T 0 cs) cs.length σ) (zRe (tyL T 0 cs) cs.length σ) (zCa (tyL T 0 cs) cs.length σ), cR tw ta tb (zSt (tyL T 0 cs) cs.length σ), xI g ta 49 (zT (zSt (tyL T 0 cs) cs.length σ)), xI g tb 49 (zI (zSt (tyL T 0 cs) cs.length σ)), cO od u_52.1 u_52.2.1 u_52.2.2.1 u_52.2.2.2.1 u_52.2.2.2.2] H locs := w
          subst h_51
          refine lv_istore (lv' := [(7, .int (nI (zCa (tyL T 0 cs) cs.length σ))), (6, .int (nI (zRe (tyL T 0 cs) cs.length σ))), (5, .int (nI (zPo (tyL T 0 cs) cs.length σ))), (4, .int (nI kn)), (3, .int (nI 1)), (2, .int (nI n9)), (0, .ref x), (1, .int v)]) hx hb dL_reads_379 hl (by decide) rfl (fun ls hl => ?_)
          obtain ⟨po9, hpo9⟩ : ∃ z, z = zPo (tyL T 0 cs) cs.length σ := ⟨_, rfl⟩
          obtain ⟨ca9, hca9⟩ : ∃ z, z = zCa (tyL T 0 cs) cs.length σ := ⟨_, rfl⟩
          obtain ⟨re9, hre9⟩ : ∃ z, z = zRe (tyL T 0 cs) cs.length σ := ⟨_, rfl⟩
          refine lv_aload_n hx hb dL_reads_381 rfl (lv_at hl 6 rfl) ?_
          refine kcalli (wc := [cX x nw sn tk hs tx tr, cR nw na nb σ, xI g na 49 (zT σ), xI g nb 49 (zI σ), cT tx ch cs.length, xC g ch 60 (tyL T 0 cs), cTr tr tw od (zOs (tyL T 0 cs) cs.length σ) (zPo (tyL T 0 cs) cs.length σ) (zRe (tyL T 0 cs) cs.length σ) (zCa (tyL T 0 cs) cs.length σ), cR tw ta tb (zSt (tyL T 0 cs) cs.length σ), xI g ta 49 (zT (zSt (tyL T 0 cs) cs.length σ)), xI g tb 49 (zI (zSt (tyL T 0 cs) cs.length σ)), cO od u_52.1 u_52.2.1 u_52.2.2.1 u_52.2.2.2.1 u_52.2.2.2.2]) (wr := [cH hs hq kn, xQ g hq 4 (rq ρ), cR (ρ 0) (α 0) (β 0) (γ 0), xI g (α 0) 49 (zT (γ 0)), xI g (β 0) 49 (zI (γ 0)), cR (ρ 1) (α 1) (β 1) (γ 1), xI g (α 1) 49 (zT (γ 1)), xI g (β 1) 49 (zI (γ 1)), cR (ρ 2) (α 2) (β 2) (γ 2), xI g (α 2) 49 (zT (γ 2)), xI g (β 2) 49 (zI (γ 2)), cR (ρ 3) (α 3) (β 3) (γ 3), xI g (α 3) 49 (zT (γ 3)), xI g (β 3) 49 (zI (γ 3))]) (wn := fun (u : Int32 × Nat × Nat × Nat × Nat) => [cX x nw sn tk hs tx tr, cR nw na nb σ, xI g na 49 (zT σ), xI g nb 49 (zI σ), cH hs hq kn, xQ g hq 4 (rq ρ), cR (ρ 0) (α 0) (β 0) (γ 0), xI g (α 0) 49 (zT (γ 0)), xI g (β 0) 49 (zI (γ 0)), cR (ρ 1) (α 1) (β 1) (γ 1), xI g (α 1) 49 (zT (γ 1)), xI g (β 1) 49 (zI (γ 1)), cR (ρ 2) (α 2) (β 2) (γ 2), xI g (α 2) 49 (zT (γ 2)), xI g (β 2) 49 (zI (γ 2)), cR (ρ 3) (α 3) (β 3) (γ 3), xI g (α 3) 49 (zT (γ 3)), xI g (β 3) 49 (zI (γ 3)), cT tx ch cs.length, xC g ch 60 (tyL T 0 cs), cTr tr tw od (zOs (tyL T 0 cs) cs.length σ) (zPo (tyL T 0 cs) cs.length σ) (zRe (tyL T 0 cs) cs.length σ) (zCa (tyL T 0 cs) cs.length σ), cR tw ta tb (zSt (tyL T 0 cs) cs.length σ), xI g ta 49 (zT (zSt (tyL T 0 cs) cs.length σ)), xI g tb 49 (zI (zSt (tyL T 0 cs) cs.length σ)), cO od u.1 u.2.1 u.2.2.1 u.2.2.2.1 u.2.2.2.2]) F w [0, 1, 2, 3, 18, 19, 20, 21, 22, 23, 24] [4, 5, 6, 7, 8, 9, 10, 11, 12, 13, 14, 15, 16, 17] [14, 15, 16, 17, 0, 1, 2, 3, 4, 5, 6, 7, 8, 9, 10, 11, 12, 13, 18, 19, 20, 21, 22, 23, 24] rfl rfl rfl (fun _ => rfl)
            (fun hp => vx_runSW (As := [.ref x]) (rest := []) F.1 (kL_play_S l hnl g x nw sn tk hs tx tr na nb σ ch cs.length (tyL T 0 cs) tw od (zOs (tyL T 0 cs) cs.length σ) (zPo (tyL T 0 cs) cs.length σ) (zRe (tyL T 0 cs) cs.length σ) (zCa (tyL T 0 cs) cs.length σ) ta tb (zSt (tyL T 0 cs) cs.length σ) u_52.1 u_52.2.1 u_52.2.2.1 u_52.2.2.2.1 u_52.2.2.2.2 H.size hL6 h_11) (vx_cwSW 1 hts gL_reads_L_play rfl rfl rfl hd_L_play ⟨Nat.le_of_ble_eq_true rfl, Nat.le_of_ble_eq_true rfl⟩) hp rfl rfl hl.1 rfl (lv_room (Nat.le_of_ble_eq_true rfl)) dL_reads_382 ⟨Nat.le_of_ble_eq_true rfl, Nat.le_of_ble_eq_true rfl⟩)
            (fun r_53 u H locs h_54 w => ?_)
          try dsimp only at h_54
          obtain ⟨u_55, hu9⟩ : ∃ z, z = u := ⟨_, rfl⟩
          subst hu9
          have w : kW g A s [cX x nw sn tk hs tx tr, cR nw na nb σ, xI g na 49 (zT σ), xI g nb 49 (zI σ), cH hs hq kn, xQ g hq 4 (rq ρ), cR (ρ 0) (α 0) (β 0) (γ 0), xI g (α 0) 49 (zT (γ 0)), xI g (β 0) 49 (zI (γ 0)), cR (ρ 1) (α 1) (β 1) (γ 1), xI g (α 1) 49 (zT (γ 1)), xI g (β 1) 49 (zI (γ 1)), cR (ρ 2) (α 2) (β 2) (γ 2), xI g (α 2) 49 (zT (γ 2)), xI g (β 2) 49 (zI (γ 2)), cR (ρ 3) (α 3) (β 3) (γ 3), xI g (α 3) 49 (zT (γ 3)), xI g (β 3) 49 (zI (γ 3)), cT tx ch cs.length, xC g ch 60 (tyL T 0 cs), cTr tr tw od (zOs (tyL T 0 cs) cs.length σ) (zPo (tyL T 0 cs) cs.length σ) (zRe (tyL T 0 cs) cs.length σ) (zCa (tyL T 0 cs) cs.length σ), cR tw ta tb (zSt (tyL T 0 cs) cs.length σ), xI g ta 49 (zT (zSt (tyL T 0 cs) cs.length σ)), xI g tb 49 (zI (zSt (tyL T 0 cs) cs.length σ)), cO od u_55.1 u_55.2.1 u_55.2.2.1 u_55.2.2.2.1 u_55.2.2.2.2] H locs := w
          subst h_54
          refine lv_istore (lv' := [(8, .int (-103)), (7, .int (nI (zCa (tyL T 0 cs) cs.length σ))), (6, .int (nI (zRe (tyL T 0 cs) cs.length σ))), (5, .int (nI (zPo (tyL T 0 cs) cs.length σ))), (4, .int (nI kn)), (3, .int (nI 1)), (2, .int (nI n9)), (0, .ref x), (1, .int v)]) hx hb dL_reads_385 hl (by decide) rfl (fun ls hl => ?_)
          refine lv_aload_n hx hb dL_reads_387 rfl (lv_at hl 7 rfl) ?_
          refine kcalli (wc := [cX x nw sn tk hs tx tr, cT tx ch cs.length, xC g ch 60 (tyL T 0 cs)]) (wr := [cR nw na nb σ, xI g na 49 (zT σ), xI g nb 49 (zI σ), cH hs hq kn, xQ g hq 4 (rq ρ), cR (ρ 0) (α 0) (β 0) (γ 0), xI g (α 0) 49 (zT (γ 0)), xI g (β 0) 49 (zI (γ 0)), cR (ρ 1) (α 1) (β 1) (γ 1), xI g (α 1) 49 (zT (γ 1)), xI g (β 1) 49 (zI (γ 1)), cR (ρ 2) (α 2) (β 2) (γ 2), xI g (α 2) 49 (zT (γ 2)), xI g (β 2) 49 (zI (γ 2)), cR (ρ 3) (α 3) (β 3) (γ 3), xI g (α 3) 49 (zT (γ 3)), xI g (β 3) 49 (zI (γ 3)), cTr tr tw od (zOs (tyL T 0 cs) cs.length σ) (zPo (tyL T 0 cs) cs.length σ) (zRe (tyL T 0 cs) cs.length σ) (zCa (tyL T 0 cs) cs.length σ), cR tw ta tb (zSt (tyL T 0 cs) cs.length σ), xI g ta 49 (zT (zSt (tyL T 0 cs) cs.length σ)), xI g tb 49 (zI (zSt (tyL T 0 cs) cs.length σ)), cO od u_55.1 u_55.2.1 u_55.2.2.1 u_55.2.2.2.1 u_55.2.2.2.2]) (wn := fun (u : Unit) => [cX x nw sn tk hs tx tr, cR nw na nb σ, xI g na 49 (zT σ), xI g nb 49 (zI σ), cH hs hq kn, xQ g hq 4 (rq ρ), cR (ρ 0) (α 0) (β 0) (γ 0), xI g (α 0) 49 (zT (γ 0)), xI g (β 0) 49 (zI (γ 0)), cR (ρ 1) (α 1) (β 1) (γ 1), xI g (α 1) 49 (zT (γ 1)), xI g (β 1) 49 (zI (γ 1)), cR (ρ 2) (α 2) (β 2) (γ 2), xI g (α 2) 49 (zT (γ 2)), xI g (β 2) 49 (zI (γ 2)), cR (ρ 3) (α 3) (β 3) (γ 3), xI g (α 3) 49 (zT (γ 3)), xI g (β 3) 49 (zI (γ 3)), cT tx ch 0, xC g ch 60 (tyL T 0 cs), cTr tr tw od (zOs (tyL T 0 cs) cs.length σ) (zPo (tyL T 0 cs) cs.length σ) (zRe (tyL T 0 cs) cs.length σ) (zCa (tyL T 0 cs) cs.length σ), cR tw ta tb (zSt (tyL T 0 cs) cs.length σ), xI g ta 49 (zT (zSt (tyL T 0 cs) cs.length σ)), xI g tb 49 (zI (zSt (tyL T 0 cs) cs.length σ)), cO od u_55.1 u_55.2.1 u_55.2.2.1 u_55.2.2.2.1 u_55.2.2.2.2]) F w [0, 18, 19] [1, 2, 3, 4, 5, 6, 7, 8, 9, 10, 11, 12, 13, 14, 15, 16, 17, 20, 21, 22, 23, 24] [22, 0, 1, 2, 3, 4, 5, 6, 7, 8, 9, 10, 11, 12, 13, 14, 15, 16, 23, 24, 17, 18, 19, 20, 21] rfl rfl rfl (fun _ => rfl)
            (fun hp => va_runV (As := []) (rest := []) F.1 (kX5_clearText l g x nw sn tk hs tx tr ch cs.length (tyL T 0 cs) H.size ) (cwV 0 hts gL_reads_X5_clearText rfl rfl rfl ⟨rfl, hd_X5_clearText⟩ ⟨Nat.le_of_ble_eq_true rfl, Nat.le_of_ble_eq_true rfl⟩) ⟨hp.1, va_recv F.2.2.2.1.1 w.1 (q0 := 0) (ci := 5) rfl rfl, hp.2⟩ rfl rfl hl.1 rfl (lv_room (Nat.le_of_ble_eq_true rfl)) dL_reads_388 ⟨Nat.le_of_ble_eq_true rfl, Nat.le_of_ble_eq_true rfl⟩)
            (fun r_56 _ H locs h_57 w => ?_)
          subst h_57
          refine lv_istore (lv' := [(9, .int (nI cs.length)), (8, .int (-103)), (7, .int (nI (zCa (tyL T 0 cs) cs.length σ))), (6, .int (nI (zRe (tyL T 0 cs) cs.length σ))), (5, .int (nI (zPo (tyL T 0 cs) cs.length σ))), (4, .int (nI kn)), (3, .int (nI 1)), (2, .int (nI n9)), (0, .ref x), (1, .int v)]) hx hb dL_reads_391 hl (by decide) rfl (fun ls hl => ?_)
          have hl := hl
          rw [← hpo9, ← hca9, ← hre9] at hl q2
          rw [← hpo9] at q1
          rw [← hre9] at hzl
          have hca6 : ca9 ≤ 60 := by omega
          refine lv_iload_n hx hb dL_reads_393 rfl (lv_at hl 6 rfl) ?_
          refine lv_if_eq (tgt := 480) hx hb dL_reads_394 (by decide) (fun h_58 => ?_) (fun h_58 => ?_)
          · exact absurd h_58 (by decide)
          refine lv_iload hx hb dL_reads_397 (lv_at hl 4 rfl) ?_
          refine lv_bipush (v := (-104)) hx hb dL_reads_399 (by decide) ?_
          refine lv_icmp_ne (tgt := 408) hx hb dL_reads_401 (by decide) (fun h_59 => ?_) (fun h_59 => ?_)
          rotate_left 1
          · exact absurd h_59 (nI_m104 (by omega))
          refine lv_iconst (v := nI 0) hx hb dL_reads_408 (by decide) ?_
          refine lv_iload hx hb dL_reads_409 (lv_at hl 3 rfl) ?_
          refine lv_bipush (v := (-104)) hx hb dL_reads_411 (by decide) ?_
          refine lv_icmp_ne (tgt := 420) hx hb dL_reads_413 (by decide) (fun h_60 => ?_) (fun h_60 => ?_)
          rotate_left 1
          · exact absurd h_60 (nI_m104 (by omega))
          refine lv_iconst (v := nI 0) hx hb dL_reads_420 (by decide) ?_
          refine lv_icmp_ne (tgt := 480) hx hb dL_reads_421 (by decide) (fun h_61 => ?_) (fun h_61 => ?_)
          · exact absurd rfl h_61
          refine lv_iload hx hb dL_reads_424 (lv_at hl 4 rfl) ?_
          refine lv_bipush (v := (-104)) hx hb dL_reads_426 (by decide) ?_
          refine lv_icmp_ne (tgt := 435) hx hb dL_reads_428 (by decide) (fun h_62 => ?_) (fun h_62 => ?_)
          rotate_left 1
          · exact absurd h_62 (nI_m104 (by omega))
          refine lv_iconst (v := nI 0) hx hb dL_reads_435 (by decide) ?_
          refine lv_iload hx hb dL_reads_436 (lv_at hl 2 rfl) ?_
          refine lv_bipush (v := (-104)) hx hb dL_reads_438 (by decide) ?_
          refine lv_icmp_ne (tgt := 447) hx hb dL_reads_440 (by decide) (fun h_63 => ?_) (fun h_63 => ?_)
          rotate_left 1
          · exact absurd h_63 (nI_m104 (by omega))
          refine lv_iconst (v := nI 0) hx hb dL_reads_447 (by decide) ?_
          refine lv_icmp_ne (tgt := 480) hx hb dL_reads_448 (by decide) (fun h_64 => ?_) (fun h_64 => ?_)
          · exact absurd rfl h_64
          refine lv_iload hx hb dL_reads_451 (lv_at hl 1 rfl) ?_
          refine lv_bipush (v := (-103)) hx hb dL_reads_453 (by decide) ?_
          refine lv_icmp_ne (tgt := 462) hx hb dL_reads_455 (by decide) (fun h_65 => ?_) (fun h_65 => ?_)
          · exact absurd rfl h_65
          refine lv_iconst (v := nI 1) hx hb dL_reads_458 (by decide) ?_
          refine lv_goto (tgt := 463) hx hb dL_reads_459 (by decide) ?_
          refine lv_iload hx hb dL_reads_463 (lv_at hl 4 rfl) ?_
          refine lv_if_lt (tgt := 472) hx hb dL_reads_465 (by decide) (fun h_66 => ?_) (fun h_66 => ?_)
          · exact absurd h_66 (nI_nn (by omega))
          refine lv_iconst (v := nI 1) hx hb dL_reads_468 (by decide) ?_
          refine lv_goto (tgt := 473) hx hb dL_reads_469 (by decide) ?_
          refine lv_icmp_ne (tgt := 480) hx hb dL_reads_473 (by decide) (fun h_67 => ?_) (fun h_67 => ?_)
          · exact absurd rfl h_67
          refine lv_iconst (v := nI 1) hx hb dL_reads_476 (by decide) ?_
          refine lv_goto (tgt := 481) hx hb dL_reads_477 (by decide) ?_
          refine lv_istore (lv' := [(10, .int (nI 1)), (9, .int (nI cs.length)), (8, .int (-103)), (7, .int (nI ca9)), (6, .int (nI re9)), (5, .int (nI po9)), (4, .int (nI kn)), (3, .int (nI 1)), (2, .int (nI n9)), (0, .ref x), (1, .int v)]) hx hb dL_reads_481 hl (by decide) rfl (fun ls hl => ?_)
          refine lv_iload hx hb dL_reads_483 (lv_at hl 0 rfl) ?_
          refine lv_if_eq (tgt := 585) hx hb dL_reads_485 (by decide) (fun h_68 => ?_) (fun h_68 => ?_)
          · exact absurd h_68 (by decide)
          refine lv_iload hx hb dL_reads_488 (lv_at hl 5 rfl) ?_
          refine lv_if_lt (tgt := 554) hx hb dL_reads_490 (by decide) (fun h_69 => ?_) (fun h_69 => ?_)
          · exact absurd h_69 (nI_nn (by omega))
          refine lv_iload hx hb dL_reads_493 (lv_at hl 5 rfl) ?_
          refine lv_iload hx hb dL_reads_495 (lv_at hl 1 rfl) ?_
          refine lv_icmp_ge (tgt := 585) hx hb dL_reads_497 (by decide) (fun h_70 => ?_) (fun h_70 => ?_)
          · exact absurd ((kc_ge_t (by omega) (by omega)).mp h_70) (by omega)
          have JN_71 : ∀   (H : Heap) (locs : List Loc) (ls : Array Slot), kW g A s [cX x nw sn tk hs tx tr, cR nw na nb σ, xI g na 49 (zT σ), xI g nb 49 (zI σ), cH hs hq kn, xQ g hq 4 (rq ρ), cR (ρ 0) (α 0) (β 0) (γ 0), xI g (α 0) 49 (zT (γ 0)), xI g (β 0) 49 (zI (γ 0)), cR (ρ 1) (α 1) (β 1) (γ 1), xI g (α 1) 49 (zT (γ 1)), xI g (β 1) 49 (zI (γ 1)), cR (ρ 2) (α 2) (β 2) (γ 2), xI g (α 2) 49 (zT (γ 2)), xI g (β 2) 49 (zI (γ 2)), cR (ρ 3) (α 3) (β 3) (γ 3), xI g (α 3) 49 (zT (γ 3)), xI g (β 3) 49 (zI (γ 3)), cT tx ch 0, xC g ch 60 (tyL T 0 cs), cTr tr tw od (zOs (tyL T 0 cs) cs.length σ) (zPo (tyL T 0 cs) cs.length σ) (zRe (tyL T 0 cs) cs.length σ) (zCa (tyL T 0 cs) cs.length σ), cR tw ta tb (zSt (tyL T 0 cs) cs.length σ), xI g ta 49 (zT (zSt (tyL T 0 cs) cs.length σ)), xI g tb 49 (zI (zSt (tyL T 0 cs) cs.length σ)), cO od u_55.1 u_55.2.1 u_55.2.2.1 u_55.2.2.2.1 u_55.2.2.2.2] H locs → lv_has ls 11 [(10, .int (nI 1)), (9, .int (nI cs.length)), (8, .int (-103)), (7, .int (nI ca9)), (6, .int (nI re9)), (5, .int (nI po9)), (4, .int (nI kn)), (3, .int (nI 1)), (2, .int (nI n9)), (0, .ref x), (1, .int v)] → W p l e rmL_reads s m args below meth c H locs 1 6 Q (F0 m 542 ls []) := by
            intro   H locs ls w hl
            refine lv_aload_n hx hb dL_reads_542 rfl (lv_at hl 9 rfl) ?_
            refine kcalli (wc := [cX x nw sn tk hs tx tr, cH hs hq kn]) (wr := [cR nw na nb σ, xI g na 49 (zT σ), xI g nb 49 (zI σ), xQ g hq 4 (rq ρ), cR (ρ 0) (α 0) (β 0) (γ 0), xI g (α 0) 49 (zT (γ 0)), xI g (β 0) 49 (zI (γ 0)), cR (ρ 1) (α 1) (β 1) (γ 1), xI g (α 1) 49 (zT (γ 1)), xI g (β 1) 49 (zI (γ 1)), cR (ρ 2) (α 2) (β 2) (γ 2), xI g (α 2) 49 (zT (γ 2)), xI g (β 2) 49 (zI (γ 2)), cR (ρ 3) (α 3) (β 3) (γ 3), xI g (α 3) 49 (zT (γ 3)), xI g (β 3) 49 (zI (γ 3)), cT tx ch 0, xC g ch 60 (tyL T 0 cs), cTr tr tw od (zOs (tyL T 0 cs) cs.length σ) (zPo (tyL T 0 cs) cs.length σ) (zRe (tyL T 0 cs) cs.length σ) (zCa (tyL T 0 cs) cs.length σ), cR tw ta tb (zSt (tyL T 0 cs) cs.length σ), xI g ta 49 (zT (zSt (tyL T 0 cs) cs.length σ)), xI g tb 49 (zI (zSt (tyL T 0 cs) cs.length σ)), cO od u_55.1 u_55.2.1 u_55.2.2.1 u_55.2.2.2.1 u_55.2.2.2.2]) (wn := fun (u : Unit) => [cX x nw sn tk hs tx tr, cR nw na nb σ, xI g na 49 (zT σ), xI g nb 49 (zI σ), cH hs hq kn, xQ g hq 4 (rq ρ), cR (ρ 0) (α 0) (β 0) (γ 0), xI g (α 0) 49 (zT (γ 0)), xI g (β 0) 49 (zI (γ 0)), cR (ρ 1) (α 1) (β 1) (γ 1), xI g (α 1) 49 (zT (γ 1)), xI g (β 1) 49 (zI (γ 1)), cR (ρ 2) (α 2) (β 2) (γ 2), xI g (α 2) 49 (zT (γ 2)), xI g (β 2) 49 (zI (γ 2)), cR (ρ 3) (α 3) (β 3) (γ 3), xI g (α 3) 49 (zT (γ 3)), xI g (β 3) 49 (zI (γ 3)), cT tx ch 0, xC g ch 60 (tyL T 0 cs), cTr tr tw od (zOs (tyL T 0 cs) cs.length σ) (zPo (tyL T 0 cs) cs.length σ) (zRe (tyL T 0 cs) cs.length σ) (zCa (tyL T 0 cs) cs.length σ), cR tw ta tb (zSt (tyL T 0 cs) cs.length σ), xI g ta 49 (zT (zSt (tyL T 0 cs) cs.length σ)), xI g tb 49 (zI (zSt (tyL T 0 cs) cs.length σ)), cO od u_55.1 u_55.2.1 u_55.2.2.1 u_55.2.2.2.1 u_55.2.2.2.2]) F w [0, 4] [1, 2, 3, 5, 6, 7, 8, 9, 10, 11, 12, 13, 14, 15, 16, 17, 18, 19, 20, 21, 22, 23, 24] [23, 0, 1, 2, 24, 3, 4, 5, 6, 7, 8, 9, 10, 11, 12, 13, 14, 15, 16, 17, 18, 19, 20, 21, 22] rfl rfl rfl (fun _ => rfl)
              (fun hp => va_runV (As := []) (rest := []) F.1 (kX5_states_s l g x nw sn tk hs tx tr hq kn H.size ) (cwV 0 hts gL_reads_X5_states rfl rfl rfl ⟨rfl, hd_X5_states⟩ ⟨Nat.le_of_ble_eq_true rfl, Nat.le_of_ble_eq_true rfl⟩) ⟨hp.1, va_recv F.2.2.2.1.1 w.1 (q0 := 0) (ci := 5) rfl rfl, hp.2⟩ rfl rfl hl.1 rfl (lv_room (Nat.le_of_ble_eq_true rfl)) dL_reads_543 ⟨Nat.le_of_ble_eq_true rfl, Nat.le_of_ble_eq_true rfl⟩)
              (fun r_72 _ H locs h_73 w => ?_)
            subst h_73
            refine lv_iload hx hb dL_reads_546 (lv_at hl 6 rfl) ?_
            refine lv_icmp_ne (tgt := 585) hx hb dL_reads_548 (by decide) (fun h_74 => ?_) (fun h_74 => ?_)
            · exact absurd rfl h_74
            refine lv_goto (tgt := 581) hx hb dL_reads_551 (by decide) ?_
            refine lv_iconst (v := nI 1) hx hb dL_reads_581 (by decide) ?_
            refine lv_goto (tgt := 586) hx hb dL_reads_582 (by decide) ?_
            refine ktopi (y := bI true) (by decide) ?_
            refine W.widen (k := 3) (n := 18) (by omega) (by omega) ?_
            subst hA
            subst hQ
            exact kretz F w (σ, kn, ρ, α, β, γ, 0, tyL T 0 cs, zOs (tyL T 0 cs) cs.length σ, zPo (tyL T 0 cs) cs.length σ, zRe (tyL T 0 cs) cs.length σ, zCa (tyL T 0 cs) cs.length σ, zSt (tyL T 0 cs) cs.length σ, u_55.1, u_55.2.1, u_55.2.2.1, u_55.2.2.2.1, u_55.2.2.2.2) [0, 1, 2, 3, 4, 5, 6, 7, 8, 9, 10, 11, 12, 13, 14, 15, 16, 17, 18, 19, 20, 21, 22, 23, 24] rfl rfl (⟨rfl, actP_0 (Nat.zero_le _)⟩) (kz_n _) (Nat.le_of_ble_eq_true rfl) (Nat.le_of_ble_eq_true rfl) dL_reads_586
          refine lv_iload hx hb dL_reads_500 (lv_at hl 4 rfl) ?_
          refine lv_iconst (v := nI 1) hx hb dL_reads_502 (by decide) ?_
          refine lv_icmp_ne (tgt := 524) hx hb dL_reads_503 (by decide) (fun h_75 => ?_) (fun h_75 => ?_)
          · have h_75 : re9 ≠ 1 := (kc_ne_t (by omega) (by omega)).mp h_75
            refine lv_iload hx hb dL_reads_524 (lv_at hl 4 rfl) ?_
            refine lv_iconst (v := nI 2) hx hb dL_reads_526 (by decide) ?_
            refine lv_icmp_ne (tgt := 585) hx hb dL_reads_527 (by decide) (fun h_76 => ?_) (fun h_76 => ?_)
            · exact absurd (congrArg nI (show re9 = 2 by omega)) h_76
            refine lv_iload hx hb dL_reads_530 (lv_at hl 3 rfl) ?_
            refine lv_iconst (v := nI 1) hx hb dL_reads_532 (by decide) ?_
            refine lv_icmp_eq (tgt := 542) hx hb dL_reads_533 (by decide) (fun h_77 => ?_) (fun h_77 => ?_)
            · have h_77 : ca9 = 1 := (kc_eq_t (by omega) (by omega)).mp h_77
              exact JN_71   _ _ _ (kW.perm w [0, 1, 2, 3, 4, 5, 6, 7, 8, 9, 10, 11, 12, 13, 14, 15, 16, 17, 18, 19, 20, 21, 22, 23, 24] rfl rfl) (lv_sub hl [0, 1, 2, 3, 4, 5, 6, 7, 8, 9, 10] rfl)
            · have h_77 : ca9 ≠ 1 := (kc_eq_f (by omega) (by omega)).mp h_77
              refine lv_iload hx hb dL_reads_536 (lv_at hl 3 rfl) ?_
              refine lv_iconst (v := nI 2) hx hb dL_reads_538 (by decide) ?_
              refine lv_icmp_ne (tgt := 585) hx hb dL_reads_539 (by decide) (fun h_78 => ?_) (fun h_78 => ?_)
              · exact absurd (congrArg nI (show ca9 = 2 by omega)) h_78
              exact JN_71   _ _ _ (kW.perm w [0, 1, 2, 3, 4, 5, 6, 7, 8, 9, 10, 11, 12, 13, 14, 15, 16, 17, 18, 19, 20, 21, 22, 23, 24] rfl rfl) (lv_sub hl [0, 1, 2, 3, 4, 5, 6, 7, 8, 9, 10] rfl)
          · have h_75 : re9 = 1 := (kc_ne_f (by omega) (by omega)).mp h_75
            refine lv_iload hx hb dL_reads_506 (lv_at hl 3 rfl) ?_
            refine lv_if_lt (tgt := 585) hx hb dL_reads_508 (by decide) (fun h_79 => ?_) (fun h_79 => ?_)
            · exact absurd h_79 (nI_nn (by omega))
            refine lv_iload hx hb dL_reads_511 (lv_at hl 5 rfl) ?_
            refine lv_iload hx hb dL_reads_513 (lv_at hl 3 rfl) ?_
            refine lv_iadd hx hb dL_reads_515 ?_
            refine ktopi (y := nI (po9 + ca9)) (nI_add po9 ca9) ?_
            refine lv_iload hx hb dL_reads_516 (lv_at hl 1 rfl) ?_
            refine lv_icmp_gt (tgt := 585) hx hb dL_reads_518 (by decide) (fun h_80 => ?_) (fun h_80 => ?_)
            · exact absurd ((kc_gt_t (by omega) (by omega)).mp h_80) (by omega)
            refine lv_goto (tgt := 542) hx hb dL_reads_521 (by decide) ?_
            exact JN_71   _ _ _ (kW.perm w [0, 1, 2, 3, 4, 5, 6, 7, 8, 9, 10, 11, 12, 13, 14, 15, 16, 17, 18, 19, 20, 21, 22, 23, 24] rfl rfl) (lv_sub hl [0, 1, 2, 3, 4, 5, 6, 7, 8, 9, 10] rfl)
      · have h_8 : k < n9 := (kc_ge_f (by omega) (by omega)).mp h_8
        refine lv_iload_n hx hb dL_reads_29 rfl (lv_at hl 1 rfl) ?_
        refine lv_if_eq (tgt := 357) hx hb dL_reads_30 (by decide) (fun h_81 => ?_) (fun h_81 => ?_)
        · exact absurd h_81 (by decide)
        refine lv_iload_n hx hb dL_reads_33 rfl (lv_at hl 4 rfl) ?_
        refine lv_iconst (v := nI 1) hx hb dL_reads_34 (by decide) ?_
        refine lv_iconst (v := nI 2) hx hb dL_reads_35 (by decide) ?_
        refine lv_iload hx hb dL_reads_36 (lv_at hl 0 rfl) ?_
        refine lv_imul hx hb dL_reads_38 ?_
        refine ktopi (y := nI (2 * k)) (pk_mul 2 k) ?_
        refine lv_iadd hx hb dL_reads_39 ?_
        refine ktopi (y := nI (1 + 2 * k)) (nI_add 1 (2 * k)) ?_
        refine lv_ishr hx hb dL_reads_40 ?_
        obtain ⟨y9, hy9⟩ : ∃ z, z = v >>> ((nI (1 + 2 * k)) &&& 31) := ⟨_, rfl⟩
        refine ktopi (y := y9) (hy9.symm) ?_
        refine lv_istore (lv' := [(5, .int y9), (4, .int (nI k)), (3, .int (nI 1)), (2, .int (nI n9)), (0, .ref x), (1, .int v)]) hx hb dL_reads_41 hl (by decide) rfl (fun ls hl => ?_)
        have hway := lowN_lt y9 (n := 16) (by decide)
        refine lv_iload hx hb dL_reads_43 (lv_at hl 0 rfl) ?_
        refine lv_bipush (v := nI 16) hx hb dL_reads_45 (by decide) ?_
        have lw_82 := lowN_lt y9 (n := 16) (by omega)
        refine kcalli (wc := []) (wr := [cX x nw sn tk hs tx tr, cR nw na nb σ, xI g na 49 (zT σ), xI g nb 49 (zI σ), cH hs hq kn, xQ g hq 4 (rq ρ), cR (ρ 0) (α 0) (β 0) (γ 0), xI g (α 0) 49 (zT (γ 0)), xI g (β 0) 49 (zI (γ 0)), cR (ρ 1) (α 1) (β 1) (γ 1), xI g (α 1) 49 (zT (γ 1)), xI g (β 1) 49 (zI (γ 1)), cR (ρ 2) (α 2) (β 2) (γ 2), xI g (α 2) 49 (zT (γ 2)), xI g (β 2) 49 (zI (γ 2)), cR (ρ 3) (α 3) (β 3) (γ 3), xI g (α 3) 49 (zT (γ 3)), xI g (β 3) 49 (zI (γ 3)), cT tx ch cs.length, xC g ch 60 (tyL T 0 cs), cTr tr tw od os po re ca, cR tw ta tb τ, xI g ta 49 (zT τ), xI g tb 49 (zI τ), cO od vb n1 n2 nm en]) (wn := fun (u : Unit) => [cX x nw sn tk hs tx tr, cR nw na nb σ, xI g na 49 (zT σ), xI g nb 49 (zI σ), cH hs hq kn, xQ g hq 4 (rq ρ), cR (ρ 0) (α 0) (β 0) (γ 0), xI g (α 0) 49 (zT (γ 0)), xI g (β 0) 49 (zI (γ 0)), cR (ρ 1) (α 1) (β 1) (γ 1), xI g (α 1) 49 (zT (γ 1)), xI g (β 1) 49 (zI (γ 1)), cR (ρ 2) (α 2) (β 2) (γ 2), xI g (α 2) 49 (zT (γ 2)), xI g (β 2) 49 (zI (γ 2)), cR (ρ 3) (α 3) (β 3) (γ 3), xI g (α 3) 49 (zT (γ 3)), xI g (β 3) 49 (zI (γ 3)), cT tx ch cs.length, xC g ch 60 (tyL T 0 cs), cTr tr tw od os po re ca, cR tw ta tb τ, xI g ta 49 (zT τ), xI g tb 49 (zI τ), cO od vb n1 n2 nm en]) F w [] [0, 1, 2, 3, 4, 5, 6, 7, 8, 9, 10, 11, 12, 13, 14, 15, 16, 17, 18, 19, 20, 21, 22, 23, 24] [0, 1, 2, 3, 4, 5, 6, 7, 8, 9, 10, 11, 12, 13, 14, 15, 16, 17, 18, 19, 20, 21, 22, 23, 24] rfl rfl rfl (fun _ => rfl)
          (fun hp => va_runS (As := [.int y9, .int (nI 16)]) (rest := []) F.1 (kL_low l g y9 16 H.size (by omega)) (va_cwS 2 hts gL_reads_L_low rfl rfl rfl hd_L_low ⟨Nat.le_of_ble_eq_true rfl, Nat.le_of_ble_eq_true rfl⟩) hp rfl rfl hl.1 rfl (lv_room (Nat.le_of_ble_eq_true rfl)) dL_reads_47 ⟨Nat.le_of_ble_eq_true rfl, Nat.le_of_ble_eq_true rfl⟩)
          (fun r_83 _ H locs h_84 w => ?_)
        subst h_84
        refine lv_istore (lv' := [(6, .int (nI (lowN y9 16))), (5, .int y9), (4, .int (nI k)), (3, .int (nI 1)), (2, .int (nI n9)), (0, .ref x), (1, .int v)]) hx hb dL_reads_50 hl (by decide) rfl (fun ls hl => ?_)
        have JN_85 : ∀ (o9 : Bool)  (H : Heap) (locs : List Loc) (ls : Array Slot), kW g A s [cX x nw sn tk hs tx tr, cR nw na nb σ, xI g na 49 (zT σ), xI g nb 49 (zI σ), cH hs hq kn, xQ g hq 4 (rq ρ), cR (ρ 0) (α 0) (β 0) (γ 0), xI g (α 0) 49 (zT (γ 0)), xI g (β 0) 49 (zI (γ 0)), cR (ρ 1) (α 1) (β 1) (γ 1), xI g (α 1) 49 (zT (γ 1)), xI g (β 1) 49 (zI (γ 1)), cR (ρ 2) (α 2) (β 2) (γ 2), xI g (α 2) 49 (zT (γ 2)), xI g (β 2) 49 (zI (γ 2)), cR (ρ 3) (α 3) (β 3) (γ 3), xI g (α 3) 49 (zT (γ 3)), xI g (β 3) 49 (zI (γ 3)), cT tx ch cs.length, xC g ch 60 (tyL T 0 cs), cTr tr tw od os po re ca, cR tw ta tb τ, xI g ta 49 (zT τ), xI g tb 49 (zI τ), cO od vb n1 n2 nm en] H locs → lv_has ls 11 [(6, .int (nI (lowN y9 16))), (5, .int y9), (4, .int (nI k)), (3, .int (nI 1)), (2, .int (nI n9)), (0, .ref x), (1, .int v)] → W p l e rmL_reads s m args below meth c H locs 0 0 Q (F0 m 69 ls [.int (bI o9)]) := by
          intro o9  H locs ls w hl
          refine lv_istore (lv' := [(7, .int (bI o9)), (6, .int (nI (lowN y9 16))), (5, .int y9), (4, .int (nI k)), (3, .int (nI 1)), (2, .int (nI n9)), (0, .ref x), (1, .int v)]) hx hb dL_reads_69 hl (by decide) rfl (fun ls hl => ?_)
          have JN_86 : ∀ (a9 : Nat) (ha9 : a9 ≤ 4) (H : Heap) (locs : List Loc) (ls : Array Slot), kW g A s [cX x nw sn tk hs tx tr, cR nw na nb σ, xI g na 49 (zT σ), xI g nb 49 (zI σ), cH hs hq kn, xQ g hq 4 (rq ρ), cR (ρ 0) (α 0) (β 0) (γ 0), xI g (α 0) 49 (zT (γ 0)), xI g (β 0) 49 (zI (γ 0)), cR (ρ 1) (α 1) (β 1) (γ 1), xI g (α 1) 49 (zT (γ 1)), xI g (β 1) 49 (zI (γ 1)), cR (ρ 2) (α 2) (β 2) (γ 2), xI g (α 2) 49 (zT (γ 2)), xI g (β 2) 49 (zI (γ 2)), cR (ρ 3) (α 3) (β 3) (γ 3), xI g (α 3) 49 (zT (γ 3)), xI g (β 3) 49 (zI (γ 3)), cT tx ch cs.length, xC g ch 60 (tyL T 0 cs), cTr tr tw od os po re ca, cR tw ta tb τ, xI g ta 49 (zT τ), xI g tb 49 (zI τ), cO od vb n1 n2 nm en] H locs → lv_has ls 11 [(7, .int (bI o9)), (6, .int (nI (lowN y9 16))), (5, .int y9), (4, .int (nI k)), (3, .int (nI 1)), (2, .int (nI n9)), (0, .ref x), (1, .int v)] → W p l e rmL_reads s m args below meth c H locs 0 0 Q (F0 m 115 ls [.int (nI a9)]) := by
            intro a9 ha9 H locs ls w hl
            refine lv_istore (lv' := [(8, .int (nI a9)), (7, .int (bI o9)), (6, .int (nI (lowN y9 16))), (5, .int y9), (4, .int (nI k)), (3, .int (nI 1)), (2, .int (nI n9)), (0, .ref x), (1, .int v)]) hx hb dL_reads_115 hl (by decide) rfl (fun ls hl => ?_)
            have JN_87 : ∀ (f9 : Nat) (hf9 : f9 ≤ 99) (hfo : o9 = false → 1 ≤ f9 ∧ f9 ≤ 48) (H : Heap) (locs : List Loc) (ls : Array Slot), kW g A s [cX x nw sn tk hs tx tr, cR nw na nb σ, xI g na 49 (zT σ), xI g nb 49 (zI σ), cH hs hq kn, xQ g hq 4 (rq ρ), cR (ρ 0) (α 0) (β 0) (γ 0), xI g (α 0) 49 (zT (γ 0)), xI g (β 0) 49 (zI (γ 0)), cR (ρ 1) (α 1) (β 1) (γ 1), xI g (α 1) 49 (zT (γ 1)), xI g (β 1) 49 (zI (γ 1)), cR (ρ 2) (α 2) (β 2) (γ 2), xI g (α 2) 49 (zT (γ 2)), xI g (β 2) 49 (zI (γ 2)), cR (ρ 3) (α 3) (β 3) (γ 3), xI g (α 3) 49 (zT (γ 3)), xI g (β 3) 49 (zI (γ 3)), cT tx ch cs.length, xC g ch 60 (tyL T 0 cs), cTr tr tw od os po re ca, cR tw ta tb τ, xI g ta 49 (zT τ), xI g tb 49 (zI τ), cO od vb n1 n2 nm en] H locs → lv_has ls 11 [(8, .int (nI a9)), (7, .int (bI o9)), (6, .int (nI (lowN y9 16))), (5, .int y9), (4, .int (nI k)), (3, .int (nI 1)), (2, .int (nI n9)), (0, .ref x), (1, .int v)] → W p l e rmL_reads s m args below meth c H locs 0 0 Q (F0 m 147 ls [.int (nI f9)]) := by
              intro f9 hf9 hfo H locs ls w hl
              refine lv_istore (lv' := [(9, .int (nI f9)), (8, .int (nI a9)), (7, .int (bI o9)), (6, .int (nI (lowN y9 16))), (5, .int y9), (4, .int (nI k)), (3, .int (nI 1)), (2, .int (nI n9)), (0, .ref x), (1, .int v)]) hx hb dL_reads_147 hl (by decide) rfl (fun ls hl => ?_)
              have JN_88 : ∀ (b9 : Nat) (hb9 : b9 ≤ 99) (H : Heap) (locs : List Loc) (ls : Array Slot), kW g A s [cX x nw sn tk hs tx tr, cR nw na nb σ, xI g na 49 (zT σ), xI g nb 49 (zI σ), cH hs hq kn, xQ g hq 4 (rq ρ), cR (ρ 0) (α 0) (β 0) (γ 0), xI g (α 0) 49 (zT (γ 0)), xI g (β 0) 49 (zI (γ 0)), cR (ρ 1) (α 1) (β 1) (γ 1), xI g (α 1) 49 (zT (γ 1)), xI g (β 1) 49 (zI (γ 1)), cR (ρ 2) (α 2) (β 2) (γ 2), xI g (α 2) 49 (zT (γ 2)), xI g (β 2) 49 (zI (γ 2)), cR (ρ 3) (α 3) (β 3) (γ 3), xI g (α 3) 49 (zT (γ 3)), xI g (β 3) 49 (zI (γ 3)), cT tx ch cs.length, xC g ch 60 (tyL T 0 cs), cTr tr tw od os po re ca, cR tw ta tb τ, xI g ta 49 (zT τ), xI g tb 49 (zI τ), cO od vb n1 n2 nm en] H locs → lv_has ls 11 [(9, .int (nI f9)), (8, .int (nI a9)), (7, .int (bI o9)), (6, .int (nI (lowN y9 16))), (5, .int y9), (4, .int (nI k)), (3, .int (nI 1)), (2, .int (nI n9)), (0, .ref x), (1, .int v)] → W p l e rmL_reads s m args below meth c H locs 0 0 Q (F0 m 207 ls [.int (nI b9)]) := by
                intro b9 hb9 H locs ls w hl
                refine lv_istore (lv' := [(10, .int (nI b9)), (9, .int (nI f9)), (8, .int (nI a9)), (7, .int (bI o9)), (6, .int (nI (lowN y9 16))), (5, .int y9), (4, .int (nI k)), (3, .int (nI 1)), (2, .int (nI n9)), (0, .ref x), (1, .int v)]) hx hb dL_reads_207 hl (by decide) rfl (fun ls hl => ?_)
                refine lv_aload_n hx hb dL_reads_209 rfl (lv_at hl 9 rfl) ?_
                have JN_89 : ∀ (v9 : Nat) (hv9 : (a9 < 3 ∧ (v9 = 112 ∨ v9 = 100 ∨ v9 = 108)) ∨ (3 ≤ a9 ∧ (v9 = 114 ∨ v9 = 116))) (H : Heap) (locs : List Loc) (ls : Array Slot), kW g A s [cX x nw sn tk hs tx tr, cR nw na nb σ, xI g na 49 (zT σ), xI g nb 49 (zI σ), cH hs hq kn, xQ g hq 4 (rq ρ), cR (ρ 0) (α 0) (β 0) (γ 0), xI g (α 0) 49 (zT (γ 0)), xI g (β 0) 49 (zI (γ 0)), cR (ρ 1) (α 1) (β 1) (γ 1), xI g (α 1) 49 (zT (γ 1)), xI g (β 1) 49 (zI (γ 1)), cR (ρ 2) (α 2) (β 2) (γ 2), xI g (α 2) 49 (zT (γ 2)), xI g (β 2) 49 (zI (γ 2)), cR (ρ 3) (α 3) (β 3) (γ 3), xI g (α 3) 49 (zT (γ 3)), xI g (β 3) 49 (zI (γ 3)), cT tx ch cs.length, xC g ch 60 (tyL T 0 cs), cTr tr tw od os po re ca, cR tw ta tb τ, xI g ta 49 (zT τ), xI g tb 49 (zI τ), cO od vb n1 n2 nm en] H locs → lv_has ls 11 [(10, .int (nI b9)), (9, .int (nI f9)), (8, .int (nI a9)), (7, .int (bI o9)), (6, .int (nI (lowN y9 16))), (5, .int y9), (4, .int (nI k)), (3, .int (nI 1)), (2, .int (nI n9)), (0, .ref x), (1, .int v)] → W p l e rmL_reads s m args below meth c H locs 0 0 Q (F0 m 255 ls [.int (nI v9), .ref x]) := by
                  intro v9 hv9 H locs ls w hl
                  have hc49 : cs.length ≤ 49 := by omega
                  refine kcalli (wc := [cX x nw sn tk hs tx tr, cT tx ch cs.length, xC g ch 60 (tyL T 0 cs)]) (wr := [cR nw na nb σ, xI g na 49 (zT σ), xI g nb 49 (zI σ), cH hs hq kn, xQ g hq 4 (rq ρ), cR (ρ 0) (α 0) (β 0) (γ 0), xI g (α 0) 49 (zT (γ 0)), xI g (β 0) 49 (zI (γ 0)), cR (ρ 1) (α 1) (β 1) (γ 1), xI g (α 1) 49 (zT (γ 1)), xI g (β 1) 49 (zI (γ 1)), cR (ρ 2) (α 2) (β 2) (γ 2), xI g (α 2) 49 (zT (γ 2)), xI g (β 2) 49 (zI (γ 2)), cR (ρ 3) (α 3) (β 3) (γ 3), xI g (α 3) 49 (zT (γ 3)), xI g (β 3) 49 (zI (γ 3)), cTr tr tw od os po re ca, cR tw ta tb τ, xI g ta 49 (zT τ), xI g tb 49 (zI τ), cO od vb n1 n2 nm en]) (wn := fun (u : Unit) => [cX x nw sn tk hs tx tr, cR nw na nb σ, xI g na 49 (zT σ), xI g nb 49 (zI σ), cH hs hq kn, xQ g hq 4 (rq ρ), cR (ρ 0) (α 0) (β 0) (γ 0), xI g (α 0) 49 (zT (γ 0)), xI g (β 0) 49 (zI (γ 0)), cR (ρ 1) (α 1) (β 1) (γ 1), xI g (α 1) 49 (zT (γ 1)), xI g (β 1) 49 (zI (γ 1)), cR (ρ 2) (α 2) (β 2) (γ 2), xI g (α 2) 49 (zT (γ 2)), xI g (β 2) 49 (zI (γ 2)), cR (ρ 3) (α 3) (β 3) (γ 3), xI g (α 3) 49 (zT (γ 3)), xI g (β 3) 49 (zI (γ 3)), cT tx ch (cs.length + 1), xC g ch 60 (upd (tyL T 0 cs) cs.length (nI v9)), cTr tr tw od os po re ca, cR tw ta tb τ, xI g ta 49 (zT τ), xI g tb 49 (zI τ), cO od vb n1 n2 nm en]) F w [0, 18, 19] [1, 2, 3, 4, 5, 6, 7, 8, 9, 10, 11, 12, 13, 14, 15, 16, 17, 20, 21, 22, 23, 24] [22, 0, 1, 2, 3, 4, 5, 6, 7, 8, 9, 10, 11, 12, 13, 14, 15, 16, 23, 24, 17, 18, 19, 20, 21] rfl rfl rfl (fun _ => rfl)
                    (fun hp => va_runV (As := [.int (nI v9)]) (rest := []) F.1 (kX5_type_k l g x nw sn tk hs tx tr ch cs.length (tyL T 0 cs) v9 H.size (by omega) (by omega)) (cwV 1 hts gL_reads_X5_type rfl rfl rfl ⟨rfl, hd_X5_type⟩ ⟨Nat.le_of_ble_eq_true rfl, Nat.le_of_ble_eq_true rfl⟩) ⟨hp.1, va_recv F.2.2.2.1.1 w.1 (q0 := 0) (ci := 5) rfl rfl, hp.2⟩ rfl rfl hl.1 rfl (lv_room (Nat.le_of_ble_eq_true rfl)) dL_reads_255 ⟨Nat.le_of_ble_eq_true rfl, Nat.le_of_ble_eq_true rfl⟩)
                    (fun r_90 _ H locs h_91 w => ?_)
                  subst h_91
                  have w : kW g A s [cX x nw sn tk hs tx tr, cR nw na nb σ, xI g na 49 (zT σ), xI g nb 49 (zI σ), cH hs hq kn, xQ g hq 4 (rq ρ), cR (ρ 0) (α 0) (β 0) (γ 0), xI g (α 0) 49 (zT (γ 0)), xI g (β 0) 49 (zI (γ 0)), cR (ρ 1) (α 1) (β 1) (γ 1), xI g (α 1) 49 (zT (γ 1)), xI g (β 1) 49 (zI (γ 1)), cR (ρ 2) (α 2) (β 2) (γ 2), xI g (α 2) 49 (zT (γ 2)), xI g (β 2) 49 (zI (γ 2)), cR (ρ 3) (α 3) (β 3) (γ 3), xI g (α 3) 49 (zT (γ 3)), xI g (β 3) 49 (zI (γ 3)), cT tx ch ((cs ++ [v9]).length), xC g ch 60 (tyL T 0 (cs ++ [v9])), cTr tr tw od os po re ca, cR tw ta tb τ, xI g ta 49 (zT τ), xI g tb 49 (zI τ), cO od vb n1 n2 nm en] H locs := by
                    have w := w
                    rw [← le_s, ← ty_s]; exact w
                  refine lv_if_le (tgt := 349) hx hb dL_reads_258 (by decide) (fun h_92 => ?_) (fun h_92 => ?_)
                  · exact absurd ((kc0_le_t (by omega)).mp h_92) (by omega)
                  have hl1 : (cs ++ [v9]).length = cs.length + 1 := (le_s cs v9).symm
                  refine lv_aload_n hx hb dL_reads_261 rfl (lv_at hl 9 rfl) ?_
                  refine lv_iload hx hb dL_reads_262 (lv_at hl 1 rfl) ?_
                  refine kcalli (wc := [cX x nw sn tk hs tx tr, cT tx ch ((cs ++ [v9]).length), xC g ch 60 (tyL T 0 (cs ++ [v9]))]) (wr := [cR nw na nb σ, xI g na 49 (zT σ), xI g nb 49 (zI σ), cH hs hq kn, xQ g hq 4 (rq ρ), cR (ρ 0) (α 0) (β 0) (γ 0), xI g (α 0) 49 (zT (γ 0)), xI g (β 0) 49 (zI (γ 0)), cR (ρ 1) (α 1) (β 1) (γ 1), xI g (α 1) 49 (zT (γ 1)), xI g (β 1) 49 (zI (γ 1)), cR (ρ 2) (α 2) (β 2) (γ 2), xI g (α 2) 49 (zT (γ 2)), xI g (β 2) 49 (zI (γ 2)), cR (ρ 3) (α 3) (β 3) (γ 3), xI g (α 3) 49 (zT (γ 3)), xI g (β 3) 49 (zI (γ 3)), cTr tr tw od os po re ca, cR tw ta tb τ, xI g ta 49 (zT τ), xI g tb 49 (zI τ), cO od vb n1 n2 nm en]) (wn := fun (u : Unit) => [cX x nw sn tk hs tx tr, cR nw na nb σ, xI g na 49 (zT σ), xI g nb 49 (zI σ), cH hs hq kn, xQ g hq 4 (rq ρ), cR (ρ 0) (α 0) (β 0) (γ 0), xI g (α 0) 49 (zT (γ 0)), xI g (β 0) 49 (zI (γ 0)), cR (ρ 1) (α 1) (β 1) (γ 1), xI g (α 1) 49 (zT (γ 1)), xI g (β 1) 49 (zI (γ 1)), cR (ρ 2) (α 2) (β 2) (γ 2), xI g (α 2) 49 (zT (γ 2)), xI g (β 2) 49 (zI (γ 2)), cR (ρ 3) (α 3) (β 3) (γ 3), xI g (α 3) 49 (zT (γ 3)), xI g (β 3) 49 (zI (γ 3)), cT tx ch (((cs ++ [v9]).length) + (dgs f9).length), xC g ch 60 (tyL (tyL T 0 (cs ++ [v9])) ((cs ++ [v9]).length) (dgs f9)), cTr tr tw od os po re ca, cR tw ta tb τ, xI g ta 49 (zT τ), xI g tb 49 (zI τ), cO od vb n1 n2 nm en]) F w [0, 18, 19] [1, 2, 3, 4, 5, 6, 7, 8, 9, 10, 11, 12, 13, 14, 15, 16, 17, 20, 21, 22, 23, 24] [22, 0, 1, 2, 3, 4, 5, 6, 7, 8, 9, 10, 11, 12, 13, 14, 15, 16, 23, 24, 17, 18, 19, 20, 21] rfl rfl rfl (fun _ => rfl)
                    (fun hp => va_runS (As := [.ref x, .int (nI f9)]) (rest := []) F.1 (kL_number l g x nw sn tk hs tx tr ch ((cs ++ [v9]).length) (tyL T 0 (cs ++ [v9])) f9 H.size hf9 (by omega)) (va_cwS 2 hts gL_reads_L_number rfl rfl rfl hd_L_number ⟨Nat.le_of_ble_eq_true rfl, Nat.le_of_ble_eq_true rfl⟩) hp rfl rfl hl.1 rfl (lv_room (Nat.le_of_ble_eq_true rfl)) dL_reads_264 ⟨Nat.le_of_ble_eq_true rfl, Nat.le_of_ble_eq_true rfl⟩)
                    (fun r_93 _ H locs h_94 w => ?_)
                  subst h_94
                  have w : kW g A s [cX x nw sn tk hs tx tr, cR nw na nb σ, xI g na 49 (zT σ), xI g nb 49 (zI σ), cH hs hq kn, xQ g hq 4 (rq ρ), cR (ρ 0) (α 0) (β 0) (γ 0), xI g (α 0) 49 (zT (γ 0)), xI g (β 0) 49 (zI (γ 0)), cR (ρ 1) (α 1) (β 1) (γ 1), xI g (α 1) 49 (zT (γ 1)), xI g (β 1) 49 (zI (γ 1)), cR (ρ 2) (α 2) (β 2) (γ 2), xI g (α 2) 49 (zT (γ 2)), xI g (β 2) 49 (zI (γ 2)), cR (ρ 3) (α 3) (β 3) (γ 3), xI g (α 3) 49 (zT (γ 3)), xI g (β 3) 49 (zI (γ 3)), cT tx ch ((cs ++ [v9] ++ dgs f9).length), xC g ch 60 (tyL T 0 (cs ++ [v9] ++ dgs f9)), cTr tr tw od os po re ca, cR tw ta tb τ, xI g ta 49 (zT τ), xI g tb 49 (zI τ), cO od vb n1 n2 nm en] H locs := by
                    have w := w
                    rw [← le_a, ← ty_a]; exact w
                  refine lv_if_eq (tgt := 349) hx hb dL_reads_267 (by decide) (fun h_95 => ?_) (fun h_95 => ?_)
                  · exact absurd h_95 (by decide)
                  have hdl := dgs_le f9
                  have hl2 : (cs ++ [v9] ++ dgs f9).length = cs.length + 1 + (dgs f9).length := by rw [← le_a, hl1]
                  have JN_96 : ∀ (o8 : List Nat) (ho8 : ∀ e, e = 59 ∨ e = 46 → isOrd (o8 ++ [e])) (H : Heap) (locs : List Loc) (ls : Array Slot), kW g A s [cX x nw sn tk hs tx tr, cR nw na nb σ, xI g na 49 (zT σ), xI g nb 49 (zI σ), cH hs hq kn, xQ g hq 4 (rq ρ), cR (ρ 0) (α 0) (β 0) (γ 0), xI g (α 0) 49 (zT (γ 0)), xI g (β 0) 49 (zI (γ 0)), cR (ρ 1) (α 1) (β 1) (γ 1), xI g (α 1) 49 (zT (γ 1)), xI g (β 1) 49 (zI (γ 1)), cR (ρ 2) (α 2) (β 2) (γ 2), xI g (α 2) 49 (zT (γ 2)), xI g (β 2) 49 (zI (γ 2)), cR (ρ 3) (α 3) (β 3) (γ 3), xI g (α 3) 49 (zT (γ 3)), xI g (β 3) 49 (zI (γ 3)), cT tx ch ((cs ++ o8).length), xC g ch 60 (tyL T 0 (cs ++ o8)), cTr tr tw od os po re ca, cR tw ta tb τ, xI g ta 49 (zT τ), xI g tb 49 (zI τ), cO od vb n1 n2 nm en] H locs → lv_has ls 11 [(4, .int (nI k)), (3, .int (nI 1)), (2, .int (nI n9)), (0, .ref x), (1, .int v)] → W p l e rmL_reads s m args below meth c H locs 0 0 Q (F0 m 311 ls []) := by
                    intro o8 ho8 H locs ls w hl
                    have hol := (isOrd_l (ho8 59 (Or.inl rfl))).2
                    have hl4 : (o8 ++ [59]).length = o8.length + 1 := (le_s _ _).symm
                    have hl5 : (cs ++ o8).length = cs.length + o8.length := (le_a _ _).symm
                    refine lv_aload_n hx hb dL_reads_311 rfl (lv_at hl 3 rfl) ?_
                    have JN_97 : ∀ (e9 : Nat) (he9 : e9 = 59 ∨ e9 = 46) (H : Heap) (locs : List Loc) (ls : Array Slot), kW g A s [cX x nw sn tk hs tx tr, cR nw na nb σ, xI g na 49 (zT σ), xI g nb 49 (zI σ), cH hs hq kn, xQ g hq 4 (rq ρ), cR (ρ 0) (α 0) (β 0) (γ 0), xI g (α 0) 49 (zT (γ 0)), xI g (β 0) 49 (zI (γ 0)), cR (ρ 1) (α 1) (β 1) (γ 1), xI g (α 1) 49 (zT (γ 1)), xI g (β 1) 49 (zI (γ 1)), cR (ρ 2) (α 2) (β 2) (γ 2), xI g (α 2) 49 (zT (γ 2)), xI g (β 2) 49 (zI (γ 2)), cR (ρ 3) (α 3) (β 3) (γ 3), xI g (α 3) 49 (zT (γ 3)), xI g (β 3) 49 (zI (γ 3)), cT tx ch ((cs ++ o8).length), xC g ch 60 (tyL T 0 (cs ++ o8)), cTr tr tw od os po re ca, cR tw ta tb τ, xI g ta 49 (zT τ), xI g tb 49 (zI τ), cO od vb n1 n2 nm en] H locs → lv_has ls 11 [(4, .int (nI k)), (3, .int (nI 1)), (2, .int (nI n9)), (0, .ref x), (1, .int v)] → W p l e rmL_reads s m args below meth c H locs 0 0 Q (F0 m 339 ls [.int (nI e9), .ref x]) := by
                      intro e9 he9 H locs ls w hl
                      refine kcalli (wc := [cX x nw sn tk hs tx tr, cT tx ch ((cs ++ o8).length), xC g ch 60 (tyL T 0 (cs ++ o8))]) (wr := [cR nw na nb σ, xI g na 49 (zT σ), xI g nb 49 (zI σ), cH hs hq kn, xQ g hq 4 (rq ρ), cR (ρ 0) (α 0) (β 0) (γ 0), xI g (α 0) 49 (zT (γ 0)), xI g (β 0) 49 (zI (γ 0)), cR (ρ 1) (α 1) (β 1) (γ 1), xI g (α 1) 49 (zT (γ 1)), xI g (β 1) 49 (zI (γ 1)), cR (ρ 2) (α 2) (β 2) (γ 2), xI g (α 2) 49 (zT (γ 2)), xI g (β 2) 49 (zI (γ 2)), cR (ρ 3) (α 3) (β 3) (γ 3), xI g (α 3) 49 (zT (γ 3)), xI g (β 3) 49 (zI (γ 3)), cTr tr tw od os po re ca, cR tw ta tb τ, xI g ta 49 (zT τ), xI g tb 49 (zI τ), cO od vb n1 n2 nm en]) (wn := fun (u : Unit) => [cX x nw sn tk hs tx tr, cR nw na nb σ, xI g na 49 (zT σ), xI g nb 49 (zI σ), cH hs hq kn, xQ g hq 4 (rq ρ), cR (ρ 0) (α 0) (β 0) (γ 0), xI g (α 0) 49 (zT (γ 0)), xI g (β 0) 49 (zI (γ 0)), cR (ρ 1) (α 1) (β 1) (γ 1), xI g (α 1) 49 (zT (γ 1)), xI g (β 1) 49 (zI (γ 1)), cR (ρ 2) (α 2) (β 2) (γ 2), xI g (α 2) 49 (zT (γ 2)), xI g (β 2) 49 (zI (γ 2)), cR (ρ 3) (α 3) (β 3) (γ 3), xI g (α 3) 49 (zT (γ 3)), xI g (β 3) 49 (zI (γ 3)), cT tx ch (((cs ++ o8).length) + 1), xC g ch 60 (upd (tyL T 0 (cs ++ o8)) ((cs ++ o8).length) (nI e9)), cTr tr tw od os po re ca, cR tw ta tb τ, xI g ta 49 (zT τ), xI g tb 49 (zI τ), cO od vb n1 n2 nm en]) F w [0, 18, 19] [1, 2, 3, 4, 5, 6, 7, 8, 9, 10, 11, 12, 13, 14, 15, 16, 17, 20, 21, 22, 23, 24] [22, 0, 1, 2, 3, 4, 5, 6, 7, 8, 9, 10, 11, 12, 13, 14, 15, 16, 23, 24, 17, 18, 19, 20, 21] rfl rfl rfl (fun _ => rfl)
                        (fun hp => va_runV (As := [.int (nI e9)]) (rest := []) F.1 (kX5_type_k l g x nw sn tk hs tx tr ch ((cs ++ o8).length) (tyL T 0 (cs ++ o8)) e9 H.size (by omega) (by omega)) (cwV 1 hts gL_reads_X5_type rfl rfl rfl ⟨rfl, hd_X5_type⟩ ⟨Nat.le_of_ble_eq_true rfl, Nat.le_of_ble_eq_true rfl⟩) ⟨hp.1, va_recv F.2.2.2.1.1 w.1 (q0 := 0) (ci := 5) rfl rfl, hp.2⟩ rfl rfl hl.1 rfl (lv_room (Nat.le_of_ble_eq_true rfl)) dL_reads_339 ⟨Nat.le_of_ble_eq_true rfl, Nat.le_of_ble_eq_true rfl⟩)
                        (fun r_98 _ H locs h_99 w => ?_)
                      subst h_99
                      have w : kW g A s [cX x nw sn tk hs tx tr, cR nw na nb σ, xI g na 49 (zT σ), xI g nb 49 (zI σ), cH hs hq kn, xQ g hq 4 (rq ρ), cR (ρ 0) (α 0) (β 0) (γ 0), xI g (α 0) 49 (zT (γ 0)), xI g (β 0) 49 (zI (γ 0)), cR (ρ 1) (α 1) (β 1) (γ 1), xI g (α 1) 49 (zT (γ 1)), xI g (β 1) 49 (zI (γ 1)), cR (ρ 2) (α 2) (β 2) (γ 2), xI g (α 2) 49 (zT (γ 2)), xI g (β 2) 49 (zI (γ 2)), cR (ρ 3) (α 3) (β 3) (γ 3), xI g (α 3) 49 (zT (γ 3)), xI g (β 3) 49 (zI (γ 3)), cT tx ch ((cs ++ o8 ++ [e9]).length), xC g ch 60 (tyL T 0 (cs ++ o8 ++ [e9])), cTr tr tw od os po re ca, cR tw ta tb τ, xI g ta 49 (zT τ), xI g tb 49 (zI τ), cO od vb n1 n2 nm en] H locs := by
                        have w := w
                        rw [← le_s, ← ty_s]; exact w
                      refine lv_if_le (tgt := 349) hx hb dL_reads_342 (by decide) (fun h_100 => ?_) (fun h_100 => ?_)
                      · exact absurd ((kc0_le_t (by omega)).mp h_100) (by omega)
                      have w : kW g A s [cX x nw sn tk hs tx tr, cR nw na nb σ, xI g na 49 (zT σ), xI g nb 49 (zI σ), cH hs hq kn, xQ g hq 4 (rq ρ), cR (ρ 0) (α 0) (β 0) (γ 0), xI g (α 0) 49 (zT (γ 0)), xI g (β 0) 49 (zI (γ 0)), cR (ρ 1) (α 1) (β 1) (γ 1), xI g (α 1) 49 (zT (γ 1)), xI g (β 1) 49 (zI (γ 1)), cR (ρ 2) (α 2) (β 2) (γ 2), xI g (α 2) 49 (zT (γ 2)), xI g (β 2) 49 (zI (γ 2)), cR (ρ 3) (α 3) (β 3) (γ 3), xI g (α 3) 49 (zT (γ 3)), xI g (β 3) 49 (zI (γ 3)), cT tx ch ((cs ++ (o8 ++ [e9])).length), xC g ch 60 (tyL T 0 (cs ++ (o8 ++ [e9]))), cTr tr tw od os po re ca, cR tw ta tb τ, xI g ta 49 (zT τ), xI g tb 49 (zI τ), cO od vb n1 n2 nm en] H locs := by
                        have w := w
                        rw [← List.append_assoc]; exact w
                      refine lv_iconst (v := nI 1) hx hb dL_reads_345 (by decide) ?_
                      refine lv_goto (tgt := 350) hx hb dL_reads_346 (by decide) ?_
                      refine lv_istore_n (lv' := [(3, .int (nI 1)), (4, .int (nI k)), (2, .int (nI n9)), (0, .ref x), (1, .int v)]) hx hb dL_reads_350 rfl hl (by decide) rfl (fun ls hl => ?_)
                      refine lv_iinc (v := nI (k + 1)) (lv' := [(4, .int (nI (k + 1))), (3, .int (nI 1)), (2, .int (nI n9)), (0, .ref x), (1, .int v)]) hx hb dL_reads_351 hl (k := 1) rfl (nI_add k 1) (by decide) rfl (fun ls hl => ?_)
                      refine lv_goto (tgt := 23) hx hb dL_reads_354 (by decide) ?_
                      exact ih_7 (k + 1) (cs ++ (o8 ++ [e9])) (by omega) (Ords_s hO (ho8 e9 he9)) _ _ _ (by omega) (kW.perm w [0, 1, 2, 3, 4, 5, 6, 7, 8, 9, 10, 11, 12, 13, 14, 15, 16, 17, 18, 19, 20, 21, 22, 23, 24] rfl rfl) (lv_sub hl [0, 1, 2, 3, 4] rfl)
                    refine lv_iload hx hb dL_reads_312 (lv_at hl 0 rfl) ?_
                    refine lv_iload_n hx hb dL_reads_314 rfl (lv_at hl 2 rfl) ?_
                    refine lv_iconst (v := nI 1) hx hb dL_reads_315 (by decide) ?_
                    refine lv_isub hx hb dL_reads_316 ?_
                    refine ktopi (y := nI (n9 - 1)) (pk_sub (by omega)) ?_
                    refine lv_icmp_ne (tgt := 337) hx hb dL_reads_317 (by decide) (fun h_101 => ?_) (fun h_101 => ?_)
                    · have h_101 : k ≠ n9 - 1 := (kc_ne_t (by omega) (by omega)).mp h_101
                      refine lv_bipush (v := nI 59) hx hb dL_reads_337 (by decide) ?_
                      exact JN_97 59 (by omega) _ _ _ (kW.perm w [0, 1, 2, 3, 4, 5, 6, 7, 8, 9, 10, 11, 12, 13, 14, 15, 16, 17, 18, 19, 20, 21, 22, 23, 24] rfl rfl) (lv_sub hl [0, 1, 2, 3, 4] rfl)
                    · have h_101 : k = n9 - 1 := (kc_ne_f (by omega) (by omega)).mp h_101
                      refine lv_iload_n hx hb dL_reads_320 rfl (lv_at hl 4 rfl) ?_
                      refine lv_bipush (v := nI 26) hx hb dL_reads_321 (by decide) ?_
                      refine lv_ishr hx hb dL_reads_323 ?_
                      refine lv_bipush (v := nI 7) hx hb dL_reads_324 (by decide) ?_
                      have lw_102 := lowN_lt (v >>> ((nI 26) &&& 31)) (n := 7) (by omega)
                      refine kcalli (wc := []) (wr := [cX x nw sn tk hs tx tr, cR nw na nb σ, xI g na 49 (zT σ), xI g nb 49 (zI σ), cH hs hq kn, xQ g hq 4 (rq ρ), cR (ρ 0) (α 0) (β 0) (γ 0), xI g (α 0) 49 (zT (γ 0)), xI g (β 0) 49 (zI (γ 0)), cR (ρ 1) (α 1) (β 1) (γ 1), xI g (α 1) 49 (zT (γ 1)), xI g (β 1) 49 (zI (γ 1)), cR (ρ 2) (α 2) (β 2) (γ 2), xI g (α 2) 49 (zT (γ 2)), xI g (β 2) 49 (zI (γ 2)), cR (ρ 3) (α 3) (β 3) (γ 3), xI g (α 3) 49 (zT (γ 3)), xI g (β 3) 49 (zI (γ 3)), cT tx ch ((cs ++ o8).length), xC g ch 60 (tyL T 0 (cs ++ o8)), cTr tr tw od os po re ca, cR tw ta tb τ, xI g ta 49 (zT τ), xI g tb 49 (zI τ), cO od vb n1 n2 nm en]) (wn := fun (u : Unit) => [cX x nw sn tk hs tx tr, cR nw na nb σ, xI g na 49 (zT σ), xI g nb 49 (zI σ), cH hs hq kn, xQ g hq 4 (rq ρ), cR (ρ 0) (α 0) (β 0) (γ 0), xI g (α 0) 49 (zT (γ 0)), xI g (β 0) 49 (zI (γ 0)), cR (ρ 1) (α 1) (β 1) (γ 1), xI g (α 1) 49 (zT (γ 1)), xI g (β 1) 49 (zI (γ 1)), cR (ρ 2) (α 2) (β 2) (γ 2), xI g (α 2) 49 (zT (γ 2)), xI g (β 2) 49 (zI (γ 2)), cR (ρ 3) (α 3) (β 3) (γ 3), xI g (α 3) 49 (zT (γ 3)), xI g (β 3) 49 (zI (γ 3)), cT tx ch ((cs ++ o8).length), xC g ch 60 (tyL T 0 (cs ++ o8)), cTr tr tw od os po re ca, cR tw ta tb τ, xI g ta 49 (zT τ), xI g tb 49 (zI τ), cO od vb n1 n2 nm en]) F w [] [0, 1, 2, 3, 4, 5, 6, 7, 8, 9, 10, 11, 12, 13, 14, 15, 16, 17, 18, 19, 20, 21, 22, 23, 24] [0, 1, 2, 3, 4, 5, 6, 7, 8, 9, 10, 11, 12, 13, 14, 15, 16, 17, 18, 19, 20, 21, 22, 23, 24] rfl rfl rfl (fun _ => rfl)
                        (fun hp => va_runS (As := [.int (v >>> ((nI 26) &&& 31)), .int (nI 7)]) (rest := [.ref x]) F.1 (kL_low l g (v >>> ((nI 26) &&& 31)) 7 H.size (by omega)) (va_cwS 2 hts gL_reads_L_low rfl rfl rfl hd_L_low ⟨Nat.le_of_ble_eq_true rfl, Nat.le_of_ble_eq_true rfl⟩) hp rfl rfl hl.1 rfl (lv_room (Nat.le_of_ble_eq_true rfl)) dL_reads_326 ⟨Nat.le_of_ble_eq_true rfl, Nat.le_of_ble_eq_true rfl⟩)
                        (fun r_103 _ H locs h_104 w => ?_)
                      subst h_104
                      refine lv_if_ne (tgt := 337) hx hb dL_reads_329 (by decide) (fun h_105 => ?_) (fun h_105 => ?_)
                      · have h_105 : lowN (v >>> ((nI 26) &&& 31)) 7 ≠ 0 := (kc0_ne_t (by omega)).mp h_105
                        refine lv_bipush (v := nI 59) hx hb dL_reads_337 (by decide) ?_
                        exact JN_97 59 (by omega) _ _ _ (kW.perm w [0, 1, 2, 3, 4, 5, 6, 7, 8, 9, 10, 11, 12, 13, 14, 15, 16, 17, 18, 19, 20, 21, 22, 23, 24] rfl rfl) (lv_sub hl [0, 1, 2, 3, 4] rfl)
                      · have h_105 : lowN (v >>> ((nI 26) &&& 31)) 7 = 0 := (kc0_ne_f (by omega)).mp h_105
                        refine lv_bipush (v := nI 46) hx hb dL_reads_332 (by decide) ?_
                        refine lv_goto (tgt := 339) hx hb dL_reads_334 (by decide) ?_
                        exact JN_97 46 (by omega) _ _ _ (kW.perm w [0, 1, 2, 3, 4, 5, 6, 7, 8, 9, 10, 11, 12, 13, 14, 15, 16, 17, 18, 19, 20, 21, 22, 23, 24] rfl rfl) (lv_sub hl [0, 1, 2, 3, 4] rfl)
                  refine lv_iload hx hb dL_reads_270 (lv_at hl 2 rfl) ?_
                  refine lv_iconst (v := nI 3) hx hb dL_reads_272 (by decide) ?_
                  refine lv_icmp_lt (tgt := 311) hx hb dL_reads_273 (by decide) (fun h_106 => ?_) (fun h_106 => ?_)
                  · have h_106 : a9 < 3 := (kc_lt_t (by omega) (by omega)).mp h_106
                    have w : kW g A s [cX x nw sn tk hs tx tr, cR nw na nb σ, xI g na 49 (zT σ), xI g nb 49 (zI σ), cH hs hq kn, xQ g hq 4 (rq ρ), cR (ρ 0) (α 0) (β 0) (γ 0), xI g (α 0) 49 (zT (γ 0)), xI g (β 0) 49 (zI (γ 0)), cR (ρ 1) (α 1) (β 1) (γ 1), xI g (α 1) 49 (zT (γ 1)), xI g (β 1) 49 (zI (γ 1)), cR (ρ 2) (α 2) (β 2) (γ 2), xI g (α 2) 49 (zT (γ 2)), xI g (β 2) 49 (zI (γ 2)), cR (ρ 3) (α 3) (β 3) (γ 3), xI g (α 3) 49 (zT (γ 3)), xI g (β 3) 49 (zI (γ 3)), cT tx ch ((cs ++ ([v9] ++ dgs f9)).length), xC g ch 60 (tyL T 0 (cs ++ ([v9] ++ dgs f9))), cTr tr tw od os po re ca, cR tw ta tb τ, xI g ta 49 (zT τ), xI g tb 49 (zI τ), cO od vb n1 n2 nm en] H locs := by
                      have w := w
                      rw [← List.append_assoc]; exact w
                    exact JN_96 ([v9] ++ dgs f9) (ord1 (by omega) hf9) _ _ _ (kW.perm w [0, 1, 2, 3, 4, 5, 6, 7, 8, 9, 10, 11, 12, 13, 14, 15, 16, 17, 18, 19, 20, 21, 22, 23, 24] rfl rfl) (lv_sub hl [6, 7, 8, 9, 10] rfl)
                  · have h_106 : a9 ≥ 3 := (kc_lt_f (by omega) (by omega)).mp h_106
                    refine lv_aload_n hx hb dL_reads_276 rfl (lv_at hl 9 rfl) ?_
                    have JN_107 : ∀ (s9 : Nat) (hs9 : s9 = 44 ∨ s9 = 46) (H : Heap) (locs : List Loc) (ls : Array Slot), kW g A s [cX x nw sn tk hs tx tr, cR nw na nb σ, xI g na 49 (zT σ), xI g nb 49 (zI σ), cH hs hq kn, xQ g hq 4 (rq ρ), cR (ρ 0) (α 0) (β 0) (γ 0), xI g (α 0) 49 (zT (γ 0)), xI g (β 0) 49 (zI (γ 0)), cR (ρ 1) (α 1) (β 1) (γ 1), xI g (α 1) 49 (zT (γ 1)), xI g (β 1) 49 (zI (γ 1)), cR (ρ 2) (α 2) (β 2) (γ 2), xI g (α 2) 49 (zT (γ 2)), xI g (β 2) 49 (zI (γ 2)), cR (ρ 3) (α 3) (β 3) (γ 3), xI g (α 3) 49 (zT (γ 3)), xI g (β 3) 49 (zI (γ 3)), cT tx ch ((cs ++ [v9] ++ dgs f9).length), xC g ch 60 (tyL T 0 (cs ++ [v9] ++ dgs f9)), cTr tr tw od os po re ca, cR tw ta tb τ, xI g ta 49 (zT τ), xI g tb 49 (zI τ), cO od vb n1 n2 nm en] H locs → lv_has ls 11 [(10, .int (nI b9)), (9, .int (nI f9)), (8, .int (nI a9)), (7, .int (bI o9)), (6, .int (nI (lowN y9 16))), (5, .int y9), (4, .int (nI k)), (3, .int (nI 1)), (2, .int (nI n9)), (0, .ref x), (1, .int v)] → W p l e rmL_reads s m args below meth c H locs 0 0 Q (F0 m 296 ls [.int (nI s9), .ref x]) := by
                      intro s9 hs9 H locs ls w hl
                      refine kcalli (wc := [cX x nw sn tk hs tx tr, cT tx ch ((cs ++ [v9] ++ dgs f9).length), xC g ch 60 (tyL T 0 (cs ++ [v9] ++ dgs f9))]) (wr := [cR nw na nb σ, xI g na 49 (zT σ), xI g nb 49 (zI σ), cH hs hq kn, xQ g hq 4 (rq ρ), cR (ρ 0) (α 0) (β 0) (γ 0), xI g (α 0) 49 (zT (γ 0)), xI g (β 0) 49 (zI (γ 0)), cR (ρ 1) (α 1) (β 1) (γ 1), xI g (α 1) 49 (zT (γ 1)), xI g (β 1) 49 (zI (γ 1)), cR (ρ 2) (α 2) (β 2) (γ 2), xI g (α 2) 49 (zT (γ 2)), xI g (β 2) 49 (zI (γ 2)), cR (ρ 3) (α 3) (β 3) (γ 3), xI g (α 3) 49 (zT (γ 3)), xI g (β 3) 49 (zI (γ 3)), cTr tr tw od os po re ca, cR tw ta tb τ, xI g ta 49 (zT τ), xI g tb 49 (zI τ), cO od vb n1 n2 nm en]) (wn := fun (u : Unit) => [cX x nw sn tk hs tx tr, cR nw na nb σ, xI g na 49 (zT σ), xI g nb 49 (zI σ), cH hs hq kn, xQ g hq 4 (rq ρ), cR (ρ 0) (α 0) (β 0) (γ 0), xI g (α 0) 49 (zT (γ 0)), xI g (β 0) 49 (zI (γ 0)), cR (ρ 1) (α 1) (β 1) (γ 1), xI g (α 1) 49 (zT (γ 1)), xI g (β 1) 49 (zI (γ 1)), cR (ρ 2) (α 2) (β 2) (γ 2), xI g (α 2) 49 (zT (γ 2)), xI g (β 2) 49 (zI (γ 2)), cR (ρ 3) (α 3) (β 3) (γ 3), xI g (α 3) 49 (zT (γ 3)), xI g (β 3) 49 (zI (γ 3)), cT tx ch (((cs ++ [v9] ++ dgs f9).length) + 1), xC g ch 60 (upd (tyL T 0 (cs ++ [v9] ++ dgs f9)) ((cs ++ [v9] ++ dgs f9).length) (nI s9)), cTr tr tw od os po re ca, cR tw ta tb τ, xI g ta 49 (zT τ), xI g tb 49 (zI τ), cO od vb n1 n2 nm en]) F w [0, 18, 19] [1, 2, 3, 4, 5, 6, 7, 8, 9, 10, 11, 12, 13, 14, 15, 16, 17, 20, 21, 22, 23, 24] [22, 0, 1, 2, 3, 4, 5, 6, 7, 8, 9, 10, 11, 12, 13, 14, 15, 16, 23, 24, 17, 18, 19, 20, 21] rfl rfl rfl (fun _ => rfl)
                        (fun hp => va_runV (As := [.int (nI s9)]) (rest := []) F.1 (kX5_type_k l g x nw sn tk hs tx tr ch ((cs ++ [v9] ++ dgs f9).length) (tyL T 0 (cs ++ [v9] ++ dgs f9)) s9 H.size (by omega) (by omega)) (cwV 1 hts gL_reads_X5_type rfl rfl rfl ⟨rfl, hd_X5_type⟩ ⟨Nat.le_of_ble_eq_true rfl, Nat.le_of_ble_eq_true rfl⟩) ⟨hp.1, va_recv F.2.2.2.1.1 w.1 (q0 := 0) (ci := 5) rfl rfl, hp.2⟩ rfl rfl hl.1 rfl (lv_room (Nat.le_of_ble_eq_true rfl)) dL_reads_296 ⟨Nat.le_of_ble_eq_true rfl, Nat.le_of_ble_eq_true rfl⟩)
                        (fun r_108 _ H locs h_109 w => ?_)
                      subst h_109
                      have w : kW g A s [cX x nw sn tk hs tx tr, cR nw na nb σ, xI g na 49 (zT σ), xI g nb 49 (zI σ), cH hs hq kn, xQ g hq 4 (rq ρ), cR (ρ 0) (α 0) (β 0) (γ 0), xI g (α 0) 49 (zT (γ 0)), xI g (β 0) 49 (zI (γ 0)), cR (ρ 1) (α 1) (β 1) (γ 1), xI g (α 1) 49 (zT (γ 1)), xI g (β 1) 49 (zI (γ 1)), cR (ρ 2) (α 2) (β 2) (γ 2), xI g (α 2) 49 (zT (γ 2)), xI g (β 2) 49 (zI (γ 2)), cR (ρ 3) (α 3) (β 3) (γ 3), xI g (α 3) 49 (zT (γ 3)), xI g (β 3) 49 (zI (γ 3)), cT tx ch ((cs ++ [v9] ++ dgs f9 ++ [s9]).length), xC g ch 60 (tyL T 0 (cs ++ [v9] ++ dgs f9 ++ [s9])), cTr tr tw od os po re ca, cR tw ta tb τ, xI g ta 49 (zT τ), xI g tb 49 (zI τ), cO od vb n1 n2 nm en] H locs := by
                        have w := w
                        rw [← le_s, ← ty_s]; exact w
                      refine lv_if_le (tgt := 349) hx hb dL_reads_299 (by decide) (fun h_110 => ?_) (fun h_110 => ?_)
                      · exact absurd ((kc0_le_t (by omega)).mp h_110) (by omega)
                      have hl3 : (cs ++ [v9] ++ dgs f9 ++ [s9]).length = (cs ++ [v9] ++ dgs f9).length + 1 := (le_s _ s9).symm
                      refine lv_aload_n hx hb dL_reads_302 rfl (lv_at hl 9 rfl) ?_
                      refine lv_iload hx hb dL_reads_303 (lv_at hl 0 rfl) ?_
                      refine kcalli (wc := [cX x nw sn tk hs tx tr, cT tx ch ((cs ++ [v9] ++ dgs f9 ++ [s9]).length), xC g ch 60 (tyL T 0 (cs ++ [v9] ++ dgs f9 ++ [s9]))]) (wr := [cR nw na nb σ, xI g na 49 (zT σ), xI g nb 49 (zI σ), cH hs hq kn, xQ g hq 4 (rq ρ), cR (ρ 0) (α 0) (β 0) (γ 0), xI g (α 0) 49 (zT (γ 0)), xI g (β 0) 49 (zI (γ 0)), cR (ρ 1) (α 1) (β 1) (γ 1), xI g (α 1) 49 (zT (γ 1)), xI g (β 1) 49 (zI (γ 1)), cR (ρ 2) (α 2) (β 2) (γ 2), xI g (α 2) 49 (zT (γ 2)), xI g (β 2) 49 (zI (γ 2)), cR (ρ 3) (α 3) (β 3) (γ 3), xI g (α 3) 49 (zT (γ 3)), xI g (β 3) 49 (zI (γ 3)), cTr tr tw od os po re ca, cR tw ta tb τ, xI g ta 49 (zT τ), xI g tb 49 (zI τ), cO od vb n1 n2 nm en]) (wn := fun (u : Unit) => [cX x nw sn tk hs tx tr, cR nw na nb σ, xI g na 49 (zT σ), xI g nb 49 (zI σ), cH hs hq kn, xQ g hq 4 (rq ρ), cR (ρ 0) (α 0) (β 0) (γ 0), xI g (α 0) 49 (zT (γ 0)), xI g (β 0) 49 (zI (γ 0)), cR (ρ 1) (α 1) (β 1) (γ 1), xI g (α 1) 49 (zT (γ 1)), xI g (β 1) 49 (zI (γ 1)), cR (ρ 2) (α 2) (β 2) (γ 2), xI g (α 2) 49 (zT (γ 2)), xI g (β 2) 49 (zI (γ 2)), cR (ρ 3) (α 3) (β 3) (γ 3), xI g (α 3) 49 (zT (γ 3)), xI g (β 3) 49 (zI (γ 3)), cT tx ch (((cs ++ [v9] ++ dgs f9 ++ [s9]).length) + (dgs b9).length), xC g ch 60 (tyL (tyL T 0 (cs ++ [v9] ++ dgs f9 ++ [s9])) ((cs ++ [v9] ++ dgs f9 ++ [s9]).length) (dgs b9)), cTr tr tw od os po re ca, cR tw ta tb τ, xI g ta 49 (zT τ), xI g tb 49 (zI τ), cO od vb n1 n2 nm en]) F w [0, 18, 19] [1, 2, 3, 4, 5, 6, 7, 8, 9, 10, 11, 12, 13, 14, 15, 16, 17, 20, 21, 22, 23, 24] [22, 0, 1, 2, 3, 4, 5, 6, 7, 8, 9, 10, 11, 12, 13, 14, 15, 16, 23, 24, 17, 18, 19, 20, 21] rfl rfl rfl (fun _ => rfl)
                        (fun hp => va_runS (As := [.ref x, .int (nI b9)]) (rest := []) F.1 (kL_number l g x nw sn tk hs tx tr ch ((cs ++ [v9] ++ dgs f9 ++ [s9]).length) (tyL T 0 (cs ++ [v9] ++ dgs f9 ++ [s9])) b9 H.size hb9 (by omega)) (va_cwS 2 hts gL_reads_L_number rfl rfl rfl hd_L_number ⟨Nat.le_of_ble_eq_true rfl, Nat.le_of_ble_eq_true rfl⟩) hp rfl rfl hl.1 rfl (lv_room (Nat.le_of_ble_eq_true rfl)) dL_reads_305 ⟨Nat.le_of_ble_eq_true rfl, Nat.le_of_ble_eq_true rfl⟩)
                        (fun r_111 _ H locs h_112 w => ?_)
                      subst h_112
                      have w : kW g A s [cX x nw sn tk hs tx tr, cR nw na nb σ, xI g na 49 (zT σ), xI g nb 49 (zI σ), cH hs hq kn, xQ g hq 4 (rq ρ), cR (ρ 0) (α 0) (β 0) (γ 0), xI g (α 0) 49 (zT (γ 0)), xI g (β 0) 49 (zI (γ 0)), cR (ρ 1) (α 1) (β 1) (γ 1), xI g (α 1) 49 (zT (γ 1)), xI g (β 1) 49 (zI (γ 1)), cR (ρ 2) (α 2) (β 2) (γ 2), xI g (α 2) 49 (zT (γ 2)), xI g (β 2) 49 (zI (γ 2)), cR (ρ 3) (α 3) (β 3) (γ 3), xI g (α 3) 49 (zT (γ 3)), xI g (β 3) 49 (zI (γ 3)), cT tx ch ((cs ++ [v9] ++ dgs f9 ++ [s9] ++ dgs b9).length), xC g ch 60 (tyL T 0 (cs ++ [v9] ++ dgs f9 ++ [s9] ++ dgs b9)), cTr tr tw od os po re ca, cR tw ta tb τ, xI g ta 49 (zT τ), xI g tb 49 (zI τ), cO od vb n1 n2 nm en] H locs := by
                        have w := w
                        rw [← le_a, ← ty_a]; exact w
                      refine lv_if_eq (tgt := 349) hx hb dL_reads_308 (by decide) (fun h_113 => ?_) (fun h_113 => ?_)
                      · exact absurd h_113 (by decide)
                      have w : kW g A s [cX x nw sn tk hs tx tr, cR nw na nb σ, xI g na 49 (zT σ), xI g nb 49 (zI σ), cH hs hq kn, xQ g hq 4 (rq ρ), cR (ρ 0) (α 0) (β 0) (γ 0), xI g (α 0) 49 (zT (γ 0)), xI g (β 0) 49 (zI (γ 0)), cR (ρ 1) (α 1) (β 1) (γ 1), xI g (α 1) 49 (zT (γ 1)), xI g (β 1) 49 (zI (γ 1)), cR (ρ 2) (α 2) (β 2) (γ 2), xI g (α 2) 49 (zT (γ 2)), xI g (β 2) 49 (zI (γ 2)), cR (ρ 3) (α 3) (β 3) (γ 3), xI g (α 3) 49 (zT (γ 3)), xI g (β 3) 49 (zI (γ 3)), cT tx ch ((cs ++ ([v9] ++ dgs f9 ++ [s9] ++ dgs b9)).length), xC g ch 60 (tyL T 0 (cs ++ ([v9] ++ dgs f9 ++ [s9] ++ dgs b9))), cTr tr tw od os po re ca, cR tw ta tb τ, xI g ta 49 (zT τ), xI g tb 49 (zI τ), cO od vb n1 n2 nm en] H locs := by
                        have w := w
                        rw [← List.append_assoc, ← List.append_assoc, ← List.append_assoc]; exact w
                      exact JN_96 ([v9] ++ dgs f9 ++ [s9] ++ dgs b9) (ord2 (by omega) hf9 hs9 hb9) _ _ _ (kW.perm w [0, 1, 2, 3, 4, 5, 6, 7, 8, 9, 10, 11, 12, 13, 14, 15, 16, 17, 18, 19, 20, 21, 22, 23, 24] rfl rfl) (lv_sub hl [6, 7, 8, 9, 10] rfl)
                    refine lv_iload_n hx hb dL_reads_277 rfl (lv_at hl 10 rfl) ?_
                    refine lv_bipush (v := nI 23) hx hb dL_reads_278 (by decide) ?_
                    refine lv_ishr hx hb dL_reads_280 ?_
                    refine lv_bipush (v := nI 11) hx hb dL_reads_281 (by decide) ?_
                    have lw_114 := lowN_lt (v >>> ((nI 23) &&& 31)) (n := 11) (by omega)
                    refine kcalli (wc := []) (wr := [cX x nw sn tk hs tx tr, cR nw na nb σ, xI g na 49 (zT σ), xI g nb 49 (zI σ), cH hs hq kn, xQ g hq 4 (rq ρ), cR (ρ 0) (α 0) (β 0) (γ 0), xI g (α 0) 49 (zT (γ 0)), xI g (β 0) 49 (zI (γ 0)), cR (ρ 1) (α 1) (β 1) (γ 1), xI g (α 1) 49 (zT (γ 1)), xI g (β 1) 49 (zI (γ 1)), cR (ρ 2) (α 2) (β 2) (γ 2), xI g (α 2) 49 (zT (γ 2)), xI g (β 2) 49 (zI (γ 2)), cR (ρ 3) (α 3) (β 3) (γ 3), xI g (α 3) 49 (zT (γ 3)), xI g (β 3) 49 (zI (γ 3)), cT tx ch ((cs ++ [v9] ++ dgs f9).length), xC g ch 60 (tyL T 0 (cs ++ [v9] ++ dgs f9)), cTr tr tw od os po re ca, cR tw ta tb τ, xI g ta 49 (zT τ), xI g tb 49 (zI τ), cO od vb n1 n2 nm en]) (wn := fun (u : Unit) => [cX x nw sn tk hs tx tr, cR nw na nb σ, xI g na 49 (zT σ), xI g nb 49 (zI σ), cH hs hq kn, xQ g hq 4 (rq ρ), cR (ρ 0) (α 0) (β 0) (γ 0), xI g (α 0) 49 (zT (γ 0)), xI g (β 0) 49 (zI (γ 0)), cR (ρ 1) (α 1) (β 1) (γ 1), xI g (α 1) 49 (zT (γ 1)), xI g (β 1) 49 (zI (γ 1)), cR (ρ 2) (α 2) (β 2) (γ 2), xI g (α 2) 49 (zT (γ 2)), xI g (β 2) 49 (zI (γ 2)), cR (ρ 3) (α 3) (β 3) (γ 3), xI g (α 3) 49 (zT (γ 3)), xI g (β 3) 49 (zI (γ 3)), cT tx ch ((cs ++ [v9] ++ dgs f9).length), xC g ch 60 (tyL T 0 (cs ++ [v9] ++ dgs f9)), cTr tr tw od os po re ca, cR tw ta tb τ, xI g ta 49 (zT τ), xI g tb 49 (zI τ), cO od vb n1 n2 nm en]) F w [] [0, 1, 2, 3, 4, 5, 6, 7, 8, 9, 10, 11, 12, 13, 14, 15, 16, 17, 18, 19, 20, 21, 22, 23, 24] [0, 1, 2, 3, 4, 5, 6, 7, 8, 9, 10, 11, 12, 13, 14, 15, 16, 17, 18, 19, 20, 21, 22, 23, 24] rfl rfl rfl (fun _ => rfl)
                      (fun hp => va_runS (As := [.int (v >>> ((nI 23) &&& 31)), .int (nI 11)]) (rest := [.ref x]) F.1 (kL_low l g (v >>> ((nI 23) &&& 31)) 11 H.size (by omega)) (va_cwS 2 hts gL_reads_L_low rfl rfl rfl hd_L_low ⟨Nat.le_of_ble_eq_true rfl, Nat.le_of_ble_eq_true rfl⟩) hp rfl rfl hl.1 rfl (lv_room (Nat.le_of_ble_eq_true rfl)) dL_reads_283 ⟨Nat.le_of_ble_eq_true rfl, Nat.le_of_ble_eq_true rfl⟩)
                      (fun r_115 _ H locs h_116 w => ?_)
                    subst h_116
                    refine lv_if_ne (tgt := 294) hx hb dL_reads_286 (by decide) (fun h_117 => ?_) (fun h_117 => ?_)
                    · have h_117 : lowN (v >>> ((nI 23) &&& 31)) 11 ≠ 0 := (kc0_ne_t (by omega)).mp h_117
                      refine lv_bipush (v := nI 44) hx hb dL_reads_294 (by decide) ?_
                      exact JN_107 44 (by omega) _ _ _ (kW.perm w [0, 1, 2, 3, 4, 5, 6, 7, 8, 9, 10, 11, 12, 13, 14, 15, 16, 17, 18, 19, 20, 21, 22, 23, 24] rfl rfl) (lv_sub hl [0, 1, 2, 3, 4, 5, 6, 7, 8, 9, 10] rfl)
                    · have h_117 : lowN (v >>> ((nI 23) &&& 31)) 11 = 0 := (kc0_ne_f (by omega)).mp h_117
                      refine lv_bipush (v := nI 46) hx hb dL_reads_289 (by decide) ?_
                      refine lv_goto (tgt := 296) hx hb dL_reads_291 (by decide) ?_
                      exact JN_107 46 (by omega) _ _ _ (kW.perm w [0, 1, 2, 3, 4, 5, 6, 7, 8, 9, 10, 11, 12, 13, 14, 15, 16, 17, 18, 19, 20, 21, 22, 23, 24] rfl rfl) (lv_sub hl [0, 1, 2, 3, 4, 5, 6, 7, 8, 9, 10] rfl)
                refine lv_iload hx hb dL_reads_210 (lv_at hl 2 rfl) ?_
                refine lv_if_ne (tgt := 220) hx hb dL_reads_212 (by decide) (fun h_118 => ?_) (fun h_118 => ?_)
                · have h_118 : a9 ≠ 0 := (kc0_ne_t (by omega)).mp h_118
                  refine lv_iload hx hb dL_reads_220 (lv_at hl 2 rfl) ?_
                  refine lv_iconst (v := nI 1) hx hb dL_reads_222 (by decide) ?_
                  refine lv_icmp_ne (tgt := 231) hx hb dL_reads_223 (by decide) (fun h_119 => ?_) (fun h_119 => ?_)
                  · have h_119 : a9 ≠ 1 := (kc_ne_t (by omega) (by omega)).mp h_119
                    refine lv_iload hx hb dL_reads_231 (lv_at hl 2 rfl) ?_
                    refine lv_iconst (v := nI 2) hx hb dL_reads_233 (by decide) ?_
                    refine lv_icmp_ne (tgt := 242) hx hb dL_reads_234 (by decide) (fun h_120 => ?_) (fun h_120 => ?_)
                    · have h_120 : a9 ≠ 2 := (kc_ne_t (by omega) (by omega)).mp h_120
                      refine lv_iload hx hb dL_reads_242 (lv_at hl 2 rfl) ?_
                      refine lv_iconst (v := nI 3) hx hb dL_reads_244 (by decide) ?_
                      refine lv_icmp_ne (tgt := 253) hx hb dL_reads_245 (by decide) (fun h_121 => ?_) (fun h_121 => ?_)
                      · have h_121 : a9 ≠ 3 := (kc_ne_t (by omega) (by omega)).mp h_121
                        refine lv_bipush (v := nI 116) hx hb dL_reads_253 (by decide) ?_
                        exact JN_89 116 (by omega) _ _ _ (kW.perm w [0, 1, 2, 3, 4, 5, 6, 7, 8, 9, 10, 11, 12, 13, 14, 15, 16, 17, 18, 19, 20, 21, 22, 23, 24] rfl rfl) (lv_sub hl [0, 1, 2, 3, 4, 5, 6, 7, 8, 9, 10] rfl)
                      · have h_121 : a9 = 3 := (kc_ne_f (by omega) (by omega)).mp h_121
                        refine lv_bipush (v := nI 114) hx hb dL_reads_248 (by decide) ?_
                        refine lv_goto (tgt := 255) hx hb dL_reads_250 (by decide) ?_
                        exact JN_89 114 (by omega) _ _ _ (kW.perm w [0, 1, 2, 3, 4, 5, 6, 7, 8, 9, 10, 11, 12, 13, 14, 15, 16, 17, 18, 19, 20, 21, 22, 23, 24] rfl rfl) (lv_sub hl [0, 1, 2, 3, 4, 5, 6, 7, 8, 9, 10] rfl)
                    · have h_120 : a9 = 2 := (kc_ne_f (by omega) (by omega)).mp h_120
                      refine lv_bipush (v := nI 108) hx hb dL_reads_237 (by decide) ?_
                      refine lv_goto (tgt := 255) hx hb dL_reads_239 (by decide) ?_
                      exact JN_89 108 (by omega) _ _ _ (kW.perm w [0, 1, 2, 3, 4, 5, 6, 7, 8, 9, 10, 11, 12, 13, 14, 15, 16, 17, 18, 19, 20, 21, 22, 23, 24] rfl rfl) (lv_sub hl [0, 1, 2, 3, 4, 5, 6, 7, 8, 9, 10] rfl)
                  · have h_119 : a9 = 1 := (kc_ne_f (by omega) (by omega)).mp h_119
                    refine lv_bipush (v := nI 100) hx hb dL_reads_226 (by decide) ?_
                    refine lv_goto (tgt := 255) hx hb dL_reads_228 (by decide) ?_
                    exact JN_89 100 (by omega) _ _ _ (kW.perm w [0, 1, 2, 3, 4, 5, 6, 7, 8, 9, 10, 11, 12, 13, 14, 15, 16, 17, 18, 19, 20, 21, 22, 23, 24] rfl rfl) (lv_sub hl [0, 1, 2, 3, 4, 5, 6, 7, 8, 9, 10] rfl)
                · have h_118 : a9 = 0 := (kc0_ne_f (by omega)).mp h_118
                  refine lv_bipush (v := nI 112) hx hb dL_reads_215 (by decide) ?_
                  refine lv_goto (tgt := 255) hx hb dL_reads_217 (by decide) ?_
                  exact JN_89 112 (by omega) _ _ _ (kW.perm w [0, 1, 2, 3, 4, 5, 6, 7, 8, 9, 10, 11, 12, 13, 14, 15, 16, 17, 18, 19, 20, 21, 22, 23, 24] rfl rfl) (lv_sub hl [0, 1, 2, 3, 4, 5, 6, 7, 8, 9, 10] rfl)
              refine lv_iload hx hb dL_reads_149 (lv_at hl 1 rfl) ?_
              refine lv_iconst (v := nI 3) hx hb dL_reads_151 (by decide) ?_
              refine lv_icmp_ne (tgt := 190) hx hb dL_reads_152 (by decide) (fun h_122 => ?_) (fun h_122 => ?_)
              · have h_122 : a9 ≠ 3 := (kc_ne_t (by omega) (by omega)).mp h_122
                refine lv_iload hx hb dL_reads_190 (lv_at hl 4 rfl) ?_
                refine lv_iconst (v := nI 4) hx hb dL_reads_192 (by decide) ?_
                refine lv_ishr hx hb dL_reads_193 ?_
                refine lv_iload hx hb dL_reads_194 (lv_at hl 2 rfl) ?_
                refine lv_if_eq (tgt := 203) hx hb dL_reads_196 (by decide) (fun h_123 => ?_) (fun h_123 => ?_)
                · have h_123 : o9 = false := bI_z.mp h_123
                  refine lv_iconst (v := nI 2) hx hb dL_reads_203 (by decide) ?_
                  have hlw := lowN_lt (y9 >>> ((nI 4) &&& 31)) (n := 2) (by decide)
                  refine kcalli (wc := []) (wr := [cX x nw sn tk hs tx tr, cR nw na nb σ, xI g na 49 (zT σ), xI g nb 49 (zI σ), cH hs hq kn, xQ g hq 4 (rq ρ), cR (ρ 0) (α 0) (β 0) (γ 0), xI g (α 0) 49 (zT (γ 0)), xI g (β 0) 49 (zI (γ 0)), cR (ρ 1) (α 1) (β 1) (γ 1), xI g (α 1) 49 (zT (γ 1)), xI g (β 1) 49 (zI (γ 1)), cR (ρ 2) (α 2) (β 2) (γ 2), xI g (α 2) 49 (zT (γ 2)), xI g (β 2) 49 (zI (γ 2)), cR (ρ 3) (α 3) (β 3) (γ 3), xI g (α 3) 49 (zT (γ 3)), xI g (β 3) 49 (zI (γ 3)), cT tx ch cs.length, xC g ch 60 (tyL T 0 cs), cTr tr tw od os po re ca, cR tw ta tb τ, xI g ta 49 (zT τ), xI g tb 49 (zI τ), cO od vb n1 n2 nm en]) (wn := fun (u : Unit) => [cX x nw sn tk hs tx tr, cR nw na nb σ, xI g na 49 (zT σ), xI g nb 49 (zI σ), cH hs hq kn, xQ g hq 4 (rq ρ), cR (ρ 0) (α 0) (β 0) (γ 0), xI g (α 0) 49 (zT (γ 0)), xI g (β 0) 49 (zI (γ 0)), cR (ρ 1) (α 1) (β 1) (γ 1), xI g (α 1) 49 (zT (γ 1)), xI g (β 1) 49 (zI (γ 1)), cR (ρ 2) (α 2) (β 2) (γ 2), xI g (α 2) 49 (zT (γ 2)), xI g (β 2) 49 (zI (γ 2)), cR (ρ 3) (α 3) (β 3) (γ 3), xI g (α 3) 49 (zT (γ 3)), xI g (β 3) 49 (zI (γ 3)), cT tx ch cs.length, xC g ch 60 (tyL T 0 cs), cTr tr tw od os po re ca, cR tw ta tb τ, xI g ta 49 (zT τ), xI g tb 49 (zI τ), cO od vb n1 n2 nm en]) F w [] [0, 1, 2, 3, 4, 5, 6, 7, 8, 9, 10, 11, 12, 13, 14, 15, 16, 17, 18, 19, 20, 21, 22, 23, 24] [0, 1, 2, 3, 4, 5, 6, 7, 8, 9, 10, 11, 12, 13, 14, 15, 16, 17, 18, 19, 20, 21, 22, 23, 24] rfl rfl rfl (fun _ => rfl)
                    (fun hp => va_runS (As := [.int (y9 >>> ((nI 4) &&& 31)), .int (nI 2)]) (rest := []) F.1 (kL_low l g (y9 >>> ((nI 4) &&& 31)) 2 H.size (by omega)) (va_cwS 2 hts gL_reads_L_low rfl rfl rfl hd_L_low ⟨Nat.le_of_ble_eq_true rfl, Nat.le_of_ble_eq_true rfl⟩) hp rfl rfl hl.1 rfl (lv_room (Nat.le_of_ble_eq_true rfl)) dL_reads_204 ⟨Nat.le_of_ble_eq_true rfl, Nat.le_of_ble_eq_true rfl⟩)
                    (fun r_124 _ H locs h_125 w => ?_)
                  subst h_125
                  exact JN_88 (lowN (y9 >>> ((nI 4) &&& 31)) 2) (by omega) _ _ _ (kW.perm w [0, 1, 2, 3, 4, 5, 6, 7, 8, 9, 10, 11, 12, 13, 14, 15, 16, 17, 18, 19, 20, 21, 22, 23, 24] rfl rfl) (lv_sub hl [0, 1, 2, 3, 4, 5, 6, 7, 8, 9] rfl)
                · have h_123 : o9 = true := bI_o.mp h_123
                  refine lv_iconst (v := nI 3) hx hb dL_reads_199 (by decide) ?_
                  refine lv_goto (tgt := 204) hx hb dL_reads_200 (by decide) ?_
                  have hlw := lowN_lt (y9 >>> ((nI 4) &&& 31)) (n := 3) (by decide)
                  refine kcalli (wc := []) (wr := [cX x nw sn tk hs tx tr, cR nw na nb σ, xI g na 49 (zT σ), xI g nb 49 (zI σ), cH hs hq kn, xQ g hq 4 (rq ρ), cR (ρ 0) (α 0) (β 0) (γ 0), xI g (α 0) 49 (zT (γ 0)), xI g (β 0) 49 (zI (γ 0)), cR (ρ 1) (α 1) (β 1) (γ 1), xI g (α 1) 49 (zT (γ 1)), xI g (β 1) 49 (zI (γ 1)), cR (ρ 2) (α 2) (β 2) (γ 2), xI g (α 2) 49 (zT (γ 2)), xI g (β 2) 49 (zI (γ 2)), cR (ρ 3) (α 3) (β 3) (γ 3), xI g (α 3) 49 (zT (γ 3)), xI g (β 3) 49 (zI (γ 3)), cT tx ch cs.length, xC g ch 60 (tyL T 0 cs), cTr tr tw od os po re ca, cR tw ta tb τ, xI g ta 49 (zT τ), xI g tb 49 (zI τ), cO od vb n1 n2 nm en]) (wn := fun (u : Unit) => [cX x nw sn tk hs tx tr, cR nw na nb σ, xI g na 49 (zT σ), xI g nb 49 (zI σ), cH hs hq kn, xQ g hq 4 (rq ρ), cR (ρ 0) (α 0) (β 0) (γ 0), xI g (α 0) 49 (zT (γ 0)), xI g (β 0) 49 (zI (γ 0)), cR (ρ 1) (α 1) (β 1) (γ 1), xI g (α 1) 49 (zT (γ 1)), xI g (β 1) 49 (zI (γ 1)), cR (ρ 2) (α 2) (β 2) (γ 2), xI g (α 2) 49 (zT (γ 2)), xI g (β 2) 49 (zI (γ 2)), cR (ρ 3) (α 3) (β 3) (γ 3), xI g (α 3) 49 (zT (γ 3)), xI g (β 3) 49 (zI (γ 3)), cT tx ch cs.length, xC g ch 60 (tyL T 0 cs), cTr tr tw od os po re ca, cR tw ta tb τ, xI g ta 49 (zT τ), xI g tb 49 (zI τ), cO od vb n1 n2 nm en]) F w [] [0, 1, 2, 3, 4, 5, 6, 7, 8, 9, 10, 11, 12, 13, 14, 15, 16, 17, 18, 19, 20, 21, 22, 23, 24] [0, 1, 2, 3, 4, 5, 6, 7, 8, 9, 10, 11, 12, 13, 14, 15, 16, 17, 18, 19, 20, 21, 22, 23, 24] rfl rfl rfl (fun _ => rfl)
                    (fun hp => va_runS (As := [.int (y9 >>> ((nI 4) &&& 31)), .int (nI 3)]) (rest := []) F.1 (kL_low l g (y9 >>> ((nI 4) &&& 31)) 3 H.size (by omega)) (va_cwS 2 hts gL_reads_L_low rfl rfl rfl hd_L_low ⟨Nat.le_of_ble_eq_true rfl, Nat.le_of_ble_eq_true rfl⟩) hp rfl rfl hl.1 rfl (lv_room (Nat.le_of_ble_eq_true rfl)) dL_reads_204 ⟨Nat.le_of_ble_eq_true rfl, Nat.le_of_ble_eq_true rfl⟩)
                    (fun r_126 _ H locs h_127 w => ?_)
                  subst h_127
                  exact JN_88 (lowN (y9 >>> ((nI 4) &&& 31)) 3) (by omega) _ _ _ (kW.perm w [0, 1, 2, 3, 4, 5, 6, 7, 8, 9, 10, 11, 12, 13, 14, 15, 16, 17, 18, 19, 20, 21, 22, 23, 24] rfl rfl) (lv_sub hl [0, 1, 2, 3, 4, 5, 6, 7, 8, 9] rfl)
              · have h_122 : a9 = 3 := (kc_ne_f (by omega) (by omega)).mp h_122
                refine lv_iload hx hb dL_reads_155 (lv_at hl 2 rfl) ?_
                refine lv_if_eq (tgt := 172) hx hb dL_reads_157 (by decide) (fun h_128 => ?_) (fun h_128 => ?_)
                · have h_128 : o9 = false := bI_z.mp h_128
                  obtain ⟨hf1, hf2⟩ := hfo h_128
                  refine lv_iload hx hb dL_reads_172 (lv_at hl 0 rfl) ?_
                  refine lv_iload hx hb dL_reads_174 (lv_at hl 4 rfl) ?_
                  refine lv_iconst (v := nI 4) hx hb dL_reads_176 (by decide) ?_
                  refine lv_ishr hx hb dL_reads_177 ?_
                  refine lv_bipush (v := nI 49) hx hb dL_reads_178 (by decide) ?_
                  refine lv_iload hx hb dL_reads_180 (lv_at hl 0 rfl) ?_
                  refine lv_isub hx hb dL_reads_182 ?_
                  refine ktopi (y := nI (49 - f9)) (pk_sub (by omega)) ?_
                  have hlw := lowN_lt (y9 >>> ((nI 4) &&& 31)) (n := (49 - f9)) (by omega)
                  refine kcalli (wc := []) (wr := [cX x nw sn tk hs tx tr, cR nw na nb σ, xI g na 49 (zT σ), xI g nb 49 (zI σ), cH hs hq kn, xQ g hq 4 (rq ρ), cR (ρ 0) (α 0) (β 0) (γ 0), xI g (α 0) 49 (zT (γ 0)), xI g (β 0) 49 (zI (γ 0)), cR (ρ 1) (α 1) (β 1) (γ 1), xI g (α 1) 49 (zT (γ 1)), xI g (β 1) 49 (zI (γ 1)), cR (ρ 2) (α 2) (β 2) (γ 2), xI g (α 2) 49 (zT (γ 2)), xI g (β 2) 49 (zI (γ 2)), cR (ρ 3) (α 3) (β 3) (γ 3), xI g (α 3) 49 (zT (γ 3)), xI g (β 3) 49 (zI (γ 3)), cT tx ch cs.length, xC g ch 60 (tyL T 0 cs), cTr tr tw od os po re ca, cR tw ta tb τ, xI g ta 49 (zT τ), xI g tb 49 (zI τ), cO od vb n1 n2 nm en]) (wn := fun (u : Unit) => [cX x nw sn tk hs tx tr, cR nw na nb σ, xI g na 49 (zT σ), xI g nb 49 (zI σ), cH hs hq kn, xQ g hq 4 (rq ρ), cR (ρ 0) (α 0) (β 0) (γ 0), xI g (α 0) 49 (zT (γ 0)), xI g (β 0) 49 (zI (γ 0)), cR (ρ 1) (α 1) (β 1) (γ 1), xI g (α 1) 49 (zT (γ 1)), xI g (β 1) 49 (zI (γ 1)), cR (ρ 2) (α 2) (β 2) (γ 2), xI g (α 2) 49 (zT (γ 2)), xI g (β 2) 49 (zI (γ 2)), cR (ρ 3) (α 3) (β 3) (γ 3), xI g (α 3) 49 (zT (γ 3)), xI g (β 3) 49 (zI (γ 3)), cT tx ch cs.length, xC g ch 60 (tyL T 0 cs), cTr tr tw od os po re ca, cR tw ta tb τ, xI g ta 49 (zT τ), xI g tb 49 (zI τ), cO od vb n1 n2 nm en]) F w [] [0, 1, 2, 3, 4, 5, 6, 7, 8, 9, 10, 11, 12, 13, 14, 15, 16, 17, 18, 19, 20, 21, 22, 23, 24] [0, 1, 2, 3, 4, 5, 6, 7, 8, 9, 10, 11, 12, 13, 14, 15, 16, 17, 18, 19, 20, 21, 22, 23, 24] rfl rfl rfl (fun _ => rfl)
                    (fun hp => va_runS (As := [.int (y9 >>> ((nI 4) &&& 31)), .int (nI (49 - f9))]) (rest := [.int (nI f9)]) F.1 (kL_low l g (y9 >>> ((nI 4) &&& 31)) (49 - f9) H.size (by omega)) (va_cwS 2 hts gL_reads_L_low rfl rfl rfl hd_L_low ⟨Nat.le_of_ble_eq_true rfl, Nat.le_of_ble_eq_true rfl⟩) hp rfl rfl hl.1 rfl (lv_room (Nat.le_of_ble_eq_true rfl)) dL_reads_183 ⟨Nat.le_of_ble_eq_true rfl, Nat.le_of_ble_eq_true rfl⟩)
                    (fun r_129 _ H locs h_130 w => ?_)
                  subst h_130
                  refine lv_iadd hx hb dL_reads_186 ?_
                  refine ktopi (y := nI (f9 + lowN (y9 >>> ((nI 4) &&& 31)) (49 - f9))) (nI_add f9 (lowN (y9 >>> ((nI 4) &&& 31)) (49 - f9))) ?_
                  refine lv_goto (tgt := 207) hx hb dL_reads_187 (by decide) ?_
                  exact JN_88 (f9 + lowN (y9 >>> ((nI 4) &&& 31)) (49 - f9)) (by omega) _ _ _ (kW.perm w [0, 1, 2, 3, 4, 5, 6, 7, 8, 9, 10, 11, 12, 13, 14, 15, 16, 17, 18, 19, 20, 21, 22, 23, 24] rfl rfl) (lv_sub hl [0, 1, 2, 3, 4, 5, 6, 7, 8, 9] rfl)
                · have h_128 : o9 = true := bI_o.mp h_128
                  refine lv_iload hx hb dL_reads_160 (lv_at hl 4 rfl) ?_
                  refine lv_iconst (v := nI 4) hx hb dL_reads_162 (by decide) ?_
                  refine lv_ishr hx hb dL_reads_163 ?_
                  refine lv_bipush (v := nI 51) hx hb dL_reads_164 (by decide) ?_
                  have hlw := lowN_lt (y9 >>> ((nI 4) &&& 31)) (n := 51) (by omega)
                  refine kcalli (wc := []) (wr := [cX x nw sn tk hs tx tr, cR nw na nb σ, xI g na 49 (zT σ), xI g nb 49 (zI σ), cH hs hq kn, xQ g hq 4 (rq ρ), cR (ρ 0) (α 0) (β 0) (γ 0), xI g (α 0) 49 (zT (γ 0)), xI g (β 0) 49 (zI (γ 0)), cR (ρ 1) (α 1) (β 1) (γ 1), xI g (α 1) 49 (zT (γ 1)), xI g (β 1) 49 (zI (γ 1)), cR (ρ 2) (α 2) (β 2) (γ 2), xI g (α 2) 49 (zT (γ 2)), xI g (β 2) 49 (zI (γ 2)), cR (ρ 3) (α 3) (β 3) (γ 3), xI g (α 3) 49 (zT (γ 3)), xI g (β 3) 49 (zI (γ 3)), cT tx ch cs.length, xC g ch 60 (tyL T 0 cs), cTr tr tw od os po re ca, cR tw ta tb τ, xI g ta 49 (zT τ), xI g tb 49 (zI τ), cO od vb n1 n2 nm en]) (wn := fun (u : Unit) => [cX x nw sn tk hs tx tr, cR nw na nb σ, xI g na 49 (zT σ), xI g nb 49 (zI σ), cH hs hq kn, xQ g hq 4 (rq ρ), cR (ρ 0) (α 0) (β 0) (γ 0), xI g (α 0) 49 (zT (γ 0)), xI g (β 0) 49 (zI (γ 0)), cR (ρ 1) (α 1) (β 1) (γ 1), xI g (α 1) 49 (zT (γ 1)), xI g (β 1) 49 (zI (γ 1)), cR (ρ 2) (α 2) (β 2) (γ 2), xI g (α 2) 49 (zT (γ 2)), xI g (β 2) 49 (zI (γ 2)), cR (ρ 3) (α 3) (β 3) (γ 3), xI g (α 3) 49 (zT (γ 3)), xI g (β 3) 49 (zI (γ 3)), cT tx ch cs.length, xC g ch 60 (tyL T 0 cs), cTr tr tw od os po re ca, cR tw ta tb τ, xI g ta 49 (zT τ), xI g tb 49 (zI τ), cO od vb n1 n2 nm en]) F w [] [0, 1, 2, 3, 4, 5, 6, 7, 8, 9, 10, 11, 12, 13, 14, 15, 16, 17, 18, 19, 20, 21, 22, 23, 24] [0, 1, 2, 3, 4, 5, 6, 7, 8, 9, 10, 11, 12, 13, 14, 15, 16, 17, 18, 19, 20, 21, 22, 23, 24] rfl rfl rfl (fun _ => rfl)
                    (fun hp => va_runS (As := [.int (y9 >>> ((nI 4) &&& 31)), .int (nI 51)]) (rest := []) F.1 (kL_low l g (y9 >>> ((nI 4) &&& 31)) 51 H.size (by omega)) (va_cwS 2 hts gL_reads_L_low rfl rfl rfl hd_L_low ⟨Nat.le_of_ble_eq_true rfl, Nat.le_of_ble_eq_true rfl⟩) hp rfl rfl hl.1 rfl (lv_room (Nat.le_of_ble_eq_true rfl)) dL_reads_166 ⟨Nat.le_of_ble_eq_true rfl, Nat.le_of_ble_eq_true rfl⟩)
                    (fun r_131 _ H locs h_132 w => ?_)
                  subst h_132
                  refine lv_goto (tgt := 207) hx hb dL_reads_169 (by decide) ?_
                  exact JN_88 (lowN (y9 >>> ((nI 4) &&& 31)) 51) (by omega) _ _ _ (kW.perm w [0, 1, 2, 3, 4, 5, 6, 7, 8, 9, 10, 11, 12, 13, 14, 15, 16, 17, 18, 19, 20, 21, 22, 23, 24] rfl rfl) (lv_sub hl [0, 1, 2, 3, 4, 5, 6, 7, 8, 9] rfl)
            refine lv_iload hx hb dL_reads_117 (lv_at hl 3 rfl) ?_
            refine lv_iconst (v := nI 2) hx hb dL_reads_119 (by decide) ?_
            refine lv_ishr hx hb dL_reads_120 ?_
            refine lv_iload hx hb dL_reads_121 (lv_at hl 1 rfl) ?_
            refine lv_if_eq (tgt := 131) hx hb dL_reads_123 (by decide) (fun h_133 => ?_) (fun h_133 => ?_)
            · have h_133 : o9 = false := bI_z.mp h_133
              refine lv_bipush (v := nI 48) hx hb dL_reads_131 (by decide) ?_
              have hlw := lowN_lt (y9 >>> ((nI 2) &&& 31)) (n := 48) (by decide)
              refine kcalli (wc := []) (wr := [cX x nw sn tk hs tx tr, cR nw na nb σ, xI g na 49 (zT σ), xI g nb 49 (zI σ), cH hs hq kn, xQ g hq 4 (rq ρ), cR (ρ 0) (α 0) (β 0) (γ 0), xI g (α 0) 49 (zT (γ 0)), xI g (β 0) 49 (zI (γ 0)), cR (ρ 1) (α 1) (β 1) (γ 1), xI g (α 1) 49 (zT (γ 1)), xI g (β 1) 49 (zI (γ 1)), cR (ρ 2) (α 2) (β 2) (γ 2), xI g (α 2) 49 (zT (γ 2)), xI g (β 2) 49 (zI (γ 2)), cR (ρ 3) (α 3) (β 3) (γ 3), xI g (α 3) 49 (zT (γ 3)), xI g (β 3) 49 (zI (γ 3)), cT tx ch cs.length, xC g ch 60 (tyL T 0 cs), cTr tr tw od os po re ca, cR tw ta tb τ, xI g ta 49 (zT τ), xI g tb 49 (zI τ), cO od vb n1 n2 nm en]) (wn := fun (u : Unit) => [cX x nw sn tk hs tx tr, cR nw na nb σ, xI g na 49 (zT σ), xI g nb 49 (zI σ), cH hs hq kn, xQ g hq 4 (rq ρ), cR (ρ 0) (α 0) (β 0) (γ 0), xI g (α 0) 49 (zT (γ 0)), xI g (β 0) 49 (zI (γ 0)), cR (ρ 1) (α 1) (β 1) (γ 1), xI g (α 1) 49 (zT (γ 1)), xI g (β 1) 49 (zI (γ 1)), cR (ρ 2) (α 2) (β 2) (γ 2), xI g (α 2) 49 (zT (γ 2)), xI g (β 2) 49 (zI (γ 2)), cR (ρ 3) (α 3) (β 3) (γ 3), xI g (α 3) 49 (zT (γ 3)), xI g (β 3) 49 (zI (γ 3)), cT tx ch cs.length, xC g ch 60 (tyL T 0 cs), cTr tr tw od os po re ca, cR tw ta tb τ, xI g ta 49 (zT τ), xI g tb 49 (zI τ), cO od vb n1 n2 nm en]) F w [] [0, 1, 2, 3, 4, 5, 6, 7, 8, 9, 10, 11, 12, 13, 14, 15, 16, 17, 18, 19, 20, 21, 22, 23, 24] [0, 1, 2, 3, 4, 5, 6, 7, 8, 9, 10, 11, 12, 13, 14, 15, 16, 17, 18, 19, 20, 21, 22, 23, 24] rfl rfl rfl (fun _ => rfl)
                (fun hp => va_runS (As := [.int (y9 >>> ((nI 2) &&& 31)), .int (nI 48)]) (rest := []) F.1 (kL_low l g (y9 >>> ((nI 2) &&& 31)) 48 H.size (by omega)) (va_cwS 2 hts gL_reads_L_low rfl rfl rfl hd_L_low ⟨Nat.le_of_ble_eq_true rfl, Nat.le_of_ble_eq_true rfl⟩) hp rfl rfl hl.1 rfl (lv_room (Nat.le_of_ble_eq_true rfl)) dL_reads_133 ⟨Nat.le_of_ble_eq_true rfl, Nat.le_of_ble_eq_true rfl⟩)
                (fun r_134 _ H locs h_135 w => ?_)
              subst h_135
              refine lv_iload hx hb dL_reads_136 (lv_at hl 1 rfl) ?_
              refine lv_if_eq (tgt := 145) hx hb dL_reads_138 (by decide) (fun h_136 => ?_) (fun h_136 => ?_)
              rotate_left 1
              · rw [h_133] at h_136; exact absurd rfl h_136
              refine lv_iconst (v := nI 1) hx hb dL_reads_145 (by decide) ?_
              refine lv_iadd hx hb dL_reads_146 ?_
              refine ktopi (y := nI (lowN (y9 >>> ((nI 2) &&& 31)) 48 + 1)) (nI_add (lowN (y9 >>> ((nI 2) &&& 31)) 48) 1) ?_
              exact JN_87 (lowN (y9 >>> ((nI 2) &&& 31)) 48 + 1) (by omega) (fun _ => by omega) _ _ _ (kW.perm w [0, 1, 2, 3, 4, 5, 6, 7, 8, 9, 10, 11, 12, 13, 14, 15, 16, 17, 18, 19, 20, 21, 22, 23, 24] rfl rfl) (lv_sub hl [0, 1, 2, 3, 4, 5, 6, 7, 8] rfl)
            · have h_133 : o9 = true := bI_o.mp h_133
              refine lv_bipush (v := nI 51) hx hb dL_reads_126 (by decide) ?_
              refine lv_goto (tgt := 133) hx hb dL_reads_128 (by decide) ?_
              have hlw := lowN_lt (y9 >>> ((nI 2) &&& 31)) (n := 51) (by decide)
              refine kcalli (wc := []) (wr := [cX x nw sn tk hs tx tr, cR nw na nb σ, xI g na 49 (zT σ), xI g nb 49 (zI σ), cH hs hq kn, xQ g hq 4 (rq ρ), cR (ρ 0) (α 0) (β 0) (γ 0), xI g (α 0) 49 (zT (γ 0)), xI g (β 0) 49 (zI (γ 0)), cR (ρ 1) (α 1) (β 1) (γ 1), xI g (α 1) 49 (zT (γ 1)), xI g (β 1) 49 (zI (γ 1)), cR (ρ 2) (α 2) (β 2) (γ 2), xI g (α 2) 49 (zT (γ 2)), xI g (β 2) 49 (zI (γ 2)), cR (ρ 3) (α 3) (β 3) (γ 3), xI g (α 3) 49 (zT (γ 3)), xI g (β 3) 49 (zI (γ 3)), cT tx ch cs.length, xC g ch 60 (tyL T 0 cs), cTr tr tw od os po re ca, cR tw ta tb τ, xI g ta 49 (zT τ), xI g tb 49 (zI τ), cO od vb n1 n2 nm en]) (wn := fun (u : Unit) => [cX x nw sn tk hs tx tr, cR nw na nb σ, xI g na 49 (zT σ), xI g nb 49 (zI σ), cH hs hq kn, xQ g hq 4 (rq ρ), cR (ρ 0) (α 0) (β 0) (γ 0), xI g (α 0) 49 (zT (γ 0)), xI g (β 0) 49 (zI (γ 0)), cR (ρ 1) (α 1) (β 1) (γ 1), xI g (α 1) 49 (zT (γ 1)), xI g (β 1) 49 (zI (γ 1)), cR (ρ 2) (α 2) (β 2) (γ 2), xI g (α 2) 49 (zT (γ 2)), xI g (β 2) 49 (zI (γ 2)), cR (ρ 3) (α 3) (β 3) (γ 3), xI g (α 3) 49 (zT (γ 3)), xI g (β 3) 49 (zI (γ 3)), cT tx ch cs.length, xC g ch 60 (tyL T 0 cs), cTr tr tw od os po re ca, cR tw ta tb τ, xI g ta 49 (zT τ), xI g tb 49 (zI τ), cO od vb n1 n2 nm en]) F w [] [0, 1, 2, 3, 4, 5, 6, 7, 8, 9, 10, 11, 12, 13, 14, 15, 16, 17, 18, 19, 20, 21, 22, 23, 24] [0, 1, 2, 3, 4, 5, 6, 7, 8, 9, 10, 11, 12, 13, 14, 15, 16, 17, 18, 19, 20, 21, 22, 23, 24] rfl rfl rfl (fun _ => rfl)
                (fun hp => va_runS (As := [.int (y9 >>> ((nI 2) &&& 31)), .int (nI 51)]) (rest := []) F.1 (kL_low l g (y9 >>> ((nI 2) &&& 31)) 51 H.size (by omega)) (va_cwS 2 hts gL_reads_L_low rfl rfl rfl hd_L_low ⟨Nat.le_of_ble_eq_true rfl, Nat.le_of_ble_eq_true rfl⟩) hp rfl rfl hl.1 rfl (lv_room (Nat.le_of_ble_eq_true rfl)) dL_reads_133 ⟨Nat.le_of_ble_eq_true rfl, Nat.le_of_ble_eq_true rfl⟩)
                (fun r_137 _ H locs h_138 w => ?_)
              subst h_138
              refine lv_iload hx hb dL_reads_136 (lv_at hl 1 rfl) ?_
              refine lv_if_eq (tgt := 145) hx hb dL_reads_138 (by decide) (fun h_139 => ?_) (fun h_139 => ?_)
              · rw [h_133] at h_139; exact absurd h_139 (by decide)
              refine lv_iconst (v := nI 0) hx hb dL_reads_141 (by decide) ?_
              refine lv_goto (tgt := 146) hx hb dL_reads_142 (by decide) ?_
              refine lv_iadd hx hb dL_reads_146 ?_
              refine ktopi (y := nI (lowN (y9 >>> ((nI 2) &&& 31)) 51 + 0)) (nI_add (lowN (y9 >>> ((nI 2) &&& 31)) 51) 0) ?_
              exact JN_87 (lowN (y9 >>> ((nI 2) &&& 31)) 51 + 0) (by omega) (fun hc => by rw [h_133] at hc; cases hc) _ _ _ (kW.perm w [0, 1, 2, 3, 4, 5, 6, 7, 8, 9, 10, 11, 12, 13, 14, 15, 16, 17, 18, 19, 20, 21, 22, 23, 24] rfl rfl) (lv_sub hl [0, 1, 2, 3, 4, 5, 6, 7, 8] rfl)
          refine lv_iload hx hb dL_reads_71 (lv_at hl 1 rfl) ?_
          refine lv_iconst (v := nI 4) hx hb dL_reads_73 (by decide) ?_
          refine lv_icmp_ge (tgt := 81) hx hb dL_reads_74 (by decide) (fun h_140 => ?_) (fun h_140 => ?_)
          · have h_140 : lowN y9 16 ≥ 4 := (kc_ge_t (by omega) (by omega)).mp h_140
            refine lv_iload hx hb dL_reads_81 (lv_at hl 1 rfl) ?_
            refine lv_bipush (v := nI 8) hx hb dL_reads_83 (by decide) ?_
            refine lv_icmp_ge (tgt := 92) hx hb dL_reads_85 (by decide) (fun h_141 => ?_) (fun h_141 => ?_)
            · have h_141 : lowN y9 16 ≥ 8 := (kc_ge_t (by omega) (by omega)).mp h_141
              refine lv_iload hx hb dL_reads_92 (lv_at hl 1 rfl) ?_
              refine lv_bipush (v := nI 10) hx hb dL_reads_94 (by decide) ?_
              refine lv_icmp_ge (tgt := 103) hx hb dL_reads_96 (by decide) (fun h_142 => ?_) (fun h_142 => ?_)
              · have h_142 : lowN y9 16 ≥ 10 := (kc_ge_t (by omega) (by omega)).mp h_142
                refine lv_iload hx hb dL_reads_103 (lv_at hl 1 rfl) ?_
                refine lv_bipush (v := nI 12) hx hb dL_reads_105 (by decide) ?_
                refine lv_icmp_ge (tgt := 114) hx hb dL_reads_107 (by decide) (fun h_143 => ?_) (fun h_143 => ?_)
                · have h_143 : lowN y9 16 ≥ 12 := (kc_ge_t (by omega) (by omega)).mp h_143
                  refine lv_iconst (v := nI 4) hx hb dL_reads_114 (by decide) ?_
                  exact JN_86 4 (by omega) _ _ _ (kW.perm w [0, 1, 2, 3, 4, 5, 6, 7, 8, 9, 10, 11, 12, 13, 14, 15, 16, 17, 18, 19, 20, 21, 22, 23, 24] rfl rfl) (lv_sub hl [0, 1, 2, 3, 4, 5, 6, 7] rfl)
                · have h_143 : lowN y9 16 < 12 := (kc_ge_f (by omega) (by omega)).mp h_143
                  refine lv_iconst (v := nI 3) hx hb dL_reads_110 (by decide) ?_
                  refine lv_goto (tgt := 115) hx hb dL_reads_111 (by decide) ?_
                  exact JN_86 3 (by omega) _ _ _ (kW.perm w [0, 1, 2, 3, 4, 5, 6, 7, 8, 9, 10, 11, 12, 13, 14, 15, 16, 17, 18, 19, 20, 21, 22, 23, 24] rfl rfl) (lv_sub hl [0, 1, 2, 3, 4, 5, 6, 7] rfl)
              · have h_142 : lowN y9 16 < 10 := (kc_ge_f (by omega) (by omega)).mp h_142
                refine lv_iconst (v := nI 2) hx hb dL_reads_99 (by decide) ?_
                refine lv_goto (tgt := 115) hx hb dL_reads_100 (by decide) ?_
                exact JN_86 2 (by omega) _ _ _ (kW.perm w [0, 1, 2, 3, 4, 5, 6, 7, 8, 9, 10, 11, 12, 13, 14, 15, 16, 17, 18, 19, 20, 21, 22, 23, 24] rfl rfl) (lv_sub hl [0, 1, 2, 3, 4, 5, 6, 7] rfl)
            · have h_141 : lowN y9 16 < 8 := (kc_ge_f (by omega) (by omega)).mp h_141
              refine lv_iconst (v := nI 1) hx hb dL_reads_88 (by decide) ?_
              refine lv_goto (tgt := 115) hx hb dL_reads_89 (by decide) ?_
              exact JN_86 1 (by omega) _ _ _ (kW.perm w [0, 1, 2, 3, 4, 5, 6, 7, 8, 9, 10, 11, 12, 13, 14, 15, 16, 17, 18, 19, 20, 21, 22, 23, 24] rfl rfl) (lv_sub hl [0, 1, 2, 3, 4, 5, 6, 7] rfl)
          · have h_140 : lowN y9 16 < 4 := (kc_ge_f (by omega) (by omega)).mp h_140
            refine lv_iconst (v := nI 0) hx hb dL_reads_77 (by decide) ?_
            refine lv_goto (tgt := 115) hx hb dL_reads_78 (by decide) ?_
            exact JN_86 0 (by omega) _ _ _ (kW.perm w [0, 1, 2, 3, 4, 5, 6, 7, 8, 9, 10, 11, 12, 13, 14, 15, 16, 17, 18, 19, 20, 21, 22, 23, 24] rfl rfl) (lv_sub hl [0, 1, 2, 3, 4, 5, 6, 7] rfl)
        refine lv_iload_n hx hb dL_reads_52 rfl (lv_at hl 6 rfl) ?_
        refine lv_bipush (v := nI 22) hx hb dL_reads_53 (by decide) ?_
        refine lv_ishr hx hb dL_reads_55 ?_
        refine lv_bipush (v := nI 9) hx hb dL_reads_56 (by decide) ?_
        have lw_144 := lowN_lt (v >>> ((nI 22) &&& 31)) (n := 9) (by omega)
        refine kcalli (wc := []) (wr := [cX x nw sn tk hs tx tr, cR nw na nb σ, xI g na 49 (zT σ), xI g nb 49 (zI σ), cH hs hq kn, xQ g hq 4 (rq ρ), cR (ρ 0) (α 0) (β 0) (γ 0), xI g (α 0) 49 (zT (γ 0)), xI g (β 0) 49 (zI (γ 0)), cR (ρ 1) (α 1) (β 1) (γ 1), xI g (α 1) 49 (zT (γ 1)), xI g (β 1) 49 (zI (γ 1)), cR (ρ 2) (α 2) (β 2) (γ 2), xI g (α 2) 49 (zT (γ 2)), xI g (β 2) 49 (zI (γ 2)), cR (ρ 3) (α 3) (β 3) (γ 3), xI g (α 3) 49 (zT (γ 3)), xI g (β 3) 49 (zI (γ 3)), cT tx ch cs.length, xC g ch 60 (tyL T 0 cs), cTr tr tw od os po re ca, cR tw ta tb τ, xI g ta 49 (zT τ), xI g tb 49 (zI τ), cO od vb n1 n2 nm en]) (wn := fun (u : Unit) => [cX x nw sn tk hs tx tr, cR nw na nb σ, xI g na 49 (zT σ), xI g nb 49 (zI σ), cH hs hq kn, xQ g hq 4 (rq ρ), cR (ρ 0) (α 0) (β 0) (γ 0), xI g (α 0) 49 (zT (γ 0)), xI g (β 0) 49 (zI (γ 0)), cR (ρ 1) (α 1) (β 1) (γ 1), xI g (α 1) 49 (zT (γ 1)), xI g (β 1) 49 (zI (γ 1)), cR (ρ 2) (α 2) (β 2) (γ 2), xI g (α 2) 49 (zT (γ 2)), xI g (β 2) 49 (zI (γ 2)), cR (ρ 3) (α 3) (β 3) (γ 3), xI g (α 3) 49 (zT (γ 3)), xI g (β 3) 49 (zI (γ 3)), cT tx ch cs.length, xC g ch 60 (tyL T 0 cs), cTr tr tw od os po re ca, cR tw ta tb τ, xI g ta 49 (zT τ), xI g tb 49 (zI τ), cO od vb n1 n2 nm en]) F w [] [0, 1, 2, 3, 4, 5, 6, 7, 8, 9, 10, 11, 12, 13, 14, 15, 16, 17, 18, 19, 20, 21, 22, 23, 24] [0, 1, 2, 3, 4, 5, 6, 7, 8, 9, 10, 11, 12, 13, 14, 15, 16, 17, 18, 19, 20, 21, 22, 23, 24] rfl rfl rfl (fun _ => rfl)
          (fun hp => va_runS (As := [.int (v >>> ((nI 22) &&& 31)), .int (nI 9)]) (rest := []) F.1 (kL_low l g (v >>> ((nI 22) &&& 31)) 9 H.size (by omega)) (va_cwS 2 hts gL_reads_L_low rfl rfl rfl hd_L_low ⟨Nat.le_of_ble_eq_true rfl, Nat.le_of_ble_eq_true rfl⟩) hp rfl rfl hl.1 rfl (lv_room (Nat.le_of_ble_eq_true rfl)) dL_reads_58 ⟨Nat.le_of_ble_eq_true rfl, Nat.le_of_ble_eq_true rfl⟩)
          (fun r_145 _ H locs h_146 w => ?_)
        subst h_146
        refine lv_if_ne (tgt := 68) hx hb dL_reads_61 (by decide) (fun h_147 => ?_) (fun h_147 => ?_)
        · have h_147 : lowN (v >>> ((nI 22) &&& 31)) 9 ≠ 0 := (kc0_ne_t (by omega)).mp h_147
          refine lv_iconst (v := nI 0) hx hb dL_reads_68 (by decide) ?_
          refine ktopi (y := bI false) (by decide) ?_
          exact JN_85 false  _ _ _ (kW.perm w [0, 1, 2, 3, 4, 5, 6, 7, 8, 9, 10, 11, 12, 13, 14, 15, 16, 17, 18, 19, 20, 21, 22, 23, 24] rfl rfl) (lv_sub hl [0, 1, 2, 3, 4, 5, 6] rfl)
        · have h_147 : lowN (v >>> ((nI 22) &&& 31)) 9 = 0 := (kc0_ne_f (by omega)).mp h_147
          refine lv_iconst (v := nI 1) hx hb dL_reads_64 (by decide) ?_
          refine lv_goto (tgt := 69) hx hb dL_reads_65 (by decide) ?_
          refine ktopi (y := bI true) (by decide) ?_
          exact JN_85 true  _ _ _ (kW.perm w [0, 1, 2, 3, 4, 5, 6, 7, 8, 9, 10, 11, 12, 13, 14, 15, 16, 17, 18, 19, 20, 21, 22, 23, 24] rfl rfl) (lv_sub hl [0, 1, 2, 3, 4, 5, 6] rfl)
  exact LP_7 _ 0 ([] : List Nat) (by omega) Ords_0 _ _ _ (Nat.lt_succ_self _) (kW.perm w [0, 1, 2, 3, 4, 5, 6, 7, 8, 9, 10, 11, 12, 13, 14, 15, 16, 17, 18, 19, 20, 21, 22, 23, 24] rfl rfl) (lv_sub hl [0, 1, 2, 3, 4] rfl)
