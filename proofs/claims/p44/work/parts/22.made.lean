/-! ===== making objects ===== -/
section KN
variable {p : Program} {l : Launch} {e : Env} {R : Room} {s : State} {m : MethodId} {args : Array Value} {below : List Frame} {meth : Method} {c : Code} {H : Heap} {locs : List Loc} {cells slots : Nat} {Q : State → Prop}
variable {cc : ByteArray} {nL : Nat} {Ts : List Cond} {own : String} {ret : Option FieldType} {g : GG} {A : Nat → Prop} {ws : va_W} {pc : Nat} {ls : Array Slot} {rest : List Value}
theorem knew {C : String} {T : u_T} {N ci index : Nat} (F : kF p m c cc nL s args Ts own meth ret g A) (w : kW g A s ws H locs) (hin : ∀ w ∈ u_ws C T N, w ∈ Ts) {ty0 : Nat → FieldType} (hty : ∀ k, k < N → parseFieldDescriptor (T k).2.2.1 = some (ty0 k))
    (hcl : Cond.classLink own index C ∈ Ts) (hinst : Cond.instantiable C N ∈ Ts) (hini : Cond.initialized C ∈ Ts) (hc : vwCl[ci]? = some (C, T, N)) {fs : List Value} (hfs : ∀ j, j < N → defaultValue (ty0 j) = vp_V fs j) (hcells : cells + 1 ≤ R.cells) (hslots : slots + N ≤ R.slots) (hdg : decode cc pc = .ok (.new index, 3))
    (kk : ∀ (q : Nat) (H1 : Heap), kW g A s (ws ++ [(q, .inr (ci, fs))]) H1 locs → W p l e R s m args below meth c H1 locs (cells + 1) (slots + N) Q (F0 m (pc + 3) ls (.ref q :: rest))) : W p l e R s m args below meth c H locs cells slots Q (F0 m pc ls rest) :=
  va_new (D := g.1) F.1.1 F.1.2.1 F.1.2.2.2.2 hin ty0 hty F.1.2.2.2.1 (F.1.2.2.2.2 _ hcl) (F.1.2.2.2.2 _ hinst) (F.1.2.2.2.2 _ hini) F.2.2.2.1.1 w.1 w.2.1 w.2.2 F.2.2.2.2.2 hc hfs hcells hslots hdg (fun q H1 h1 h2 h3 => kk q H1 ⟨h1, h2, h3⟩)
theorem ka_I {D : va_G} {cA : ClassId} (h1 : va_K D vwCl (gTys g) s) (h2 : va_K D vwCl (gTys g ++ [(cA, .int)]) s) : cA = gI g := by
  have e1 : s.vm.findClass ("[" ++ FieldType.int.toString) = some (gI g) := (h1.2 0 (gI g, .int) rfl).2
  have e2 : s.vm.findClass ("[" ++ FieldType.int.toString) = some cA := (h2.2 3 (cA, .int) rfl).2
  exact Option.some.inj (e2.symm.trans e1)
theorem ka_C {D : va_G} {cA : ClassId} (h1 : va_K D vwCl (gTys g) s) (h2 : va_K D vwCl (gTys g ++ [(cA, .char)]) s) : cA = gC g := by
  have e1 : s.vm.findClass ("[" ++ FieldType.char.toString) = some (gC g) := (h1.2 1 (gC g, .char) rfl).2
  have e2 : s.vm.findClass ("[" ++ FieldType.char.toString) = some cA := (h2.2 3 (cA, .char) rfl).2
  exact Option.some.inj (e2.symm.trans e1)
theorem ka_R {D : va_G} {cA : ClassId} (h1 : va_K D vwCl (gTys g) s) (h2 : va_K D vwCl (gTys g ++ [(cA, .object RX2)]) s) : cA = gR g := by
  obtain ⟨_, _, _, _, _, e1⟩ := (h1.2 2 (gR g, .object RX2) rfl).2
  obtain ⟨_, _, _, _, _, e2⟩ := (h2.2 3 (cA, .object RX2) rfl).2
  exact Option.some.inj (e2.symm.trans e1)
theorem knewI {n : Int32} {N : Nat} (F : kF p m c cc nL s args Ts own meth ret g A) (w : kW g A s ws H locs) (harr : Cond.arrayClass .int ∈ Ts) (hn : ¬ n < 0) (hN : n.toNatClampNeg = N) (hb : N * 4 ≤ 536870912) (hcells : cells + 1 ≤ R.cells) (hslots : slots + N ≤ R.slots) (hdg : decode cc pc = .ok (.newarray .int, 2))
    (kk : ∀ (q : Nat) (H1 : Heap), kW g A s (ws ++ [xI g q N (fun _ => 0)]) H1 locs → W p l e R s m args below meth c H1 locs (cells + 1) (slots + N) Q (F0 m (pc + 2) ls (.ref q :: rest))) : W p l e R s m args below meth c H locs cells slots Q (F0 m pc ls (.int n :: rest)) :=
  va_newa (D := g.1) (atype := .int) (ty := .int) (a0 := (N, .inl (fun _ => 0))) F.1.1 F.1.2.1 (F.1.2.2.2.2 _ harr) rfl F.2.2.2.1.1 w.1 w.2.1 w.2.2 F.2.2.2.2.2 (fun cA => by rw [vp_cell_i]; rfl) hn hN hb hcells hslots hdg
    (fun q cA H1 hK h1 h2 h3 => by
      have e : cA = gI g := ka_I F.2.2.2.1.1 hK
      subst e
      exact kk q H1 ⟨h1, h2, h3⟩)
theorem knewC {n : Int32} {N : Nat} (F : kF p m c cc nL s args Ts own meth ret g A) (w : kW g A s ws H locs) (harr : Cond.arrayClass .char ∈ Ts) (hn : ¬ n < 0) (hN : n.toNatClampNeg = N) (hb : N * 2 ≤ 536870912) (hcells : cells + 1 ≤ R.cells) (hslots : slots + N ≤ R.slots) (hdg : decode cc pc = .ok (.newarray .char, 2))
    (kk : ∀ (q : Nat) (H1 : Heap), kW g A s (ws ++ [xC g q N (fun _ => 0)]) H1 locs → W p l e R s m args below meth c H1 locs (cells + 1) (slots + N) Q (F0 m (pc + 2) ls (.ref q :: rest))) : W p l e R s m args below meth c H locs cells slots Q (F0 m pc ls (.int n :: rest)) :=
  va_newa (D := g.1) (atype := .char) (ty := .char) (a0 := (N, .inl (fun _ => 0))) F.1.1 F.1.2.1 (F.1.2.2.2.2 _ harr) rfl F.2.2.2.1.1 w.1 w.2.1 w.2.2 F.2.2.2.2.2 (fun cA => by rw [vp_cell_i]; rfl) hn hN hb hcells hslots hdg
    (fun q cA H1 hK h1 h2 h3 => by
      have e : cA = gC g := ka_C F.2.2.2.1.1 hK
      subst e
      exact kk q H1 ⟨h1, h2, h3⟩)
theorem knewQ {n : Int32} {N index : Nat} (F : kF p m c cc nL s args Ts own meth ret g A) (w : kW g A s ws H locs) (hcl : Cond.classLink own index RX2 ∈ Ts) (hn : ¬ n < 0) (hN : n.toNatClampNeg = N) (hb : N * 4 ≤ 536870912) (hcells : cells + 1 ≤ R.cells) (hslots : slots + N ≤ R.slots) (hdg : decode cc pc = .ok (.anewarray index, 3))
    (kk : ∀ (q : Nat) (H1 : Heap), kW g A s (ws ++ [xQ g q N (fun _ => none)]) H1 locs → W p l e R s m args below meth c H1 locs (cells + 1) (slots + N) Q (F0 m (pc + 3) ls (.ref q :: rest))) : W p l e R s m args below meth c H locs cells slots Q (F0 m pc ls (.int n :: rest)) :=
  va_newq (D := g.1) F.1.1 F.1.2.1 F.1.2.2.2.1 (F.1.2.2.2.2 _ hcl) F.2.2.2.1.2.2.2.1 F.2.2.2.1.1 w.1 w.2.1 w.2.2 F.2.2.2.2.2 hn hN hb hcells hslots hdg
    (fun q cA H1 hK h1 h2 h3 => by
      have e : cA = gR g := ka_R F.2.2.2.1.1 hK
      subst e
      exact kk q H1 ⟨h1, h2, h3⟩)
theorem kobj {idx : Nat} {a : Nat} {n : Nat} (F : kF p m c cc nL s args Ts own meth ret g A) (hl : ls.size = nL) (hlink : Cond.methodLink own idx objectInit ∈ Ts) (hinst : Cond.instanceMethod objectInit ∈ Ts) (hcode : Cond.code objectInit ⟨#[0xb1]⟩ 1 none ∈ Ts) (hd : decode cc pc = .ok (.invokespecial idx, 3))
    (hframes : 1 ≤ R.frames) (hn : (rest.map fun v => v.category).sum ≤ n) (hlocals : n + 12 ≤ R.locals)
    (kk : W p l e R s m args below meth c H locs cells slots Q (F0 m (pc + 3) ls rest)) : W p l e R s m args below meth c H locs cells slots Q (F0 m pc ls (.ref a :: rest)) := by
  refine W.objInit F.1.1 F.1.2.1 F.1.2.2.2.1 (F.1.2.2.2.2 _ hlink) (F.1.2.2.2.2 _ hinst) (F.1.2.2.2.2 _ hcode) rfl (by rw [F.1.2.2.1]; exact hl) rfl hd hframes (by show 2 * 0 + _ + 12 ≤ _; omega) ?_
  exact kk
end KN
/-! the first state -/
def sg0 : Sg := (fun _ => false, fun _ => false, fun _ => false, fun _ => false, fun _ => 0, fun _ => 0)
def sgs : Nat → Sg := fun _ => sg0
def vl (a : List Nat) : Nat → Nat := fun i => a.getD i 0
theorem sg0_O : zB (zO sg0) = 0 := by decide +kernel
theorem sg0_L : zB (zL sg0) = 0 := by decide +kernel
theorem sg0_S : zB (zS sg0) = 0 := by decide +kernel
theorem sg0_F : zB (zF sg0) = 0 := by decide +kernel
theorem sg0_V : zB (zV sg0) = 0 := by decide +kernel
theorem cR_0 (r a b : Nat) : xO r 2 [.long 0, .long 0, .long 0, .long 0, .long 0, .ref a, .ref b] = cR r a b sg0 := by
  show _ = xO r 2 [.long (zB (zO sg0)), .long (zB (zL sg0)), .long (zB (zS sg0)), .long (zB (zF sg0)), .long (zB (zV sg0)), .ref a, .ref b]
  rw [sg0_O, sg0_L, sg0_S, sg0_F, sg0_V]
abbrev rmX1_init : Room := { frames := 1, cells := 0, slots := 0, locals := 12 }
set_option maxHeartbeats 4000000 in
set_option maxRecDepth 100000 in
theorem kX1_init (l : Launch) (g : GG) (o : Nat) (sz : Nat)  : Met l yX1_init wsX1_init rmX1_init (va_Pc [.ref o] (kPre g [] sz)) (va_Qv (fun (u : Unit) => True) (kB g (va_A [] sz) (fun u => [])) (va_A [] sz)) 0 0 (va_A [] sz) := by
  refine kMet (cc := cX1_init) (maxL := 1) (ret := none) (own := RX1) (by decide) rfl rfl (Nat.le_of_ble_eq_true rfl) ?_
  intro p e s m args below meth c ls Q H locs A F w hl hnm hA hQ
  have hx := F.1.1
  have hb := F.1.2.1
  have hts := F.1.2.2.2.2
  have hl : lv_has ls 1 [(0, .ref o)] := hl
  refine lv_aload_n hx hb dX1_init_0 rfl (lv_at hl 0 rfl) ?_
  refine kobj (n := 0) F hl.1 (by decide +kernel) (by decide +kernel) (by decide +kernel) dX1_init_1 (Nat.le_of_ble_eq_true rfl) (Nat.le_of_ble_eq_true rfl) (Nat.le_of_ble_eq_true rfl) ?_
  subst hA
  subst hQ
  exact kretv F w () [] rfl rfl (trivial) (Nat.le_of_ble_eq_true rfl) (Nat.le_of_ble_eq_true rfl) dX1_init_4
theorem in_X2_init_X2 : ∀ w ∈ wsX20, w ∈ wsX2_init := by decide +kernel
abbrev rmX2_init : Room := { frames := 1, cells := 2, slots := 98, locals := 12 }
set_option maxHeartbeats 4000000 in
set_option maxRecDepth 100000 in
theorem kX2_init (l : Launch) (g : GG) (r : Nat) (sz : Nat)  : Met l yX2_init wsX2_init rmX2_init (va_Pc [.ref r] (kPre g [xO r 2 [.long 0, .long 0, .long 0, .long 0, .long 0, .null, .null]] sz)) (va_Qv (fun (u : Nat × Nat) => True) (kB g (va_A [xO r 2 [.long 0, .long 0, .long 0, .long 0, .long 0, .null, .null]] sz) (fun u => [cR r u.1 u.2 sg0, xI g u.1 49 (zT sg0), xI g u.2 49 (zI sg0)])) (va_A [xO r 2 [.long 0, .long 0, .long 0, .long 0, .long 0, .null, .null]] sz)) 2 98 (va_A [xO r 2 [.long 0, .long 0, .long 0, .long 0, .long 0, .null, .null]] sz) := by
  refine kMet (cc := cX2_init) (maxL := 1) (ret := none) (own := RX2) (by decide) rfl rfl (Nat.le_of_ble_eq_true rfl) ?_
  intro p e s m args below meth c ls Q H locs A F w hl hnm hA hQ
  have hx := F.1.1
  have hb := F.1.2.1
  have hts := F.1.2.2.2.2
  have hl : lv_has ls 1 [(0, .ref r)] := hl
  refine lv_aload_n hx hb dX2_init_0 rfl (lv_at hl 0 rfl) ?_
  refine kobj (n := 0) F hl.1 (by decide +kernel) (by decide +kernel) (by decide +kernel) dX2_init_1 (Nat.le_of_ble_eq_true rfl) (Nat.le_of_ble_eq_true rfl) (Nat.le_of_ble_eq_true rfl) ?_
  refine lv_aload_n hx hb dX2_init_4 rfl (lv_at hl 0 rfl) ?_
  refine lv_bipush (v := nI 49) hx hb dX2_init_5 (by decide) ?_
  refine knewI (N := 49) F w (by decide +kernel) (by decide) (by decide +kernel) (Nat.le_of_ble_eq_true rfl) (Nat.le_of_ble_eq_true rfl) (Nat.le_of_ble_eq_true rfl) dX2_init_7 (fun q_1 H w => ?_)
  have w : kW g A s [xO r 2 [.long 0, .long 0, .long 0, .long 0, .long 0, .null, .null], xI g q_1 49 (fun _ => 0)] H locs := w
  refine kputF (fs := [.long 0, .long 0, .long 0, .long 0, .long 0, .null, .null]) F w in_X2_init_X2 tyX2_ok nmX2 0 rfl rfl 5 (by decide) (by decide +kernel) rfl rfl hnm rfl (rfl) (rfl) (Nat.le_of_ble_eq_true rfl) (wn := [xO r 2 [.long 0, .long 0, .long 0, .long 0, .long 0, .ref q_1, .null], xI g q_1 49 (fun _ => 0)]) rfl dX2_init_9 (fun H locs w => ?_)
  refine lv_aload_n hx hb dX2_init_12 rfl (lv_at hl 0 rfl) ?_
  refine lv_bipush (v := nI 49) hx hb dX2_init_13 (by decide) ?_
  refine knewI (N := 49) F w (by decide +kernel) (by decide) (by decide +kernel) (Nat.le_of_ble_eq_true rfl) (Nat.le_of_ble_eq_true rfl) (Nat.le_of_ble_eq_true rfl) dX2_init_15 (fun q_2 H w => ?_)
  have w : kW g A s [xO r 2 [.long 0, .long 0, .long 0, .long 0, .long 0, .ref q_1, .null], xI g q_1 49 (fun _ => 0), xI g q_2 49 (fun _ => 0)] H locs := w
  refine kputF (fs := [.long 0, .long 0, .long 0, .long 0, .long 0, .ref q_1, .null]) F w in_X2_init_X2 tyX2_ok nmX2 0 rfl rfl 6 (by decide) (by decide +kernel) rfl rfl hnm rfl (rfl) (rfl) (Nat.le_of_ble_eq_true rfl) (wn := [xO r 2 [.long 0, .long 0, .long 0, .long 0, .long 0, .ref q_1, .ref q_2], xI g q_1 49 (fun _ => 0), xI g q_2 49 (fun _ => 0)]) rfl dX2_init_17 (fun H locs w => ?_)
  have w : kW g A s [cR r q_1 q_2 sg0, xI g q_1 49 (fun _ => 0), xI g q_2 49 (fun _ => 0)] H locs := by
    have w := w
    rw [← cR_0]; exact w
  have w : kW g A s [cR r q_1 q_2 sg0, xI g q_1 49 (zT sg0), xI g q_2 49 (zI sg0)] H locs := kW.perm w [0, 1, 2] rfl rfl
  subst hA
  subst hQ
  exact kretv F w (q_1, q_2) [0, 1, 2] rfl rfl (trivial) (Nat.le_of_ble_eq_true rfl) (Nat.le_of_ble_eq_true rfl) dX2_init_20
theorem in_X3_init_X3 : ∀ w ∈ wsX30, w ∈ wsX3_init := by decide +kernel
abbrev rmX3_init : Room := { frames := 1, cells := 1, slots := 60, locals := 12 }
set_option maxHeartbeats 4000000 in
set_option maxRecDepth 100000 in
theorem kX3_init (l : Launch) (g : GG) (t : Nat) (sz : Nat)  : Met l yX3_init wsX3_init rmX3_init (va_Pc [.ref t] (kPre g [xO t 3 [.null, .int 0]] sz)) (va_Qv (fun (u : Nat) => True) (kB g (va_A [xO t 3 [.null, .int 0]] sz) (fun u => [cT t u 0, xC g u 60 (fun _ => 0)])) (va_A [xO t 3 [.null, .int 0]] sz)) 1 60 (va_A [xO t 3 [.null, .int 0]] sz) := by
  refine kMet (cc := cX3_init) (maxL := 1) (ret := none) (own := RX3) (by decide) rfl rfl (Nat.le_of_ble_eq_true rfl) ?_
  intro p e s m args below meth c ls Q H locs A F w hl hnm hA hQ
  have hx := F.1.1
  have hb := F.1.2.1
  have hts := F.1.2.2.2.2
  have hl : lv_has ls 1 [(0, .ref t)] := hl
  refine lv_aload_n hx hb dX3_init_0 rfl (lv_at hl 0 rfl) ?_
  refine kobj (n := 0) F hl.1 (by decide +kernel) (by decide +kernel) (by decide +kernel) dX3_init_1 (Nat.le_of_ble_eq_true rfl) (Nat.le_of_ble_eq_true rfl) (Nat.le_of_ble_eq_true rfl) ?_
  refine lv_aload_n hx hb dX3_init_4 rfl (lv_at hl 0 rfl) ?_
  refine lv_bipush (v := nI 60) hx hb dX3_init_5 (by decide) ?_
  refine knewC (N := 60) F w (by decide +kernel) (by decide) (by decide +kernel) (Nat.le_of_ble_eq_true rfl) (Nat.le_of_ble_eq_true rfl) (Nat.le_of_ble_eq_true rfl) dX3_init_7 (fun q_1 H w => ?_)
  have w : kW g A s [xO t 3 [.null, .int 0], xC g q_1 60 (fun _ => 0)] H locs := w
  refine kputF (fs := [.null, .int 0]) F w in_X3_init_X3 tyX3_ok nmX3 0 rfl rfl 0 (by decide) (by decide +kernel) rfl rfl hnm rfl (rfl) (rfl) (Nat.le_of_ble_eq_true rfl) (wn := [xO t 3 [.ref q_1, .int 0], xC g q_1 60 (fun _ => 0)]) rfl dX3_init_9 (fun H locs w => ?_)
  have w : kW g A s [cT t q_1 0, xC g q_1 60 (fun _ => 0)] H locs := kW.perm w [0, 1] rfl rfl
  subst hA
  subst hQ
  exact kretv F w q_1 [0, 1] rfl rfl (trivial) (Nat.le_of_ble_eq_true rfl) (Nat.le_of_ble_eq_true rfl) dX3_init_12
theorem in_X4_init_X1 : ∀ w ∈ wsX10, w ∈ wsX4_init := by decide +kernel
theorem in_X4_init_X2 : ∀ w ∈ wsX20, w ∈ wsX4_init := by decide +kernel
theorem in_X4_init_X4 : ∀ w ∈ wsX40, w ∈ wsX4_init := by decide +kernel
theorem hd_X1_init : yX1_init.cls ≠ "java/lang/invoke/MethodHandle" ∧ yX1_init.cls ≠ "java/lang/invoke/VarHandle" ∧ (parseMethodDescriptor yX1_init.desc).map (fun d => d.parameters.length) = some 0 := by decide +kernel
theorem hd_X2_init : yX2_init.cls ≠ "java/lang/invoke/MethodHandle" ∧ yX2_init.cls ≠ "java/lang/invoke/VarHandle" ∧ (parseMethodDescriptor yX2_init.desc).map (fun d => d.parameters.length) = some 0 := by decide +kernel
abbrev rmX4_init : Room := { frames := 2, cells := 4, slots := 110, locals := 32 }
set_option maxHeartbeats 4000000 in
set_option maxRecDepth 100000 in
theorem kX4_init (l : Launch) (g : GG) (tr : Nat) (sz : Nat)  : Met l yX4_init wsX4_init rmX4_init (va_Pc [.ref tr] (kPre g [xO tr 4 [.null, .null, .int 0, .int 0, .int 0, .int 0]] sz)) (va_Qv (fun (u : Nat × Nat × Nat × Nat) => True) (kB g (va_A [xO tr 4 [.null, .null, .int 0, .int 0, .int 0, .int 0]] sz) (fun u => [cTr tr u.1 u.2.2.2 0 0 0 0, cR u.1 u.2.1 u.2.2.1 sg0, xI g u.2.1 49 (zT sg0), xI g u.2.2.1 49 (zI sg0), cO u.2.2.2 0 0 0 0 0])) (va_A [xO tr 4 [.null, .null, .int 0, .int 0, .int 0, .int 0]] sz)) 4 110 (va_A [xO tr 4 [.null, .null, .int 0, .int 0, .int 0, .int 0]] sz) := by
  refine kMet (cc := cX4_init) (maxL := 1) (ret := none) (own := RX4) (by decide) rfl rfl (Nat.le_of_ble_eq_true rfl) ?_
  intro p e s m args below meth c ls Q H locs A F w hl hnm hA hQ
  have hx := F.1.1
  have hb := F.1.2.1
  have hts := F.1.2.2.2.2
  have hl : lv_has ls 1 [(0, .ref tr)] := hl
  refine lv_aload_n hx hb dX4_init_0 rfl (lv_at hl 0 rfl) ?_
  refine kobj (n := 0) F hl.1 (by decide +kernel) (by decide +kernel) (by decide +kernel) dX4_init_1 (Nat.le_of_ble_eq_true rfl) (Nat.le_of_ble_eq_true rfl) (Nat.le_of_ble_eq_true rfl) ?_
  refine lv_aload_n hx hb dX4_init_4 rfl (lv_at hl 0 rfl) ?_
  refine knew (C := RX2) (T := TX2) (N := 7) (ci := 2) (fs := [.long 0, .long 0, .long 0, .long 0, .long 0, .null, .null]) F w in_X4_init_X2 tyX2_ok (by decide +kernel) (by decide +kernel) (by decide +kernel) rfl (fun j hj => by rcases (show j = 0 ∨ j = 1 ∨ j = 2 ∨ j = 3 ∨ j = 4 ∨ j = 5 ∨ j = 6 by omega) with rfl | rfl | rfl | rfl | rfl | rfl | rfl <;> rfl) (Nat.le_of_ble_eq_true rfl) (Nat.le_of_ble_eq_true rfl) dX4_init_5 (fun q_1 H w => ?_)
  have w : kW g A s [xO tr 4 [.null, .null, .int 0, .int 0, .int 0, .int 0], xO q_1 2 [.long 0, .long 0, .long 0, .long 0, .long 0, .null, .null]] H locs := w
  refine lv_dup hx hb dX4_init_8 rfl ?_
  refine kcallv (wc := [xO q_1 2 [.long 0, .long 0, .long 0, .long 0, .long 0, .null, .null]]) (wr := [xO tr 4 [.null, .null, .int 0, .int 0, .int 0, .int 0]]) (wn := fun (u : Nat × Nat) => [xO tr 4 [.null, .null, .int 0, .int 0, .int 0, .int 0], cR q_1 u.1 u.2 sg0, xI g u.1 49 (zT sg0), xI g u.2 49 (zI sg0)]) F w [1] [0] [0, 1, 2, 3] rfl rfl rfl (fun _ => rfl)
    (fun hp => va_runI (As := []) (rest := [.ref q_1, .ref tr]) F.1 (kX2_init l g q_1 H.size ) (cwI 0 hts gX4_init_X2_init rfl rfl rfl (hts (.initialized RX2) (by decide +kernel)) (hts (.methodLink RX4 11 yX2_init) (by decide +kernel)) (hts (.instanceMethod yX2_init) (by decide +kernel)) rfl hd_X2_init ⟨Nat.le_of_ble_eq_true rfl, Nat.le_of_ble_eq_true rfl⟩) hp rfl rfl hl.1 rfl (lv_room (Nat.le_of_ble_eq_true rfl)) dX4_init_9 ⟨Nat.le_of_ble_eq_true rfl, Nat.le_of_ble_eq_true rfl⟩)
    (fun u H locs h_3 w => ?_)
  try dsimp only at h_3
  obtain ⟨u_4, hu9⟩ : ∃ z, z = u := ⟨_, rfl⟩
  subst hu9
  have w : kW g A s [xO tr 4 [.null, .null, .int 0, .int 0, .int 0, .int 0], cR q_1 u_4.1 u_4.2 sg0, xI g u_4.1 49 (zT sg0), xI g u_4.2 49 (zI sg0)] H locs := w
  refine kputF (fs := [.null, .null, .int 0, .int 0, .int 0, .int 0]) F w in_X4_init_X4 tyX4_ok nmX4 0 rfl rfl 0 (by decide) (by decide +kernel) rfl rfl hnm rfl (rfl) (rfl) (Nat.le_of_ble_eq_true rfl) (wn := [xO tr 4 [.ref q_1, .null, .int 0, .int 0, .int 0, .int 0], cR q_1 u_4.1 u_4.2 sg0, xI g u_4.1 49 (zT sg0), xI g u_4.2 49 (zI sg0)]) rfl dX4_init_12 (fun H locs w => ?_)
  refine lv_aload_n hx hb dX4_init_15 rfl (lv_at hl 0 rfl) ?_
  refine knew (C := RX1) (T := TX1) (N := 5) (ci := 1) (fs := [.int 0, .int 0, .int 0, .int 0, .int 0]) F w in_X4_init_X1 tyX1_ok (by decide +kernel) (by decide +kernel) (by decide +kernel) rfl (fun j hj => by rcases (show j = 0 ∨ j = 1 ∨ j = 2 ∨ j = 3 ∨ j = 4 by omega) with rfl | rfl | rfl | rfl | rfl <;> rfl) (Nat.le_of_ble_eq_true rfl) (Nat.le_of_ble_eq_true rfl) dX4_init_16 (fun q_5 H w => ?_)
  have w : kW g A s [xO tr 4 [.ref q_1, .null, .int 0, .int 0, .int 0, .int 0], cR q_1 u_4.1 u_4.2 sg0, xI g u_4.1 49 (zT sg0), xI g u_4.2 49 (zI sg0), xO q_5 1 [.int 0, .int 0, .int 0, .int 0, .int 0]] H locs := w
  refine lv_dup hx hb dX4_init_19 rfl ?_
  refine kcallv (wc := []) (wr := [xO tr 4 [.ref q_1, .null, .int 0, .int 0, .int 0, .int 0], cR q_1 u_4.1 u_4.2 sg0, xI g u_4.1 49 (zT sg0), xI g u_4.2 49 (zI sg0), xO q_5 1 [.int 0, .int 0, .int 0, .int 0, .int 0]]) (wn := fun (u : Unit) => [xO tr 4 [.ref q_1, .null, .int 0, .int 0, .int 0, .int 0], cR q_1 u_4.1 u_4.2 sg0, xI g u_4.1 49 (zT sg0), xI g u_4.2 49 (zI sg0), xO q_5 1 [.int 0, .int 0, .int 0, .int 0, .int 0]]) F w [] [0, 1, 2, 3, 4] [0, 1, 2, 3, 4] rfl rfl rfl (fun _ => rfl)
    (fun hp => va_runIN (As := []) (rest := [.ref q_5, .ref tr]) F.1 (kX1_init l g q_5 H.size ) (⟨va_cnB (host := RX5) 0 hts gX4_init_X1_init_n20 rfl rfl rfl (F.2.2.2.1.2.1 _ (by decide +kernel)) (hts (.initialized RX1) (by decide +kernel)) hd_X1_init ⟨Nat.le_of_ble_eq_true rfl, Nat.le_of_ble_eq_true rfl⟩, rfl, hts (.instanceMethod yX1_init) (by decide +kernel)⟩) hp rfl rfl hl.1 rfl (lv_room (Nat.le_of_ble_eq_true rfl)) dX4_init_20 ⟨Nat.le_of_ble_eq_true rfl, Nat.le_of_ble_eq_true rfl⟩)
    (fun _ H locs h_7 w => ?_)
  refine kputF (fs := [.ref q_1, .null, .int 0, .int 0, .int 0, .int 0]) F w in_X4_init_X4 tyX4_ok nmX4 0 rfl rfl 1 (by decide) (by decide +kernel) rfl rfl hnm rfl (rfl) (rfl) (Nat.le_of_ble_eq_true rfl) (wn := [xO tr 4 [.ref q_1, .ref q_5, .int 0, .int 0, .int 0, .int 0], cR q_1 u_4.1 u_4.2 sg0, xI g u_4.1 49 (zT sg0), xI g u_4.2 49 (zI sg0), xO q_5 1 [.int 0, .int 0, .int 0, .int 0, .int 0]]) rfl dX4_init_23 (fun H locs w => ?_)
  have w : kW g A s [cTr tr q_1 q_5 0 0 0 0, cR q_1 u_4.1 u_4.2 sg0, xI g u_4.1 49 (zT sg0), xI g u_4.2 49 (zI sg0), cO q_5 0 0 0 0 0] H locs := kW.perm w [0, 1, 2, 3, 4] rfl rfl
  subst hA
  subst hQ
  exact kretv F w (q_1, u_4.1, u_4.2, q_5) [0, 1, 2, 3, 4] rfl rfl (trivial) (Nat.le_of_ble_eq_true rfl) (Nat.le_of_ble_eq_true rfl) dX4_init_26
theorem in_X0_init_X0 : ∀ w ∈ wsX00, w ∈ wsX0_init := by decide +kernel
theorem in_X0_init_X2 : ∀ w ∈ wsX20, w ∈ wsX0_init := by decide +kernel
abbrev rmX0_init : Room := { frames := 2, cells := 13, slots := 424, locals := 32 }
set_option maxHeartbeats 4000000 in
set_option maxRecDepth 100000 in
theorem kX0_init (l : Launch) (g : GG) (h : Nat) (sz : Nat)  : Met l yX0_init wsX0_init rmX0_init (va_Pc [.ref h] (kPre g [xO h 0 [.null, .int 0]] sz)) (va_Qv (fun (u : Nat × (Nat → Nat) × (Nat → Nat) × (Nat → Nat)) => True) (kB g (va_A [xO h 0 [.null, .int 0]] sz) (fun u => [cH h u.1 0, xQ g u.1 4 (rq u.2.1), cR (u.2.1 0) (u.2.2.1 0) (u.2.2.2 0) (sgs 0), xI g (u.2.2.1 0) 49 (zT (sgs 0)), xI g (u.2.2.2 0) 49 (zI (sgs 0)), cR (u.2.1 1) (u.2.2.1 1) (u.2.2.2 1) (sgs 1), xI g (u.2.2.1 1) 49 (zT (sgs 1)), xI g (u.2.2.2 1) 49 (zI (sgs 1)), cR (u.2.1 2) (u.2.2.1 2) (u.2.2.2 2) (sgs 2), xI g (u.2.2.1 2) 49 (zT (sgs 2)), xI g (u.2.2.2 2) 49 (zI (sgs 2)), cR (u.2.1 3) (u.2.2.1 3) (u.2.2.2 3) (sgs 3), xI g (u.2.2.1 3) 49 (zT (sgs 3)), xI g (u.2.2.2 3) 49 (zI (sgs 3))])) (va_A [xO h 0 [.null, .int 0]] sz)) 13 424 (va_A [xO h 0 [.null, .int 0]] sz) := by
  refine kMet (cc := cX0_init) (maxL := 2) (ret := none) (own := RX0) (by decide) rfl rfl (Nat.le_of_ble_eq_true rfl) ?_
  intro p e s m args below meth c ls Q H locs A F w hl hnm hA hQ
  have hx := F.1.1
  have hb := F.1.2.1
  have hts := F.1.2.2.2.2
  have hl : lv_has ls 2 [(0, .ref h)] := hl
  refine lv_aload_n hx hb dX0_init_0 rfl (lv_at hl 0 rfl) ?_
  refine kobj (n := 0) F hl.1 (by decide +kernel) (by decide +kernel) (by decide +kernel) dX0_init_1 (Nat.le_of_ble_eq_true rfl) (Nat.le_of_ble_eq_true rfl) (Nat.le_of_ble_eq_true rfl) ?_
  refine lv_aload_n hx hb dX0_init_4 rfl (lv_at hl 0 rfl) ?_
  refine lv_iconst (v := nI 4) hx hb dX0_init_5 (by decide) ?_
  refine knewQ (N := 4) F w (by decide +kernel) (by decide) (by decide +kernel) (Nat.le_of_ble_eq_true rfl) (Nat.le_of_ble_eq_true rfl) (Nat.le_of_ble_eq_true rfl) dX0_init_6 (fun q_1 H w => ?_)
  have w : kW g A s [xO h 0 [.null, .int 0], xQ g q_1 4 (fun _ => none)] H locs := w
  refine kputF (fs := [.null, .int 0]) F w in_X0_init_X0 tyX0_ok nmX0 0 rfl rfl 0 (by decide) (by decide +kernel) rfl rfl hnm rfl (rfl) (rfl) (Nat.le_of_ble_eq_true rfl) (wn := [xO h 0 [.ref q_1, .int 0], xQ g q_1 4 (fun _ => none)]) rfl dX0_init_9 (fun H locs w => ?_)
  refine lv_iconst (v := nI 0) hx hb dX0_init_12 (by decide) ?_
  refine lv_istore_n (lv' := [(1, .int (nI 0)), (0, .ref h)]) hx hb dX0_init_13 rfl hl (by decide) rfl (fun ls hl => ?_)
  refine lv_iload_n hx hb dX0_init_14 rfl (lv_at hl 0 rfl) ?_
  refine lv_aload_n hx hb dX0_init_15 rfl (lv_at hl 1 rfl) ?_
  refine kget (fs := [.ref q_1, .int 0]) F w in_X0_init_X0 0 rfl rfl 0 (by decide) (by decide +kernel) rfl rfl dX0_init_16 ?_
  refine kalen (t0 := 2) (v := nI 4) F w 1 rfl rfl rfl dX0_init_19 ?_
  refine lv_icmp_ge (tgt := 42) hx hb dX0_init_20 (by decide) (fun h_2 => ?_) (fun h_2 => ?_)
  · exact absurd h_2 (by decide)
  refine lv_aload_n hx hb dX0_init_23 rfl (lv_at hl 1 rfl) ?_
  refine kget (fs := [.ref q_1, .int 0]) F w in_X0_init_X0 0 rfl rfl 0 (by decide) (by decide +kernel) rfl rfl dX0_init_24 ?_
  refine lv_iload_n hx hb dX0_init_27 rfl (lv_at hl 0 rfl) ?_
  refine knew (C := RX2) (T := TX2) (N := 7) (ci := 2) (fs := [.long 0, .long 0, .long 0, .long 0, .long 0, .null, .null]) F w in_X0_init_X2 tyX2_ok (by decide +kernel) (by decide +kernel) (by decide +kernel) rfl (fun j hj => by rcases (show j = 0 ∨ j = 1 ∨ j = 2 ∨ j = 3 ∨ j = 4 ∨ j = 5 ∨ j = 6 by omega) with rfl | rfl | rfl | rfl | rfl | rfl | rfl <;> rfl) (Nat.le_of_ble_eq_true rfl) (Nat.le_of_ble_eq_true rfl) dX0_init_28 (fun q_3 H w => ?_)
  have w : kW g A s [xO h 0 [.ref q_1, .int 0], xQ g q_1 4 (fun _ => none), xO q_3 2 [.long 0, .long 0, .long 0, .long 0, .long 0, .null, .null]] H locs := w
  refine lv_dup hx hb dX0_init_31 rfl ?_
  refine kcallv (wc := [xO q_3 2 [.long 0, .long 0, .long 0, .long 0, .long 0, .null, .null]]) (wr := [xO h 0 [.ref q_1, .int 0], xQ g q_1 4 (fun _ => none)]) (wn := fun (u : Nat × Nat) => [xO h 0 [.ref q_1, .int 0], xQ g q_1 4 (fun _ => none), cR q_3 u.1 u.2 sg0, xI g u.1 49 (zT sg0), xI g u.2 49 (zI sg0)]) F w [2] [0, 1] [0, 1, 2, 3, 4] rfl rfl rfl (fun _ => rfl)
    (fun hp => va_runI (As := []) (rest := [.ref q_3, .int (nI 0), .ref q_1]) F.1 (kX2_init l g q_3 H.size ) (cwI 0 hts gX0_init_X2_init rfl rfl rfl (hts (.initialized RX2) (by decide +kernel)) (hts (.methodLink RX0 17 yX2_init) (by decide +kernel)) (hts (.instanceMethod yX2_init) (by decide +kernel)) rfl hd_X2_init ⟨Nat.le_of_ble_eq_true rfl, Nat.le_of_ble_eq_true rfl⟩) hp rfl rfl hl.1 rfl (lv_room (Nat.le_of_ble_eq_true rfl)) dX0_init_32 ⟨Nat.le_of_ble_eq_true rfl, Nat.le_of_ble_eq_true rfl⟩)
    (fun u H locs h_5 w => ?_)
  try dsimp only at h_5
  obtain ⟨u_6, hu9⟩ : ∃ z, z = u := ⟨_, rfl⟩
  subst hu9
  have w : kW g A s [xO h 0 [.ref q_1, .int 0], xQ g q_1 4 (fun _ => none), cR q_3 u_6.1 u_6.2 sg0, xI g u_6.1 49 (zT sg0), xI g u_6.2 49 (zI sg0)] H locs := w
  refine kqast (f' := va_up (fun _ => none) 0 (some q_3)) F w 1 2 rfl rfl rfl rfl (vp_in_nI (by omega) (by omega)) (by rw [nI_clamp (n := 0) (by omega)]) (wn := [xO h 0 [.ref q_1, .int 0], xQ g q_1 4 (va_up (fun _ => none) 0 (some q_3)), cR q_3 u_6.1 u_6.2 sg0, xI g u_6.1 49 (zT sg0), xI g u_6.2 49 (zI sg0)]) rfl dX0_init_35 (fun H locs w => ?_)
  refine lv_iinc (v := nI 1) (lv' := [(1, .int (nI 1)), (0, .ref h)]) hx hb dX0_init_36 hl (k := 0) rfl (nI_add 0 1) (by decide) rfl (fun ls hl => ?_)
  refine lv_goto (tgt := 14) hx hb dX0_init_39 (by decide) ?_
  refine lv_iload_n hx hb dX0_init_14 rfl (lv_at hl 0 rfl) ?_
  refine lv_aload_n hx hb dX0_init_15 rfl (lv_at hl 1 rfl) ?_
  refine kget (fs := [.ref q_1, .int 0]) F w in_X0_init_X0 0 rfl rfl 0 (by decide) (by decide +kernel) rfl rfl dX0_init_16 ?_
  refine kalen (t0 := 2) (v := nI 4) F w 1 rfl rfl rfl dX0_init_19 ?_
  refine lv_icmp_ge (tgt := 42) hx hb dX0_init_20 (by decide) (fun h_7 => ?_) (fun h_7 => ?_)
  · exact absurd h_7 (by decide)
  refine lv_aload_n hx hb dX0_init_23 rfl (lv_at hl 1 rfl) ?_
  refine kget (fs := [.ref q_1, .int 0]) F w in_X0_init_X0 0 rfl rfl 0 (by decide) (by decide +kernel) rfl rfl dX0_init_24 ?_
  refine lv_iload_n hx hb dX0_init_27 rfl (lv_at hl 0 rfl) ?_
  refine knew (C := RX2) (T := TX2) (N := 7) (ci := 2) (fs := [.long 0, .long 0, .long 0, .long 0, .long 0, .null, .null]) F w in_X0_init_X2 tyX2_ok (by decide +kernel) (by decide +kernel) (by decide +kernel) rfl (fun j hj => by rcases (show j = 0 ∨ j = 1 ∨ j = 2 ∨ j = 3 ∨ j = 4 ∨ j = 5 ∨ j = 6 by omega) with rfl | rfl | rfl | rfl | rfl | rfl | rfl <;> rfl) (Nat.le_of_ble_eq_true rfl) (Nat.le_of_ble_eq_true rfl) dX0_init_28 (fun q_8 H w => ?_)
  have w : kW g A s [xO h 0 [.ref q_1, .int 0], xQ g q_1 4 (va_up (fun _ => none) 0 (some q_3)), cR q_3 u_6.1 u_6.2 sg0, xI g u_6.1 49 (zT sg0), xI g u_6.2 49 (zI sg0), xO q_8 2 [.long 0, .long 0, .long 0, .long 0, .long 0, .null, .null]] H locs := w
  refine lv_dup hx hb dX0_init_31 rfl ?_
  refine kcallv (wc := [xO q_8 2 [.long 0, .long 0, .long 0, .long 0, .long 0, .null, .null]]) (wr := [xO h 0 [.ref q_1, .int 0], xQ g q_1 4 (va_up (fun _ => none) 0 (some q_3)), cR q_3 u_6.1 u_6.2 sg0, xI g u_6.1 49 (zT sg0), xI g u_6.2 49 (zI sg0)]) (wn := fun (u : Nat × Nat) => [xO h 0 [.ref q_1, .int 0], xQ g q_1 4 (va_up (fun _ => none) 0 (some q_3)), cR q_3 u_6.1 u_6.2 sg0, xI g u_6.1 49 (zT sg0), xI g u_6.2 49 (zI sg0), cR q_8 u.1 u.2 sg0, xI g u.1 49 (zT sg0), xI g u.2 49 (zI sg0)]) F w [5] [0, 1, 2, 3, 4] [0, 1, 2, 3, 4, 5, 6, 7] rfl rfl rfl (fun _ => rfl)
    (fun hp => va_runI (As := []) (rest := [.ref q_8, .int (nI 1), .ref q_1]) F.1 (kX2_init l g q_8 H.size ) (cwI 0 hts gX0_init_X2_init rfl rfl rfl (hts (.initialized RX2) (by decide +kernel)) (hts (.methodLink RX0 17 yX2_init) (by decide +kernel)) (hts (.instanceMethod yX2_init) (by decide +kernel)) rfl hd_X2_init ⟨Nat.le_of_ble_eq_true rfl, Nat.le_of_ble_eq_true rfl⟩) hp rfl rfl hl.1 rfl (lv_room (Nat.le_of_ble_eq_true rfl)) dX0_init_32 ⟨Nat.le_of_ble_eq_true rfl, Nat.le_of_ble_eq_true rfl⟩)
    (fun u H locs h_10 w => ?_)
  try dsimp only at h_10
  obtain ⟨u_11, hu9⟩ : ∃ z, z = u := ⟨_, rfl⟩
  subst hu9
  have w : kW g A s [xO h 0 [.ref q_1, .int 0], xQ g q_1 4 (va_up (fun _ => none) 0 (some q_3)), cR q_3 u_6.1 u_6.2 sg0, xI g u_6.1 49 (zT sg0), xI g u_6.2 49 (zI sg0), cR q_8 u_11.1 u_11.2 sg0, xI g u_11.1 49 (zT sg0), xI g u_11.2 49 (zI sg0)] H locs := w
  refine kqast (f' := va_up (va_up (fun _ => none) 0 (some q_3)) 1 (some q_8)) F w 1 5 rfl rfl rfl rfl (vp_in_nI (by omega) (by omega)) (by rw [nI_clamp (n := 1) (by omega)]) (wn := [xO h 0 [.ref q_1, .int 0], xQ g q_1 4 (va_up (va_up (fun _ => none) 0 (some q_3)) 1 (some q_8)), cR q_3 u_6.1 u_6.2 sg0, xI g u_6.1 49 (zT sg0), xI g u_6.2 49 (zI sg0), cR q_8 u_11.1 u_11.2 sg0, xI g u_11.1 49 (zT sg0), xI g u_11.2 49 (zI sg0)]) rfl dX0_init_35 (fun H locs w => ?_)
  refine lv_iinc (v := nI 2) (lv' := [(1, .int (nI 2)), (0, .ref h)]) hx hb dX0_init_36 hl (k := 0) rfl (nI_add 1 1) (by decide) rfl (fun ls hl => ?_)
  refine lv_goto (tgt := 14) hx hb dX0_init_39 (by decide) ?_
  refine lv_iload_n hx hb dX0_init_14 rfl (lv_at hl 0 rfl) ?_
  refine lv_aload_n hx hb dX0_init_15 rfl (lv_at hl 1 rfl) ?_
  refine kget (fs := [.ref q_1, .int 0]) F w in_X0_init_X0 0 rfl rfl 0 (by decide) (by decide +kernel) rfl rfl dX0_init_16 ?_
  refine kalen (t0 := 2) (v := nI 4) F w 1 rfl rfl rfl dX0_init_19 ?_
  refine lv_icmp_ge (tgt := 42) hx hb dX0_init_20 (by decide) (fun h_12 => ?_) (fun h_12 => ?_)
  · exact absurd h_12 (by decide)
  refine lv_aload_n hx hb dX0_init_23 rfl (lv_at hl 1 rfl) ?_
  refine kget (fs := [.ref q_1, .int 0]) F w in_X0_init_X0 0 rfl rfl 0 (by decide) (by decide +kernel) rfl rfl dX0_init_24 ?_
  refine lv_iload_n hx hb dX0_init_27 rfl (lv_at hl 0 rfl) ?_
  refine knew (C := RX2) (T := TX2) (N := 7) (ci := 2) (fs := [.long 0, .long 0, .long 0, .long 0, .long 0, .null, .null]) F w in_X0_init_X2 tyX2_ok (by decide +kernel) (by decide +kernel) (by decide +kernel) rfl (fun j hj => by rcases (show j = 0 ∨ j = 1 ∨ j = 2 ∨ j = 3 ∨ j = 4 ∨ j = 5 ∨ j = 6 by omega) with rfl | rfl | rfl | rfl | rfl | rfl | rfl <;> rfl) (Nat.le_of_ble_eq_true rfl) (Nat.le_of_ble_eq_true rfl) dX0_init_28 (fun q_13 H w => ?_)
  have w : kW g A s [xO h 0 [.ref q_1, .int 0], xQ g q_1 4 (va_up (va_up (fun _ => none) 0 (some q_3)) 1 (some q_8)), cR q_3 u_6.1 u_6.2 sg0, xI g u_6.1 49 (zT sg0), xI g u_6.2 49 (zI sg0), cR q_8 u_11.1 u_11.2 sg0, xI g u_11.1 49 (zT sg0), xI g u_11.2 49 (zI sg0), xO q_13 2 [.long 0, .long 0, .long 0, .long 0, .long 0, .null, .null]] H locs := w
  refine lv_dup hx hb dX0_init_31 rfl ?_
  refine kcallv (wc := [xO q_13 2 [.long 0, .long 0, .long 0, .long 0, .long 0, .null, .null]]) (wr := [xO h 0 [.ref q_1, .int 0], xQ g q_1 4 (va_up (va_up (fun _ => none) 0 (some q_3)) 1 (some q_8)), cR q_3 u_6.1 u_6.2 sg0, xI g u_6.1 49 (zT sg0), xI g u_6.2 49 (zI sg0), cR q_8 u_11.1 u_11.2 sg0, xI g u_11.1 49 (zT sg0), xI g u_11.2 49 (zI sg0)]) (wn := fun (u : Nat × Nat) => [xO h 0 [.ref q_1, .int 0], xQ g q_1 4 (va_up (va_up (fun _ => none) 0 (some q_3)) 1 (some q_8)), cR q_3 u_6.1 u_6.2 sg0, xI g u_6.1 49 (zT sg0), xI g u_6.2 49 (zI sg0), cR q_8 u_11.1 u_11.2 sg0, xI g u_11.1 49 (zT sg0), xI g u_11.2 49 (zI sg0), cR q_13 u.1 u.2 sg0, xI g u.1 49 (zT sg0), xI g u.2 49 (zI sg0)]) F w [8] [0, 1, 2, 3, 4, 5, 6, 7] [0, 1, 2, 3, 4, 5, 6, 7, 8, 9, 10] rfl rfl rfl (fun _ => rfl)
    (fun hp => va_runI (As := []) (rest := [.ref q_13, .int (nI 2), .ref q_1]) F.1 (kX2_init l g q_13 H.size ) (cwI 0 hts gX0_init_X2_init rfl rfl rfl (hts (.initialized RX2) (by decide +kernel)) (hts (.methodLink RX0 17 yX2_init) (by decide +kernel)) (hts (.instanceMethod yX2_init) (by decide +kernel)) rfl hd_X2_init ⟨Nat.le_of_ble_eq_true rfl, Nat.le_of_ble_eq_true rfl⟩) hp rfl rfl hl.1 rfl (lv_room (Nat.le_of_ble_eq_true rfl)) dX0_init_32 ⟨Nat.le_of_ble_eq_true rfl, Nat.le_of_ble_eq_true rfl⟩)
    (fun u H locs h_15 w => ?_)
  try dsimp only at h_15
  obtain ⟨u_16, hu9⟩ : ∃ z, z = u := ⟨_, rfl⟩
  subst hu9
  have w : kW g A s [xO h 0 [.ref q_1, .int 0], xQ g q_1 4 (va_up (va_up (fun _ => none) 0 (some q_3)) 1 (some q_8)), cR q_3 u_6.1 u_6.2 sg0, xI g u_6.1 49 (zT sg0), xI g u_6.2 49 (zI sg0), cR q_8 u_11.1 u_11.2 sg0, xI g u_11.1 49 (zT sg0), xI g u_11.2 49 (zI sg0), cR q_13 u_16.1 u_16.2 sg0, xI g u_16.1 49 (zT sg0), xI g u_16.2 49 (zI sg0)] H locs := w
  refine kqast (f' := va_up (va_up (va_up (fun _ => none) 0 (some q_3)) 1 (some q_8)) 2 (some q_13)) F w 1 8 rfl rfl rfl rfl (vp_in_nI (by omega) (by omega)) (by rw [nI_clamp (n := 2) (by omega)]) (wn := [xO h 0 [.ref q_1, .int 0], xQ g q_1 4 (va_up (va_up (va_up (fun _ => none) 0 (some q_3)) 1 (some q_8)) 2 (some q_13)), cR q_3 u_6.1 u_6.2 sg0, xI g u_6.1 49 (zT sg0), xI g u_6.2 49 (zI sg0), cR q_8 u_11.1 u_11.2 sg0, xI g u_11.1 49 (zT sg0), xI g u_11.2 49 (zI sg0), cR q_13 u_16.1 u_16.2 sg0, xI g u_16.1 49 (zT sg0), xI g u_16.2 49 (zI sg0)]) rfl dX0_init_35 (fun H locs w => ?_)
  refine lv_iinc (v := nI 3) (lv' := [(1, .int (nI 3)), (0, .ref h)]) hx hb dX0_init_36 hl (k := 0) rfl (nI_add 2 1) (by decide) rfl (fun ls hl => ?_)
  refine lv_goto (tgt := 14) hx hb dX0_init_39 (by decide) ?_
  refine lv_iload_n hx hb dX0_init_14 rfl (lv_at hl 0 rfl) ?_
  refine lv_aload_n hx hb dX0_init_15 rfl (lv_at hl 1 rfl) ?_
  refine kget (fs := [.ref q_1, .int 0]) F w in_X0_init_X0 0 rfl rfl 0 (by decide) (by decide +kernel) rfl rfl dX0_init_16 ?_
  refine kalen (t0 := 2) (v := nI 4) F w 1 rfl rfl rfl dX0_init_19 ?_
  refine lv_icmp_ge (tgt := 42) hx hb dX0_init_20 (by decide) (fun h_17 => ?_) (fun h_17 => ?_)
  · exact absurd h_17 (by decide)
  refine lv_aload_n hx hb dX0_init_23 rfl (lv_at hl 1 rfl) ?_
  refine kget (fs := [.ref q_1, .int 0]) F w in_X0_init_X0 0 rfl rfl 0 (by decide) (by decide +kernel) rfl rfl dX0_init_24 ?_
  refine lv_iload_n hx hb dX0_init_27 rfl (lv_at hl 0 rfl) ?_
  refine knew (C := RX2) (T := TX2) (N := 7) (ci := 2) (fs := [.long 0, .long 0, .long 0, .long 0, .long 0, .null, .null]) F w in_X0_init_X2 tyX2_ok (by decide +kernel) (by decide +kernel) (by decide +kernel) rfl (fun j hj => by rcases (show j = 0 ∨ j = 1 ∨ j = 2 ∨ j = 3 ∨ j = 4 ∨ j = 5 ∨ j = 6 by omega) with rfl | rfl | rfl | rfl | rfl | rfl | rfl <;> rfl) (Nat.le_of_ble_eq_true rfl) (Nat.le_of_ble_eq_true rfl) dX0_init_28 (fun q_18 H w => ?_)
  have w : kW g A s [xO h 0 [.ref q_1, .int 0], xQ g q_1 4 (va_up (va_up (va_up (fun _ => none) 0 (some q_3)) 1 (some q_8)) 2 (some q_13)), cR q_3 u_6.1 u_6.2 sg0, xI g u_6.1 49 (zT sg0), xI g u_6.2 49 (zI sg0), cR q_8 u_11.1 u_11.2 sg0, xI g u_11.1 49 (zT sg0), xI g u_11.2 49 (zI sg0), cR q_13 u_16.1 u_16.2 sg0, xI g u_16.1 49 (zT sg0), xI g u_16.2 49 (zI sg0), xO q_18 2 [.long 0, .long 0, .long 0, .long 0, .long 0, .null, .null]] H locs := w
  refine lv_dup hx hb dX0_init_31 rfl ?_
  refine kcallv (wc := [xO q_18 2 [.long 0, .long 0, .long 0, .long 0, .long 0, .null, .null]]) (wr := [xO h 0 [.ref q_1, .int 0], xQ g q_1 4 (va_up (va_up (va_up (fun _ => none) 0 (some q_3)) 1 (some q_8)) 2 (some q_13)), cR q_3 u_6.1 u_6.2 sg0, xI g u_6.1 49 (zT sg0), xI g u_6.2 49 (zI sg0), cR q_8 u_11.1 u_11.2 sg0, xI g u_11.1 49 (zT sg0), xI g u_11.2 49 (zI sg0), cR q_13 u_16.1 u_16.2 sg0, xI g u_16.1 49 (zT sg0), xI g u_16.2 49 (zI sg0)]) (wn := fun (u : Nat × Nat) => [xO h 0 [.ref q_1, .int 0], xQ g q_1 4 (va_up (va_up (va_up (fun _ => none) 0 (some q_3)) 1 (some q_8)) 2 (some q_13)), cR q_3 u_6.1 u_6.2 sg0, xI g u_6.1 49 (zT sg0), xI g u_6.2 49 (zI sg0), cR q_8 u_11.1 u_11.2 sg0, xI g u_11.1 49 (zT sg0), xI g u_11.2 49 (zI sg0), cR q_13 u_16.1 u_16.2 sg0, xI g u_16.1 49 (zT sg0), xI g u_16.2 49 (zI sg0), cR q_18 u.1 u.2 sg0, xI g u.1 49 (zT sg0), xI g u.2 49 (zI sg0)]) F w [11] [0, 1, 2, 3, 4, 5, 6, 7, 8, 9, 10] [0, 1, 2, 3, 4, 5, 6, 7, 8, 9, 10, 11, 12, 13] rfl rfl rfl (fun _ => rfl)
    (fun hp => va_runI (As := []) (rest := [.ref q_18, .int (nI 3), .ref q_1]) F.1 (kX2_init l g q_18 H.size ) (cwI 0 hts gX0_init_X2_init rfl rfl rfl (hts (.initialized RX2) (by decide +kernel)) (hts (.methodLink RX0 17 yX2_init) (by decide +kernel)) (hts (.instanceMethod yX2_init) (by decide +kernel)) rfl hd_X2_init ⟨Nat.le_of_ble_eq_true rfl, Nat.le_of_ble_eq_true rfl⟩) hp rfl rfl hl.1 rfl (lv_room (Nat.le_of_ble_eq_true rfl)) dX0_init_32 ⟨Nat.le_of_ble_eq_true rfl, Nat.le_of_ble_eq_true rfl⟩)
    (fun u H locs h_20 w => ?_)
  try dsimp only at h_20
  obtain ⟨u_21, hu9⟩ : ∃ z, z = u := ⟨_, rfl⟩
  subst hu9
  have w : kW g A s [xO h 0 [.ref q_1, .int 0], xQ g q_1 4 (va_up (va_up (va_up (fun _ => none) 0 (some q_3)) 1 (some q_8)) 2 (some q_13)), cR q_3 u_6.1 u_6.2 sg0, xI g u_6.1 49 (zT sg0), xI g u_6.2 49 (zI sg0), cR q_8 u_11.1 u_11.2 sg0, xI g u_11.1 49 (zT sg0), xI g u_11.2 49 (zI sg0), cR q_13 u_16.1 u_16.2 sg0, xI g u_16.1 49 (zT sg0), xI g u_16.2 49 (zI sg0), cR q_18 u_21.1 u_21.2 sg0, xI g u_21.1 49 (zT sg0), xI g u_21.2 49 (zI sg0)] H locs := w
  refine kqast (f' := va_up (va_up (va_up (va_up (fun _ => none) 0 (some q_3)) 1 (some q_8)) 2 (some q_13)) 3 (some q_18)) F w 1 11 rfl rfl rfl rfl (vp_in_nI (by omega) (by omega)) (by rw [nI_clamp (n := 3) (by omega)]) (wn := [xO h 0 [.ref q_1, .int 0], xQ g q_1 4 (va_up (va_up (va_up (va_up (fun _ => none) 0 (some q_3)) 1 (some q_8)) 2 (some q_13)) 3 (some q_18)), cR q_3 u_6.1 u_6.2 sg0, xI g u_6.1 49 (zT sg0), xI g u_6.2 49 (zI sg0), cR q_8 u_11.1 u_11.2 sg0, xI g u_11.1 49 (zT sg0), xI g u_11.2 49 (zI sg0), cR q_13 u_16.1 u_16.2 sg0, xI g u_16.1 49 (zT sg0), xI g u_16.2 49 (zI sg0), cR q_18 u_21.1 u_21.2 sg0, xI g u_21.1 49 (zT sg0), xI g u_21.2 49 (zI sg0)]) rfl dX0_init_35 (fun H locs w => ?_)
  refine lv_iinc (v := nI 4) (lv' := [(1, .int (nI 4)), (0, .ref h)]) hx hb dX0_init_36 hl (k := 0) rfl (nI_add 3 1) (by decide) rfl (fun ls hl => ?_)
  refine lv_goto (tgt := 14) hx hb dX0_init_39 (by decide) ?_
  refine lv_iload_n hx hb dX0_init_14 rfl (lv_at hl 0 rfl) ?_
  refine lv_aload_n hx hb dX0_init_15 rfl (lv_at hl 1 rfl) ?_
  refine kget (fs := [.ref q_1, .int 0]) F w in_X0_init_X0 0 rfl rfl 0 (by decide) (by decide +kernel) rfl rfl dX0_init_16 ?_
  refine kalen (t0 := 2) (v := nI 4) F w 1 rfl rfl rfl dX0_init_19 ?_
  refine lv_icmp_ge (tgt := 42) hx hb dX0_init_20 (by decide) (fun h_22 => ?_) (fun h_22 => ?_)
  rotate_left 1
  · exact absurd h_22 (by decide)
  have w : kW g A s [xO h 0 [.ref q_1, .int 0], xQ g q_1 4 (rq (vl [q_3, q_8, q_13, q_18])), cR q_3 u_6.1 u_6.2 sg0, xI g u_6.1 49 (zT sg0), xI g u_6.2 49 (zI sg0), cR q_8 u_11.1 u_11.2 sg0, xI g u_11.1 49 (zT sg0), xI g u_11.2 49 (zI sg0), cR q_13 u_16.1 u_16.2 sg0, xI g u_16.1 49 (zT sg0), xI g u_16.2 49 (zI sg0), cR q_18 u_21.1 u_21.2 sg0, xI g u_21.1 49 (zT sg0), xI g u_21.2 49 (zI sg0)] H locs := kW.arrQ w 1 rfl (fun j hj => by rcases (show j = 0 ∨ j = 1 ∨ j = 2 ∨ j = 3 by omega) with rfl | rfl | rfl | rfl <;> rfl) rfl
  have w : kW g A s [cH h q_1 0, xQ g q_1 4 (rq (vl [q_3, q_8, q_13, q_18])), cR ((vl [q_3, q_8, q_13, q_18]) 0) ((vl [u_6.1, u_11.1, u_16.1, u_21.1]) 0) ((vl [u_6.2, u_11.2, u_16.2, u_21.2]) 0) (sgs 0), xI g ((vl [u_6.1, u_11.1, u_16.1, u_21.1]) 0) 49 (zT (sgs 0)), xI g ((vl [u_6.2, u_11.2, u_16.2, u_21.2]) 0) 49 (zI (sgs 0)), cR ((vl [q_3, q_8, q_13, q_18]) 1) ((vl [u_6.1, u_11.1, u_16.1, u_21.1]) 1) ((vl [u_6.2, u_11.2, u_16.2, u_21.2]) 1) (sgs 1), xI g ((vl [u_6.1, u_11.1, u_16.1, u_21.1]) 1) 49 (zT (sgs 1)), xI g ((vl [u_6.2, u_11.2, u_16.2, u_21.2]) 1) 49 (zI (sgs 1)), cR ((vl [q_3, q_8, q_13, q_18]) 2) ((vl [u_6.1, u_11.1, u_16.1, u_21.1]) 2) ((vl [u_6.2, u_11.2, u_16.2, u_21.2]) 2) (sgs 2), xI g ((vl [u_6.1, u_11.1, u_16.1, u_21.1]) 2) 49 (zT (sgs 2)), xI g ((vl [u_6.2, u_11.2, u_16.2, u_21.2]) 2) 49 (zI (sgs 2)), cR ((vl [q_3, q_8, q_13, q_18]) 3) ((vl [u_6.1, u_11.1, u_16.1, u_21.1]) 3) ((vl [u_6.2, u_11.2, u_16.2, u_21.2]) 3) (sgs 3), xI g ((vl [u_6.1, u_11.1, u_16.1, u_21.1]) 3) 49 (zT (sgs 3)), xI g ((vl [u_6.2, u_11.2, u_16.2, u_21.2]) 3) 49 (zI (sgs 3))] H locs := kW.perm w [0, 1, 2, 3, 4, 5, 6, 7, 8, 9, 10, 11, 12, 13] rfl rfl
  subst hA
  subst hQ
  exact kretv F w (q_1, vl [q_3, q_8, q_13, q_18], vl [u_6.1, u_11.1, u_16.1, u_21.1], vl [u_6.2, u_11.2, u_16.2, u_21.2]) [0, 1, 2, 3, 4, 5, 6, 7, 8, 9, 10, 11, 12, 13] rfl rfl (trivial) (Nat.le_of_ble_eq_true rfl) (Nat.le_of_ble_eq_true rfl) dX0_init_42
theorem in_X5_init_X0 : ∀ w ∈ wsX00, w ∈ wsX5_init := by decide +kernel
theorem in_X5_init_X2 : ∀ w ∈ wsX20, w ∈ wsX5_init := by decide +kernel
theorem in_X5_init_X3 : ∀ w ∈ wsX30, w ∈ wsX5_init := by decide +kernel
theorem in_X5_init_X4 : ∀ w ∈ wsX40, w ∈ wsX5_init := by decide +kernel
theorem in_X5_init_X5 : ∀ w ∈ wsX50, w ∈ wsX5_init := by decide +kernel
theorem hd_X0_init : yX0_init.cls ≠ "java/lang/invoke/MethodHandle" ∧ yX0_init.cls ≠ "java/lang/invoke/VarHandle" ∧ (parseMethodDescriptor yX0_init.desc).map (fun d => d.parameters.length) = some 0 := by decide +kernel
theorem hd_X3_init : yX3_init.cls ≠ "java/lang/invoke/MethodHandle" ∧ yX3_init.cls ≠ "java/lang/invoke/VarHandle" ∧ (parseMethodDescriptor yX3_init.desc).map (fun d => d.parameters.length) = some 0 := by decide +kernel
theorem hd_X4_init : yX4_init.cls ≠ "java/lang/invoke/MethodHandle" ∧ yX4_init.cls ≠ "java/lang/invoke/VarHandle" ∧ (parseMethodDescriptor yX4_init.desc).map (fun d => d.parameters.length) = some 0 := by decide +kernel
abbrev rmX5_init : Room := { frames := 3, cells := 27, slots := 814, locals := 53 }
set_option maxHeartbeats 4000000 in
set_option maxRecDepth 100000 in
theorem kX5_init (l : Launch) (g : GG) (x : Nat) (sz : Nat)  : Met l yX5_init wsX5_init rmX5_init (va_Pc [.ref x] (kPre g [xO x 5 [.null, .null, .int 0, .null, .null, .null]] sz)) (va_Qv (fun (u : (Nat → Nat) × (Nat → Nat) × (Nat → Nat) × (Nat → Nat)) => True) (kB g (va_A [xO x 5 [.null, .null, .int 0, .null, .null, .null]] sz) (fun u => [cX x (u.1 0) (u.1 1) false (u.1 2) (u.1 3) (u.1 4), cR (u.1 0) (u.1 5) (u.1 6) sg0, xI g (u.1 5) 49 (zT sg0), xI g (u.1 6) 49 (zI sg0), cR (u.1 1) (u.1 7) (u.1 8) sg0, xI g (u.1 7) 49 (zT sg0), xI g (u.1 8) 49 (zI sg0), cH (u.1 2) (u.1 9) 0, xQ g (u.1 9) 4 (rq u.2.1), cR (u.2.1 0) (u.2.2.1 0) (u.2.2.2 0) (sgs 0), xI g (u.2.2.1 0) 49 (zT (sgs 0)), xI g (u.2.2.2 0) 49 (zI (sgs 0)), cR (u.2.1 1) (u.2.2.1 1) (u.2.2.2 1) (sgs 1), xI g (u.2.2.1 1) 49 (zT (sgs 1)), xI g (u.2.2.2 1) 49 (zI (sgs 1)), cR (u.2.1 2) (u.2.2.1 2) (u.2.2.2 2) (sgs 2), xI g (u.2.2.1 2) 49 (zT (sgs 2)), xI g (u.2.2.2 2) 49 (zI (sgs 2)), cR (u.2.1 3) (u.2.2.1 3) (u.2.2.2 3) (sgs 3), xI g (u.2.2.1 3) 49 (zT (sgs 3)), xI g (u.2.2.2 3) 49 (zI (sgs 3)), cT (u.1 3) (u.1 10) 0, xC g (u.1 10) 60 (fun _ => 0), cTr (u.1 4) (u.1 11) (u.1 12) 0 0 0 0, cR (u.1 11) (u.1 13) (u.1 14) sg0, xI g (u.1 13) 49 (zT sg0), xI g (u.1 14) 49 (zI sg0), cO (u.1 12) 0 0 0 0 0])) (va_A [xO x 5 [.null, .null, .int 0, .null, .null, .null]] sz)) 27 814 (va_A [xO x 5 [.null, .null, .int 0, .null, .null, .null]] sz) := by
  refine kMet (cc := cX5_init) (maxL := 1) (ret := none) (own := RX5) (by decide) rfl rfl (Nat.le_of_ble_eq_true rfl) ?_
  intro p e s m args below meth c ls Q H locs A F w hl hnm hA hQ
  have hx := F.1.1
  have hb := F.1.2.1
  have hts := F.1.2.2.2.2
  have hl : lv_has ls 1 [(0, .ref x)] := hl
  refine lv_aload_n hx hb dX5_init_0 rfl (lv_at hl 0 rfl) ?_
  refine kobj (n := 0) F hl.1 (by decide +kernel) (by decide +kernel) (by decide +kernel) dX5_init_1 (Nat.le_of_ble_eq_true rfl) (Nat.le_of_ble_eq_true rfl) (Nat.le_of_ble_eq_true rfl) ?_
  refine lv_aload_n hx hb dX5_init_4 rfl (lv_at hl 0 rfl) ?_
  refine knew (C := RX2) (T := TX2) (N := 7) (ci := 2) (fs := [.long 0, .long 0, .long 0, .long 0, .long 0, .null, .null]) F w in_X5_init_X2 tyX2_ok (by decide +kernel) (by decide +kernel) (by decide +kernel) rfl (fun j hj => by rcases (show j = 0 ∨ j = 1 ∨ j = 2 ∨ j = 3 ∨ j = 4 ∨ j = 5 ∨ j = 6 by omega) with rfl | rfl | rfl | rfl | rfl | rfl | rfl <;> rfl) (Nat.le_of_ble_eq_true rfl) (Nat.le_of_ble_eq_true rfl) dX5_init_5 (fun q_1 H w => ?_)
  have w : kW g A s [xO x 5 [.null, .null, .int 0, .null, .null, .null], xO q_1 2 [.long 0, .long 0, .long 0, .long 0, .long 0, .null, .null]] H locs := w
  refine lv_dup hx hb dX5_init_8 rfl ?_
  refine kcallv (wc := [xO q_1 2 [.long 0, .long 0, .long 0, .long 0, .long 0, .null, .null]]) (wr := [xO x 5 [.null, .null, .int 0, .null, .null, .null]]) (wn := fun (u : Nat × Nat) => [xO x 5 [.null, .null, .int 0, .null, .null, .null], cR q_1 u.1 u.2 sg0, xI g u.1 49 (zT sg0), xI g u.2 49 (zI sg0)]) F w [1] [0] [0, 1, 2, 3] rfl rfl rfl (fun _ => rfl)
    (fun hp => va_runI (As := []) (rest := [.ref q_1, .ref x]) F.1 (kX2_init l g q_1 H.size ) (cwI 0 hts gX5_init_X2_init rfl rfl rfl (hts (.initialized RX2) (by decide +kernel)) (hts (.methodLink RX5 9 yX2_init) (by decide +kernel)) (hts (.instanceMethod yX2_init) (by decide +kernel)) rfl hd_X2_init ⟨Nat.le_of_ble_eq_true rfl, Nat.le_of_ble_eq_true rfl⟩) hp rfl rfl hl.1 rfl (lv_room (Nat.le_of_ble_eq_true rfl)) dX5_init_9 ⟨Nat.le_of_ble_eq_true rfl, Nat.le_of_ble_eq_true rfl⟩)
    (fun u H locs h_3 w => ?_)
  try dsimp only at h_3
  obtain ⟨u_4, hu9⟩ : ∃ z, z = u := ⟨_, rfl⟩
  subst hu9
  have w : kW g A s [xO x 5 [.null, .null, .int 0, .null, .null, .null], cR q_1 u_4.1 u_4.2 sg0, xI g u_4.1 49 (zT sg0), xI g u_4.2 49 (zI sg0)] H locs := w
  refine kputF (fs := [.null, .null, .int 0, .null, .null, .null]) F w in_X5_init_X5 tyX5_ok nmX5 0 rfl rfl 0 (by decide) (by decide +kernel) rfl rfl hnm rfl (rfl) (rfl) (Nat.le_of_ble_eq_true rfl) (wn := [xO x 5 [.ref q_1, .null, .int 0, .null, .null, .null], cR q_1 u_4.1 u_4.2 sg0, xI g u_4.1 49 (zT sg0), xI g u_4.2 49 (zI sg0)]) rfl dX5_init_12 (fun H locs w => ?_)
  refine lv_aload_n hx hb dX5_init_15 rfl (lv_at hl 0 rfl) ?_
  refine knew (C := RX2) (T := TX2) (N := 7) (ci := 2) (fs := [.long 0, .long 0, .long 0, .long 0, .long 0, .null, .null]) F w in_X5_init_X2 tyX2_ok (by decide +kernel) (by decide +kernel) (by decide +kernel) rfl (fun j hj => by rcases (show j = 0 ∨ j = 1 ∨ j = 2 ∨ j = 3 ∨ j = 4 ∨ j = 5 ∨ j = 6 by omega) with rfl | rfl | rfl | rfl | rfl | rfl | rfl <;> rfl) (Nat.le_of_ble_eq_true rfl) (Nat.le_of_ble_eq_true rfl) dX5_init_16 (fun q_5 H w => ?_)
  have w : kW g A s [xO x 5 [.ref q_1, .null, .int 0, .null, .null, .null], cR q_1 u_4.1 u_4.2 sg0, xI g u_4.1 49 (zT sg0), xI g u_4.2 49 (zI sg0), xO q_5 2 [.long 0, .long 0, .long 0, .long 0, .long 0, .null, .null]] H locs := w
  refine lv_dup hx hb dX5_init_19 rfl ?_
  refine kcallv (wc := [xO q_5 2 [.long 0, .long 0, .long 0, .long 0, .long 0, .null, .null]]) (wr := [xO x 5 [.ref q_1, .null, .int 0, .null, .null, .null], cR q_1 u_4.1 u_4.2 sg0, xI g u_4.1 49 (zT sg0), xI g u_4.2 49 (zI sg0)]) (wn := fun (u : Nat × Nat) => [xO x 5 [.ref q_1, .null, .int 0, .null, .null, .null], cR q_1 u_4.1 u_4.2 sg0, xI g u_4.1 49 (zT sg0), xI g u_4.2 49 (zI sg0), cR q_5 u.1 u.2 sg0, xI g u.1 49 (zT sg0), xI g u.2 49 (zI sg0)]) F w [4] [0, 1, 2, 3] [0, 1, 2, 3, 4, 5, 6] rfl rfl rfl (fun _ => rfl)
    (fun hp => va_runI (As := []) (rest := [.ref q_5, .ref x]) F.1 (kX2_init l g q_5 H.size ) (cwI 0 hts gX5_init_X2_init rfl rfl rfl (hts (.initialized RX2) (by decide +kernel)) (hts (.methodLink RX5 9 yX2_init) (by decide +kernel)) (hts (.instanceMethod yX2_init) (by decide +kernel)) rfl hd_X2_init ⟨Nat.le_of_ble_eq_true rfl, Nat.le_of_ble_eq_true rfl⟩) hp rfl rfl hl.1 rfl (lv_room (Nat.le_of_ble_eq_true rfl)) dX5_init_20 ⟨Nat.le_of_ble_eq_true rfl, Nat.le_of_ble_eq_true rfl⟩)
    (fun u H locs h_7 w => ?_)
  try dsimp only at h_7
  obtain ⟨u_8, hu9⟩ : ∃ z, z = u := ⟨_, rfl⟩
  subst hu9
  have w : kW g A s [xO x 5 [.ref q_1, .null, .int 0, .null, .null, .null], cR q_1 u_4.1 u_4.2 sg0, xI g u_4.1 49 (zT sg0), xI g u_4.2 49 (zI sg0), cR q_5 u_8.1 u_8.2 sg0, xI g u_8.1 49 (zT sg0), xI g u_8.2 49 (zI sg0)] H locs := w
  refine kputF (fs := [.ref q_1, .null, .int 0, .null, .null, .null]) F w in_X5_init_X5 tyX5_ok nmX5 0 rfl rfl 1 (by decide) (by decide +kernel) rfl rfl hnm rfl (rfl) (rfl) (Nat.le_of_ble_eq_true rfl) (wn := [xO x 5 [.ref q_1, .ref q_5, .int 0, .null, .null, .null], cR q_1 u_4.1 u_4.2 sg0, xI g u_4.1 49 (zT sg0), xI g u_4.2 49 (zI sg0), cR q_5 u_8.1 u_8.2 sg0, xI g u_8.1 49 (zT sg0), xI g u_8.2 49 (zI sg0)]) rfl dX5_init_23 (fun H locs w => ?_)
  refine lv_aload_n hx hb dX5_init_26 rfl (lv_at hl 0 rfl) ?_
  refine lv_iconst (v := nI 0) hx hb dX5_init_27 (by decide) ?_
  refine ktopi (y := bI false) (by decide) ?_
  refine kput (fs := [.ref q_1, .ref q_5, .int 0, .null, .null, .null]) F w in_X5_init_X5 tyX5_ok nmX5 0 rfl rfl 2 (by decide) (by decide +kernel) rfl rfl (kz_n _) (kz_f _) (Nat.le_of_ble_eq_true rfl) (wn := [xO x 5 [.ref q_1, .ref q_5, .int (bI false), .null, .null, .null], cR q_1 u_4.1 u_4.2 sg0, xI g u_4.1 49 (zT sg0), xI g u_4.2 49 (zI sg0), cR q_5 u_8.1 u_8.2 sg0, xI g u_8.1 49 (zT sg0), xI g u_8.2 49 (zI sg0)]) rfl dX5_init_28 (fun H locs w => ?_)
  refine lv_aload_n hx hb dX5_init_31 rfl (lv_at hl 0 rfl) ?_
  refine knew (C := RX0) (T := TX0) (N := 2) (ci := 0) (fs := [.null, .int 0]) F w in_X5_init_X0 tyX0_ok (by decide +kernel) (by decide +kernel) (by decide +kernel) rfl (fun j hj => by rcases (show j = 0 ∨ j = 1 by omega) with rfl | rfl <;> rfl) (Nat.le_of_ble_eq_true rfl) (Nat.le_of_ble_eq_true rfl) dX5_init_32 (fun q_9 H w => ?_)
  have w : kW g A s [xO x 5 [.ref q_1, .ref q_5, .int (bI false), .null, .null, .null], cR q_1 u_4.1 u_4.2 sg0, xI g u_4.1 49 (zT sg0), xI g u_4.2 49 (zI sg0), cR q_5 u_8.1 u_8.2 sg0, xI g u_8.1 49 (zT sg0), xI g u_8.2 49 (zI sg0), xO q_9 0 [.null, .int 0]] H locs := w
  refine lv_dup hx hb dX5_init_35 rfl ?_
  refine kcallv (wc := [xO q_9 0 [.null, .int 0]]) (wr := [xO x 5 [.ref q_1, .ref q_5, .int (bI false), .null, .null, .null], cR q_1 u_4.1 u_4.2 sg0, xI g u_4.1 49 (zT sg0), xI g u_4.2 49 (zI sg0), cR q_5 u_8.1 u_8.2 sg0, xI g u_8.1 49 (zT sg0), xI g u_8.2 49 (zI sg0)]) (wn := fun (u : Nat × (Nat → Nat) × (Nat → Nat) × (Nat → Nat)) => [xO x 5 [.ref q_1, .ref q_5, .int (bI false), .null, .null, .null], cR q_1 u_4.1 u_4.2 sg0, xI g u_4.1 49 (zT sg0), xI g u_4.2 49 (zI sg0), cR q_5 u_8.1 u_8.2 sg0, xI g u_8.1 49 (zT sg0), xI g u_8.2 49 (zI sg0), cH q_9 u.1 0, xQ g u.1 4 (rq u.2.1), cR (u.2.1 0) (u.2.2.1 0) (u.2.2.2 0) (sgs 0), xI g (u.2.2.1 0) 49 (zT (sgs 0)), xI g (u.2.2.2 0) 49 (zI (sgs 0)), cR (u.2.1 1) (u.2.2.1 1) (u.2.2.2 1) (sgs 1), xI g (u.2.2.1 1) 49 (zT (sgs 1)), xI g (u.2.2.2 1) 49 (zI (sgs 1)), cR (u.2.1 2) (u.2.2.1 2) (u.2.2.2 2) (sgs 2), xI g (u.2.2.1 2) 49 (zT (sgs 2)), xI g (u.2.2.2 2) 49 (zI (sgs 2)), cR (u.2.1 3) (u.2.2.1 3) (u.2.2.2 3) (sgs 3), xI g (u.2.2.1 3) 49 (zT (sgs 3)), xI g (u.2.2.2 3) 49 (zI (sgs 3))]) F w [7] [0, 1, 2, 3, 4, 5, 6] [0, 1, 2, 3, 4, 5, 6, 7, 8, 9, 10, 11, 12, 13, 14, 15, 16, 17, 18, 19, 20] rfl rfl rfl (fun _ => rfl)
    (fun hp => va_runI (As := []) (rest := [.ref q_9, .ref x]) F.1 (kX0_init l g q_9 H.size ) (cwI 0 hts gX5_init_X0_init rfl rfl rfl (hts (.initialized RX0) (by decide +kernel)) (hts (.methodLink RX5 25 yX0_init) (by decide +kernel)) (hts (.instanceMethod yX0_init) (by decide +kernel)) rfl hd_X0_init ⟨Nat.le_of_ble_eq_true rfl, Nat.le_of_ble_eq_true rfl⟩) hp rfl rfl hl.1 rfl (lv_room (Nat.le_of_ble_eq_true rfl)) dX5_init_36 ⟨Nat.le_of_ble_eq_true rfl, Nat.le_of_ble_eq_true rfl⟩)
    (fun u H locs h_11 w => ?_)
  try dsimp only at h_11
  obtain ⟨u_12, hu9⟩ : ∃ z, z = u := ⟨_, rfl⟩
  subst hu9
  have w : kW g A s [xO x 5 [.ref q_1, .ref q_5, .int (bI false), .null, .null, .null], cR q_1 u_4.1 u_4.2 sg0, xI g u_4.1 49 (zT sg0), xI g u_4.2 49 (zI sg0), cR q_5 u_8.1 u_8.2 sg0, xI g u_8.1 49 (zT sg0), xI g u_8.2 49 (zI sg0), cH q_9 u_12.1 0, xQ g u_12.1 4 (rq u_12.2.1), cR (u_12.2.1 0) (u_12.2.2.1 0) (u_12.2.2.2 0) (sgs 0), xI g (u_12.2.2.1 0) 49 (zT (sgs 0)), xI g (u_12.2.2.2 0) 49 (zI (sgs 0)), cR (u_12.2.1 1) (u_12.2.2.1 1) (u_12.2.2.2 1) (sgs 1), xI g (u_12.2.2.1 1) 49 (zT (sgs 1)), xI g (u_12.2.2.2 1) 49 (zI (sgs 1)), cR (u_12.2.1 2) (u_12.2.2.1 2) (u_12.2.2.2 2) (sgs 2), xI g (u_12.2.2.1 2) 49 (zT (sgs 2)), xI g (u_12.2.2.2 2) 49 (zI (sgs 2)), cR (u_12.2.1 3) (u_12.2.2.1 3) (u_12.2.2.2 3) (sgs 3), xI g (u_12.2.2.1 3) 49 (zT (sgs 3)), xI g (u_12.2.2.2 3) 49 (zI (sgs 3))] H locs := w
  refine kputF (fs := [.ref q_1, .ref q_5, .int (bI false), .null, .null, .null]) F w in_X5_init_X5 tyX5_ok nmX5 0 rfl rfl 3 (by decide) (by decide +kernel) rfl rfl hnm rfl (rfl) (rfl) (Nat.le_of_ble_eq_true rfl) (wn := [xO x 5 [.ref q_1, .ref q_5, .int (bI false), .ref q_9, .null, .null], cR q_1 u_4.1 u_4.2 sg0, xI g u_4.1 49 (zT sg0), xI g u_4.2 49 (zI sg0), cR q_5 u_8.1 u_8.2 sg0, xI g u_8.1 49 (zT sg0), xI g u_8.2 49 (zI sg0), cH q_9 u_12.1 0, xQ g u_12.1 4 (rq u_12.2.1), cR (u_12.2.1 0) (u_12.2.2.1 0) (u_12.2.2.2 0) (sgs 0), xI g (u_12.2.2.1 0) 49 (zT (sgs 0)), xI g (u_12.2.2.2 0) 49 (zI (sgs 0)), cR (u_12.2.1 1) (u_12.2.2.1 1) (u_12.2.2.2 1) (sgs 1), xI g (u_12.2.2.1 1) 49 (zT (sgs 1)), xI g (u_12.2.2.2 1) 49 (zI (sgs 1)), cR (u_12.2.1 2) (u_12.2.2.1 2) (u_12.2.2.2 2) (sgs 2), xI g (u_12.2.2.1 2) 49 (zT (sgs 2)), xI g (u_12.2.2.2 2) 49 (zI (sgs 2)), cR (u_12.2.1 3) (u_12.2.2.1 3) (u_12.2.2.2 3) (sgs 3), xI g (u_12.2.2.1 3) 49 (zT (sgs 3)), xI g (u_12.2.2.2 3) 49 (zI (sgs 3))]) rfl dX5_init_39 (fun H locs w => ?_)
  refine lv_aload_n hx hb dX5_init_42 rfl (lv_at hl 0 rfl) ?_
  refine knew (C := RX3) (T := TX3) (N := 2) (ci := 3) (fs := [.null, .int 0]) F w in_X5_init_X3 tyX3_ok (by decide +kernel) (by decide +kernel) (by decide +kernel) rfl (fun j hj => by rcases (show j = 0 ∨ j = 1 by omega) with rfl | rfl <;> rfl) (Nat.le_of_ble_eq_true rfl) (Nat.le_of_ble_eq_true rfl) dX5_init_43 (fun q_13 H w => ?_)
  have w : kW g A s [xO x 5 [.ref q_1, .ref q_5, .int (bI false), .ref q_9, .null, .null], cR q_1 u_4.1 u_4.2 sg0, xI g u_4.1 49 (zT sg0), xI g u_4.2 49 (zI sg0), cR q_5 u_8.1 u_8.2 sg0, xI g u_8.1 49 (zT sg0), xI g u_8.2 49 (zI sg0), cH q_9 u_12.1 0, xQ g u_12.1 4 (rq u_12.2.1), cR (u_12.2.1 0) (u_12.2.2.1 0) (u_12.2.2.2 0) (sgs 0), xI g (u_12.2.2.1 0) 49 (zT (sgs 0)), xI g (u_12.2.2.2 0) 49 (zI (sgs 0)), cR (u_12.2.1 1) (u_12.2.2.1 1) (u_12.2.2.2 1) (sgs 1), xI g (u_12.2.2.1 1) 49 (zT (sgs 1)), xI g (u_12.2.2.2 1) 49 (zI (sgs 1)), cR (u_12.2.1 2) (u_12.2.2.1 2) (u_12.2.2.2 2) (sgs 2), xI g (u_12.2.2.1 2) 49 (zT (sgs 2)), xI g (u_12.2.2.2 2) 49 (zI (sgs 2)), cR (u_12.2.1 3) (u_12.2.2.1 3) (u_12.2.2.2 3) (sgs 3), xI g (u_12.2.2.1 3) 49 (zT (sgs 3)), xI g (u_12.2.2.2 3) 49 (zI (sgs 3)), xO q_13 3 [.null, .int 0]] H locs := w
  refine lv_dup hx hb dX5_init_46 rfl ?_
  refine kcallv (wc := [xO q_13 3 [.null, .int 0]]) (wr := [xO x 5 [.ref q_1, .ref q_5, .int (bI false), .ref q_9, .null, .null], cR q_1 u_4.1 u_4.2 sg0, xI g u_4.1 49 (zT sg0), xI g u_4.2 49 (zI sg0), cR q_5 u_8.1 u_8.2 sg0, xI g u_8.1 49 (zT sg0), xI g u_8.2 49 (zI sg0), cH q_9 u_12.1 0, xQ g u_12.1 4 (rq u_12.2.1), cR (u_12.2.1 0) (u_12.2.2.1 0) (u_12.2.2.2 0) (sgs 0), xI g (u_12.2.2.1 0) 49 (zT (sgs 0)), xI g (u_12.2.2.2 0) 49 (zI (sgs 0)), cR (u_12.2.1 1) (u_12.2.2.1 1) (u_12.2.2.2 1) (sgs 1), xI g (u_12.2.2.1 1) 49 (zT (sgs 1)), xI g (u_12.2.2.2 1) 49 (zI (sgs 1)), cR (u_12.2.1 2) (u_12.2.2.1 2) (u_12.2.2.2 2) (sgs 2), xI g (u_12.2.2.1 2) 49 (zT (sgs 2)), xI g (u_12.2.2.2 2) 49 (zI (sgs 2)), cR (u_12.2.1 3) (u_12.2.2.1 3) (u_12.2.2.2 3) (sgs 3), xI g (u_12.2.2.1 3) 49 (zT (sgs 3)), xI g (u_12.2.2.2 3) 49 (zI (sgs 3))]) (wn := fun (u : Nat) => [xO x 5 [.ref q_1, .ref q_5, .int (bI false), .ref q_9, .null, .null], cR q_1 u_4.1 u_4.2 sg0, xI g u_4.1 49 (zT sg0), xI g u_4.2 49 (zI sg0), cR q_5 u_8.1 u_8.2 sg0, xI g u_8.1 49 (zT sg0), xI g u_8.2 49 (zI sg0), cH q_9 u_12.1 0, xQ g u_12.1 4 (rq u_12.2.1), cR (u_12.2.1 0) (u_12.2.2.1 0) (u_12.2.2.2 0) (sgs 0), xI g (u_12.2.2.1 0) 49 (zT (sgs 0)), xI g (u_12.2.2.2 0) 49 (zI (sgs 0)), cR (u_12.2.1 1) (u_12.2.2.1 1) (u_12.2.2.2 1) (sgs 1), xI g (u_12.2.2.1 1) 49 (zT (sgs 1)), xI g (u_12.2.2.2 1) 49 (zI (sgs 1)), cR (u_12.2.1 2) (u_12.2.2.1 2) (u_12.2.2.2 2) (sgs 2), xI g (u_12.2.2.1 2) 49 (zT (sgs 2)), xI g (u_12.2.2.2 2) 49 (zI (sgs 2)), cR (u_12.2.1 3) (u_12.2.2.1 3) (u_12.2.2.2 3) (sgs 3), xI g (u_12.2.2.1 3) 49 (zT (sgs 3)), xI g (u_12.2.2.2 3) 49 (zI (sgs 3)), cT q_13 u 0, xC g u 60 (fun _ => 0)]) F w [21] [0, 1, 2, 3, 4, 5, 6, 7, 8, 9, 10, 11, 12, 13, 14, 15, 16, 17, 18, 19, 20] [0, 1, 2, 3, 4, 5, 6, 7, 8, 9, 10, 11, 12, 13, 14, 15, 16, 17, 18, 19, 20, 21, 22] rfl rfl rfl (fun _ => rfl)
    (fun hp => va_runI (As := []) (rest := [.ref q_13, .ref x]) F.1 (kX3_init l g q_13 H.size ) (cwI 0 hts gX5_init_X3_init rfl rfl rfl (hts (.initialized RX3) (by decide +kernel)) (hts (.methodLink RX5 32 yX3_init) (by decide +kernel)) (hts (.instanceMethod yX3_init) (by decide +kernel)) rfl hd_X3_init ⟨Nat.le_of_ble_eq_true rfl, Nat.le_of_ble_eq_true rfl⟩) hp rfl rfl hl.1 rfl (lv_room (Nat.le_of_ble_eq_true rfl)) dX5_init_47 ⟨Nat.le_of_ble_eq_true rfl, Nat.le_of_ble_eq_true rfl⟩)
    (fun u H locs h_15 w => ?_)
  try dsimp only at h_15
  obtain ⟨u_16, hu9⟩ : ∃ z, z = u := ⟨_, rfl⟩
  subst hu9
  have w : kW g A s [xO x 5 [.ref q_1, .ref q_5, .int (bI false), .ref q_9, .null, .null], cR q_1 u_4.1 u_4.2 sg0, xI g u_4.1 49 (zT sg0), xI g u_4.2 49 (zI sg0), cR q_5 u_8.1 u_8.2 sg0, xI g u_8.1 49 (zT sg0), xI g u_8.2 49 (zI sg0), cH q_9 u_12.1 0, xQ g u_12.1 4 (rq u_12.2.1), cR (u_12.2.1 0) (u_12.2.2.1 0) (u_12.2.2.2 0) (sgs 0), xI g (u_12.2.2.1 0) 49 (zT (sgs 0)), xI g (u_12.2.2.2 0) 49 (zI (sgs 0)), cR (u_12.2.1 1) (u_12.2.2.1 1) (u_12.2.2.2 1) (sgs 1), xI g (u_12.2.2.1 1) 49 (zT (sgs 1)), xI g (u_12.2.2.2 1) 49 (zI (sgs 1)), cR (u_12.2.1 2) (u_12.2.2.1 2) (u_12.2.2.2 2) (sgs 2), xI g (u_12.2.2.1 2) 49 (zT (sgs 2)), xI g (u_12.2.2.2 2) 49 (zI (sgs 2)), cR (u_12.2.1 3) (u_12.2.2.1 3) (u_12.2.2.2 3) (sgs 3), xI g (u_12.2.2.1 3) 49 (zT (sgs 3)), xI g (u_12.2.2.2 3) 49 (zI (sgs 3)), cT q_13 u_16 0, xC g u_16 60 (fun _ => 0)] H locs := w
  refine kputF (fs := [.ref q_1, .ref q_5, .int (bI false), .ref q_9, .null, .null]) F w in_X5_init_X5 tyX5_ok nmX5 0 rfl rfl 4 (by decide) (by decide +kernel) rfl rfl hnm rfl (rfl) (rfl) (Nat.le_of_ble_eq_true rfl) (wn := [xO x 5 [.ref q_1, .ref q_5, .int (bI false), .ref q_9, .ref q_13, .null], cR q_1 u_4.1 u_4.2 sg0, xI g u_4.1 49 (zT sg0), xI g u_4.2 49 (zI sg0), cR q_5 u_8.1 u_8.2 sg0, xI g u_8.1 49 (zT sg0), xI g u_8.2 49 (zI sg0), cH q_9 u_12.1 0, xQ g u_12.1 4 (rq u_12.2.1), cR (u_12.2.1 0) (u_12.2.2.1 0) (u_12.2.2.2 0) (sgs 0), xI g (u_12.2.2.1 0) 49 (zT (sgs 0)), xI g (u_12.2.2.2 0) 49 (zI (sgs 0)), cR (u_12.2.1 1) (u_12.2.2.1 1) (u_12.2.2.2 1) (sgs 1), xI g (u_12.2.2.1 1) 49 (zT (sgs 1)), xI g (u_12.2.2.2 1) 49 (zI (sgs 1)), cR (u_12.2.1 2) (u_12.2.2.1 2) (u_12.2.2.2 2) (sgs 2), xI g (u_12.2.2.1 2) 49 (zT (sgs 2)), xI g (u_12.2.2.2 2) 49 (zI (sgs 2)), cR (u_12.2.1 3) (u_12.2.2.1 3) (u_12.2.2.2 3) (sgs 3), xI g (u_12.2.2.1 3) 49 (zT (sgs 3)), xI g (u_12.2.2.2 3) 49 (zI (sgs 3)), cT q_13 u_16 0, xC g u_16 60 (fun _ => 0)]) rfl dX5_init_50 (fun H locs w => ?_)
  refine lv_aload_n hx hb dX5_init_53 rfl (lv_at hl 0 rfl) ?_
  refine knew (C := RX4) (T := TX4) (N := 6) (ci := 4) (fs := [.null, .null, .int 0, .int 0, .int 0, .int 0]) F w in_X5_init_X4 tyX4_ok (by decide +kernel) (by decide +kernel) (by decide +kernel) rfl (fun j hj => by rcases (show j = 0 ∨ j = 1 ∨ j = 2 ∨ j = 3 ∨ j = 4 ∨ j = 5 by omega) with rfl | rfl | rfl | rfl | rfl | rfl <;> rfl) (Nat.le_of_ble_eq_true rfl) (Nat.le_of_ble_eq_true rfl) dX5_init_54 (fun q_17 H w => ?_)
  have w : kW g A s [xO x 5 [.ref q_1, .ref q_5, .int (bI false), .ref q_9, .ref q_13, .null], cR q_1 u_4.1 u_4.2 sg0, xI g u_4.1 49 (zT sg0), xI g u_4.2 49 (zI sg0), cR q_5 u_8.1 u_8.2 sg0, xI g u_8.1 49 (zT sg0), xI g u_8.2 49 (zI sg0), cH q_9 u_12.1 0, xQ g u_12.1 4 (rq u_12.2.1), cR (u_12.2.1 0) (u_12.2.2.1 0) (u_12.2.2.2 0) (sgs 0), xI g (u_12.2.2.1 0) 49 (zT (sgs 0)), xI g (u_12.2.2.2 0) 49 (zI (sgs 0)), cR (u_12.2.1 1) (u_12.2.2.1 1) (u_12.2.2.2 1) (sgs 1), xI g (u_12.2.2.1 1) 49 (zT (sgs 1)), xI g (u_12.2.2.2 1) 49 (zI (sgs 1)), cR (u_12.2.1 2) (u_12.2.2.1 2) (u_12.2.2.2 2) (sgs 2), xI g (u_12.2.2.1 2) 49 (zT (sgs 2)), xI g (u_12.2.2.2 2) 49 (zI (sgs 2)), cR (u_12.2.1 3) (u_12.2.2.1 3) (u_12.2.2.2 3) (sgs 3), xI g (u_12.2.2.1 3) 49 (zT (sgs 3)), xI g (u_12.2.2.2 3) 49 (zI (sgs 3)), cT q_13 u_16 0, xC g u_16 60 (fun _ => 0), xO q_17 4 [.null, .null, .int 0, .int 0, .int 0, .int 0]] H locs := w
  refine lv_dup hx hb dX5_init_57 rfl ?_
  refine kcallv (wc := [xO q_17 4 [.null, .null, .int 0, .int 0, .int 0, .int 0]]) (wr := [xO x 5 [.ref q_1, .ref q_5, .int (bI false), .ref q_9, .ref q_13, .null], cR q_1 u_4.1 u_4.2 sg0, xI g u_4.1 49 (zT sg0), xI g u_4.2 49 (zI sg0), cR q_5 u_8.1 u_8.2 sg0, xI g u_8.1 49 (zT sg0), xI g u_8.2 49 (zI sg0), cH q_9 u_12.1 0, xQ g u_12.1 4 (rq u_12.2.1), cR (u_12.2.1 0) (u_12.2.2.1 0) (u_12.2.2.2 0) (sgs 0), xI g (u_12.2.2.1 0) 49 (zT (sgs 0)), xI g (u_12.2.2.2 0) 49 (zI (sgs 0)), cR (u_12.2.1 1) (u_12.2.2.1 1) (u_12.2.2.2 1) (sgs 1), xI g (u_12.2.2.1 1) 49 (zT (sgs 1)), xI g (u_12.2.2.2 1) 49 (zI (sgs 1)), cR (u_12.2.1 2) (u_12.2.2.1 2) (u_12.2.2.2 2) (sgs 2), xI g (u_12.2.2.1 2) 49 (zT (sgs 2)), xI g (u_12.2.2.2 2) 49 (zI (sgs 2)), cR (u_12.2.1 3) (u_12.2.2.1 3) (u_12.2.2.2 3) (sgs 3), xI g (u_12.2.2.1 3) 49 (zT (sgs 3)), xI g (u_12.2.2.2 3) 49 (zI (sgs 3)), cT q_13 u_16 0, xC g u_16 60 (fun _ => 0)]) (wn := fun (u : Nat × Nat × Nat × Nat) => [xO x 5 [.ref q_1, .ref q_5, .int (bI false), .ref q_9, .ref q_13, .null], cR q_1 u_4.1 u_4.2 sg0, xI g u_4.1 49 (zT sg0), xI g u_4.2 49 (zI sg0), cR q_5 u_8.1 u_8.2 sg0, xI g u_8.1 49 (zT sg0), xI g u_8.2 49 (zI sg0), cH q_9 u_12.1 0, xQ g u_12.1 4 (rq u_12.2.1), cR (u_12.2.1 0) (u_12.2.2.1 0) (u_12.2.2.2 0) (sgs 0), xI g (u_12.2.2.1 0) 49 (zT (sgs 0)), xI g (u_12.2.2.2 0) 49 (zI (sgs 0)), cR (u_12.2.1 1) (u_12.2.2.1 1) (u_12.2.2.2 1) (sgs 1), xI g (u_12.2.2.1 1) 49 (zT (sgs 1)), xI g (u_12.2.2.2 1) 49 (zI (sgs 1)), cR (u_12.2.1 2) (u_12.2.2.1 2) (u_12.2.2.2 2) (sgs 2), xI g (u_12.2.2.1 2) 49 (zT (sgs 2)), xI g (u_12.2.2.2 2) 49 (zI (sgs 2)), cR (u_12.2.1 3) (u_12.2.2.1 3) (u_12.2.2.2 3) (sgs 3), xI g (u_12.2.2.1 3) 49 (zT (sgs 3)), xI g (u_12.2.2.2 3) 49 (zI (sgs 3)), cT q_13 u_16 0, xC g u_16 60 (fun _ => 0), cTr q_17 u.1 u.2.2.2 0 0 0 0, cR u.1 u.2.1 u.2.2.1 sg0, xI g u.2.1 49 (zT sg0), xI g u.2.2.1 49 (zI sg0), cO u.2.2.2 0 0 0 0 0]) F w [23] [0, 1, 2, 3, 4, 5, 6, 7, 8, 9, 10, 11, 12, 13, 14, 15, 16, 17, 18, 19, 20, 21, 22] [0, 1, 2, 3, 4, 5, 6, 7, 8, 9, 10, 11, 12, 13, 14, 15, 16, 17, 18, 19, 20, 21, 22, 23, 24, 25, 26, 27] rfl rfl rfl (fun _ => rfl)
    (fun hp => va_runI (As := []) (rest := [.ref q_17, .ref x]) F.1 (kX4_init l g q_17 H.size ) (cwI 0 hts gX5_init_X4_init rfl rfl rfl (hts (.initialized RX4) (by decide +kernel)) (hts (.methodLink RX5 39 yX4_init) (by decide +kernel)) (hts (.instanceMethod yX4_init) (by decide +kernel)) rfl hd_X4_init ⟨Nat.le_of_ble_eq_true rfl, Nat.le_of_ble_eq_true rfl⟩) hp rfl rfl hl.1 rfl (lv_room (Nat.le_of_ble_eq_true rfl)) dX5_init_58 ⟨Nat.le_of_ble_eq_true rfl, Nat.le_of_ble_eq_true rfl⟩)
    (fun u H locs h_19 w => ?_)
  try dsimp only at h_19
  obtain ⟨u_20, hu9⟩ : ∃ z, z = u := ⟨_, rfl⟩
  subst hu9
  have w : kW g A s [xO x 5 [.ref q_1, .ref q_5, .int (bI false), .ref q_9, .ref q_13, .null], cR q_1 u_4.1 u_4.2 sg0, xI g u_4.1 49 (zT sg0), xI g u_4.2 49 (zI sg0), cR q_5 u_8.1 u_8.2 sg0, xI g u_8.1 49 (zT sg0), xI g u_8.2 49 (zI sg0), cH q_9 u_12.1 0, xQ g u_12.1 4 (rq u_12.2.1), cR (u_12.2.1 0) (u_12.2.2.1 0) (u_12.2.2.2 0) (sgs 0), xI g (u_12.2.2.1 0) 49 (zT (sgs 0)), xI g (u_12.2.2.2 0) 49 (zI (sgs 0)), cR (u_12.2.1 1) (u_12.2.2.1 1) (u_12.2.2.2 1) (sgs 1), xI g (u_12.2.2.1 1) 49 (zT (sgs 1)), xI g (u_12.2.2.2 1) 49 (zI (sgs 1)), cR (u_12.2.1 2) (u_12.2.2.1 2) (u_12.2.2.2 2) (sgs 2), xI g (u_12.2.2.1 2) 49 (zT (sgs 2)), xI g (u_12.2.2.2 2) 49 (zI (sgs 2)), cR (u_12.2.1 3) (u_12.2.2.1 3) (u_12.2.2.2 3) (sgs 3), xI g (u_12.2.2.1 3) 49 (zT (sgs 3)), xI g (u_12.2.2.2 3) 49 (zI (sgs 3)), cT q_13 u_16 0, xC g u_16 60 (fun _ => 0), cTr q_17 u_20.1 u_20.2.2.2 0 0 0 0, cR u_20.1 u_20.2.1 u_20.2.2.1 sg0, xI g u_20.2.1 49 (zT sg0), xI g u_20.2.2.1 49 (zI sg0), cO u_20.2.2.2 0 0 0 0 0] H locs := w
  refine kputF (fs := [.ref q_1, .ref q_5, .int (bI false), .ref q_9, .ref q_13, .null]) F w in_X5_init_X5 tyX5_ok nmX5 0 rfl rfl 5 (by decide) (by decide +kernel) rfl rfl hnm rfl (rfl) (rfl) (Nat.le_of_ble_eq_true rfl) (wn := [xO x 5 [.ref q_1, .ref q_5, .int (bI false), .ref q_9, .ref q_13, .ref q_17], cR q_1 u_4.1 u_4.2 sg0, xI g u_4.1 49 (zT sg0), xI g u_4.2 49 (zI sg0), cR q_5 u_8.1 u_8.2 sg0, xI g u_8.1 49 (zT sg0), xI g u_8.2 49 (zI sg0), cH q_9 u_12.1 0, xQ g u_12.1 4 (rq u_12.2.1), cR (u_12.2.1 0) (u_12.2.2.1 0) (u_12.2.2.2 0) (sgs 0), xI g (u_12.2.2.1 0) 49 (zT (sgs 0)), xI g (u_12.2.2.2 0) 49 (zI (sgs 0)), cR (u_12.2.1 1) (u_12.2.2.1 1) (u_12.2.2.2 1) (sgs 1), xI g (u_12.2.2.1 1) 49 (zT (sgs 1)), xI g (u_12.2.2.2 1) 49 (zI (sgs 1)), cR (u_12.2.1 2) (u_12.2.2.1 2) (u_12.2.2.2 2) (sgs 2), xI g (u_12.2.2.1 2) 49 (zT (sgs 2)), xI g (u_12.2.2.2 2) 49 (zI (sgs 2)), cR (u_12.2.1 3) (u_12.2.2.1 3) (u_12.2.2.2 3) (sgs 3), xI g (u_12.2.2.1 3) 49 (zT (sgs 3)), xI g (u_12.2.2.2 3) 49 (zI (sgs 3)), cT q_13 u_16 0, xC g u_16 60 (fun _ => 0), cTr q_17 u_20.1 u_20.2.2.2 0 0 0 0, cR u_20.1 u_20.2.1 u_20.2.2.1 sg0, xI g u_20.2.1 49 (zT sg0), xI g u_20.2.2.1 49 (zI sg0), cO u_20.2.2.2 0 0 0 0 0]) rfl dX5_init_61 (fun H locs w => ?_)
  have w : kW g A s [cX x ((vl [q_1, q_5, q_9, q_13, q_17, u_4.1, u_4.2, u_8.1, u_8.2, u_12.1, u_16, u_20.1, u_20.2.2.2, u_20.2.1, u_20.2.2.1]) 0) ((vl [q_1, q_5, q_9, q_13, q_17, u_4.1, u_4.2, u_8.1, u_8.2, u_12.1, u_16, u_20.1, u_20.2.2.2, u_20.2.1, u_20.2.2.1]) 1) false ((vl [q_1, q_5, q_9, q_13, q_17, u_4.1, u_4.2, u_8.1, u_8.2, u_12.1, u_16, u_20.1, u_20.2.2.2, u_20.2.1, u_20.2.2.1]) 2) ((vl [q_1, q_5, q_9, q_13, q_17, u_4.1, u_4.2, u_8.1, u_8.2, u_12.1, u_16, u_20.1, u_20.2.2.2, u_20.2.1, u_20.2.2.1]) 3) ((vl [q_1, q_5, q_9, q_13, q_17, u_4.1, u_4.2, u_8.1, u_8.2, u_12.1, u_16, u_20.1, u_20.2.2.2, u_20.2.1, u_20.2.2.1]) 4), cR ((vl [q_1, q_5, q_9, q_13, q_17, u_4.1, u_4.2, u_8.1, u_8.2, u_12.1, u_16, u_20.1, u_20.2.2.2, u_20.2.1, u_20.2.2.1]) 0) ((vl [q_1, q_5, q_9, q_13, q_17, u_4.1, u_4.2, u_8.1, u_8.2, u_12.1, u_16, u_20.1, u_20.2.2.2, u_20.2.1, u_20.2.2.1]) 5) ((vl [q_1, q_5, q_9, q_13, q_17, u_4.1, u_4.2, u_8.1, u_8.2, u_12.1, u_16, u_20.1, u_20.2.2.2, u_20.2.1, u_20.2.2.1]) 6) sg0, xI g ((vl [q_1, q_5, q_9, q_13, q_17, u_4.1, u_4.2, u_8.1, u_8.2, u_12.1, u_16, u_20.1, u_20.2.2.2, u_20.2.1, u_20.2.2.1]) 5) 49 (zT sg0), xI g ((vl [q_1, q_5, q_9, q_13, q_17, u_4.1, u_4.2, u_8.1, u_8.2, u_12.1, u_16, u_20.1, u_20.2.2.2, u_20.2.1, u_20.2.2.1]) 6) 49 (zI sg0), cR ((vl [q_1, q_5, q_9, q_13, q_17, u_4.1, u_4.2, u_8.1, u_8.2, u_12.1, u_16, u_20.1, u_20.2.2.2, u_20.2.1, u_20.2.2.1]) 1) ((vl [q_1, q_5, q_9, q_13, q_17, u_4.1, u_4.2, u_8.1, u_8.2, u_12.1, u_16, u_20.1, u_20.2.2.2, u_20.2.1, u_20.2.2.1]) 7) ((vl [q_1, q_5, q_9, q_13, q_17, u_4.1, u_4.2, u_8.1, u_8.2, u_12.1, u_16, u_20.1, u_20.2.2.2, u_20.2.1, u_20.2.2.1]) 8) sg0, xI g ((vl [q_1, q_5, q_9, q_13, q_17, u_4.1, u_4.2, u_8.1, u_8.2, u_12.1, u_16, u_20.1, u_20.2.2.2, u_20.2.1, u_20.2.2.1]) 7) 49 (zT sg0), xI g ((vl [q_1, q_5, q_9, q_13, q_17, u_4.1, u_4.2, u_8.1, u_8.2, u_12.1, u_16, u_20.1, u_20.2.2.2, u_20.2.1, u_20.2.2.1]) 8) 49 (zI sg0), cH ((vl [q_1, q_5, q_9, q_13, q_17, u_4.1, u_4.2, u_8.1, u_8.2, u_12.1, u_16, u_20.1, u_20.2.2.2, u_20.2.1, u_20.2.2.1]) 2) ((vl [q_1, q_5, q_9, q_13, q_17, u_4.1, u_4.2, u_8.1, u_8.2, u_12.1, u_16, u_20.1, u_20.2.2.2, u_20.2.1, u_20.2.2.1]) 9) 0, xQ g ((vl [q_1, q_5, q_9, q_13, q_17, u_4.1, u_4.2, u_8.1, u_8.2, u_12.1, u_16, u_20.1, u_20.2.2.2, u_20.2.1, u_20.2.2.1]) 9) 4 (rq u_12.2.1), cR (u_12.2.1 0) (u_12.2.2.1 0) (u_12.2.2.2 0) (sgs 0), xI g (u_12.2.2.1 0) 49 (zT (sgs 0)), xI g (u_12.2.2.2 0) 49 (zI (sgs 0)), cR (u_12.2.1 1) (u_12.2.2.1 1) (u_12.2.2.2 1) (sgs 1), xI g (u_12.2.2.1 1) 49 (zT (sgs 1)), xI g (u_12.2.2.2 1) 49 (zI (sgs 1)), cR (u_12.2.1 2) (u_12.2.2.1 2) (u_12.2.2.2 2) (sgs 2), xI g (u_12.2.2.1 2) 49 (zT (sgs 2)), xI g (u_12.2.2.2 2) 49 (zI (sgs 2)), cR (u_12.2.1 3) (u_12.2.2.1 3) (u_12.2.2.2 3) (sgs 3), xI g (u_12.2.2.1 3) 49 (zT (sgs 3)), xI g (u_12.2.2.2 3) 49 (zI (sgs 3)), cT ((vl [q_1, q_5, q_9, q_13, q_17, u_4.1, u_4.2, u_8.1, u_8.2, u_12.1, u_16, u_20.1, u_20.2.2.2, u_20.2.1, u_20.2.2.1]) 3) ((vl [q_1, q_5, q_9, q_13, q_17, u_4.1, u_4.2, u_8.1, u_8.2, u_12.1, u_16, u_20.1, u_20.2.2.2, u_20.2.1, u_20.2.2.1]) 10) 0, xC g ((vl [q_1, q_5, q_9, q_13, q_17, u_4.1, u_4.2, u_8.1, u_8.2, u_12.1, u_16, u_20.1, u_20.2.2.2, u_20.2.1, u_20.2.2.1]) 10) 60 (fun _ => 0), cTr ((vl [q_1, q_5, q_9, q_13, q_17, u_4.1, u_4.2, u_8.1, u_8.2, u_12.1, u_16, u_20.1, u_20.2.2.2, u_20.2.1, u_20.2.2.1]) 4) ((vl [q_1, q_5, q_9, q_13, q_17, u_4.1, u_4.2, u_8.1, u_8.2, u_12.1, u_16, u_20.1, u_20.2.2.2, u_20.2.1, u_20.2.2.1]) 11) ((vl [q_1, q_5, q_9, q_13, q_17, u_4.1, u_4.2, u_8.1, u_8.2, u_12.1, u_16, u_20.1, u_20.2.2.2, u_20.2.1, u_20.2.2.1]) 12) 0 0 0 0, cR ((vl [q_1, q_5, q_9, q_13, q_17, u_4.1, u_4.2, u_8.1, u_8.2, u_12.1, u_16, u_20.1, u_20.2.2.2, u_20.2.1, u_20.2.2.1]) 11) ((vl [q_1, q_5, q_9, q_13, q_17, u_4.1, u_4.2, u_8.1, u_8.2, u_12.1, u_16, u_20.1, u_20.2.2.2, u_20.2.1, u_20.2.2.1]) 13) ((vl [q_1, q_5, q_9, q_13, q_17, u_4.1, u_4.2, u_8.1, u_8.2, u_12.1, u_16, u_20.1, u_20.2.2.2, u_20.2.1, u_20.2.2.1]) 14) sg0, xI g ((vl [q_1, q_5, q_9, q_13, q_17, u_4.1, u_4.2, u_8.1, u_8.2, u_12.1, u_16, u_20.1, u_20.2.2.2, u_20.2.1, u_20.2.2.1]) 13) 49 (zT sg0), xI g ((vl [q_1, q_5, q_9, q_13, q_17, u_4.1, u_4.2, u_8.1, u_8.2, u_12.1, u_16, u_20.1, u_20.2.2.2, u_20.2.1, u_20.2.2.1]) 14) 49 (zI sg0), cO ((vl [q_1, q_5, q_9, q_13, q_17, u_4.1, u_4.2, u_8.1, u_8.2, u_12.1, u_16, u_20.1, u_20.2.2.2, u_20.2.1, u_20.2.2.1]) 12) 0 0 0 0 0] H locs := kW.perm w [0, 1, 2, 3, 4, 5, 6, 7, 8, 9, 10, 11, 12, 13, 14, 15, 16, 17, 18, 19, 20, 21, 22, 23, 24, 25, 26, 27] rfl rfl
  subst hA
  subst hQ
  exact kretv F w (vl [q_1, q_5, q_9, q_13, q_17, u_4.1, u_4.2, u_8.1, u_8.2, u_12.1, u_16, u_20.1, u_20.2.2.2, u_20.2.1, u_20.2.2.1], u_12.2.1, u_12.2.2.1, u_12.2.2.2) [0, 1, 2, 3, 4, 5, 6, 7, 8, 9, 10, 11, 12, 13, 14, 15, 16, 17, 18, 19, 20, 21, 22, 23, 24, 25, 26, 27] rfl rfl (trivial) (Nat.le_of_ble_eq_true rfl) (Nat.le_of_ble_eq_true rfl) dX5_init_64
