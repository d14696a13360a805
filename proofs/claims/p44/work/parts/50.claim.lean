/-! ===== the law: its start ===== -/
theorem kNst_in : ∀ w ∈ kNst, w ∈ lw_tbl := by decide +kernel
theorem kStr_in : ∀ q ∈ kStr, Cond.stringRef q.1 q.2.1 q.2.2 ∈ lw_tbl := by decide +kernel
theorem kStr_own : ∀ q ∈ kStr, q.1 = RX5 := by decide +kernel
theorem kNca_in : ∀ q ∈ kNca, Cond.not (.castable q.1 q.2) ∈ flatC (Jvm.Cond.and given_1 narrow_1) := by decide +kernel
theorem kU_in : Cond.isRef (.static Bundle.tN "UNASSIGNED_STACK" Bundle.steD) ∈ flatC (Jvm.Cond.and given_1 narrow_1) := by decide +kernel
theorem kN_in : Cond.isRef (.static Bundle.tN "SUPPRESSED_SENTINEL" Bundle.listD) ∈ flatC (Jvm.Cond.and given_1 narrow_1) := by decide +kernel
theorem kArr {s : State} {args : Array Value} {ty : FieldType} (h : (Cond.arrayClass ty).before args s = true) : ∃ cA, s.vm.findClass ("[" ++ ty.toString) = some cA ∧ ArrOfT s cA ty := by
  obtain ⟨cA, kA, comp, h1, h2, h3⟩ := Cond.arrayClass_spec h
  exact ⟨cA, h1, fun n z => ⟨fun k hk => (by cases hk), kA, h2, comp, h3⟩⟩
set_option maxRecDepth 100000 in
set_option maxHeartbeats 4000000 in
theorem kstart {s : State} {b : Nat} (hts : ∀ w ∈ lw_tbl, w.before #[Value.ref b] s = true) (hgv : (Jvm.Cond.and given_1 narrow_1).before #[Value.ref b] s = true) : ∃ g : GG, kG g s ∧ kZ (fun q => s.heap.size ≤ q) s s.heap := by
  have hf := flat_of_before _ hgv
  obtain ⟨c0, i0, k0⟩ := u_known (C := RX0) (T := TX0) (N := 2) (n := 2) hts inX0 (hts (.instantiable RX0 2) (by decide +kernel))
  obtain ⟨c1, i1, k1⟩ := u_known (C := RX1) (T := TX1) (N := 5) (n := 5) hts inX1 (hts (.instantiable RX1 5) (by decide +kernel))
  obtain ⟨c2, i2, k2⟩ := u_known (C := RX2) (T := TX2) (N := 7) (n := 7) hts inX2 (hts (.instantiable RX2 7) (by decide +kernel))
  obtain ⟨c3, i3, k3⟩ := u_known (C := RX3) (T := TX3) (N := 2) (n := 2) hts inX3 (hts (.instantiable RX3 2) (by decide +kernel))
  obtain ⟨c4, i4, k4⟩ := u_known (C := RX4) (T := TX4) (N := 6) (n := 6) hts inX4 (hts (.instantiable RX4 6) (by decide +kernel))
  obtain ⟨c5, i5, k5⟩ := u_known (C := RX5) (T := TX5) (N := 6) (n := 6) hts inX5 (hts (.instantiable RX5 6) (by decide +kernel))
  obtain ⟨cI, eI, aI⟩ := kArr (hts (.arrayClass .int) (by decide +kernel))
  obtain ⟨cC, eC, aC⟩ := kArr (hts (.arrayClass .char) (by decide +kernel))
  have hao : va_AO RX2 s := va_AO.of (hts (.arrayOver (.object RX2)) (by decide +kernel))
  obtain ⟨comp, cR, kR, r1, -, r2, r3, r4⟩ := Cond.arrayOver_spec (show (Cond.arrayOver (.object RX2)).holds #[] s none s [] = true from hao)
  obtain ⟨dC, dI, hKc⟩ : ∃ (dC : Nat → ClassId) (dI : Nat → Nat → Nat), ∀ (k : Nat) (q : vw_C), vwCl[k]? = some q → u_Kn s q.1 q.2.1 q.2.2 (dC k) (dI k) := by
    refine ⟨fun k => if k = 0 then c0 else if k = 1 then c1 else if k = 2 then c2 else if k = 3 then c3 else if k = 4 then c4 else c5, fun k => if k = 0 then i0 else if k = 1 then i1 else if k = 2 then i2 else if k = 3 then i3 else if k = 4 then i4 else i5, ?_⟩
    intro k q hq
    match k, hq with
    | 0, hq => cases hq; exact k0
    | 1, hq => cases hq; exact k1
    | 2, hq => cases hq; exact k2
    | 3, hq => cases hq; exact k3
    | 4, hq => cases hq; exact k4
    | 5, hq => cases hq; exact k5
    | k + 6, hq => simp [vwCl] at hq
  refine ⟨((dC, dI), (cI, cI, cC, cR)), ⟨⟨hKc, fun k q hq => ?_⟩, fun w hw => va_Nw.of (kNst_tab w hw) (hts w (kNst_in w hw)), fun q hq => ?_, hao, fun q hq => va_Nc.of (hf _ (kNca_in q hq))⟩, ?_, ?_⟩
  · match k, hq with
    | 0, hq => cases hq; exact ⟨aI, eI⟩
    | 1, hq => cases hq; exact ⟨aC, eC⟩
    | 2, hq => cases hq; exact ⟨fun N z => ⟨(fun k h => by cases h), kR, r2, comp, r3⟩, kR, comp, r2, r3, r1, r4⟩
    | k + 3, hq => simp [gTys] at hq
  · have h := hts _ (kStr_in q hq)
    have hown : s.vm.findClass q.1 = some (dC 5) := by
      rw [kStr_own q hq]; exact (hKc 5 _ rfl).2.1
    obtain ⟨-, -, -, a, -, -, -, -, -, e⟩ := Cond.stringRef_spec hown (show (Cond.stringRef q.1 q.2.1 q.2.2).holds #[Value.ref b] s none s [] = true from h)
    exact ⟨a, vk_R.of h e⟩
  · exact vx_Zqof (hts _ (by decide +kernel)) (hts _ (by decide +kernel)) (hf _ kU_in) (fun a ha hc => absurd ha (Nat.not_lt.mpr hc))
  · exact vx_Zqof (hts _ (by decide +kernel)) (hts _ (by decide +kernel)) (hf _ kN_in) (fun a ha hc => absurd ha (Nat.not_lt.mpr hc))
/-! THE CLAIM OUT OF ONE WALK OF THE LAW'S BODY. Your part is whole_start (and what it stands on); all else here is the same for every law, but numbers. -/
def R_law : String := "DivisorLockersLaw"
def lw_P (b : Addr) (xs : List Int32) (args : Array Value) (s : State) : Prop := args = #[.ref b] ∧ s.IntsAt b xs ∧ xs.length ≤ 260 ∧ (Jvm.Cond.and given_1 narrow_1).before args s = true
/-- what a walk over the start with the record d0 says of its end, said of the start itself -/
theorem lw_closed {s t : State} {o : Outcome} {d0 : Drawn} {L : List Loc} {k n : Nat} (hd0 : s.drawn.sameBut d0 lw_cs) (hv : ∃ v, o = .returned v) (hW : (s.setDrawn d0).WarmedH t.vm) (hs : (s.setDrawn d0).sameButNew ({ t with vm := s.vm } : State) L k n) : State.butDraws s t lw_cs (fun t1 => Framed s o t1 L k n) := by
  have h2 : t.drawn = d0 := congrArg State.drawn hs.1
  refine ⟨⟨hv, hW, State.sameButNew.setDrawn hs s.drawn⟩, ?_, by decide⟩
  rw [h2]
  exact hd0
def lw_Q (_ : Array Value) (s : State) (o : Outcome) (t : State) : Prop := o = .returned (some (.int 1)) ∧ State.butDraws s t lw_cs (fun t1 => Framed s o t1 [] 610012 7271146)
def lw_Z (below : List Frame) (a : Array Value) (s : State) : State → Prop := fun t => ∃ o, t.status = .running ∧ Ended t below o ∧ lw_Q a s o t
/-- the law's own end, with 1 on the stack, nothing written that was there before, its room as the claim has it; d0: the record of draws at this point (at the entry s.drawn: begin with 'refine W.base ?_' and 'have hd0 := Drawn.sameBut.refl s.drawn lw_cs') -/
theorem lw_ret {p : Program} {l : Launch} {e : Env} {s : State} {m : MethodId} {below : List Frame} {meth : Method} {c : Code} {b : Nat} {d0 : Drawn} (hd0 : s.drawn.sameBut d0 lw_cs) (hx : p.tables.exec = Jvm.exec) (hb : c.code = code) (hr : meth.sig.returnType = ret) (hlocks : meth.locks = false) {pc : Nat} {H : Heap} {ls : Array Slot} (hdg : decode code pc = .ok (.ireturn, 1)) : W p l e room_1 (s.setDrawn d0) m #[Value.ref b] below meth c H [] 610012 7271146 (lw_Z below #[Value.ref b] s) (F0 m pc ls [.int 1]) := by
  intro T hT X
  obtain ⟨fs, hret, hrun, hended, hW, hframe⟩ := X.leave (v := some (.int 1)) (hlocks := hlocks) (fun h => by rw [hr] at h; cases h)
  have hmeth' : T.vm.method? m = some meth := X.method'
  refine ⟨T.setFrames fs, ?_, .returned (some (.int 1)), hrun, hended, rfl, lw_closed hd0 ⟨_, rfl⟩ hW hframe⟩
  jvm_step X.here [X.here.top, hx, hb, hdg, hmeth', hr, ret, narrow_b1]
  (try refine ⟨rfl, ?_⟩); (try refine ⟨rfl, ?_⟩)
  first | (intro acts; rw [hret _ acts rfl rfl rfl]) | rw [hret _ _ rfl rfl rfl]
  exact Steps.refl _
/-- what holds at the law's entry: the machine, the code, the tables' words (any of lw_tbl by 'hts w (by decide +kernel)'), the script of L ints xs at the cell b, what the Statement gives of the start (any of its parts by flat_of_before) -/
def lw_At (p : Program) (s : State) (m : MethodId) (meth : Method) (c : Code) (b L : Nat) (xs : Nat → Int32) : Prop :=
  p.tables.exec = Jvm.exec ∧ c.code = code ∧ meth.sig.returnType = ret ∧ c.maxLocals = 13 ∧ s.vm.findClass R_law = some m.cls ∧ (∀ w ∈ lw_tbl, w.before #[Value.ref b] s = true) ∧ va_X b L xs s s.heap ∧ b < s.heap.size ∧ meth.locks = false ∧ (Jvm.Cond.and given_1 narrow_1).before #[Value.ref b] s = true
theorem hd_X5_init : yX5_init.cls ≠ "java/lang/invoke/MethodHandle" ∧ yX5_init.cls ≠ "java/lang/invoke/VarHandle" ∧ (parseMethodDescriptor yX5_init.desc).map (fun d => d.parameters.length) = some 0 := by decide +kernel
set_option maxHeartbeats 4000000 in
set_option maxRecDepth 100000 in
theorem law_go {p : Program} {e : Env} {s0 : State} {m : MethodId} {below : List Frame} {meth : Method} {c : Code} {d0 : Drawn} {g : GG} {ls : Array Slot} (l : Launch) (hnl : l.stackTraces = false) {b n0 : Nat} {xs : Nat → Int32} (hn0 : n0 ≤ 260) (hd0 : s0.drawn.sameBut d0 lw_cs) (hr0 : meth.sig.returnType = ret) (hlocks : meth.locks = false) (hx : p.tables.exec = Jvm.exec) (hb : c.code = code) (hml : c.maxLocals = 13) (hown : s0.vm.findClass RL = some m.cls)
    (hts : ∀ w ∈ wsL_law, w.before #[Value.ref b] (s0.setDrawn d0) = true) (hG : kG g (s0.setDrawn d0)) (hZ : kZ (fun q => s0.heap.size ≤ q) s0 s0.heap) (hX : va_X b n0 xs s0 s0.heap) (hbl : b < s0.heap.size) (hl : lv_has ls 13 [(0, .ref b)]) :
    W p l e room_1 (s0.setDrawn d0) m #[Value.ref b] below meth c s0.heap [] 0 0 (lw_Z below #[Value.ref b] s0) (F0 m 0 ls []) := by
  obtain ⟨s, hs⟩ : ∃ z, z = s0.setDrawn d0 := ⟨_, rfl⟩
  obtain ⟨H, hH⟩ : ∃ z, z = s0.heap := ⟨_, rfl⟩
  obtain ⟨locs, hlocs⟩ : ∃ z : List Loc, z = [] := ⟨_, rfl⟩
  obtain ⟨A, hA⟩ : ∃ z : Nat → Prop, z = (fun q => s0.heap.size ≤ q) := ⟨_, rfl⟩
  have hsH : s.heap = s0.heap := by rw [hs]; rfl
  have hsV : s.vm = s0.vm := by rw [hs]; rfl
  have F : kF p m c code 13 s #[Value.ref b] wsL_law RL meth ret g A := by
    refine ⟨⟨hx, hb, hml, by rw [hsV]; exact hown, by rw [hs]; exact hts⟩, hr0, hlocks, by rw [hs]; exact hG, ?_, fun q h => by rw [hA]; rw [hsH] at h; exact h⟩
    rw [hA, hsH]
    exact kZ.moved (u := s0) (U := s) (by rw [hsV]; exact Vm.Alike.refl _) hZ
  have hts := F.1.2.2.2.2
  have w : kW g A s [] H locs := by
    refine ⟨fun k q h => by simp at h, ⟨fun i j p q h => by simp at h, fun k q h => by simp at h⟩, ?_⟩
    rw [hH, ← hsH, hlocs]
    exact va_S.rf
  have hbA : ¬ A b := by rw [hA]; exact Nat.not_le.mpr hbl
  have hXs : va_X b n0 xs s s.heap := by rw [hs]; exact hX
  have hbs : b < s.heap.size := by rw [hsH]; exact hbl
  have hend : ∀ (H : Heap) (locs : List Loc) (ls : Array Slot), (∀ z ∈ locs, A z.base) → W p l e rmL_law s m #[Value.ref b] below meth c H locs 610012 7271146 (lw_Z below #[Value.ref b] s0) (F0 m 383 ls [.int (nI 1)]) := by
    intro H locs ls hz
    refine va_forget (fun q hq => by have := hz q hq; rw [hA] at this; rw [hsH]; exact this) ?_
    rw [hs]
    exact lw_ret hd0 hx hb hr0 hlocks dL_law_383
  rw [← hs, ← hH, ← hlocs]
  refine knew (C := RX5) (T := TX5) (N := 6) (ci := 5) (fs := [.null, .null, .int 0, .null, .null, .null]) F w inlX5 tyX5_ok (by decide +kernel) (by decide +kernel) (by decide +kernel) rfl (fun j hj => by rcases (show j = 0 ∨ j = 1 ∨ j = 2 ∨ j = 3 ∨ j = 4 ∨ j = 5 by omega) with rfl | rfl | rfl | rfl | rfl | rfl <;> rfl) (Nat.le_of_ble_eq_true rfl) (Nat.le_of_ble_eq_true rfl) dL_law_0 (fun q_1 H w => ?_)
  have w : kW g A s [xO q_1 5 [.null, .null, .int 0, .null, .null, .null]] H locs := w
  refine lv_dup hx hb dL_law_3 rfl ?_
  refine kcallv (wc := [xO q_1 5 [.null, .null, .int 0, .null, .null, .null]]) (wr := []) (wn := fun (u : (Nat → Nat) × (Nat → Nat) × (Nat → Nat) × (Nat → Nat)) => [cX q_1 (u.1 0) (u.1 1) false (u.1 2) (u.1 3) (u.1 4), cR (u.1 0) (u.1 5) (u.1 6) sg0, xI g (u.1 5) 49 (zT sg0), xI g (u.1 6) 49 (zI sg0), cR (u.1 1) (u.1 7) (u.1 8) sg0, xI g (u.1 7) 49 (zT sg0), xI g (u.1 8) 49 (zI sg0), cH (u.1 2) (u.1 9) 0, xQ g (u.1 9) 4 (rq u.2.1), cR (u.2.1 0) (u.2.2.1 0) (u.2.2.2 0) (sgs 0), xI g (u.2.2.1 0) 49 (zT (sgs 0)), xI g (u.2.2.2 0) 49 (zI (sgs 0)), cR (u.2.1 1) (u.2.2.1 1) (u.2.2.2 1) (sgs 1), xI g (u.2.2.1 1) 49 (zT (sgs 1)), xI g (u.2.2.2 1) 49 (zI (sgs 1)), cR (u.2.1 2) (u.2.2.1 2) (u.2.2.2 2) (sgs 2), xI g (u.2.2.1 2) 49 (zT (sgs 2)), xI g (u.2.2.2 2) 49 (zI (sgs 2)), cR (u.2.1 3) (u.2.2.1 3) (u.2.2.2 3) (sgs 3), xI g (u.2.2.1 3) 49 (zT (sgs 3)), xI g (u.2.2.2 3) 49 (zI (sgs 3)), cT (u.1 3) (u.1 10) 0, xC g (u.1 10) 60 (fun _ => 0), cTr (u.1 4) (u.1 11) (u.1 12) 0 0 0 0, cR (u.1 11) (u.1 13) (u.1 14) sg0, xI g (u.1 13) 49 (zT sg0), xI g (u.1 14) 49 (zI sg0), cO (u.1 12) 0 0 0 0 0]) F w [0] [] [0, 1, 2, 3, 4, 5, 6, 7, 8, 9, 10, 11, 12, 13, 14, 15, 16, 17, 18, 19, 20, 21, 22, 23, 24, 25, 26, 27] rfl rfl rfl (fun _ => rfl)
    (fun hp => va_runI (As := []) (rest := [.ref q_1]) F.1 (kX5_init l g q_1 H.size ) (cwI 0 hts gL_law_X5_init rfl rfl rfl (hts (.initialized RX5) (by decide +kernel)) (hts (.methodLink RL 246 yX5_init) (by decide +kernel)) (hts (.instanceMethod yX5_init) (by decide +kernel)) rfl hd_X5_init ⟨Nat.le_of_ble_eq_true rfl, Nat.le_of_ble_eq_true rfl⟩) hp rfl rfl hl.1 rfl (lv_room (Nat.le_of_ble_eq_true rfl)) dL_law_4 ⟨by show _ ≤ (610012 : Nat); omega, by show _ ≤ (7271146 : Nat); omega⟩)
    (fun u H locs h_3 w => ?_)
  try dsimp only at h_3
  obtain ⟨u_4, hu9⟩ : ∃ z, z = u := ⟨_, rfl⟩
  subst hu9
  have w : kW g A s [cX q_1 (u_4.1 0) (u_4.1 1) false (u_4.1 2) (u_4.1 3) (u_4.1 4), cR (u_4.1 0) (u_4.1 5) (u_4.1 6) sg0, xI g (u_4.1 5) 49 (zT sg0), xI g (u_4.1 6) 49 (zI sg0), cR (u_4.1 1) (u_4.1 7) (u_4.1 8) sg0, xI g (u_4.1 7) 49 (zT sg0), xI g (u_4.1 8) 49 (zI sg0), cH (u_4.1 2) (u_4.1 9) 0, xQ g (u_4.1 9) 4 (rq u_4.2.1), cR (u_4.2.1 0) (u_4.2.2.1 0) (u_4.2.2.2 0) (sgs 0), xI g (u_4.2.2.1 0) 49 (zT (sgs 0)), xI g (u_4.2.2.2 0) 49 (zI (sgs 0)), cR (u_4.2.1 1) (u_4.2.2.1 1) (u_4.2.2.2 1) (sgs 1), xI g (u_4.2.2.1 1) 49 (zT (sgs 1)), xI g (u_4.2.2.2 1) 49 (zI (sgs 1)), cR (u_4.2.1 2) (u_4.2.2.1 2) (u_4.2.2.2 2) (sgs 2), xI g (u_4.2.2.1 2) 49 (zT (sgs 2)), xI g (u_4.2.2.2 2) 49 (zI (sgs 2)), cR (u_4.2.1 3) (u_4.2.2.1 3) (u_4.2.2.2 3) (sgs 3), xI g (u_4.2.2.1 3) 49 (zT (sgs 3)), xI g (u_4.2.2.2 3) 49 (zI (sgs 3)), cT (u_4.1 3) (u_4.1 10) 0, xC g (u_4.1 10) 60 (fun _ => 0), cTr (u_4.1 4) (u_4.1 11) (u_4.1 12) 0 0 0 0, cR (u_4.1 11) (u_4.1 13) (u_4.1 14) sg0, xI g (u_4.1 13) 49 (zT sg0), xI g (u_4.1 14) 49 (zI sg0), cO (u_4.1 12) 0 0 0 0 0] H locs := w
  refine lv_astore_n (lv' := [(1, .ref q_1), (0, .ref b)]) hx hb dL_law_7 rfl hl (by decide) rfl (fun ls hl => ?_)
  refine lv_lconst (v := 0) hx hb dL_law_8 (by decide) ?_
  refine lv_lstore_n (lv' := [(2, .long 0), (1, .ref q_1), (0, .ref b)]) hx hb dL_law_9 rfl hl (by decide) rfl (fun ls hl => ?_)
  refine lv_aload_n hx hb dL_law_10 rfl (lv_at hl 1 rfl) ?_
  refine lv_iconst (v := nI 0) hx hb dL_law_11 (by decide) ?_
  refine kcalli (wc := [cX q_1 (u_4.1 0) (u_4.1 1) false (u_4.1 2) (u_4.1 3) (u_4.1 4), cR (u_4.1 0) (u_4.1 5) (u_4.1 6) sg0, xI g (u_4.1 5) 49 (zT sg0), xI g (u_4.1 6) 49 (zI sg0), cH (u_4.1 2) (u_4.1 9) 0]) (wr := [cR (u_4.1 1) (u_4.1 7) (u_4.1 8) sg0, xI g (u_4.1 7) 49 (zT sg0), xI g (u_4.1 8) 49 (zI sg0), xQ g (u_4.1 9) 4 (rq u_4.2.1), cR (u_4.2.1 0) (u_4.2.2.1 0) (u_4.2.2.2 0) (sgs 0), xI g (u_4.2.2.1 0) 49 (zT (sgs 0)), xI g (u_4.2.2.2 0) 49 (zI (sgs 0)), cR (u_4.2.1 1) (u_4.2.2.1 1) (u_4.2.2.2 1) (sgs 1), xI g (u_4.2.2.1 1) 49 (zT (sgs 1)), xI g (u_4.2.2.2 1) 49 (zI (sgs 1)), cR (u_4.2.1 2) (u_4.2.2.1 2) (u_4.2.2.2 2) (sgs 2), xI g (u_4.2.2.1 2) 49 (zT (sgs 2)), xI g (u_4.2.2.2 2) 49 (zI (sgs 2)), cR (u_4.2.1 3) (u_4.2.2.1 3) (u_4.2.2.2 3) (sgs 3), xI g (u_4.2.2.1 3) 49 (zT (sgs 3)), xI g (u_4.2.2.2 3) 49 (zI (sgs 3)), cT (u_4.1 3) (u_4.1 10) 0, xC g (u_4.1 10) 60 (fun _ => 0), cTr (u_4.1 4) (u_4.1 11) (u_4.1 12) 0 0 0 0, cR (u_4.1 11) (u_4.1 13) (u_4.1 14) sg0, xI g (u_4.1 13) 49 (zT sg0), xI g (u_4.1 14) 49 (zI sg0), cO (u_4.1 12) 0 0 0 0 0]) (wn := fun (u : Unit) => [cX q_1 (u_4.1 0) (u_4.1 1) false (u_4.1 2) (u_4.1 3) (u_4.1 4), cR (u_4.1 0) (u_4.1 5) (u_4.1 6) sg0, xI g (u_4.1 5) 49 (zT sg0), xI g (u_4.1 6) 49 (zI sg0), cR (u_4.1 1) (u_4.1 7) (u_4.1 8) sg0, xI g (u_4.1 7) 49 (zT sg0), xI g (u_4.1 8) 49 (zI sg0), cH (u_4.1 2) (u_4.1 9) 0, xQ g (u_4.1 9) 4 (rq u_4.2.1), cR (u_4.2.1 0) (u_4.2.2.1 0) (u_4.2.2.2 0) (sgs 0), xI g (u_4.2.2.1 0) 49 (zT (sgs 0)), xI g (u_4.2.2.2 0) 49 (zI (sgs 0)), cR (u_4.2.1 1) (u_4.2.2.1 1) (u_4.2.2.2 1) (sgs 1), xI g (u_4.2.2.1 1) 49 (zT (sgs 1)), xI g (u_4.2.2.2 1) 49 (zI (sgs 1)), cR (u_4.2.1 2) (u_4.2.2.1 2) (u_4.2.2.2 2) (sgs 2), xI g (u_4.2.2.1 2) 49 (zT (sgs 2)), xI g (u_4.2.2.2 2) 49 (zI (sgs 2)), cR (u_4.2.1 3) (u_4.2.2.1 3) (u_4.2.2.2 3) (sgs 3), xI g (u_4.2.2.1 3) 49 (zT (sgs 3)), xI g (u_4.2.2.2 3) 49 (zI (sgs 3)), cT (u_4.1 3) (u_4.1 10) 0, xC g (u_4.1 10) 60 (fun _ => 0), cTr (u_4.1 4) (u_4.1 11) (u_4.1 12) 0 0 0 0, cR (u_4.1 11) (u_4.1 13) (u_4.1 14) sg0, xI g (u_4.1 13) 49 (zT sg0), xI g (u_4.1 14) 49 (zI sg0), cO (u_4.1 12) 0 0 0 0 0]) F w [0, 1, 2, 3, 7] [4, 5, 6, 8, 9, 10, 11, 12, 13, 14, 15, 16, 17, 18, 19, 20, 21, 22, 23, 24, 25, 26, 27] [23, 24, 25, 26, 0, 1, 2, 27, 3, 4, 5, 6, 7, 8, 9, 10, 11, 12, 13, 14, 15, 16, 17, 18, 19, 20, 21, 22] rfl rfl rfl (fun _ => rfl)
    (fun hp => va_runS (As := [.ref q_1, .int (nI 0)]) (rest := []) F.1 (kL_holds l hnl g q_1 (u_4.1 0) (u_4.1 1) false (u_4.1 2) (u_4.1 3) (u_4.1 4) (u_4.1 5) (u_4.1 6) sg0 (u_4.1 9) 0 (nI 0) H.size (by decide) (fun d => Nat.le_trans (Nat.le_of_eq bT_0) (by decide))) (va_cwS 2 hts gL_law_L_holds rfl rfl rfl hd_L_holds ⟨Nat.le_of_ble_eq_true rfl, Nat.le_of_ble_eq_true rfl⟩) hp rfl rfl hl.1 rfl (lv_room (Nat.le_of_ble_eq_true rfl)) dL_law_12 ⟨by show _ ≤ (610012 : Nat); omega, by show _ ≤ (7271146 : Nat); omega⟩)
    (fun r_5 _ H locs h_6 w => ?_)
  subst h_6
  refine lv_if_eq (tgt := 40) hx hb dL_law_15 (by decide) (fun h_7 => ?_) (fun h_7 => ?_)
  · exact absurd h_7 (by decide)
  refine lv_aload_n hx hb dL_law_18 rfl (lv_at hl 1 rfl) ?_
  refine kcalli (wc := [cX q_1 (u_4.1 0) (u_4.1 1) false (u_4.1 2) (u_4.1 3) (u_4.1 4), cH (u_4.1 2) (u_4.1 9) 0]) (wr := [cR (u_4.1 0) (u_4.1 5) (u_4.1 6) sg0, xI g (u_4.1 5) 49 (zT sg0), xI g (u_4.1 6) 49 (zI sg0), cR (u_4.1 1) (u_4.1 7) (u_4.1 8) sg0, xI g (u_4.1 7) 49 (zT sg0), xI g (u_4.1 8) 49 (zI sg0), xQ g (u_4.1 9) 4 (rq u_4.2.1), cR (u_4.2.1 0) (u_4.2.2.1 0) (u_4.2.2.2 0) (sgs 0), xI g (u_4.2.2.1 0) 49 (zT (sgs 0)), xI g (u_4.2.2.2 0) 49 (zI (sgs 0)), cR (u_4.2.1 1) (u_4.2.2.1 1) (u_4.2.2.2 1) (sgs 1), xI g (u_4.2.2.1 1) 49 (zT (sgs 1)), xI g (u_4.2.2.2 1) 49 (zI (sgs 1)), cR (u_4.2.1 2) (u_4.2.2.1 2) (u_4.2.2.2 2) (sgs 2), xI g (u_4.2.2.1 2) 49 (zT (sgs 2)), xI g (u_4.2.2.2 2) 49 (zI (sgs 2)), cR (u_4.2.1 3) (u_4.2.2.1 3) (u_4.2.2.2 3) (sgs 3), xI g (u_4.2.2.1 3) 49 (zT (sgs 3)), xI g (u_4.2.2.2 3) 49 (zI (sgs 3)), cT (u_4.1 3) (u_4.1 10) 0, xC g (u_4.1 10) 60 (fun _ => 0), cTr (u_4.1 4) (u_4.1 11) (u_4.1 12) 0 0 0 0, cR (u_4.1 11) (u_4.1 13) (u_4.1 14) sg0, xI g (u_4.1 13) 49 (zT sg0), xI g (u_4.1 14) 49 (zI sg0), cO (u_4.1 12) 0 0 0 0 0]) (wn := fun (u : Unit) => [cX q_1 (u_4.1 0) (u_4.1 1) false (u_4.1 2) (u_4.1 3) (u_4.1 4), cR (u_4.1 0) (u_4.1 5) (u_4.1 6) sg0, xI g (u_4.1 5) 49 (zT sg0), xI g (u_4.1 6) 49 (zI sg0), cR (u_4.1 1) (u_4.1 7) (u_4.1 8) sg0, xI g (u_4.1 7) 49 (zT sg0), xI g (u_4.1 8) 49 (zI sg0), cH (u_4.1 2) (u_4.1 9) 0, xQ g (u_4.1 9) 4 (rq u_4.2.1), cR (u_4.2.1 0) (u_4.2.2.1 0) (u_4.2.2.2 0) (sgs 0), xI g (u_4.2.2.1 0) 49 (zT (sgs 0)), xI g (u_4.2.2.2 0) 49 (zI (sgs 0)), cR (u_4.2.1 1) (u_4.2.2.1 1) (u_4.2.2.2 1) (sgs 1), xI g (u_4.2.2.1 1) 49 (zT (sgs 1)), xI g (u_4.2.2.2 1) 49 (zI (sgs 1)), cR (u_4.2.1 2) (u_4.2.2.1 2) (u_4.2.2.2 2) (sgs 2), xI g (u_4.2.2.1 2) 49 (zT (sgs 2)), xI g (u_4.2.2.2 2) 49 (zI (sgs 2)), cR (u_4.2.1 3) (u_4.2.2.1 3) (u_4.2.2.2 3) (sgs 3), xI g (u_4.2.2.1 3) 49 (zT (sgs 3)), xI g (u_4.2.2.2 3) 49 (zI (sgs 3)), cT (u_4.1 3) (u_4.1 10) 0, xC g (u_4.1 10) 60 (fun _ => 0), cTr (u_4.1 4) (u_4.1 11) (u_4.1 12) 0 0 0 0, cR (u_4.1 11) (u_4.1 13) (u_4.1 14) sg0, xI g (u_4.1 13) 49 (zT sg0), xI g (u_4.1 14) 49 (zI sg0), cO (u_4.1 12) 0 0 0 0 0]) F w [0, 7] [1, 2, 3, 4, 5, 6, 8, 9, 10, 11, 12, 13, 14, 15, 16, 17, 18, 19, 20, 21, 22, 23, 24, 25, 26, 27] [26, 0, 1, 2, 3, 4, 5, 27, 6, 7, 8, 9, 10, 11, 12, 13, 14, 15, 16, 17, 18, 19, 20, 21, 22, 23, 24, 25] rfl rfl rfl (fun _ => rfl)
    (fun hp => vx_runSW (As := [.ref q_1]) (rest := []) F.1 (kL_undo_S l hnl g q_1 (u_4.1 0) (u_4.1 1) false (u_4.1 2) (u_4.1 3) (u_4.1 4) (u_4.1 9) H.size ) (vx_cwSW 1 hts gL_law_L_undo rfl rfl rfl hd_L_undo ⟨Nat.le_of_ble_eq_true rfl, Nat.le_of_ble_eq_true rfl⟩) hp rfl rfl hl.1 rfl (lv_room (Nat.le_of_ble_eq_true rfl)) dL_law_19 ⟨by show _ ≤ (610012 : Nat); omega, by show _ ≤ (7271146 : Nat); omega⟩)
    (fun r_8 _ H locs h_9 w => ?_)
  subst h_9
  refine lv_bipush (v := (-103)) hx hb dL_law_22 (by decide) ?_
  refine lv_icmp_ne (tgt := 40) hx hb dL_law_24 (by decide) (fun h_10 => ?_) (fun h_10 => ?_)
  · exact absurd rfl h_10
  refine lv_aload_n hx hb dL_law_27 rfl (lv_at hl 1 rfl) ?_
  refine kcalli (wc := [cX q_1 (u_4.1 0) (u_4.1 1) false (u_4.1 2) (u_4.1 3) (u_4.1 4)]) (wr := [cR (u_4.1 0) (u_4.1 5) (u_4.1 6) sg0, xI g (u_4.1 5) 49 (zT sg0), xI g (u_4.1 6) 49 (zI sg0), cR (u_4.1 1) (u_4.1 7) (u_4.1 8) sg0, xI g (u_4.1 7) 49 (zT sg0), xI g (u_4.1 8) 49 (zI sg0), cH (u_4.1 2) (u_4.1 9) 0, xQ g (u_4.1 9) 4 (rq u_4.2.1), cR (u_4.2.1 0) (u_4.2.2.1 0) (u_4.2.2.2 0) (sgs 0), xI g (u_4.2.2.1 0) 49 (zT (sgs 0)), xI g (u_4.2.2.2 0) 49 (zI (sgs 0)), cR (u_4.2.1 1) (u_4.2.2.1 1) (u_4.2.2.2 1) (sgs 1), xI g (u_4.2.2.1 1) 49 (zT (sgs 1)), xI g (u_4.2.2.2 1) 49 (zI (sgs 1)), cR (u_4.2.1 2) (u_4.2.2.1 2) (u_4.2.2.2 2) (sgs 2), xI g (u_4.2.2.1 2) 49 (zT (sgs 2)), xI g (u_4.2.2.2 2) 49 (zI (sgs 2)), cR (u_4.2.1 3) (u_4.2.2.1 3) (u_4.2.2.2 3) (sgs 3), xI g (u_4.2.2.1 3) 49 (zT (sgs 3)), xI g (u_4.2.2.2 3) 49 (zI (sgs 3)), cT (u_4.1 3) (u_4.1 10) 0, xC g (u_4.1 10) 60 (fun _ => 0), cTr (u_4.1 4) (u_4.1 11) (u_4.1 12) 0 0 0 0, cR (u_4.1 11) (u_4.1 13) (u_4.1 14) sg0, xI g (u_4.1 13) 49 (zT sg0), xI g (u_4.1 14) 49 (zI sg0), cO (u_4.1 12) 0 0 0 0 0]) (wn := fun (u : Unit) => [cX q_1 (u_4.1 0) (u_4.1 1) false (u_4.1 2) (u_4.1 3) (u_4.1 4), cR (u_4.1 0) (u_4.1 5) (u_4.1 6) sg0, xI g (u_4.1 5) 49 (zT sg0), xI g (u_4.1 6) 49 (zI sg0), cR (u_4.1 1) (u_4.1 7) (u_4.1 8) sg0, xI g (u_4.1 7) 49 (zT sg0), xI g (u_4.1 8) 49 (zI sg0), cH (u_4.1 2) (u_4.1 9) 0, xQ g (u_4.1 9) 4 (rq u_4.2.1), cR (u_4.2.1 0) (u_4.2.2.1 0) (u_4.2.2.2 0) (sgs 0), xI g (u_4.2.2.1 0) 49 (zT (sgs 0)), xI g (u_4.2.2.2 0) 49 (zI (sgs 0)), cR (u_4.2.1 1) (u_4.2.2.1 1) (u_4.2.2.2 1) (sgs 1), xI g (u_4.2.2.1 1) 49 (zT (sgs 1)), xI g (u_4.2.2.2 1) 49 (zI (sgs 1)), cR (u_4.2.1 2) (u_4.2.2.1 2) (u_4.2.2.2 2) (sgs 2), xI g (u_4.2.2.1 2) 49 (zT (sgs 2)), xI g (u_4.2.2.2 2) 49 (zI (sgs 2)), cR (u_4.2.1 3) (u_4.2.2.1 3) (u_4.2.2.2 3) (sgs 3), xI g (u_4.2.2.1 3) 49 (zT (sgs 3)), xI g (u_4.2.2.2 3) 49 (zI (sgs 3)), cT (u_4.1 3) (u_4.1 10) 0, xC g (u_4.1 10) 60 (fun _ => 0), cTr (u_4.1 4) (u_4.1 11) (u_4.1 12) 0 0 0 0, cR (u_4.1 11) (u_4.1 13) (u_4.1 14) sg0, xI g (u_4.1 13) 49 (zT sg0), xI g (u_4.1 14) 49 (zI sg0), cO (u_4.1 12) 0 0 0 0 0]) F w [0] [1, 2, 3, 4, 5, 6, 7, 8, 9, 10, 11, 12, 13, 14, 15, 16, 17, 18, 19, 20, 21, 22, 23, 24, 25, 26, 27] [27, 0, 1, 2, 3, 4, 5, 6, 7, 8, 9, 10, 11, 12, 13, 14, 15, 16, 17, 18, 19, 20, 21, 22, 23, 24, 25, 26] rfl rfl rfl (fun _ => rfl)
    (fun hp => vx_runSW (As := [.ref q_1]) (rest := []) F.1 (kL_goBack_S l hnl g q_1 (u_4.1 0) (u_4.1 1) (u_4.1 2) (u_4.1 3) (u_4.1 4) H.size ) (vx_cwSW 1 hts gL_law_L_goBack rfl rfl rfl hd_L_goBack ⟨Nat.le_of_ble_eq_true rfl, Nat.le_of_ble_eq_true rfl⟩) hp rfl rfl hl.1 rfl (lv_room (Nat.le_of_ble_eq_true rfl)) dL_law_28 ⟨by show _ ≤ (610012 : Nat); omega, by show _ ≤ (7271146 : Nat); omega⟩)
    (fun r_11 _ H locs h_12 w => ?_)
  subst h_12
  refine lv_bipush (v := (-103)) hx hb dL_law_31 (by decide) ?_
  refine lv_icmp_ne (tgt := 40) hx hb dL_law_33 (by decide) (fun h_13 => ?_) (fun h_13 => ?_)
  · exact absurd rfl h_13
  refine lv_iconst (v := nI 1) hx hb dL_law_36 (by decide) ?_
  refine lv_goto (tgt := 41) hx hb dL_law_37 (by decide) ?_
  refine lv_istore (lv' := [(4, .int (nI 1)), (2, .long 0), (1, .ref q_1), (0, .ref b)]) hx hb dL_law_41 hl (by decide) rfl (fun ls hl => ?_)
  refine lv_iconst (v := nI 0) hx hb dL_law_43 (by decide) ?_
  refine lv_istore (lv' := [(5, .int (nI 0)), (4, .int (nI 1)), (2, .long 0), (1, .ref q_1), (0, .ref b)]) hx hb dL_law_44 hl (by decide) rfl (fun ls hl => ?_)
  refine W.widen (k := 133 + 404 * 0) (n := 1450 + 2424 * 0) (by omega) (by omega) ?_
  exact law_loop (x := q_1) (nw := u_4.1 0) (sn := u_4.1 1) (hs := u_4.1 2) (tx := u_4.1 3) (tr := u_4.1 4) (na := u_4.1 5) (nb := u_4.1 6) (sa := u_4.1 7) (sb := u_4.1 8) (hq := u_4.1 9) (ch := u_4.1 10) (tw := u_4.1 11) (od := u_4.1 12) (ta := u_4.1 13) (tb := u_4.1 14) hnl F hXs hbs hbA hn0 hend 0 false sg0 0 u_4.2.1 u_4.2.2.1 u_4.2.2.2 sgs sg0 0 (fun _ => 0) 0 0 0 0 sg0 0 0 0 0 0 0 (by decide) (by decide) (by decide) (fun d => Nat.le_trans (Nat.le_of_eq bT_0) (by decide)) (fun j d => Nat.le_trans (Nat.le_of_eq bT_0) (by decide)) (fun d => Nat.le_trans (Nat.le_of_eq bT_0) (by decide)) (fun hc => absurd hc (by decide)) _ _ _ (kW.perm w [0, 1, 2, 3, 4, 5, 6, 7, 8, 9, 10, 11, 12, 13, 14, 15, 16, 17, 18, 19, 20, 21, 22, 23, 24, 25, 26, 27] rfl rfl) (lv_sub hl [0, 1, 2, 3, 4] rfl)
theorem whole_start {p : Program} {e : Env} {s : State} {m : MethodId} {below : List Frame} {meth : Method} {c : Code} (l : Launch) (hflags : l.flags = flags0) {b L : Nat} {xs : Nat → Int32} (hL : L ≤ 260) (C0 : lw_At p s m meth c b L xs) : W p l e room_1 s m #[Value.ref b] below meth c s.heap [] 0 0 (lw_Z below #[Value.ref b] s) (entryFrame m ([Value.ref b] : List Value).toArray 13) := by
  obtain ⟨hx, hb, hr, hml, hown, hts0, hX, hbl, hlocks, hgv⟩ := C0
  have hnl : l.stackTraces = false := by
    unfold Launch.stackTraces
    rw [hflags]
    decide +kernel
  refine W.base ?_
  have hd0 := Drawn.sameBut.refl s.drawn lw_cs
  obtain ⟨g, hG, hZ⟩ := kstart hts0 hgv
  have hl := lv_entry ([.ref b]) (n := 13) (Nat.le_of_ble_eq_true rfl)
  rw [lg_entry_eq]
  generalize (lg_sl ([.ref b]) ++ List.replicate (13 - (lg_sl ([.ref b])).length) Slot.unset).toArray = ls at hl ⊢
  have hl : lv_has ls 13 [(0, .ref b)] := hl
  exact law_go l hnl hL hd0 hr hlocks hx hb hml hown (fun w hw => dr_words hts0 _ w (wsL_law_in w hw)) (kG.same rfl hG) hZ hX hbl hl
set_option maxHeartbeats 4000000 in
theorem lw_walk (l : Launch) (hflags : l.flags = flags0) (b : Addr) (xs : List Int32) : MetFree l x (headSpec (Jvm.Cond.code x code maxLocals ret :: tables_1) room_1) (lw_P b xs) (fun _ _ _ _ _ => True) lw_Q := by
  refine MetFree.of_bodyS (code := code) (maxLocals := maxLocals) (ret := ret) (by decide) ?_ ?_
  · intro args s m h hn
    obtain ⟨meth, c, h1, h2, h3, h4, h5, h6, -, -⟩ := Cond.code_spec hn (atoms_spec (ws := Jvm.Cond.code x code maxLocals ret :: tables_1) h _ List.mem_cons_self)
    exact ⟨meth, c, h1, h2, h3, h4, h5, h6⟩
  · intro p e s m args below meth c s₁ B hml0 hP _
    obtain ⟨rfl, hx, hbd, hgv⟩ := hP
    obtain ⟨scr, harrAt, hlist, hof, hsmall⟩ := hx
    obtain ⟨hcb, hkn, -, -⟩ := State.arrayAt?_spec harrAt
    have hown : s.vm.findClass R_law = some m.cls := findClass_of_methodNamed B.named
    have hts0 : ∀ c ∈ (Jvm.Cond.code x code maxLocals ret :: tables_1), c.before #[Value.ref b] s = true := atoms_spec (ws := Jvm.Cond.code x code maxLocals ret :: tables_1) B.pre
    have hts : ∀ w ∈ lw_tbl, w.before #[Value.ref b] s = true := k2_hts_sels lw_privs (fun w hw => hts0 w (List.mem_cons_of_mem _ hw)) lw_privs_ok
    have hml : c.maxLocals = 13 := B.maxLocals_eq (hts0 _ List.mem_cons_self)
    have X₀ : Stand p l e room_1 s m #[Value.ref b] below meth c s₁ [] 0 0 := Stand.of_body B
    have hh0 : s₁.heap = s.heap := by rw [B.state]; rfl
    have hsz : scr.slots.size = xs.length := by rw [← Array.length_toList, hlist, List.length_map]
    have hval : ∀ j : Nat, j < xs.length → scr.slots[j]? = some (.int (xs.getD j 0)) := fun j hj => by
      rw [← Array.getElem?_toList, hlist]
      simp [hj]
    have hbl : b < s.heap.size := (Array.getElem?_eq_some_iff.mp hcb).1
    have hX : va_X b xs.length (fun j => xs.getD j 0) s s.heap := ⟨scr, hcb, hof, hkn, hsz, hval⟩
    have K : W p l e room_1 s m #[Value.ref b] below meth c s₁.heap [] 0 0 (lw_Z below #[Value.ref b] s) (entryFrame m ([Value.ref b] : List Value).toArray 13) := by
      rw [hh0]
      exact whole_start l hflags hbd ⟨B.exec, B.bytes, B.returns, hml, hown, hts, hX, hbl, B.notSynchronized, hgv⟩
    obtain ⟨t, a1, o, b1, b2, b3⟩ := K s₁ rfl X₀
    exact ⟨t, o, a1, b1, b2, b3⟩
theorem lw_pre_spec {args : Array Value} {s : State} (h : (Jvm.Cond.and given_1 narrow_1).before args s = true) (hr : rest_1_c.before args s = true) : ∃ (b : Addr) (xs : List Int32), lw_P b xs args s := by
  have hs := flat_of_before _ h
  have hq := flat_of_before _ hr
  have hc : (Cond.count 1).before args s = true := hs _ (by decide +kernel)
  have harr : (Cond.arrayOf (.arg 0) .int).before args s = true := hs _ (by decide +kernel)
  have hle : (Cond.le (.length (.arg 0)) (.int 260)).before args s = true := hs _ (by decide +kernel)
  have hlen : (Cond.isInt (.length (.arg 0))).before args s = true := hq _ (by decide +kernel)
  have hall : (Cond.all (.arg 0) (.isInt (.elem (.arg 0) (.index 0)))).before args s = true := hq _ (by decide +kernel)
  obtain ⟨b, xs, hb, hx⟩ := State.ints_of_pre rfl harr hlen hall
  have hsm : xs.length < 2 ^ 31 := hx.choose_spec.2.2.2
  have hev : (Term.length (.arg 0)).eval args s none [] s = some (.int xs.length.toInt32) := hx.length_eval hb
  have hv := Cond.le_ints hev (show (Term.int 260).eval args s none [] s = some (.int 260) from rfl)
  have hd : xs.length.toInt32 ≤ 260 := by
    simpa [Cond.before, Cond.holds, hv] using hle
  have hN : xs.length ≤ 260 := (Int32.ofNat_le_ofNat hsm (by decide)).mp (show Int32.ofNat xs.length ≤ Int32.ofNat 260 from hd)
  exact ⟨b, xs, Cond.one_arg hc (show args[0]? = some (.ref b) from hb), hx, hN, h⟩
theorem lw_comes (l : Launch) (hflags : l.flags = flags0) : Comes l x (Jvm.Cond.code x code maxLocals ret :: tables_1) room_1 (fun tb e args s => Calls_1 tb e args s ∧ rest_1 tb e args s ∧ Pre_1 tb e args s)
    (fun _ _ args s o t => lw_Q args s o t) := by
  intro p e ha hc hk s m args below hf hfit hheap happ hpre
  obtain ⟨b, xs, hP⟩ := lw_pre_spec hpre.2.2 hpre.2.1
  obtain ⟨k, o, h1, h2, h3, hQ⟩ := lw_walk l hflags b xs p e ha hc hk s m args below hf ((Spec.applies_iff_loose hf).mp happ).1 hP trivial
  exact ⟨k, o, h1, h2, h3, hQ⟩
theorem lw_frame {s t : State} {o : Outcome} {args : Array Value} (h : State.butDraws s t lw_cs (fun t1 => Framed s o t1 [] 610012 7271146)) :
    State.butDraws s t [Jvm.Choice.named "NaN.bits"] (fun t1 => Framed s o t1 (fieldLocs frame_1_writes args s ++ arrayLocs frame_1_arrays args s ++ staticLocs frame_1_statics s) 610012 7271146) := h
theorem lw_limb (L : Cond) (hL : ∀ (args : Array Value) (s t : State), L.after args s (.returned (some (.int 1))) t = true) :
    ArmFor flags0 classFile x code maxLocals ret World_1 tables_1 room_1 Calls_1 rest_1 Pre_1
      (fun tb e a s o t => postC L tb e a s o t ∧ State.butDraws s t [Jvm.Choice.named "NaN.bits"] (fun t1 => Framed s o t1 (fieldLocs frame_1_writes a s ++ arrayLocs frame_1_arrays a s ++ staticLocs frame_1_statics s) 610012 7271146)) := by
  intro l hflags _ _ p e ha hc hk s m args below hf hfit hheap happ hpre
  obtain ⟨k, o, h1, h2, h3, rfl, hF⟩ := lw_comes l hflags p e ha hc hk s m args below hf hfit hheap happ hpre
  exact ⟨k, _, h1, h2, h3, hL args s _, lw_frame hF⟩
theorem i_vc : Claimed_1_1 ∧ Claimed_1_2 := ⟨lw_limb limb_1_1 (fun args s t => by simp [limb_1_1, Cond.after, Cond.holds, Cond.value]), lw_limb limb_1_2 (fun args s t => Cond.after_iff.mpr (by
  first | (rw [show limb_1_2 = Cond.eq .result (.int 1) from rfl, Cond.eq_ints (x := 1) (y := 1) rfl rfl]; simp; done) | (simp [limb_1_2, Cond.value, Term.eval]; done)))⟩
