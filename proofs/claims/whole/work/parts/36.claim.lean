/-! THE CLAIM OUT OF ONE WALK OF THE LAW'S BODY. Your part is whole_start (and what it stands on); all else here is the same for every law, but numbers. -/
def R_law : String := "DivisorLockersLaw"
def lw_P (b : Addr) (xs : List Int32) (args : Array Value) (s : State) : Prop := args = #[.ref b] ∧ s.IntsAt b xs ∧ xs.length ≤ 1536 ∧ (Jvm.Cond.and given_1 narrow_1).before args s = true
/-- what a walk over the start with the record d0 says of its end, said of the start itself -/
theorem lw_closed {s t : State} {o : Outcome} {d0 : Drawn} {L : List Loc} {k n : Nat} (hd0 : s.drawn.sameBut d0 lw_cs) (hv : ∃ v, o = .returned v) (hW : (s.setDrawn d0).WarmedH t.vm) (hs : (s.setDrawn d0).sameButNew ({ t with vm := s.vm } : State) L k n) : State.butDraws s t lw_cs (fun t1 => Framed s o t1 L k n) := by
  have h2 : t.drawn = d0 := congrArg State.drawn hs.1
  refine ⟨⟨hv, hW, State.sameButNew.setDrawn hs s.drawn⟩, ?_, by decide⟩
  rw [h2]
  exact hd0
def lw_Q (_ : Array Value) (s : State) (o : Outcome) (t : State) : Prop := o = .returned (some (.int 1)) ∧ State.butDraws s t lw_cs (fun t1 => Framed s o t1 [] 601024 7293034)
def lw_Z (below : List Frame) (a : Array Value) (s : State) : State → Prop := fun t => ∃ o, t.status = .running ∧ Ended t below o ∧ lw_Q a s o t
/-- the law's own end, with 1 on the stack, nothing written that was there before, its room as the claim has it; d0: the record of draws at this point (at the entry s.drawn: begin with 'refine W.base ?_' and 'have hd0 := Drawn.sameBut.refl s.drawn lw_cs') -/
theorem lw_ret {p : Program} {l : Launch} {e : Env} {s : State} {m : MethodId} {below : List Frame} {meth : Method} {c : Code} {b : Nat} {d0 : Drawn} (hd0 : s.drawn.sameBut d0 lw_cs) (hx : p.tables.exec = Jvm.exec) (hb : c.code = code) (hr : meth.sig.returnType = ret) (hlocks : meth.locks = false) {pc : Nat} {H : Heap} {ls : Array Slot} (hdg : decode code pc = .ok (.ireturn, 1)) : W p l e room_1 (s.setDrawn d0) m #[Value.ref b] below meth c H [] 601024 7293034 (lw_Z below #[Value.ref b] s) (F0 m pc ls [.int 1]) := by
  intro T hT X
  obtain ⟨fs, hret, hrun, hended, hW, hframe⟩ := X.leave (v := some (.int 1)) (hlocks := hlocks) (fun h => by rw [hr] at h; cases h)
  have hmeth' : T.vm.method? m = some meth := X.method'
  refine ⟨T.setFrames fs, ?_, .returned (some (.int 1)), hrun, hended, rfl, lw_closed hd0 ⟨_, rfl⟩ hW hframe⟩
  jvm_step X.here [X.here.top, hx, hb, hdg, hmeth', hr, ret, narrow_b1]
  (try refine ⟨rfl, ?_⟩); (try refine ⟨rfl, ?_⟩)
  first | (intro acts; rw [hret _ acts rfl rfl rfl]) | rw [hret _ _ rfl rfl rfl]
  exact Steps.refl _
/-- what holds at the law's entry: the machine, the code, the tables' words (any of lw_tbl by 'hts w (by decide +kernel)'), the script of L ints xs at the cell b, what the Statement gives of the start (any of its parts by flat_of_before) -/
def lw_At (p : Program) (s : State) (m : MethodId) (meth : Method) (c : Code) (b L : Nat) (xs : Nat → Int32) : Prop :=
  p.tables.exec = Jvm.exec ∧ c.code = code ∧ meth.sig.returnType = ret ∧ c.maxLocals = 9 ∧ s.vm.findClass R_law = some m.cls ∧ (∀ w ∈ lw_tbl, w.before #[Value.ref b] s = true) ∧ va_X b L xs s s.heap ∧ b < s.heap.size ∧ meth.locks = false ∧ (Jvm.Cond.and given_1 narrow_1).before #[Value.ref b] s = true
theorem hd_X5_init : yX5_init.cls ≠ "java/lang/invoke/MethodHandle" ∧ yX5_init.cls ≠ "java/lang/invoke/VarHandle" ∧ (parseMethodDescriptor yX5_init.desc).map (fun d => d.parameters.length) = some 0 := by decide +kernel
theorem hd_X6_init : yX6_init.cls ≠ "java/lang/invoke/MethodHandle" ∧ yX6_init.cls ≠ "java/lang/invoke/VarHandle" ∧ (parseMethodDescriptor yX6_init.desc).map (fun d => d.parameters.length) = some 0 := by decide +kernel
set_option maxHeartbeats 4000000 in
set_option maxRecDepth 100000 in
theorem law_go {p : Program} {e : Env} {s0 : State} {m : MethodId} {below : List Frame} {meth : Method} {c : Code} {d0 : Drawn} {g : GG} {ls : Array Slot} (l : Launch) (hnl : l.stackTraces = false) {b n0 : Nat} {xs : Nat → Int32} (hn0 : n0 ≤ 1536) (hd0 : s0.drawn.sameBut d0 lw_cs) (hr0 : meth.sig.returnType = ret) (hlocks : meth.locks = false) (hx : p.tables.exec = Jvm.exec) (hb : c.code = code) (hml : c.maxLocals = 9) (hown : s0.vm.findClass RL = some m.cls)
    (hts : ∀ w ∈ wsL_law, w.before #[Value.ref b] (s0.setDrawn d0) = true) (hG : kG g (s0.setDrawn d0)) (hZ : kZ (fun q => s0.heap.size ≤ q) s0 s0.heap) (hX : va_X b n0 xs s0 s0.heap) (hbl : b < s0.heap.size) (hl : lv_has ls 9 [(0, .ref b)]) :
    W p l e room_1 (s0.setDrawn d0) m #[Value.ref b] below meth c s0.heap [] 0 0 (lw_Z below #[Value.ref b] s0) (F0 m 0 ls []) := by
  obtain ⟨s, hs⟩ : ∃ z, z = s0.setDrawn d0 := ⟨_, rfl⟩
  obtain ⟨H, hH⟩ : ∃ z, z = s0.heap := ⟨_, rfl⟩
  obtain ⟨locs, hlocs⟩ : ∃ z : List Loc, z = [] := ⟨_, rfl⟩
  obtain ⟨A, hA⟩ : ∃ z : Nat → Prop, z = (fun q => s0.heap.size ≤ q) := ⟨_, rfl⟩
  have hsH : s.heap = s0.heap := by rw [hs]; rfl
  have hsV : s.vm = s0.vm := by rw [hs]; rfl
  have F : kF p m c code 9 s #[Value.ref b] wsL_law RL meth ret g A := by
    refine ⟨⟨hx, hb, hml, by rw [hsV]; exact hown, by rw [hs]; exact hts⟩, hr0, hlocks, by rw [hs]; exact hG, ?_, fun q h => by rw [hA]; rw [hsH] at h; exact h⟩
    rw [hA, hsH]
    exact kZ.moved (u := s0) (U := s) (by rw [hsV]; exact Vm.Alike.refl _) hZ
  have hts := F.1.2.2.2.2
  have w : kW g A s [] H locs := by
    refine ⟨fun k q h => by simp at h, ⟨fun i j p q h => by simp at h, fun k q h => by simp at h⟩, ?_⟩
    rw [hH, ← hsH, hlocs]
    exact va_S.rf
  have hbA : ¬ A b := by rw [hA]; exact Nat.not_le.mpr hbl
  have hXs : va_X b n0 xs s s.heap := by rw [hs]; exact hX
  have hbs : b < s.heap.size := by rw [hsH]; exact hbl
  have hend : ∀ (H : Heap) (locs : List Loc) (ls : Array Slot), (∀ z ∈ locs, A z.base) → W p l e room_1 s m #[Value.ref b] below meth c H locs 601024 7293034 (lw_Z below #[Value.ref b] s0) (F0 m 1912 ls []) := by
    intro H locs ls hz
    refine lv_iconst (v := 1) hx hb dL_law_1912 (by decide) ?_
    refine va_forget (fun q hq => by have := hz q hq; rw [hA] at this; rw [hsH]; exact this) ?_
    rw [hs]
    exact lw_ret hd0 hx hb hr0 hlocks dL_law_1913
  rw [← hs, ← hH, ← hlocs]
  refine knew (C := RX5) (T := TX5) (N := 6) (ci := 5) (fs := [.null, .null, .int 0, .null, .null, .null]) F w inlX5 tyX5_ok (by decide +kernel) (by decide +kernel) (by decide +kernel) rfl (fun j hj => by rcases (show j = 0 ∨ j = 1 ∨ j = 2 ∨ j = 3 ∨ j = 4 ∨ j = 5 by omega) with rfl | rfl | rfl | rfl | rfl | rfl <;> rfl) (Nat.le_of_ble_eq_true rfl) (Nat.le_of_ble_eq_true rfl) dL_law_0 (fun q_1 H w => ?_)
  have w : kW g A s [xO q_1 5 [.null, .null, .int 0, .null, .null, .null]] H locs := w
  refine lv_dup hx hb dL_law_3 rfl ?_
  refine kcallv (wc := [xO q_1 5 [.null, .null, .int 0, .null, .null, .null]]) (wr := []) (wn := fun (u : (Nat → Nat) × (Nat → Nat) × (Nat → Nat) × (Nat → Nat)) => [cX q_1 (u.1 0) (u.1 1) false (u.1 2) (u.1 3) (u.1 4), cR (u.1 0) (u.1 5) (u.1 6) sg0, xI g (u.1 5) 49 (zT sg0), xI g (u.1 6) 49 (zI sg0), cR (u.1 1) (u.1 7) (u.1 8) sg0, xI g (u.1 7) 49 (zT sg0), xI g (u.1 8) 49 (zI sg0), cH (u.1 2) (u.1 9) 0, xQ g (u.1 9) 4 (rq u.2.1), cR (u.2.1 0) (u.2.2.1 0) (u.2.2.2 0) (sgs 0), xI g (u.2.2.1 0) 49 (zT (sgs 0)), xI g (u.2.2.2 0) 49 (zI (sgs 0)), cR (u.2.1 1) (u.2.2.1 1) (u.2.2.2 1) (sgs 1), xI g (u.2.2.1 1) 49 (zT (sgs 1)), xI g (u.2.2.2 1) 49 (zI (sgs 1)), cR (u.2.1 2) (u.2.2.1 2) (u.2.2.2 2) (sgs 2), xI g (u.2.2.1 2) 49 (zT (sgs 2)), xI g (u.2.2.2 2) 49 (zI (sgs 2)), cR (u.2.1 3) (u.2.2.1 3) (u.2.2.2 3) (sgs 3), xI g (u.2.2.1 3) 49 (zT (sgs 3)), xI g (u.2.2.2 3) 49 (zI (sgs 3)), cT (u.1 3) (u.1 10) 0, xC g (u.1 10) 60 (fun _ => 0), cTr (u.1 4) (u.1 11) (u.1 12) 0 0 0 0, cR (u.1 11) (u.1 13) (u.1 14) sg0, xI g (u.1 13) 49 (zT sg0), xI g (u.1 14) 49 (zI sg0), cO (u.1 12) 0 0 0 0 0]) F w [0] [] [0, 1, 2, 3, 4, 5, 6, 7, 8, 9, 10, 11, 12, 13, 14, 15, 16, 17, 18, 19, 20, 21, 22, 23, 24, 25, 26, 27] rfl rfl rfl (fun _ => rfl)
    (fun hp => va_runI (As := []) (rest := [.ref q_1]) F.1 (kX5_init l g q_1 H.size ) (cwI 0 hts gL_law_X5_init rfl rfl rfl (hts (.initialized RX5) (by decide +kernel)) (hts (.methodLink RL 94 yX5_init) (by decide +kernel)) (hts (.instanceMethod yX5_init) (by decide +kernel)) rfl hd_X5_init ⟨Nat.le_of_ble_eq_true rfl, Nat.le_of_ble_eq_true rfl⟩) hp rfl rfl hl.1 rfl (lv_room (Nat.le_of_ble_eq_true rfl)) dL_law_4 ⟨Nat.le_of_ble_eq_true rfl, Nat.le_of_ble_eq_true rfl⟩)
    (fun u H locs h_3 w => ?_)
  try dsimp only at h_3
  obtain ⟨u_4, hu9⟩ : ∃ z, z = u := ⟨_, rfl⟩
  subst hu9
  have w : kW g A s [cX q_1 (u_4.1 0) (u_4.1 1) false (u_4.1 2) (u_4.1 3) (u_4.1 4), cR (u_4.1 0) (u_4.1 5) (u_4.1 6) sg0, xI g (u_4.1 5) 49 (zT sg0), xI g (u_4.1 6) 49 (zI sg0), cR (u_4.1 1) (u_4.1 7) (u_4.1 8) sg0, xI g (u_4.1 7) 49 (zT sg0), xI g (u_4.1 8) 49 (zI sg0), cH (u_4.1 2) (u_4.1 9) 0, xQ g (u_4.1 9) 4 (rq u_4.2.1), cR (u_4.2.1 0) (u_4.2.2.1 0) (u_4.2.2.2 0) (sgs 0), xI g (u_4.2.2.1 0) 49 (zT (sgs 0)), xI g (u_4.2.2.2 0) 49 (zI (sgs 0)), cR (u_4.2.1 1) (u_4.2.2.1 1) (u_4.2.2.2 1) (sgs 1), xI g (u_4.2.2.1 1) 49 (zT (sgs 1)), xI g (u_4.2.2.2 1) 49 (zI (sgs 1)), cR (u_4.2.1 2) (u_4.2.2.1 2) (u_4.2.2.2 2) (sgs 2), xI g (u_4.2.2.1 2) 49 (zT (sgs 2)), xI g (u_4.2.2.2 2) 49 (zI (sgs 2)), cR (u_4.2.1 3) (u_4.2.2.1 3) (u_4.2.2.2 3) (sgs 3), xI g (u_4.2.2.1 3) 49 (zT (sgs 3)), xI g (u_4.2.2.2 3) 49 (zI (sgs 3)), cT (u_4.1 3) (u_4.1 10) 0, xC g (u_4.1 10) 60 (fun _ => 0), cTr (u_4.1 4) (u_4.1 11) (u_4.1 12) 0 0 0 0, cR (u_4.1 11) (u_4.1 13) (u_4.1 14) sg0, xI g (u_4.1 13) 49 (zT sg0), xI g (u_4.1 14) 49 (zI sg0), cO (u_4.1 12) 0 0 0 0 0] H locs := w
  refine lv_astore_n (lv' := [(1, .ref q_1), (0, .ref b)]) hx hb dL_law_7 rfl hl (by decide) rfl (fun ls hl => ?_)
  refine knew (C := RX6) (T := TX6) (N := 18) (ci := 6) (fs := [.null, .null, .null, .null, .int 0, .null, .int 0, .null, .int 0, .int 0, .int 0, .int 0, .int 0, .int 0, .int 0, .int 0, .int 0, .int 0]) F w inlX6 tyX6_ok (by decide +kernel) (by decide +kernel) (by decide +kernel) rfl (fun j hj => by rcases (show j = 0 ∨ j = 1 ∨ j = 2 ∨ j = 3 ∨ j = 4 ∨ j = 5 ∨ j = 6 ∨ j = 7 ∨ j = 8 ∨ j = 9 ∨ j = 10 ∨ j = 11 ∨ j = 12 ∨ j = 13 ∨ j = 14 ∨ j = 15 ∨ j = 16 ∨ j = 17 by omega) with rfl | rfl | rfl | rfl | rfl | rfl | rfl | rfl | rfl | rfl | rfl | rfl | rfl | rfl | rfl | rfl | rfl | rfl <;> rfl) (Nat.le_of_ble_eq_true rfl) (Nat.le_of_ble_eq_true rfl) dL_law_8 (fun q_5 H w => ?_)
  have w : kW g A s [cX q_1 (u_4.1 0) (u_4.1 1) false (u_4.1 2) (u_4.1 3) (u_4.1 4), cR (u_4.1 0) (u_4.1 5) (u_4.1 6) sg0, xI g (u_4.1 5) 49 (zT sg0), xI g (u_4.1 6) 49 (zI sg0), cR (u_4.1 1) (u_4.1 7) (u_4.1 8) sg0, xI g (u_4.1 7) 49 (zT sg0), xI g (u_4.1 8) 49 (zI sg0), cH (u_4.1 2) (u_4.1 9) 0, xQ g (u_4.1 9) 4 (rq u_4.2.1), cR (u_4.2.1 0) (u_4.2.2.1 0) (u_4.2.2.2 0) (sgs 0), xI g (u_4.2.2.1 0) 49 (zT (sgs 0)), xI g (u_4.2.2.2 0) 49 (zI (sgs 0)), cR (u_4.2.1 1) (u_4.2.2.1 1) (u_4.2.2.2 1) (sgs 1), xI g (u_4.2.2.1 1) 49 (zT (sgs 1)), xI g (u_4.2.2.2 1) 49 (zI (sgs 1)), cR (u_4.2.1 2) (u_4.2.2.1 2) (u_4.2.2.2 2) (sgs 2), xI g (u_4.2.2.1 2) 49 (zT (sgs 2)), xI g (u_4.2.2.2 2) 49 (zI (sgs 2)), cR (u_4.2.1 3) (u_4.2.2.1 3) (u_4.2.2.2 3) (sgs 3), xI g (u_4.2.2.1 3) 49 (zT (sgs 3)), xI g (u_4.2.2.2 3) 49 (zI (sgs 3)), cT (u_4.1 3) (u_4.1 10) 0, xC g (u_4.1 10) 60 (fun _ => 0), cTr (u_4.1 4) (u_4.1 11) (u_4.1 12) 0 0 0 0, cR (u_4.1 11) (u_4.1 13) (u_4.1 14) sg0, xI g (u_4.1 13) 49 (zT sg0), xI g (u_4.1 14) 49 (zI sg0), cO (u_4.1 12) 0 0 0 0 0, xO q_5 6 [.null, .null, .null, .null, .int 0, .null, .int 0, .null, .int 0, .int 0, .int 0, .int 0, .int 0, .int 0, .int 0, .int 0, .int 0, .int 0]] H locs := w
  refine lv_dup hx hb dL_law_11 rfl ?_
  refine kcallv (wc := [xO q_5 6 [.null, .null, .null, .null, .int 0, .null, .int 0, .null, .int 0, .int 0, .int 0, .int 0, .int 0, .int 0, .int 0, .int 0, .int 0, .int 0]]) (wr := [cX q_1 (u_4.1 0) (u_4.1 1) false (u_4.1 2) (u_4.1 3) (u_4.1 4), cR (u_4.1 0) (u_4.1 5) (u_4.1 6) sg0, xI g (u_4.1 5) 49 (zT sg0), xI g (u_4.1 6) 49 (zI sg0), cR (u_4.1 1) (u_4.1 7) (u_4.1 8) sg0, xI g (u_4.1 7) 49 (zT sg0), xI g (u_4.1 8) 49 (zI sg0), cH (u_4.1 2) (u_4.1 9) 0, xQ g (u_4.1 9) 4 (rq u_4.2.1), cR (u_4.2.1 0) (u_4.2.2.1 0) (u_4.2.2.2 0) (sgs 0), xI g (u_4.2.2.1 0) 49 (zT (sgs 0)), xI g (u_4.2.2.2 0) 49 (zI (sgs 0)), cR (u_4.2.1 1) (u_4.2.2.1 1) (u_4.2.2.2 1) (sgs 1), xI g (u_4.2.2.1 1) 49 (zT (sgs 1)), xI g (u_4.2.2.2 1) 49 (zI (sgs 1)), cR (u_4.2.1 2) (u_4.2.2.1 2) (u_4.2.2.2 2) (sgs 2), xI g (u_4.2.2.1 2) 49 (zT (sgs 2)), xI g (u_4.2.2.2 2) 49 (zI (sgs 2)), cR (u_4.2.1 3) (u_4.2.2.1 3) (u_4.2.2.2 3) (sgs 3), xI g (u_4.2.2.1 3) 49 (zT (sgs 3)), xI g (u_4.2.2.2 3) 49 (zI (sgs 3)), cT (u_4.1 3) (u_4.1 10) 0, xC g (u_4.1 10) 60 (fun _ => 0), cTr (u_4.1 4) (u_4.1 11) (u_4.1 12) 0 0 0 0, cR (u_4.1 11) (u_4.1 13) (u_4.1 14) sg0, xI g (u_4.1 13) 49 (zT sg0), xI g (u_4.1 14) 49 (zI sg0), cO (u_4.1 12) 0 0 0 0 0]) (wn := fun (u : Nat → Nat) => [cX q_1 (u_4.1 0) (u_4.1 1) false (u_4.1 2) (u_4.1 3) (u_4.1 4), cR (u_4.1 0) (u_4.1 5) (u_4.1 6) sg0, xI g (u_4.1 5) 49 (zT sg0), xI g (u_4.1 6) 49 (zI sg0), cR (u_4.1 1) (u_4.1 7) (u_4.1 8) sg0, xI g (u_4.1 7) 49 (zT sg0), xI g (u_4.1 8) 49 (zI sg0), cH (u_4.1 2) (u_4.1 9) 0, xQ g (u_4.1 9) 4 (rq u_4.2.1), cR (u_4.2.1 0) (u_4.2.2.1 0) (u_4.2.2.2 0) (sgs 0), xI g (u_4.2.2.1 0) 49 (zT (sgs 0)), xI g (u_4.2.2.2 0) 49 (zI (sgs 0)), cR (u_4.2.1 1) (u_4.2.2.1 1) (u_4.2.2.2 1) (sgs 1), xI g (u_4.2.2.1 1) 49 (zT (sgs 1)), xI g (u_4.2.2.2 1) 49 (zI (sgs 1)), cR (u_4.2.1 2) (u_4.2.2.1 2) (u_4.2.2.2 2) (sgs 2), xI g (u_4.2.2.1 2) 49 (zT (sgs 2)), xI g (u_4.2.2.2 2) 49 (zI (sgs 2)), cR (u_4.2.1 3) (u_4.2.2.1 3) (u_4.2.2.2 3) (sgs 3), xI g (u_4.2.2.1 3) 49 (zT (sgs 3)), xI g (u_4.2.2.2 3) 49 (zI (sgs 3)), cT (u_4.1 3) (u_4.1 10) 0, xC g (u_4.1 10) 60 (fun _ => 0), cTr (u_4.1 4) (u_4.1 11) (u_4.1 12) 0 0 0 0, cR (u_4.1 11) (u_4.1 13) (u_4.1 14) sg0, xI g (u_4.1 13) 49 (zT sg0), xI g (u_4.1 14) 49 (zI sg0), cO (u_4.1 12) 0 0 0 0 0, cM u false 0 0 0 0 0 false 0 0 0 0 0, xI g (u 1) 288 (enc sg0), xI g (u 2) 288 (fun _ => 0), xI g (u 3) 288 (fun _ => 0), xI g (u 4) 288 (enc sg0), xI g (u 5) 1152 (pst sgs), xI g (u 6) 60 (fun _ => 0)]) F w [28] [0, 1, 2, 3, 4, 5, 6, 7, 8, 9, 10, 11, 12, 13, 14, 15, 16, 17, 18, 19, 20, 21, 22, 23, 24, 25, 26, 27] [0, 1, 2, 3, 4, 5, 6, 7, 8, 9, 10, 11, 12, 13, 14, 15, 16, 17, 18, 19, 20, 21, 22, 23, 24, 25, 26, 27, 28, 29, 30, 31, 32, 33, 34] rfl rfl rfl (fun _ => rfl)
    (fun hp => va_runI (As := []) (rest := [.ref q_5]) F.1 (kX6_init_b l g q_5 H.size ) (cwI 0 hts gL_law_X6_init rfl rfl rfl (hts (.initialized RX6) (by decide +kernel)) (hts (.methodLink RL 97 yX6_init) (by decide +kernel)) (hts (.instanceMethod yX6_init) (by decide +kernel)) rfl hd_X6_init ⟨Nat.le_of_ble_eq_true rfl, Nat.le_of_ble_eq_true rfl⟩) hp rfl rfl hl.1 rfl (lv_room (Nat.le_of_ble_eq_true rfl)) dL_law_12 ⟨Nat.le_of_ble_eq_true rfl, Nat.le_of_ble_eq_true rfl⟩)
    (fun u H locs h_7 w => ?_)
  try dsimp only at h_7
  obtain ⟨u_8, hu9⟩ : ∃ z, z = u := ⟨_, rfl⟩
  subst hu9
  have w : kW g A s [cX q_1 (u_4.1 0) (u_4.1 1) false (u_4.1 2) (u_4.1 3) (u_4.1 4), cR (u_4.1 0) (u_4.1 5) (u_4.1 6) sg0, xI g (u_4.1 5) 49 (zT sg0), xI g (u_4.1 6) 49 (zI sg0), cR (u_4.1 1) (u_4.1 7) (u_4.1 8) sg0, xI g (u_4.1 7) 49 (zT sg0), xI g (u_4.1 8) 49 (zI sg0), cH (u_4.1 2) (u_4.1 9) 0, xQ g (u_4.1 9) 4 (rq u_4.2.1), cR (u_4.2.1 0) (u_4.2.2.1 0) (u_4.2.2.2 0) (sgs 0), xI g (u_4.2.2.1 0) 49 (zT (sgs 0)), xI g (u_4.2.2.2 0) 49 (zI (sgs 0)), cR (u_4.2.1 1) (u_4.2.2.1 1) (u_4.2.2.2 1) (sgs 1), xI g (u_4.2.2.1 1) 49 (zT (sgs 1)), xI g (u_4.2.2.2 1) 49 (zI (sgs 1)), cR (u_4.2.1 2) (u_4.2.2.1 2) (u_4.2.2.2 2) (sgs 2), xI g (u_4.2.2.1 2) 49 (zT (sgs 2)), xI g (u_4.2.2.2 2) 49 (zI (sgs 2)), cR (u_4.2.1 3) (u_4.2.2.1 3) (u_4.2.2.2 3) (sgs 3), xI g (u_4.2.2.1 3) 49 (zT (sgs 3)), xI g (u_4.2.2.2 3) 49 (zI (sgs 3)), cT (u_4.1 3) (u_4.1 10) 0, xC g (u_4.1 10) 60 (fun _ => 0), cTr (u_4.1 4) (u_4.1 11) (u_4.1 12) 0 0 0 0, cR (u_4.1 11) (u_4.1 13) (u_4.1 14) sg0, xI g (u_4.1 13) 49 (zT sg0), xI g (u_4.1 14) 49 (zI sg0), cO (u_4.1 12) 0 0 0 0 0, cM u_8 false 0 0 0 0 0 false 0 0 0 0 0, xI g (u_8 1) 288 (enc sg0), xI g (u_8 2) 288 (fun _ => 0), xI g (u_8 3) 288 (fun _ => 0), xI g (u_8 4) 288 (enc sg0), xI g (u_8 5) 1152 (pst sgs), xI g (u_8 6) 60 (fun _ => 0)] H locs := w
  refine lv_astore_n (lv' := [(2, .ref q_5), (1, .ref q_1), (0, .ref b)]) hx hb dL_law_15 rfl hl (by decide) rfl (fun ls hl => ?_)
  rw [← h_7] at hl
  refine lv_iconst (v := nI 1) hx hb dL_law_16 (by decide) ?_
  refine knewJ (N := 1) F w (by decide +kernel) (by decide) (by decide +kernel) (Nat.le_of_ble_eq_true rfl) (Nat.le_of_ble_eq_true rfl) (Nat.le_of_ble_eq_true rfl) dL_law_17 (fun q_9 H w => ?_)
  have w : kW g A s [cX q_1 (u_4.1 0) (u_4.1 1) false (u_4.1 2) (u_4.1 3) (u_4.1 4), cR (u_4.1 0) (u_4.1 5) (u_4.1 6) sg0, xI g (u_4.1 5) 49 (zT sg0), xI g (u_4.1 6) 49 (zI sg0), cR (u_4.1 1) (u_4.1 7) (u_4.1 8) sg0, xI g (u_4.1 7) 49 (zT sg0), xI g (u_4.1 8) 49 (zI sg0), cH (u_4.1 2) (u_4.1 9) 0, xQ g (u_4.1 9) 4 (rq u_4.2.1), cR (u_4.2.1 0) (u_4.2.2.1 0) (u_4.2.2.2 0) (sgs 0), xI g (u_4.2.2.1 0) 49 (zT (sgs 0)), xI g (u_4.2.2.2 0) 49 (zI (sgs 0)), cR (u_4.2.1 1) (u_4.2.2.1 1) (u_4.2.2.2 1) (sgs 1), xI g (u_4.2.2.1 1) 49 (zT (sgs 1)), xI g (u_4.2.2.2 1) 49 (zI (sgs 1)), cR (u_4.2.1 2) (u_4.2.2.1 2) (u_4.2.2.2 2) (sgs 2), xI g (u_4.2.2.1 2) 49 (zT (sgs 2)), xI g (u_4.2.2.2 2) 49 (zI (sgs 2)), cR (u_4.2.1 3) (u_4.2.2.1 3) (u_4.2.2.2 3) (sgs 3), xI g (u_4.2.2.1 3) 49 (zT (sgs 3)), xI g (u_4.2.2.2 3) 49 (zI (sgs 3)), cT (u_4.1 3) (u_4.1 10) 0, xC g (u_4.1 10) 60 (fun _ => 0), cTr (u_4.1 4) (u_4.1 11) (u_4.1 12) 0 0 0 0, cR (u_4.1 11) (u_4.1 13) (u_4.1 14) sg0, xI g (u_4.1 13) 49 (zT sg0), xI g (u_4.1 14) 49 (zI sg0), cO (u_4.1 12) 0 0 0 0 0, cM u_8 false 0 0 0 0 0 false 0 0 0 0 0, xI g (u_8 1) 288 (enc sg0), xI g (u_8 2) 288 (fun _ => 0), xI g (u_8 3) 288 (fun _ => 0), xI g (u_8 4) 288 (enc sg0), xI g (u_8 5) 1152 (pst sgs), xI g (u_8 6) 60 (fun _ => 0), xJ g q_9 1 (fun _ => 0)] H locs := w
  refine lv_astore_n (lv' := [(3, .ref q_9), (2, .ref (u_8 0)), (1, .ref q_1), (0, .ref b)]) hx hb dL_law_19 rfl hl (by decide) rfl (fun ls hl => ?_)
  refine lv_iconst (v := nI 0) hx hb dL_law_20 (by decide) ?_
  refine lv_istore (lv' := [(4, .int (nI 0)), (3, .ref q_9), (2, .ref (u_8 0)), (1, .ref q_1), (0, .ref b)]) hx hb dL_law_21 hl (by decide) rfl (fun ls hl => ?_)
  exact law_loop (φ := u_4.1) (μ := u_8) hnl F hXs hbs hbA hn0 hend (n0 + 4) 0 false sg0 0 u_4.2.1 u_4.2.2.1 u_4.2.2.2 sgs sg0 0 (fun _ => 0) 0 0 0 0 sg0 0 0 0 0 0 0 0 0 false 0 0 0 0 0 (fun _ => 0) (fun _ => 0) (fun _ => 0) _ _ _ (by omega) (by omega) (by decide) (by decide) (kW.perm w [0, 1, 2, 3, 4, 5, 6, 7, 8, 9, 10, 11, 12, 13, 14, 15, 16, 17, 18, 19, 20, 21, 22, 23, 24, 25, 26, 27, 28, 29, 30, 31, 32, 33, 34, 35] rfl rfl) (lv_sub hl [0, 1, 2, 3, 4] rfl)
theorem whole_start {p : Program} {e : Env} {s : State} {m : MethodId} {below : List Frame} {meth : Method} {c : Code} (l : Launch) (hflags : l.flags = flags0) {b L : Nat} {xs : Nat → Int32} (hL : L ≤ 1536) (C0 : lw_At p s m meth c b L xs) : W p l e room_1 s m #[Value.ref b] below meth c s.heap [] 0 0 (lw_Z below #[Value.ref b] s) (entryFrame m ([Value.ref b] : List Value).toArray 9) := by
  obtain ⟨hx, hb, hr, hml, hown, hts0, hX, hbl, hlocks, hgv⟩ := C0
  have hnl : l.stackTraces = false := by
    unfold Launch.stackTraces
    rw [hflags]
    decide +kernel
  refine W.base ?_
  have hd0 := Drawn.sameBut.refl s.drawn lw_cs
  obtain ⟨g, hG, hZ⟩ := kstart hts0 hgv
  have hl := lv_entry ([.ref b]) (n := 9) (Nat.le_of_ble_eq_true rfl)
  rw [lg_entry_eq]
  generalize (lg_sl ([.ref b]) ++ List.replicate (9 - (lg_sl ([.ref b])).length) Slot.unset).toArray = ls at hl ⊢
  have hl : lv_has ls 9 [(0, .ref b)] := hl
  exact law_go l hnl hL hd0 hr hlocks hx hb hml hown (fun w hw => dr_words hts0 _ w (wsL_law_in w hw)) (kG.same rfl hG) hZ hX hbl hl
set_option maxHeartbeats 4000000 in
theorem lw_walk (l : Launch) (hflags : l.flags = flags0) (b : Addr) (xs : List Int32) : MetFree l x (headSpec (Jvm.Cond.code x code maxLocals ret :: tables_1) room_1) (lw_P b xs) (fun _ _ _ _ _ => True) lw_Q := by
  refine MetFree.of_bodyS (code := code) (maxLocals := maxLocals) (ret := ret) (by decide) ?_ ?_
  · intro args s m h hn
    obtain ⟨meth, c, h1, h2, h3, h4, h5, h6, -, -⟩ := Cond.code_spec hn (atoms_spec (ws := Jvm.Cond.code x code maxLocals ret :: tables_1) h _ List.mem_cons_self)
    exact ⟨meth, c, h1, h2, h3, h4, h5, h6⟩
  · intro p e s m args below meth c s₁ B hml0 hP _
    obtain ⟨rfl, hx, hbd, hgv⟩ := hP
    obtain ⟨scr, harrAt, hlist, hof, hsmall⟩ := hx
    obtain ⟨hcb, hkn, -, -⟩ := State.arrayAt?_spec harrAt
    have hown : s.vm.findClass R_law = some m.cls := findClass_of_methodNamed B.named
    have hts0 : ∀ c ∈ (Jvm.Cond.code x code maxLocals ret :: tables_1), c.before #[Value.ref b] s = true := atoms_spec (ws := Jvm.Cond.code x code maxLocals ret :: tables_1) B.pre
    have hts : ∀ w ∈ lw_tbl, w.before #[Value.ref b] s = true := k2_hts_sels lw_privs (fun w hw => hts0 w (List.mem_cons_of_mem _ hw)) lw_privs_ok
    have hml : c.maxLocals = 9 := B.maxLocals_eq (hts0 _ List.mem_cons_self)
    have X₀ : Stand p l e room_1 s m #[Value.ref b] below meth c s₁ [] 0 0 := Stand.of_body B
    have hh0 : s₁.heap = s.heap := by rw [B.state]; rfl
    have hsz : scr.slots.size = xs.length := by rw [← Array.length_toList, hlist, List.length_map]
    have hval : ∀ j : Nat, j < xs.length → scr.slots[j]? = some (.int (xs.getD j 0)) := fun j hj => by
      rw [← Array.getElem?_toList, hlist]
      simp [hj]
    have hbl : b < s.heap.size := (Array.getElem?_eq_some_iff.mp hcb).1
    have hX : va_X b xs.length (fun j => xs.getD j 0) s s.heap := ⟨scr, hcb, hof, hkn, hsz, hval⟩
    have K : W p l e room_1 s m #[Value.ref b] below meth c s₁.heap [] 0 0 (lw_Z below #[Value.ref b] s) (entryFrame m ([Value.ref b] : List Value).toArray 9) := by
      rw [hh0]
      exact whole_start l hflags hbd ⟨B.exec, B.bytes, B.returns, hml, hown, hts, hX, hbl, B.notSynchronized, hgv⟩
    obtain ⟨t, a1, o, b1, b2, b3⟩ := K s₁ rfl X₀
    exact ⟨t, o, a1, b1, b2, b3⟩
theorem lw_pre_spec {args : Array Value} {s : State} (h : (Jvm.Cond.and given_1 narrow_1).before args s = true) (hr : rest_1_c.before args s = true) : ∃ (b : Addr) (xs : List Int32), lw_P b xs args s := by
  have hs := flat_of_before _ h
  have hq := flat_of_before _ hr
  have hc : (Cond.count 1).before args s = true := hs _ (by decide +kernel)
  have harr : (Cond.arrayOf (.arg 0) .int).before args s = true := hs _ (by decide +kernel)
  have hle : (Cond.le (.length (.arg 0)) (.int 1536)).before args s = true := hs _ (by decide +kernel)
  have hlen : (Cond.isInt (.length (.arg 0))).before args s = true := hq _ (by decide +kernel)
  have hall : (Cond.all (.arg 0) (.isInt (.elem (.arg 0) (.index 0)))).before args s = true := hq _ (by decide +kernel)
  obtain ⟨b, xs, hb, hx⟩ := State.ints_of_pre rfl harr hlen hall
  have hsm : xs.length < 2 ^ 31 := hx.choose_spec.2.2.2
  have hev : (Term.length (.arg 0)).eval args s none [] s = some (.int xs.length.toInt32) := hx.length_eval hb
  have hv := Cond.le_ints hev (show (Term.int 1536).eval args s none [] s = some (.int 1536) from rfl)
  have hd : xs.length.toInt32 ≤ 1536 := by
    simpa [Cond.before, Cond.holds, hv] using hle
  have hN : xs.length ≤ 1536 := (Int32.ofNat_le_ofNat hsm (by decide)).mp (show Int32.ofNat xs.length ≤ Int32.ofNat 1536 from hd)
  exact ⟨b, xs, Cond.one_arg hc (show args[0]? = some (.ref b) from hb), hx, hN, h⟩
theorem lw_comes (l : Launch) (hflags : l.flags = flags0) : Comes l x (Jvm.Cond.code x code maxLocals ret :: tables_1) room_1 (fun tb e args s => Calls_1 tb e args s ∧ rest_1 tb e args s ∧ Pre_1 tb e args s)
    (fun _ _ args s o t => lw_Q args s o t) := by
  intro p e ha hc hk s m args below hf hfit hheap happ hpre
  obtain ⟨b, xs, hP⟩ := lw_pre_spec hpre.2.2 hpre.2.1
  obtain ⟨k, o, h1, h2, h3, hQ⟩ := lw_walk l hflags b xs p e ha hc hk s m args below hf ((Spec.applies_iff_loose hf).mp happ).1 hP trivial
  exact ⟨k, o, h1, h2, h3, hQ⟩
theorem lw_frame {s t : State} {o : Outcome} {args : Array Value} (h : State.butDraws s t lw_cs (fun t1 => Framed s o t1 [] 601024 7293034)) :
    State.butDraws s t [Jvm.Choice.named "NaN.bits"] (fun t1 => Framed s o t1 (fieldLocs frame_1_writes args s ++ arrayLocs frame_1_arrays args s ++ staticLocs frame_1_statics s) 601024 7293034) := h
theorem lw_limb (L : Cond) (hL : ∀ (args : Array Value) (s t : State), L.after args s (.returned (some (.int 1))) t = true) :
    ArmFor flags0 classFile x code maxLocals ret World_1 tables_1 room_1 Calls_1 rest_1 Pre_1
      (fun tb e a s o t => postC L tb e a s o t ∧ State.butDraws s t [Jvm.Choice.named "NaN.bits"] (fun t1 => Framed s o t1 (fieldLocs frame_1_writes a s ++ arrayLocs frame_1_arrays a s ++ staticLocs frame_1_statics s) 601024 7293034)) := by
  intro l hflags _ _ p e ha hc hk s m args below hf hfit hheap happ hpre
  obtain ⟨k, o, h1, h2, h3, rfl, hF⟩ := lw_comes l hflags p e ha hc hk s m args below hf hfit hheap happ hpre
  exact ⟨k, _, h1, h2, h3, hL args s _, lw_frame hF⟩
theorem i_vc : Claimed_1_1 ∧ Claimed_1_2 := ⟨lw_limb limb_1_1 (fun args s t => by simp [limb_1_1, Cond.after, Cond.holds, Cond.value]), lw_limb limb_1_2 (fun args s t => Cond.after_iff.mpr (by
  first | (rw [show limb_1_2 = Cond.eq .result (.int 1) from rfl, Cond.eq_ints (x := 1) (y := 1) rfl rfl]; simp; done) | (simp [limb_1_2, Cond.value, Term.eval]; done)))⟩
