/-! ===== the law's small methods: a call, and what it threw ===== -/
/-- a method with a table of handlers, which throws nothing itself -/
theorem kMetH {l : Launch} {y : MethodName} {ws ws' : List Cond} {rm : Room} {av : List Value} {g : GG} {w : va_W} {sz : Nat} {Qc : Array Value → State → Outcome → State → Prop} {mc ms : Nat} {cc : ByteArray} {maxL : Nat} {ret : Option FieldType} {own : String} {hh : List (Nat × Nat × Nat × Nat)}
    (hy : plainName y.cls = true) (hw : ws = Cond.codeWith y cc maxL ret hh :: ws') (ho : y.cls = own) (hlen : (lg_sl av).length ≤ maxL)
    (body : ∀ (p : Program) (e : Env) (s : State) (m : MethodId) (args : Array Value) (below : List Frame) (meth : Method) (c : Code) (ls : Array Slot) (Q : State → Prop) (H : Heap) (locs : List Loc) (A : Nat → Prop), kF p m c cc maxL s args ws own meth ret g A → kW g A s w H locs → lv_has ls maxL (lv_args 0 av) → c.exceptionTable.toList = tableOf hh → A = va_A w sz → Q = MQ below Qc args s mc ms (va_A w sz) →
      W p l e rm s m args below meth c H locs 0 0 Q (F0 m 0 ls [])) : Met l y ws rm (va_Pc av (kPre g w sz)) Qc mc ms (va_A w sz) := by
  refine MetFree.of_bodyS (code := cc) (maxLocals := maxL) (ret := ret) hy ?_ ?_
  · intro args s m h hn
    obtain ⟨m9, meth, c, hn9, h1, h2, h3, h4, -, h5, h6, -⟩ := Cond.codeWith_spec (atoms_spec (ws := ws) h _ (by rw [hw]; exact List.mem_cons_self))
    cases hn.symm.trans hn9
    exact ⟨meth, c, h1, h2, h3, h4, h5, h6⟩
  · intro p e s m args below meth c s₁ B hml hv _
    have hh0 : s₁.heap = s.heap := by rw [B.state]; rfl
    have htab := vx_table (x := y) B (atoms_spec (ws := ws) B.pre _ (by rw [hw]; exact List.mem_cons_self))
    obtain ⟨rfl, hsz, hP, hD, hG, hZ⟩ := hv
    subst hsz
    have hl := lv_entry av (n := maxL) hlen
    have hB := body p e s m _ below meth c _ _ s.heap [] _ ⟨⟨B.exec, B.bytes, hml, by rw [← ho]; exact findClass_of_methodNamed B.named, atoms_spec (ws := ws) B.pre⟩, B.returns, B.notSynchronized, hG, hZ, fun q h => Or.inr h⟩ ⟨hP, hD.self, va_S.rf⟩ hl htab rfl rfl
    rw [← lg_entry_eq] at hB
    obtain ⟨t, a1, o, b1, b2, b3⟩ := hB s₁ hh0 (Stand.of_body B)
    exact ⟨t, o, a1, b1, b2, b3⟩
section KCA
variable {p : Program} {l : Launch} {e : Env} {R : Room} {s : State} {m : MethodId} {args : Array Value} {below : List Frame} {meth : Method} {c : Code} {H : Heap} {locs : List Loc} {cells slots : Nat} {Q : State → Prop}
variable {cc : ByteArray} {nL : Nat} {Ts : List Cond} {own : String} {ret : Option FieldType} {g : GG} {A : Nat → Prop} {ws : va_W} {pc : Nat} {ls : Array Slot} {st0 rest : List Value}
/-- a call that throws, and its handler here -/
theorem kcaught {SX : Type} {w' wn : SX → va_W} {w0 : Unit → va_W} {wc wr : va_W} {a : Array Value} {As : List Value} {mc ms : Nat} {E0 : String} (F : kF p m c cc nL s args Ts own meth ret g A) (w : kW g A s ws H locs) (isC isR isP : List Nat)
    (hC : isC.map (fun i => ws[i]?) = wc.map some) (hR : isR.map (fun i => ws[i]?) = wr.map some) (hck : (va_nd isC && va_nd isR && va_nd isP && isR.all (fun i => !isC.contains i)) = true) (hP : ∀ u, isP.map (fun i => (wr ++ w' u)[i]?) = (wn u).map some)
    (hr : PreS s H (va_Pc As (kPre g wc H.size)) As → vx_Run p l e R s m args below meth c H locs cells slots mc ms (F0 m pc ls st0) rest (va_Qi (fun (_ : Int32) (_ : Unit) => False) (kB g (va_A wc H.size) w0) (va_A wc H.size) a) (vx_X (fun (_ : SX) => True) (fun E u t => E = E0 ∧ kB g (va_A wc H.size) w' u t) (va_A wc H.size)) (va_A wc H.size))
    (pre : List ExceptionTableEntry) (x : ExceptionTableEntry) (suf : List ExceptionTableEntry) (hsplit : c.exceptionTable.toList = pre ++ x :: suf) (hpass : ∀ z ∈ pre, z.catchType ≠ 0 ∧ ∃ nm : String, Cond.classLink own z.catchType nm ∈ Ts ∧ (E0, nm) ∈ kNca) (hx : covers x pc = true) (h0 : x.catchType ≠ 0)
    (hlink : Cond.classLink own x.catchType E0 ∈ Ts) (hins : Cond.instantiable E0 6 ∈ Ts)
    (kk : ∀ (q9 : Nat) (u : SX) (H1 : Heap) (locs1 : List Loc), kW g A s (wn u) H1 locs1 → W p l e R s m args below meth c H1 locs1 (cells + mc) (slots + ms) Q (F0 m x.handlerPc ls [.ref q9])) :
    W p l e R s m args below meth c H locs cells slots Q (F0 m pc ls st0) := by
  simp only [Bool.and_eq_true] at hck
  obtain ⟨⟨⟨k1, k2⟩, k3⟩, k4⟩ := hck
  have hF := va_free w.2.1 w.2.2 F.2.2.2.2.2 isC hC
  refine vx_calli (hr (kpre F w isC hC k1)) w.2.2 (fun q _ h => hF q h) hF (fun q _ h => hF q h) (fun E ce q9 u t H1 locs1 ht hvm hp hB hz hk hS hce hv hcl => ?_) (fun r u t H1 locs1 ht hvm hw hB hz hk hS => hw.elim)
  obtain ⟨hE, hB1⟩ := hB
  subst hE
  exact vx_catch F.1.2.2.2.1 pre x suf hsplit (fun z hz => by
      obtain ⟨h1, nm, h2, h3⟩ := hpass z hz
      exact Or.inr ⟨h1, nm, F.1.2.2.2.2 _ h2, F.2.2.2.1.2.2.2.2 _ h3⟩) hx h0 (F.1.2.2.2.2 _ hlink) (kcastr (F.1.2.2.2.2 _ hins)) hce hv hcl
    (kk q9 u H1 locs1 (kjoin F w isC isR hC hR k2 k4 isP (hP u) k3 hk (by rw [← ht]; exact hB1.1) hB1.2 hS))
end KCA
theorem hd_X5_pass : yX5_pass.cls ≠ "java/lang/invoke/MethodHandle" ∧ yX5_pass.cls ≠ "java/lang/invoke/VarHandle" ∧ (parseMethodDescriptor yX5_pass.desc).map (fun d => d.parameters.length) = some 1 := by decide +kernel
abbrev rmL_pass_k : Room := { frames := 4, cells := 0, slots := 0, locals := 87 }
set_option maxHeartbeats 4000000 in
set_option maxRecDepth 100000 in
theorem kL_pass_k (l : Launch) (g : GG) (x : Nat) (nw : Nat) (sn : Nat) (tk : Bool) (hs : Nat) (tx : Nat) (tr : Nat) (na : Nat) (nb : Nat) (σ : Sg) (hq : Nat) (kn : Nat) (ρ : Nat → Nat) (α : Nat → Nat) (β : Nat → Nat) (γ : Nat → Sg) (k : Nat) (sz : Nat) (hk : 1 ≤ k ∧ k ≤ 48) (hkn : kn ≤ 4) : Met l yL_pass wsL_pass rmL_pass_k (va_Pc [.ref x, .int (nI k)] (kPre g [cX x nw sn tk hs tx tr, cR nw na nb σ, xI g na 49 (zT σ), xI g nb 49 (zI σ), cH hs hq kn, xQ g hq 4 (rq ρ), cR (ρ 0) (α 0) (β 0) (γ 0), xI g (α 0) 49 (zT (γ 0)), xI g (β 0) 49 (zI (γ 0)), cR (ρ 1) (α 1) (β 1) (γ 1), xI g (α 1) 49 (zT (γ 1)), xI g (β 1) 49 (zI (γ 1)), cR (ρ 2) (α 2) (β 2) (γ 2), xI g (α 2) 49 (zT (γ 2)), xI g (β 2) 49 (zI (γ 2)), cR (ρ 3) (α 3) (β 3) (γ 3), xI g (α 3) 49 (zT (γ 3)), xI g (β 3) 49 (zI (γ 3))] sz)) (va_Qi (fun (r : Int32) (u : (Nat → Nat) × (Nat → Nat) × (Nat → Nat)) => r = nI (zcnt (zO (passS k σ)) 48)) (kB g (va_A [cX x nw sn tk hs tx tr, cR nw na nb σ, xI g na 49 (zT σ), xI g nb 49 (zI σ), cH hs hq kn, xQ g hq 4 (rq ρ), cR (ρ 0) (α 0) (β 0) (γ 0), xI g (α 0) 49 (zT (γ 0)), xI g (β 0) 49 (zI (γ 0)), cR (ρ 1) (α 1) (β 1) (γ 1), xI g (α 1) 49 (zT (γ 1)), xI g (β 1) 49 (zI (γ 1)), cR (ρ 2) (α 2) (β 2) (γ 2), xI g (α 2) 49 (zT (γ 2)), xI g (β 2) 49 (zI (γ 2)), cR (ρ 3) (α 3) (β 3) (γ 3), xI g (α 3) 49 (zT (γ 3)), xI g (β 3) 49 (zI (γ 3))] sz) (fun u => [cX x nw sn tk hs tx tr, cR nw na nb (passS k σ), xI g na 49 (zT (passS k σ)), xI g nb 49 (zI (passS k σ)), cH hs hq (pushN kn), xQ g hq 4 (rq u.1), cR (u.1 0) (u.2.1 0) (u.2.2 0) ((pushG γ kn σ) 0), xI g (u.2.1 0) 49 (zT ((pushG γ kn σ) 0)), xI g (u.2.2 0) 49 (zI ((pushG γ kn σ) 0)), cR (u.1 1) (u.2.1 1) (u.2.2 1) ((pushG γ kn σ) 1), xI g (u.2.1 1) 49 (zT ((pushG γ kn σ) 1)), xI g (u.2.2 1) 49 (zI ((pushG γ kn σ) 1)), cR (u.1 2) (u.2.1 2) (u.2.2 2) ((pushG γ kn σ) 2), xI g (u.2.1 2) 49 (zT ((pushG γ kn σ) 2)), xI g (u.2.2 2) 49 (zI ((pushG γ kn σ) 2)), cR (u.1 3) (u.2.1 3) (u.2.2 3) ((pushG γ kn σ) 3), xI g (u.2.1 3) 49 (zT ((pushG γ kn σ) 3)), xI g (u.2.2 3) 49 (zI ((pushG γ kn σ) 3))])) (va_A [cX x nw sn tk hs tx tr, cR nw na nb σ, xI g na 49 (zT σ), xI g nb 49 (zI σ), cH hs hq kn, xQ g hq 4 (rq ρ), cR (ρ 0) (α 0) (β 0) (γ 0), xI g (α 0) 49 (zT (γ 0)), xI g (β 0) 49 (zI (γ 0)), cR (ρ 1) (α 1) (β 1) (γ 1), xI g (α 1) 49 (zT (γ 1)), xI g (β 1) 49 (zI (γ 1)), cR (ρ 2) (α 2) (β 2) (γ 2), xI g (α 2) 49 (zT (γ 2)), xI g (β 2) 49 (zI (γ 2)), cR (ρ 3) (α 3) (β 3) (γ 3), xI g (α 3) 49 (zT (γ 3)), xI g (β 3) 49 (zI (γ 3))] sz)) 0 0 (va_A [cX x nw sn tk hs tx tr, cR nw na nb σ, xI g na 49 (zT σ), xI g nb 49 (zI σ), cH hs hq kn, xQ g hq 4 (rq ρ), cR (ρ 0) (α 0) (β 0) (γ 0), xI g (α 0) 49 (zT (γ 0)), xI g (β 0) 49 (zI (γ 0)), cR (ρ 1) (α 1) (β 1) (γ 1), xI g (α 1) 49 (zT (γ 1)), xI g (β 1) 49 (zI (γ 1)), cR (ρ 2) (α 2) (β 2) (γ 2), xI g (α 2) 49 (zT (γ 2)), xI g (β 2) 49 (zI (γ 2)), cR (ρ 3) (α 3) (β 3) (γ 3), xI g (α 3) 49 (zT (γ 3)), xI g (β 3) 49 (zI (γ 3))] sz) := by
  refine kMetH (hh := [(0, 5, 6, 15)]) (cc := cL_pass) (maxL := 3) (ret := (some .int)) (own := RL) (by decide) rfl rfl (Nat.le_of_ble_eq_true rfl) ?_
  intro p e s m args below meth c ls Q H locs A F w hl htab hA hQ
  have hx := F.1.1
  have hb := F.1.2.1
  have hts := F.1.2.2.2.2
  have hl : lv_has ls 3 [(0, .ref x), (1, .int (nI k))] := hl
  refine lv_aload_n hx hb dL_pass_0 rfl (lv_at hl 0 rfl) ?_
  refine lv_iload_n hx hb dL_pass_1 rfl (lv_at hl 1 rfl) ?_
  refine kcalli (wc := [cX x nw sn tk hs tx tr, cR nw na nb σ, xI g na 49 (zT σ), xI g nb 49 (zI σ), cH hs hq kn, xQ g hq 4 (rq ρ), cR (ρ 0) (α 0) (β 0) (γ 0), xI g (α 0) 49 (zT (γ 0)), xI g (β 0) 49 (zI (γ 0)), cR (ρ 1) (α 1) (β 1) (γ 1), xI g (α 1) 49 (zT (γ 1)), xI g (β 1) 49 (zI (γ 1)), cR (ρ 2) (α 2) (β 2) (γ 2), xI g (α 2) 49 (zT (γ 2)), xI g (β 2) 49 (zI (γ 2)), cR (ρ 3) (α 3) (β 3) (γ 3), xI g (α 3) 49 (zT (γ 3)), xI g (β 3) 49 (zI (γ 3))]) (wr := []) (wn := fun (u : (Nat → Nat) × (Nat → Nat) × (Nat → Nat)) => [cX x nw sn tk hs tx tr, cR nw na nb (passS k σ), xI g na 49 (zT (passS k σ)), xI g nb 49 (zI (passS k σ)), cH hs hq (pushN kn), xQ g hq 4 (rq u.1), cR (u.1 0) (u.2.1 0) (u.2.2 0) ((pushG γ kn σ) 0), xI g (u.2.1 0) 49 (zT ((pushG γ kn σ) 0)), xI g (u.2.2 0) 49 (zI ((pushG γ kn σ) 0)), cR (u.1 1) (u.2.1 1) (u.2.2 1) ((pushG γ kn σ) 1), xI g (u.2.1 1) 49 (zT ((pushG γ kn σ) 1)), xI g (u.2.2 1) 49 (zI ((pushG γ kn σ) 1)), cR (u.1 2) (u.2.1 2) (u.2.2 2) ((pushG γ kn σ) 2), xI g (u.2.1 2) 49 (zT ((pushG γ kn σ) 2)), xI g (u.2.2 2) 49 (zI ((pushG γ kn σ) 2)), cR (u.1 3) (u.2.1 3) (u.2.2 3) ((pushG γ kn σ) 3), xI g (u.2.1 3) 49 (zT ((pushG γ kn σ) 3)), xI g (u.2.2 3) 49 (zI ((pushG γ kn σ) 3))]) F w [0, 1, 2, 3, 4, 5, 6, 7, 8, 9, 10, 11, 12, 13, 14, 15, 16, 17] [] [0, 1, 2, 3, 4, 5, 6, 7, 8, 9, 10, 11, 12, 13, 14, 15, 16, 17] rfl rfl rfl (fun _ => rfl)
    (fun hp => va_runV (As := [.int (nI k)]) (rest := []) F.1 (kX5_pass_k l g x nw sn tk hs tx tr na nb σ hq kn ρ α β γ k H.size hk hkn) (cwV 1 hts gL_pass_X5_pass rfl rfl rfl ⟨rfl, hd_X5_pass⟩ ⟨Nat.le_of_ble_eq_true rfl, Nat.le_of_ble_eq_true rfl⟩) ⟨hp.1, va_recv F.2.2.2.1.1 w.1 (q0 := 0) (ci := 5) rfl rfl, hp.2⟩ rfl rfl hl.1 rfl (lv_room (Nat.le_of_ble_eq_true rfl)) dL_pass_2 ⟨Nat.le_of_ble_eq_true rfl, Nat.le_of_ble_eq_true rfl⟩)
    (fun r_1 u H locs h_2 w => ?_)
  try dsimp only at h_2
  obtain ⟨u_3, hu9⟩ : ∃ z, z = u := ⟨_, rfl⟩
  subst hu9
  have w : kW g A s [cX x nw sn tk hs tx tr, cR nw na nb (passS k σ), xI g na 49 (zT (passS k σ)), xI g nb 49 (zI (passS k σ)), cH hs hq (pushN kn), xQ g hq 4 (rq u_3.1), cR (u_3.1 0) (u_3.2.1 0) (u_3.2.2 0) ((pushG γ kn σ) 0), xI g (u_3.2.1 0) 49 (zT ((pushG γ kn σ) 0)), xI g (u_3.2.2 0) 49 (zI ((pushG γ kn σ) 0)), cR (u_3.1 1) (u_3.2.1 1) (u_3.2.2 1) ((pushG γ kn σ) 1), xI g (u_3.2.1 1) 49 (zT ((pushG γ kn σ) 1)), xI g (u_3.2.2 1) 49 (zI ((pushG γ kn σ) 1)), cR (u_3.1 2) (u_3.2.1 2) (u_3.2.2 2) ((pushG γ kn σ) 2), xI g (u_3.2.1 2) 49 (zT ((pushG γ kn σ) 2)), xI g (u_3.2.2 2) 49 (zI ((pushG γ kn σ) 2)), cR (u_3.1 3) (u_3.2.1 3) (u_3.2.2 3) ((pushG γ kn σ) 3), xI g (u_3.2.1 3) 49 (zT ((pushG γ kn σ) 3)), xI g (u_3.2.2 3) 49 (zI ((pushG γ kn σ) 3))] H locs := w
  subst h_2
  subst hA
  subst hQ
  exact kreti F w u_3 [0, 1, 2, 3, 4, 5, 6, 7, 8, 9, 10, 11, 12, 13, 14, 15, 16, 17] rfl rfl (rfl) (Nat.le_of_ble_eq_true rfl) (Nat.le_of_ble_eq_true rfl) dL_pass_5
abbrev rmL_pass_A : Room := { frames := 7, cells := 1, slots := 6, locals := 103 }
set_option maxHeartbeats 4000000 in
set_option maxRecDepth 100000 in
theorem kL_pass_A (l : Launch) (hnl : l.stackTraces = false) (g : GG) (x : Nat) (nw : Nat) (sn : Nat) (tk : Bool) (hs : Nat) (tx : Nat) (tr : Nat) (n : Int32) (sz : Nat) (hn : ¬ (1 ≤ n.toInt ∧ n.toInt ≤ 48)) : Met l yL_pass wsL_pass rmL_pass_A (va_Pc [.ref x, .int n] (kPre g [cX x nw sn tk hs tx tr] sz)) (va_Qi (fun (r : Int32) (u : Unit) => r = (-102)) (kB g (va_A [cX x nw sn tk hs tx tr] sz) (fun u => [cX x nw sn tk hs tx tr])) (va_A [cX x nw sn tk hs tx tr] sz)) 1 6 (va_A [cX x nw sn tk hs tx tr] sz) := by
  refine kMetH (hh := [(0, 5, 6, 15)]) (cc := cL_pass) (maxL := 3) (ret := (some .int)) (own := RL) (by decide) rfl rfl (Nat.le_of_ble_eq_true rfl) ?_
  intro p e s m args below meth c ls Q H locs A F w hl htab hA hQ
  have hx := F.1.1
  have hb := F.1.2.1
  have hts := F.1.2.2.2.2
  have hl : lv_has ls 3 [(0, .ref x), (1, .int n)] := hl
  refine lv_aload_n hx hb dL_pass_0 rfl (lv_at hl 0 rfl) ?_
  refine lv_iload_n hx hb dL_pass_1 rfl (lv_at hl 1 rfl) ?_
  refine kcaught (E0 := eIAE) (wc := []) (wr := [cX x nw sn tk hs tx tr]) (wn := fun (u : Unit) => [cX x nw sn tk hs tx tr]) F w [] [0] [0] rfl rfl rfl (fun _ => rfl)
    (fun hp => vx_runV (As := [.int n]) (rest := []) F.1 (kX5_pass_A l hnl g x n H.size hn) (cwV 1 hts gL_pass_X5_pass rfl rfl rfl ⟨rfl, hd_X5_pass⟩ ⟨Nat.le_of_ble_eq_true rfl, Nat.le_of_ble_eq_true rfl⟩) ⟨hp.1, va_recv F.2.2.2.1.1 w.1 (q0 := 0) (ci := 5) rfl rfl, hp.2⟩ rfl rfl hl.1 rfl (lv_room (Nat.le_of_ble_eq_true rfl)) dL_pass_2 ⟨Nat.le_of_ble_eq_true rfl, Nat.le_of_ble_eq_true rfl⟩)
    [] ⟨0, 5, 6, 15⟩ [] htab (fun z hz => nomatch hz) (by decide +kernel) (by decide) (by decide +kernel) (by decide +kernel) (fun q_1 _ H locs w => ?_)
  refine lv_astore_n (lv' := [(2, .ref q_1), (0, .ref x), (1, .int n)]) hx hb dL_pass_6 rfl hl (by decide) rfl (fun ls hl => ?_)
  refine lv_bipush (v := (-102)) hx hb dL_pass_7 (by decide) ?_
  subst hA
  subst hQ
  exact kreti F w () [0] rfl rfl (rfl) (Nat.le_of_ble_eq_true rfl) (Nat.le_of_ble_eq_true rfl) dL_pass_9
theorem hd_X5_passRow : yX5_passRow.cls ≠ "java/lang/invoke/MethodHandle" ∧ yX5_passRow.cls ≠ "java/lang/invoke/VarHandle" ∧ (parseMethodDescriptor yX5_passRow.desc).map (fun d => d.parameters.length) = some 2 := by decide +kernel
abbrev rmL_passRow_k : Room := { frames := 5, cells := 0, slots := 0, locals := 112 }
set_option maxHeartbeats 4000000 in
set_option maxRecDepth 100000 in
theorem kL_passRow_k (l : Launch) (g : GG) (x : Nat) (nw : Nat) (sn : Nat) (tk : Bool) (hs : Nat) (tx : Nat) (tr : Nat) (na : Nat) (nb : Nat) (σ : Sg) (hq : Nat) (kn : Nat) (ρ : Nat → Nat) (α : Nat → Nat) (β : Nat → Nat) (γ : Nat → Sg) (n : Nat) (t : Nat) (sz : Nat) (hn : 1 ≤ n ∧ n ≤ t ∧ t ≤ 48) (hkn : kn ≤ 4) : Met l yL_passRow wsL_passRow rmL_passRow_k (va_Pc [.ref x, .int (nI n), .int (nI t)] (kPre g [cX x nw sn tk hs tx tr, cR nw na nb σ, xI g na 49 (zT σ), xI g nb 49 (zI σ), cH hs hq kn, xQ g hq 4 (rq ρ), cR (ρ 0) (α 0) (β 0) (γ 0), xI g (α 0) 49 (zT (γ 0)), xI g (β 0) 49 (zI (γ 0)), cR (ρ 1) (α 1) (β 1) (γ 1), xI g (α 1) 49 (zT (γ 1)), xI g (β 1) 49 (zI (γ 1)), cR (ρ 2) (α 2) (β 2) (γ 2), xI g (α 2) 49 (zT (γ 2)), xI g (β 2) 49 (zI (γ 2)), cR (ρ 3) (α 3) (β 3) (γ 3), xI g (α 3) 49 (zT (γ 3)), xI g (β 3) 49 (zI (γ 3))] sz)) (va_Qi (fun (r : Int32) (u : (Nat → Nat) × (Nat → Nat) × (Nat → Nat)) => r = nI (rowC n (t + 1 - n) σ)) (kB g (va_A [cX x nw sn tk hs tx tr, cR nw na nb σ, xI g na 49 (zT σ), xI g nb 49 (zI σ), cH hs hq kn, xQ g hq 4 (rq ρ), cR (ρ 0) (α 0) (β 0) (γ 0), xI g (α 0) 49 (zT (γ 0)), xI g (β 0) 49 (zI (γ 0)), cR (ρ 1) (α 1) (β 1) (γ 1), xI g (α 1) 49 (zT (γ 1)), xI g (β 1) 49 (zI (γ 1)), cR (ρ 2) (α 2) (β 2) (γ 2), xI g (α 2) 49 (zT (γ 2)), xI g (β 2) 49 (zI (γ 2)), cR (ρ 3) (α 3) (β 3) (γ 3), xI g (α 3) 49 (zT (γ 3)), xI g (β 3) 49 (zI (γ 3))] sz) (fun u => [cX x nw sn tk hs tx tr, cR nw na nb (rowN n (t + 1 - n) σ), xI g na 49 (zT (rowN n (t + 1 - n) σ)), xI g nb 49 (zI (rowN n (t + 1 - n) σ)), cH hs hq (pushN kn), xQ g hq 4 (rq u.1), cR (u.1 0) (u.2.1 0) (u.2.2 0) ((pushG γ kn σ) 0), xI g (u.2.1 0) 49 (zT ((pushG γ kn σ) 0)), xI g (u.2.2 0) 49 (zI ((pushG γ kn σ) 0)), cR (u.1 1) (u.2.1 1) (u.2.2 1) ((pushG γ kn σ) 1), xI g (u.2.1 1) 49 (zT ((pushG γ kn σ) 1)), xI g (u.2.2 1) 49 (zI ((pushG γ kn σ) 1)), cR (u.1 2) (u.2.1 2) (u.2.2 2) ((pushG γ kn σ) 2), xI g (u.2.1 2) 49 (zT ((pushG γ kn σ) 2)), xI g (u.2.2 2) 49 (zI ((pushG γ kn σ) 2)), cR (u.1 3) (u.2.1 3) (u.2.2 3) ((pushG γ kn σ) 3), xI g (u.2.1 3) 49 (zT ((pushG γ kn σ) 3)), xI g (u.2.2 3) 49 (zI ((pushG γ kn σ) 3))])) (va_A [cX x nw sn tk hs tx tr, cR nw na nb σ, xI g na 49 (zT σ), xI g nb 49 (zI σ), cH hs hq kn, xQ g hq 4 (rq ρ), cR (ρ 0) (α 0) (β 0) (γ 0), xI g (α 0) 49 (zT (γ 0)), xI g (β 0) 49 (zI (γ 0)), cR (ρ 1) (α 1) (β 1) (γ 1), xI g (α 1) 49 (zT (γ 1)), xI g (β 1) 49 (zI (γ 1)), cR (ρ 2) (α 2) (β 2) (γ 2), xI g (α 2) 49 (zT (γ 2)), xI g (β 2) 49 (zI (γ 2)), cR (ρ 3) (α 3) (β 3) (γ 3), xI g (α 3) 49 (zT (γ 3)), xI g (β 3) 49 (zI (γ 3))] sz)) 0 0 (va_A [cX x nw sn tk hs tx tr, cR nw na nb σ, xI g na 49 (zT σ), xI g nb 49 (zI σ), cH hs hq kn, xQ g hq 4 (rq ρ), cR (ρ 0) (α 0) (β 0) (γ 0), xI g (α 0) 49 (zT (γ 0)), xI g (β 0) 49 (zI (γ 0)), cR (ρ 1) (α 1) (β 1) (γ 1), xI g (α 1) 49 (zT (γ 1)), xI g (β 1) 49 (zI (γ 1)), cR (ρ 2) (α 2) (β 2) (γ 2), xI g (α 2) 49 (zT (γ 2)), xI g (β 2) 49 (zI (γ 2)), cR (ρ 3) (α 3) (β 3) (γ 3), xI g (α 3) 49 (zT (γ 3)), xI g (β 3) 49 (zI (γ 3))] sz) := by
  refine kMetH (hh := [(0, 6, 7, 15)]) (cc := cL_passRow) (maxL := 4) (ret := (some .int)) (own := RL) (by decide) rfl rfl (Nat.le_of_ble_eq_true rfl) ?_
  intro p e s m args below meth c ls Q H locs A F w hl htab hA hQ
  have hx := F.1.1
  have hb := F.1.2.1
  have hts := F.1.2.2.2.2
  have hl : lv_has ls 4 [(0, .ref x), (1, .int (nI n)), (2, .int (nI t))] := hl
  refine lv_aload_n hx hb dL_passRow_0 rfl (lv_at hl 0 rfl) ?_
  refine lv_iload_n hx hb dL_passRow_1 rfl (lv_at hl 1 rfl) ?_
  refine lv_iload_n hx hb dL_passRow_2 rfl (lv_at hl 2 rfl) ?_
  refine kcalli (wc := [cX x nw sn tk hs tx tr, cR nw na nb σ, xI g na 49 (zT σ), xI g nb 49 (zI σ), cH hs hq kn, xQ g hq 4 (rq ρ), cR (ρ 0) (α 0) (β 0) (γ 0), xI g (α 0) 49 (zT (γ 0)), xI g (β 0) 49 (zI (γ 0)), cR (ρ 1) (α 1) (β 1) (γ 1), xI g (α 1) 49 (zT (γ 1)), xI g (β 1) 49 (zI (γ 1)), cR (ρ 2) (α 2) (β 2) (γ 2), xI g (α 2) 49 (zT (γ 2)), xI g (β 2) 49 (zI (γ 2)), cR (ρ 3) (α 3) (β 3) (γ 3), xI g (α 3) 49 (zT (γ 3)), xI g (β 3) 49 (zI (γ 3))]) (wr := []) (wn := fun (u : (Nat → Nat) × (Nat → Nat) × (Nat → Nat)) => [cX x nw sn tk hs tx tr, cR nw na nb (rowN n (t + 1 - n) σ), xI g na 49 (zT (rowN n (t + 1 - n) σ)), xI g nb 49 (zI (rowN n (t + 1 - n) σ)), cH hs hq (pushN kn), xQ g hq 4 (rq u.1), cR (u.1 0) (u.2.1 0) (u.2.2 0) ((pushG γ kn σ) 0), xI g (u.2.1 0) 49 (zT ((pushG γ kn σ) 0)), xI g (u.2.2 0) 49 (zI ((pushG γ kn σ) 0)), cR (u.1 1) (u.2.1 1) (u.2.2 1) ((pushG γ kn σ) 1), xI g (u.2.1 1) 49 (zT ((pushG γ kn σ) 1)), xI g (u.2.2 1) 49 (zI ((pushG γ kn σ) 1)), cR (u.1 2) (u.2.1 2) (u.2.2 2) ((pushG γ kn σ) 2), xI g (u.2.1 2) 49 (zT ((pushG γ kn σ) 2)), xI g (u.2.2 2) 49 (zI ((pushG γ kn σ) 2)), cR (u.1 3) (u.2.1 3) (u.2.2 3) ((pushG γ kn σ) 3), xI g (u.2.1 3) 49 (zT ((pushG γ kn σ) 3)), xI g (u.2.2 3) 49 (zI ((pushG γ kn σ) 3))]) F w [0, 1, 2, 3, 4, 5, 6, 7, 8, 9, 10, 11, 12, 13, 14, 15, 16, 17] [] [0, 1, 2, 3, 4, 5, 6, 7, 8, 9, 10, 11, 12, 13, 14, 15, 16, 17] rfl rfl rfl (fun _ => rfl)
    (fun hp => va_runV (As := [.int (nI n), .int (nI t)]) (rest := []) F.1 (kX5_passRow_k l g x nw sn tk hs tx tr na nb σ hq kn ρ α β γ n t H.size hn hkn) (cwV 2 hts gL_passRow_X5_passRow rfl rfl rfl ⟨rfl, hd_X5_passRow⟩ ⟨Nat.le_of_ble_eq_true rfl, Nat.le_of_ble_eq_true rfl⟩) ⟨hp.1, va_recv F.2.2.2.1.1 w.1 (q0 := 0) (ci := 5) rfl rfl, hp.2⟩ rfl rfl hl.1 rfl (lv_room (Nat.le_of_ble_eq_true rfl)) dL_passRow_3 ⟨Nat.le_of_ble_eq_true rfl, Nat.le_of_ble_eq_true rfl⟩)
    (fun r_1 u H locs h_2 w => ?_)
  try dsimp only at h_2
  obtain ⟨u_3, hu9⟩ : ∃ z, z = u := ⟨_, rfl⟩
  subst hu9
  have w : kW g A s [cX x nw sn tk hs tx tr, cR nw na nb (rowN n (t + 1 - n) σ), xI g na 49 (zT (rowN n (t + 1 - n) σ)), xI g nb 49 (zI (rowN n (t + 1 - n) σ)), cH hs hq (pushN kn), xQ g hq 4 (rq u_3.1), cR (u_3.1 0) (u_3.2.1 0) (u_3.2.2 0) ((pushG γ kn σ) 0), xI g (u_3.2.1 0) 49 (zT ((pushG γ kn σ) 0)), xI g (u_3.2.2 0) 49 (zI ((pushG γ kn σ) 0)), cR (u_3.1 1) (u_3.2.1 1) (u_3.2.2 1) ((pushG γ kn σ) 1), xI g (u_3.2.1 1) 49 (zT ((pushG γ kn σ) 1)), xI g (u_3.2.2 1) 49 (zI ((pushG γ kn σ) 1)), cR (u_3.1 2) (u_3.2.1 2) (u_3.2.2 2) ((pushG γ kn σ) 2), xI g (u_3.2.1 2) 49 (zT ((pushG γ kn σ) 2)), xI g (u_3.2.2 2) 49 (zI ((pushG γ kn σ) 2)), cR (u_3.1 3) (u_3.2.1 3) (u_3.2.2 3) ((pushG γ kn σ) 3), xI g (u_3.2.1 3) 49 (zT ((pushG γ kn σ) 3)), xI g (u_3.2.2 3) 49 (zI ((pushG γ kn σ) 3))] H locs := w
  subst h_2
  subst hA
  subst hQ
  exact kreti F w u_3 [0, 1, 2, 3, 4, 5, 6, 7, 8, 9, 10, 11, 12, 13, 14, 15, 16, 17] rfl rfl (rfl) (Nat.le_of_ble_eq_true rfl) (Nat.le_of_ble_eq_true rfl) dL_passRow_6
abbrev rmL_passRow_A : Room := { frames := 7, cells := 1, slots := 6, locals := 104 }
set_option maxHeartbeats 4000000 in
set_option maxRecDepth 100000 in
theorem kL_passRow_A (l : Launch) (hnl : l.stackTraces = false) (g : GG) (x : Nat) (nw : Nat) (sn : Nat) (tk : Bool) (hs : Nat) (tx : Nat) (tr : Nat) (n : Int32) (t : Int32) (sz : Nat) (hn : ¬ (1 ≤ n.toInt ∧ n.toInt ≤ t.toInt ∧ t.toInt ≤ 48)) : Met l yL_passRow wsL_passRow rmL_passRow_A (va_Pc [.ref x, .int n, .int t] (kPre g [cX x nw sn tk hs tx tr] sz)) (va_Qi (fun (r : Int32) (u : Unit) => r = (-102)) (kB g (va_A [cX x nw sn tk hs tx tr] sz) (fun u => [cX x nw sn tk hs tx tr])) (va_A [cX x nw sn tk hs tx tr] sz)) 1 6 (va_A [cX x nw sn tk hs tx tr] sz) := by
  refine kMetH (hh := [(0, 6, 7, 15)]) (cc := cL_passRow) (maxL := 4) (ret := (some .int)) (own := RL) (by decide) rfl rfl (Nat.le_of_ble_eq_true rfl) ?_
  intro p e s m args below meth c ls Q H locs A F w hl htab hA hQ
  have hx := F.1.1
  have hb := F.1.2.1
  have hts := F.1.2.2.2.2
  have hl : lv_has ls 4 [(0, .ref x), (1, .int n), (2, .int t)] := hl
  refine lv_aload_n hx hb dL_passRow_0 rfl (lv_at hl 0 rfl) ?_
  refine lv_iload_n hx hb dL_passRow_1 rfl (lv_at hl 1 rfl) ?_
  refine lv_iload_n hx hb dL_passRow_2 rfl (lv_at hl 2 rfl) ?_
  refine kcaught (E0 := eIAE) (wc := []) (wr := [cX x nw sn tk hs tx tr]) (wn := fun (u : Unit) => [cX x nw sn tk hs tx tr]) F w [] [0] [0] rfl rfl rfl (fun _ => rfl)
    (fun hp => vx_runV (As := [.int n, .int t]) (rest := []) F.1 (kX5_passRow_A l hnl g x n t H.size hn) (cwV 2 hts gL_passRow_X5_passRow rfl rfl rfl ⟨rfl, hd_X5_passRow⟩ ⟨Nat.le_of_ble_eq_true rfl, Nat.le_of_ble_eq_true rfl⟩) ⟨hp.1, va_recv F.2.2.2.1.1 w.1 (q0 := 0) (ci := 5) rfl rfl, hp.2⟩ rfl rfl hl.1 rfl (lv_room (Nat.le_of_ble_eq_true rfl)) dL_passRow_3 ⟨Nat.le_of_ble_eq_true rfl, Nat.le_of_ble_eq_true rfl⟩)
    [] ⟨0, 6, 7, 15⟩ [] htab (fun z hz => nomatch hz) (by decide +kernel) (by decide) (by decide +kernel) (by decide +kernel) (fun q_1 _ H locs w => ?_)
  refine lv_astore_n (lv' := [(3, .ref q_1), (0, .ref x), (1, .int n), (2, .int t)]) hx hb dL_passRow_7 rfl hl (by decide) rfl (fun ls hl => ?_)
  refine lv_bipush (v := (-102)) hx hb dL_passRow_8 (by decide) ?_
  subst hA
  subst hQ
  exact kreti F w () [0] rfl rfl (rfl) (Nat.le_of_ble_eq_true rfl) (Nat.le_of_ble_eq_true rfl) dL_passRow_10
theorem hd_X5_turnDoor : yX5_turnDoor.cls ≠ "java/lang/invoke/MethodHandle" ∧ yX5_turnDoor.cls ≠ "java/lang/invoke/VarHandle" ∧ (parseMethodDescriptor yX5_turnDoor.desc).map (fun d => d.parameters.length) = some 1 := by decide +kernel
abbrev rmL_turnDoor_k : Room := { frames := 4, cells := 0, slots := 0, locals := 86 }
set_option maxHeartbeats 4000000 in
set_option maxRecDepth 100000 in
theorem kL_turnDoor_k (l : Launch) (g : GG) (x : Nat) (nw : Nat) (sn : Nat) (tk : Bool) (hs : Nat) (tx : Nat) (tr : Nat) (na : Nat) (nb : Nat) (σ : Sg) (hq : Nat) (kn : Nat) (ρ : Nat → Nat) (α : Nat → Nat) (β : Nat → Nat) (γ : Nat → Sg) (d : Nat) (sz : Nat) (hd : 1 ≤ d ∧ d ≤ 48) (hl9 : zL σ d = false) (hkn : kn ≤ 4) : Met l yL_turnDoor wsL_turnDoor rmL_turnDoor_k (va_Pc [.ref x, .int (nI d)] (kPre g [cX x nw sn tk hs tx tr, cR nw na nb σ, xI g na 49 (zT σ), xI g nb 49 (zI σ), cH hs hq kn, xQ g hq 4 (rq ρ), cR (ρ 0) (α 0) (β 0) (γ 0), xI g (α 0) 49 (zT (γ 0)), xI g (β 0) 49 (zI (γ 0)), cR (ρ 1) (α 1) (β 1) (γ 1), xI g (α 1) 49 (zT (γ 1)), xI g (β 1) 49 (zI (γ 1)), cR (ρ 2) (α 2) (β 2) (γ 2), xI g (α 2) 49 (zT (γ 2)), xI g (β 2) 49 (zI (γ 2)), cR (ρ 3) (α 3) (β 3) (γ 3), xI g (α 3) 49 (zT (γ 3)), xI g (β 3) 49 (zI (γ 3))] sz)) (va_Qi (fun (r : Int32) (u : (Nat → Nat) × (Nat → Nat) × (Nat → Nat)) => r = bI (zO (turnS d σ) d)) (kB g (va_A [cX x nw sn tk hs tx tr, cR nw na nb σ, xI g na 49 (zT σ), xI g nb 49 (zI σ), cH hs hq kn, xQ g hq 4 (rq ρ), cR (ρ 0) (α 0) (β 0) (γ 0), xI g (α 0) 49 (zT (γ 0)), xI g (β 0) 49 (zI (γ 0)), cR (ρ 1) (α 1) (β 1) (γ 1), xI g (α 1) 49 (zT (γ 1)), xI g (β 1) 49 (zI (γ 1)), cR (ρ 2) (α 2) (β 2) (γ 2), xI g (α 2) 49 (zT (γ 2)), xI g (β 2) 49 (zI (γ 2)), cR (ρ 3) (α 3) (β 3) (γ 3), xI g (α 3) 49 (zT (γ 3)), xI g (β 3) 49 (zI (γ 3))] sz) (fun u => [cX x nw sn tk hs tx tr, cR nw na nb (turnS d σ), xI g na 49 (zT (turnS d σ)), xI g nb 49 (zI (turnS d σ)), cH hs hq (pushN kn), xQ g hq 4 (rq u.1), cR (u.1 0) (u.2.1 0) (u.2.2 0) ((pushG γ kn σ) 0), xI g (u.2.1 0) 49 (zT ((pushG γ kn σ) 0)), xI g (u.2.2 0) 49 (zI ((pushG γ kn σ) 0)), cR (u.1 1) (u.2.1 1) (u.2.2 1) ((pushG γ kn σ) 1), xI g (u.2.1 1) 49 (zT ((pushG γ kn σ) 1)), xI g (u.2.2 1) 49 (zI ((pushG γ kn σ) 1)), cR (u.1 2) (u.2.1 2) (u.2.2 2) ((pushG γ kn σ) 2), xI g (u.2.1 2) 49 (zT ((pushG γ kn σ) 2)), xI g (u.2.2 2) 49 (zI ((pushG γ kn σ) 2)), cR (u.1 3) (u.2.1 3) (u.2.2 3) ((pushG γ kn σ) 3), xI g (u.2.1 3) 49 (zT ((pushG γ kn σ) 3)), xI g (u.2.2 3) 49 (zI ((pushG γ kn σ) 3))])) (va_A [cX x nw sn tk hs tx tr, cR nw na nb σ, xI g na 49 (zT σ), xI g nb 49 (zI σ), cH hs hq kn, xQ g hq 4 (rq ρ), cR (ρ 0) (α 0) (β 0) (γ 0), xI g (α 0) 49 (zT (γ 0)), xI g (β 0) 49 (zI (γ 0)), cR (ρ 1) (α 1) (β 1) (γ 1), xI g (α 1) 49 (zT (γ 1)), xI g (β 1) 49 (zI (γ 1)), cR (ρ 2) (α 2) (β 2) (γ 2), xI g (α 2) 49 (zT (γ 2)), xI g (β 2) 49 (zI (γ 2)), cR (ρ 3) (α 3) (β 3) (γ 3), xI g (α 3) 49 (zT (γ 3)), xI g (β 3) 49 (zI (γ 3))] sz)) 0 0 (va_A [cX x nw sn tk hs tx tr, cR nw na nb σ, xI g na 49 (zT σ), xI g nb 49 (zI σ), cH hs hq kn, xQ g hq 4 (rq ρ), cR (ρ 0) (α 0) (β 0) (γ 0), xI g (α 0) 49 (zT (γ 0)), xI g (β 0) 49 (zI (γ 0)), cR (ρ 1) (α 1) (β 1) (γ 1), xI g (α 1) 49 (zT (γ 1)), xI g (β 1) 49 (zI (γ 1)), cR (ρ 2) (α 2) (β 2) (γ 2), xI g (α 2) 49 (zT (γ 2)), xI g (β 2) 49 (zI (γ 2)), cR (ρ 3) (α 3) (β 3) (γ 3), xI g (α 3) 49 (zT (γ 3)), xI g (β 3) 49 (zI (γ 3))] sz) := by
  refine kMetH (hh := [(2, 8, 11, 15), (2, 8, 15, 25)]) (cc := cL_turnDoor) (maxL := 4) (ret := (some .int)) (own := RL) (by decide) rfl rfl (Nat.le_of_ble_eq_true rfl) ?_
  intro p e s m args below meth c ls Q H locs A F w hl htab hA hQ
  have hx := F.1.1
  have hb := F.1.2.1
  have hts := F.1.2.2.2.2
  have hl : lv_has ls 4 [(0, .ref x), (1, .int (nI d))] := hl
  refine lv_iconst (v := nI 0) hx hb dL_turnDoor_0 (by decide) ?_
  refine lv_istore_n (lv' := [(2, .int (nI 0)), (0, .ref x), (1, .int (nI d))]) hx hb dL_turnDoor_1 rfl hl (by decide) rfl (fun ls hl => ?_)
  refine lv_aload_n hx hb dL_turnDoor_2 rfl (lv_at hl 1 rfl) ?_
  refine lv_iload_n hx hb dL_turnDoor_3 rfl (lv_at hl 2 rfl) ?_
  refine kcalli (wc := [cX x nw sn tk hs tx tr, cR nw na nb σ, xI g na 49 (zT σ), xI g nb 49 (zI σ), cH hs hq kn, xQ g hq 4 (rq ρ), cR (ρ 0) (α 0) (β 0) (γ 0), xI g (α 0) 49 (zT (γ 0)), xI g (β 0) 49 (zI (γ 0)), cR (ρ 1) (α 1) (β 1) (γ 1), xI g (α 1) 49 (zT (γ 1)), xI g (β 1) 49 (zI (γ 1)), cR (ρ 2) (α 2) (β 2) (γ 2), xI g (α 2) 49 (zT (γ 2)), xI g (β 2) 49 (zI (γ 2)), cR (ρ 3) (α 3) (β 3) (γ 3), xI g (α 3) 49 (zT (γ 3)), xI g (β 3) 49 (zI (γ 3))]) (wr := []) (wn := fun (u : (Nat → Nat) × (Nat → Nat) × (Nat → Nat)) => [cX x nw sn tk hs tx tr, cR nw na nb (turnS d σ), xI g na 49 (zT (turnS d σ)), xI g nb 49 (zI (turnS d σ)), cH hs hq (pushN kn), xQ g hq 4 (rq u.1), cR (u.1 0) (u.2.1 0) (u.2.2 0) ((pushG γ kn σ) 0), xI g (u.2.1 0) 49 (zT ((pushG γ kn σ) 0)), xI g (u.2.2 0) 49 (zI ((pushG γ kn σ) 0)), cR (u.1 1) (u.2.1 1) (u.2.2 1) ((pushG γ kn σ) 1), xI g (u.2.1 1) 49 (zT ((pushG γ kn σ) 1)), xI g (u.2.2 1) 49 (zI ((pushG γ kn σ) 1)), cR (u.1 2) (u.2.1 2) (u.2.2 2) ((pushG γ kn σ) 2), xI g (u.2.1 2) 49 (zT ((pushG γ kn σ) 2)), xI g (u.2.2 2) 49 (zI ((pushG γ kn σ) 2)), cR (u.1 3) (u.2.1 3) (u.2.2 3) ((pushG γ kn σ) 3), xI g (u.2.1 3) 49 (zT ((pushG γ kn σ) 3)), xI g (u.2.2 3) 49 (zI ((pushG γ kn σ) 3))]) F w [0, 1, 2, 3, 4, 5, 6, 7, 8, 9, 10, 11, 12, 13, 14, 15, 16, 17] [] [0, 1, 2, 3, 4, 5, 6, 7, 8, 9, 10, 11, 12, 13, 14, 15, 16, 17] rfl rfl rfl (fun _ => rfl)
    (fun hp => va_runV (As := [.int (nI d)]) (rest := []) F.1 (kX5_turnDoor_k l g x nw sn tk hs tx tr na nb σ hq kn ρ α β γ d H.size hd hl9 hkn) (cwV 1 hts gL_turnDoor_X5_turnDoor rfl rfl rfl ⟨rfl, hd_X5_turnDoor⟩ ⟨Nat.le_of_ble_eq_true rfl, Nat.le_of_ble_eq_true rfl⟩) ⟨hp.1, va_recv F.2.2.2.1.1 w.1 (q0 := 0) (ci := 5) rfl rfl, hp.2⟩ rfl rfl hl.1 rfl (lv_room (Nat.le_of_ble_eq_true rfl)) dL_turnDoor_4 ⟨Nat.le_of_ble_eq_true rfl, Nat.le_of_ble_eq_true rfl⟩)
    (fun r_1 u H locs h_2 w => ?_)
  try dsimp only at h_2
  obtain ⟨u_3, hu9⟩ : ∃ z, z = u := ⟨_, rfl⟩
  subst hu9
  have w : kW g A s [cX x nw sn tk hs tx tr, cR nw na nb (turnS d σ), xI g na 49 (zT (turnS d σ)), xI g nb 49 (zI (turnS d σ)), cH hs hq (pushN kn), xQ g hq 4 (rq u_3.1), cR (u_3.1 0) (u_3.2.1 0) (u_3.2.2 0) ((pushG γ kn σ) 0), xI g (u_3.2.1 0) 49 (zT ((pushG γ kn σ) 0)), xI g (u_3.2.2 0) 49 (zI ((pushG γ kn σ) 0)), cR (u_3.1 1) (u_3.2.1 1) (u_3.2.2 1) ((pushG γ kn σ) 1), xI g (u_3.2.1 1) 49 (zT ((pushG γ kn σ) 1)), xI g (u_3.2.2 1) 49 (zI ((pushG γ kn σ) 1)), cR (u_3.1 2) (u_3.2.1 2) (u_3.2.2 2) ((pushG γ kn σ) 2), xI g (u_3.2.1 2) 49 (zT ((pushG γ kn σ) 2)), xI g (u_3.2.2 2) 49 (zI ((pushG γ kn σ) 2)), cR (u_3.1 3) (u_3.2.1 3) (u_3.2.2 3) ((pushG γ kn σ) 3), xI g (u_3.2.1 3) 49 (zT ((pushG γ kn σ) 3)), xI g (u_3.2.2 3) 49 (zI ((pushG γ kn σ) 3))] H locs := w
  subst h_2
  refine lv_istore_n (lv' := [(2, .int (bI (zO (turnS d σ) d))), (0, .ref x), (1, .int (nI d))]) hx hb dL_turnDoor_7 rfl hl (by decide) rfl (fun ls hl => ?_)
  refine lv_goto (tgt := 19) hx hb dL_turnDoor_8 (by decide) ?_
  refine lv_iload_n hx hb dL_turnDoor_19 rfl (lv_at hl 0 rfl) ?_
  refine lv_if_eq (tgt := 27) hx hb dL_turnDoor_20 (by decide) (fun h_4 => ?_) (fun h_4 => ?_)
  · have h_4 : (zO (turnS d σ) d) = false := bI_z.mp h_4
    refine lv_iconst (v := nI 0) hx hb dL_turnDoor_27 (by decide) ?_
    refine ktopi (y := bI (zO (turnS d σ) d)) (by rw [h_4]; rfl) ?_
    subst hA
    subst hQ
    exact kreti F w u_3 [0, 1, 2, 3, 4, 5, 6, 7, 8, 9, 10, 11, 12, 13, 14, 15, 16, 17] rfl rfl (rfl) (Nat.le_of_ble_eq_true rfl) (Nat.le_of_ble_eq_true rfl) dL_turnDoor_28
  · have h_4 : (zO (turnS d σ) d) = true := bI_o.mp h_4
    refine lv_iconst (v := nI 1) hx hb dL_turnDoor_23 (by decide) ?_
    refine lv_goto (tgt := 28) hx hb dL_turnDoor_24 (by decide) ?_
    refine ktopi (y := bI (zO (turnS d σ) d)) (by rw [h_4]; rfl) ?_
    subst hA
    subst hQ
    exact kreti F w u_3 [0, 1, 2, 3, 4, 5, 6, 7, 8, 9, 10, 11, 12, 13, 14, 15, 16, 17] rfl rfl (rfl) (Nat.le_of_ble_eq_true rfl) (Nat.le_of_ble_eq_true rfl) dL_turnDoor_28
abbrev rmL_turnDoor_A : Room := { frames := 7, cells := 1, slots := 6, locals := 103 }
set_option maxHeartbeats 4000000 in
set_option maxRecDepth 100000 in
theorem kL_turnDoor_A (l : Launch) (hnl : l.stackTraces = false) (g : GG) (x : Nat) (nw : Nat) (sn : Nat) (tk : Bool) (hs : Nat) (tx : Nat) (tr : Nat) (n : Int32) (sz : Nat) (hn : ¬ (1 ≤ n.toInt ∧ n.toInt ≤ 48)) : Met l yL_turnDoor wsL_turnDoor rmL_turnDoor_A (va_Pc [.ref x, .int n] (kPre g [cX x nw sn tk hs tx tr] sz)) (va_Qi (fun (r : Int32) (u : Unit) => r = (-102)) (kB g (va_A [cX x nw sn tk hs tx tr] sz) (fun u => [cX x nw sn tk hs tx tr])) (va_A [cX x nw sn tk hs tx tr] sz)) 1 6 (va_A [cX x nw sn tk hs tx tr] sz) := by
  refine kMetH (hh := [(2, 8, 11, 15), (2, 8, 15, 25)]) (cc := cL_turnDoor) (maxL := 4) (ret := (some .int)) (own := RL) (by decide) rfl rfl (Nat.le_of_ble_eq_true rfl) ?_
  intro p e s m args below meth c ls Q H locs A F w hl htab hA hQ
  have hx := F.1.1
  have hb := F.1.2.1
  have hts := F.1.2.2.2.2
  have hl : lv_has ls 4 [(0, .ref x), (1, .int n)] := hl
  refine lv_iconst (v := nI 0) hx hb dL_turnDoor_0 (by decide) ?_
  refine lv_istore_n (lv' := [(2, .int (nI 0)), (0, .ref x), (1, .int n)]) hx hb dL_turnDoor_1 rfl hl (by decide) rfl (fun ls hl => ?_)
  refine lv_aload_n hx hb dL_turnDoor_2 rfl (lv_at hl 1 rfl) ?_
  refine lv_iload_n hx hb dL_turnDoor_3 rfl (lv_at hl 2 rfl) ?_
  refine kcaught (E0 := eIAE) (wc := []) (wr := [cX x nw sn tk hs tx tr]) (wn := fun (u : Unit) => [cX x nw sn tk hs tx tr]) F w [] [0] [0] rfl rfl rfl (fun _ => rfl)
    (fun hp => vx_runV (As := [.int n]) (rest := []) F.1 (kX5_turnDoor_A l hnl g x n H.size hn) (cwV 1 hts gL_turnDoor_X5_turnDoor rfl rfl rfl ⟨rfl, hd_X5_turnDoor⟩ ⟨Nat.le_of_ble_eq_true rfl, Nat.le_of_ble_eq_true rfl⟩) ⟨hp.1, va_recv F.2.2.2.1.1 w.1 (q0 := 0) (ci := 5) rfl rfl, hp.2⟩ rfl rfl hl.1 rfl (lv_room (Nat.le_of_ble_eq_true rfl)) dL_turnDoor_4 ⟨Nat.le_of_ble_eq_true rfl, Nat.le_of_ble_eq_true rfl⟩)
    [] ⟨2, 8, 11, 15⟩ [⟨2, 8, 15, 25⟩] htab (fun z hz => nomatch hz) (by decide +kernel) (by decide) (by decide +kernel) (by decide +kernel) (fun q_1 _ H locs w => ?_)
  refine lv_astore_n (lv' := [(3, .ref q_1), (2, .int (nI 0)), (0, .ref x), (1, .int n)]) hx hb dL_turnDoor_11 rfl hl (by decide) rfl (fun ls hl => ?_)
  refine lv_bipush (v := (-102)) hx hb dL_turnDoor_12 (by decide) ?_
  subst hA
  subst hQ
  exact kreti F w () [0] rfl rfl (rfl) (Nat.le_of_ble_eq_true rfl) (Nat.le_of_ble_eq_true rfl) dL_turnDoor_14
abbrev rmL_turnDoor_S : Room := { frames := 7, cells := 1, slots := 6, locals := 103 }
set_option maxHeartbeats 4000000 in
set_option maxRecDepth 100000 in
theorem kL_turnDoor_S (l : Launch) (hnl : l.stackTraces = false) (g : GG) (x : Nat) (nw : Nat) (sn : Nat) (tk : Bool) (hs : Nat) (tx : Nat) (tr : Nat) (na : Nat) (nb : Nat) (σ : Sg) (d : Nat) (sz : Nat) (hd : 1 ≤ d ∧ d ≤ 48) (hl9 : zL σ d = true) : Met l yL_turnDoor wsL_turnDoor rmL_turnDoor_S (va_Pc [.ref x, .int (nI d)] (kPre g [cX x nw sn tk hs tx tr, cR nw na nb σ, xI g na 49 (zT σ), xI g nb 49 (zI σ)] sz)) (va_Qi (fun (r : Int32) (u : Unit) => r = (-103)) (kB g (va_A [cX x nw sn tk hs tx tr, cR nw na nb σ, xI g na 49 (zT σ), xI g nb 49 (zI σ)] sz) (fun u => [cX x nw sn tk hs tx tr, cR nw na nb σ, xI g na 49 (zT σ), xI g nb 49 (zI σ)])) (va_A [cX x nw sn tk hs tx tr, cR nw na nb σ, xI g na 49 (zT σ), xI g nb 49 (zI σ)] sz)) 1 6 (va_A [cX x nw sn tk hs tx tr, cR nw na nb σ, xI g na 49 (zT σ), xI g nb 49 (zI σ)] sz) := by
  refine kMetH (hh := [(2, 8, 11, 15), (2, 8, 15, 25)]) (cc := cL_turnDoor) (maxL := 4) (ret := (some .int)) (own := RL) (by decide) rfl rfl (Nat.le_of_ble_eq_true rfl) ?_
  intro p e s m args below meth c ls Q H locs A F w hl htab hA hQ
  have hx := F.1.1
  have hb := F.1.2.1
  have hts := F.1.2.2.2.2
  have hl : lv_has ls 4 [(0, .ref x), (1, .int (nI d))] := hl
  refine lv_iconst (v := nI 0) hx hb dL_turnDoor_0 (by decide) ?_
  refine lv_istore_n (lv' := [(2, .int (nI 0)), (0, .ref x), (1, .int (nI d))]) hx hb dL_turnDoor_1 rfl hl (by decide) rfl (fun ls hl => ?_)
  refine lv_aload_n hx hb dL_turnDoor_2 rfl (lv_at hl 1 rfl) ?_
  refine lv_iload_n hx hb dL_turnDoor_3 rfl (lv_at hl 2 rfl) ?_
  refine kcaught (E0 := eISE) (wc := [cX x nw sn tk hs tx tr, cR nw na nb σ, xI g na 49 (zT σ), xI g nb 49 (zI σ)]) (wr := []) (wn := fun (u : Unit) => [cX x nw sn tk hs tx tr, cR nw na nb σ, xI g na 49 (zT σ), xI g nb 49 (zI σ)]) F w [0, 1, 2, 3] [] [0, 1, 2, 3] rfl rfl rfl (fun _ => rfl)
    (fun hp => vx_runV (As := [.int (nI d)]) (rest := []) F.1 (kX5_turnDoor_S l hnl g x nw sn tk hs tx tr na nb σ d H.size hd hl9) (cwV 1 hts gL_turnDoor_X5_turnDoor rfl rfl rfl ⟨rfl, hd_X5_turnDoor⟩ ⟨Nat.le_of_ble_eq_true rfl, Nat.le_of_ble_eq_true rfl⟩) ⟨hp.1, va_recv F.2.2.2.1.1 w.1 (q0 := 0) (ci := 5) rfl rfl, hp.2⟩ rfl rfl hl.1 rfl (lv_room (Nat.le_of_ble_eq_true rfl)) dL_turnDoor_4 ⟨Nat.le_of_ble_eq_true rfl, Nat.le_of_ble_eq_true rfl⟩)
    [⟨2, 8, 11, 15⟩] ⟨2, 8, 15, 25⟩ [] htab (fun z hz => by rcases List.mem_cons.mp hz with rfl | hz; exact ⟨by decide, eIAE, by decide +kernel, by decide +kernel⟩; cases hz) (by decide +kernel) (by decide) (by decide +kernel) (by decide +kernel) (fun q_1 _ H locs w => ?_)
  refine lv_astore_n (lv' := [(3, .ref q_1), (2, .int (nI 0)), (0, .ref x), (1, .int (nI d))]) hx hb dL_turnDoor_15 rfl hl (by decide) rfl (fun ls hl => ?_)
  refine lv_bipush (v := (-103)) hx hb dL_turnDoor_16 (by decide) ?_
  subst hA
  subst hQ
  exact kreti F w () [0, 1, 2, 3] rfl rfl (rfl) (Nat.le_of_ble_eq_true rfl) (Nat.le_of_ble_eq_true rfl) dL_turnDoor_18
theorem hd_X5_turnLock : yX5_turnLock.cls ≠ "java/lang/invoke/MethodHandle" ∧ yX5_turnLock.cls ≠ "java/lang/invoke/VarHandle" ∧ (parseMethodDescriptor yX5_turnLock.desc).map (fun d => d.parameters.length) = some 1 := by decide +kernel
abbrev rmL_turnLock_k : Room := { frames := 4, cells := 0, slots := 0, locals := 86 }
set_option maxHeartbeats 4000000 in
set_option maxRecDepth 100000 in
theorem kL_turnLock_k (l : Launch) (g : GG) (x : Nat) (nw : Nat) (sn : Nat) (tk : Bool) (hs : Nat) (tx : Nat) (tr : Nat) (na : Nat) (nb : Nat) (σ : Sg) (hq : Nat) (kn : Nat) (ρ : Nat → Nat) (α : Nat → Nat) (β : Nat → Nat) (γ : Nat → Sg) (d : Nat) (sz : Nat) (hd : 1 ≤ d ∧ d ≤ 48) (hkn : kn ≤ 4) : Met l yL_turnLock wsL_turnLock rmL_turnLock_k (va_Pc [.ref x, .int (nI d)] (kPre g [cX x nw sn tk hs tx tr, cR nw na nb σ, xI g na 49 (zT σ), xI g nb 49 (zI σ), cH hs hq kn, xQ g hq 4 (rq ρ), cR (ρ 0) (α 0) (β 0) (γ 0), xI g (α 0) 49 (zT (γ 0)), xI g (β 0) 49 (zI (γ 0)), cR (ρ 1) (α 1) (β 1) (γ 1), xI g (α 1) 49 (zT (γ 1)), xI g (β 1) 49 (zI (γ 1)), cR (ρ 2) (α 2) (β 2) (γ 2), xI g (α 2) 49 (zT (γ 2)), xI g (β 2) 49 (zI (γ 2)), cR (ρ 3) (α 3) (β 3) (γ 3), xI g (α 3) 49 (zT (γ 3)), xI g (β 3) 49 (zI (γ 3))] sz)) (va_Qi (fun (r : Int32) (u : (Nat → Nat) × (Nat → Nat) × (Nat → Nat)) => r = bI (zL (lockS d σ) d)) (kB g (va_A [cX x nw sn tk hs tx tr, cR nw na nb σ, xI g na 49 (zT σ), xI g nb 49 (zI σ), cH hs hq kn, xQ g hq 4 (rq ρ), cR (ρ 0) (α 0) (β 0) (γ 0), xI g (α 0) 49 (zT (γ 0)), xI g (β 0) 49 (zI (γ 0)), cR (ρ 1) (α 1) (β 1) (γ 1), xI g (α 1) 49 (zT (γ 1)), xI g (β 1) 49 (zI (γ 1)), cR (ρ 2) (α 2) (β 2) (γ 2), xI g (α 2) 49 (zT (γ 2)), xI g (β 2) 49 (zI (γ 2)), cR (ρ 3) (α 3) (β 3) (γ 3), xI g (α 3) 49 (zT (γ 3)), xI g (β 3) 49 (zI (γ 3))] sz) (fun u => [cX x nw sn tk hs tx tr, cR nw na nb (lockS d σ), xI g na 49 (zT (lockS d σ)), xI g nb 49 (zI (lockS d σ)), cH hs hq (pushN kn), xQ g hq 4 (rq u.1), cR (u.1 0) (u.2.1 0) (u.2.2 0) ((pushG γ kn σ) 0), xI g (u.2.1 0) 49 (zT ((pushG γ kn σ) 0)), xI g (u.2.2 0) 49 (zI ((pushG γ kn σ) 0)), cR (u.1 1) (u.2.1 1) (u.2.2 1) ((pushG γ kn σ) 1), xI g (u.2.1 1) 49 (zT ((pushG γ kn σ) 1)), xI g (u.2.2 1) 49 (zI ((pushG γ kn σ) 1)), cR (u.1 2) (u.2.1 2) (u.2.2 2) ((pushG γ kn σ) 2), xI g (u.2.1 2) 49 (zT ((pushG γ kn σ) 2)), xI g (u.2.2 2) 49 (zI ((pushG γ kn σ) 2)), cR (u.1 3) (u.2.1 3) (u.2.2 3) ((pushG γ kn σ) 3), xI g (u.2.1 3) 49 (zT ((pushG γ kn σ) 3)), xI g (u.2.2 3) 49 (zI ((pushG γ kn σ) 3))])) (va_A [cX x nw sn tk hs tx tr, cR nw na nb σ, xI g na 49 (zT σ), xI g nb 49 (zI σ), cH hs hq kn, xQ g hq 4 (rq ρ), cR (ρ 0) (α 0) (β 0) (γ 0), xI g (α 0) 49 (zT (γ 0)), xI g (β 0) 49 (zI (γ 0)), cR (ρ 1) (α 1) (β 1) (γ 1), xI g (α 1) 49 (zT (γ 1)), xI g (β 1) 49 (zI (γ 1)), cR (ρ 2) (α 2) (β 2) (γ 2), xI g (α 2) 49 (zT (γ 2)), xI g (β 2) 49 (zI (γ 2)), cR (ρ 3) (α 3) (β 3) (γ 3), xI g (α 3) 49 (zT (γ 3)), xI g (β 3) 49 (zI (γ 3))] sz)) 0 0 (va_A [cX x nw sn tk hs tx tr, cR nw na nb σ, xI g na 49 (zT σ), xI g nb 49 (zI σ), cH hs hq kn, xQ g hq 4 (rq ρ), cR (ρ 0) (α 0) (β 0) (γ 0), xI g (α 0) 49 (zT (γ 0)), xI g (β 0) 49 (zI (γ 0)), cR (ρ 1) (α 1) (β 1) (γ 1), xI g (α 1) 49 (zT (γ 1)), xI g (β 1) 49 (zI (γ 1)), cR (ρ 2) (α 2) (β 2) (γ 2), xI g (α 2) 49 (zT (γ 2)), xI g (β 2) 49 (zI (γ 2)), cR (ρ 3) (α 3) (β 3) (γ 3), xI g (α 3) 49 (zT (γ 3)), xI g (β 3) 49 (zI (γ 3))] sz) := by
  refine kMetH (hh := [(2, 8, 11, 15)]) (cc := cL_turnLock) (maxL := 4) (ret := (some .int)) (own := RL) (by decide) rfl rfl (Nat.le_of_ble_eq_true rfl) ?_
  intro p e s m args below meth c ls Q H locs A F w hl htab hA hQ
  have hx := F.1.1
  have hb := F.1.2.1
  have hts := F.1.2.2.2.2
  have hl : lv_has ls 4 [(0, .ref x), (1, .int (nI d))] := hl
  refine lv_iconst (v := nI 0) hx hb dL_turnLock_0 (by decide) ?_
  refine lv_istore_n (lv' := [(2, .int (nI 0)), (0, .ref x), (1, .int (nI d))]) hx hb dL_turnLock_1 rfl hl (by decide) rfl (fun ls hl => ?_)
  refine lv_aload_n hx hb dL_turnLock_2 rfl (lv_at hl 1 rfl) ?_
  refine lv_iload_n hx hb dL_turnLock_3 rfl (lv_at hl 2 rfl) ?_
  refine kcalli (wc := [cX x nw sn tk hs tx tr, cR nw na nb σ, xI g na 49 (zT σ), xI g nb 49 (zI σ), cH hs hq kn, xQ g hq 4 (rq ρ), cR (ρ 0) (α 0) (β 0) (γ 0), xI g (α 0) 49 (zT (γ 0)), xI g (β 0) 49 (zI (γ 0)), cR (ρ 1) (α 1) (β 1) (γ 1), xI g (α 1) 49 (zT (γ 1)), xI g (β 1) 49 (zI (γ 1)), cR (ρ 2) (α 2) (β 2) (γ 2), xI g (α 2) 49 (zT (γ 2)), xI g (β 2) 49 (zI (γ 2)), cR (ρ 3) (α 3) (β 3) (γ 3), xI g (α 3) 49 (zT (γ 3)), xI g (β 3) 49 (zI (γ 3))]) (wr := []) (wn := fun (u : (Nat → Nat) × (Nat → Nat) × (Nat → Nat)) => [cX x nw sn tk hs tx tr, cR nw na nb (lockS d σ), xI g na 49 (zT (lockS d σ)), xI g nb 49 (zI (lockS d σ)), cH hs hq (pushN kn), xQ g hq 4 (rq u.1), cR (u.1 0) (u.2.1 0) (u.2.2 0) ((pushG γ kn σ) 0), xI g (u.2.1 0) 49 (zT ((pushG γ kn σ) 0)), xI g (u.2.2 0) 49 (zI ((pushG γ kn σ) 0)), cR (u.1 1) (u.2.1 1) (u.2.2 1) ((pushG γ kn σ) 1), xI g (u.2.1 1) 49 (zT ((pushG γ kn σ) 1)), xI g (u.2.2 1) 49 (zI ((pushG γ kn σ) 1)), cR (u.1 2) (u.2.1 2) (u.2.2 2) ((pushG γ kn σ) 2), xI g (u.2.1 2) 49 (zT ((pushG γ kn σ) 2)), xI g (u.2.2 2) 49 (zI ((pushG γ kn σ) 2)), cR (u.1 3) (u.2.1 3) (u.2.2 3) ((pushG γ kn σ) 3), xI g (u.2.1 3) 49 (zT ((pushG γ kn σ) 3)), xI g (u.2.2 3) 49 (zI ((pushG γ kn σ) 3))]) F w [0, 1, 2, 3, 4, 5, 6, 7, 8, 9, 10, 11, 12, 13, 14, 15, 16, 17] [] [0, 1, 2, 3, 4, 5, 6, 7, 8, 9, 10, 11, 12, 13, 14, 15, 16, 17] rfl rfl rfl (fun _ => rfl)
    (fun hp => va_runV (As := [.int (nI d)]) (rest := []) F.1 (kX5_turnLock_k l g x nw sn tk hs tx tr na nb σ hq kn ρ α β γ d H.size hd hkn) (cwV 1 hts gL_turnLock_X5_turnLock rfl rfl rfl ⟨rfl, hd_X5_turnLock⟩ ⟨Nat.le_of_ble_eq_true rfl, Nat.le_of_ble_eq_true rfl⟩) ⟨hp.1, va_recv F.2.2.2.1.1 w.1 (q0 := 0) (ci := 5) rfl rfl, hp.2⟩ rfl rfl hl.1 rfl (lv_room (Nat.le_of_ble_eq_true rfl)) dL_turnLock_4 ⟨Nat.le_of_ble_eq_true rfl, Nat.le_of_ble_eq_true rfl⟩)
    (fun r_1 u H locs h_2 w => ?_)
  try dsimp only at h_2
  obtain ⟨u_3, hu9⟩ : ∃ z, z = u := ⟨_, rfl⟩
  subst hu9
  have w : kW g A s [cX x nw sn tk hs tx tr, cR nw na nb (lockS d σ), xI g na 49 (zT (lockS d σ)), xI g nb 49 (zI (lockS d σ)), cH hs hq (pushN kn), xQ g hq 4 (rq u_3.1), cR (u_3.1 0) (u_3.2.1 0) (u_3.2.2 0) ((pushG γ kn σ) 0), xI g (u_3.2.1 0) 49 (zT ((pushG γ kn σ) 0)), xI g (u_3.2.2 0) 49 (zI ((pushG γ kn σ) 0)), cR (u_3.1 1) (u_3.2.1 1) (u_3.2.2 1) ((pushG γ kn σ) 1), xI g (u_3.2.1 1) 49 (zT ((pushG γ kn σ) 1)), xI g (u_3.2.2 1) 49 (zI ((pushG γ kn σ) 1)), cR (u_3.1 2) (u_3.2.1 2) (u_3.2.2 2) ((pushG γ kn σ) 2), xI g (u_3.2.1 2) 49 (zT ((pushG γ kn σ) 2)), xI g (u_3.2.2 2) 49 (zI ((pushG γ kn σ) 2)), cR (u_3.1 3) (u_3.2.1 3) (u_3.2.2 3) ((pushG γ kn σ) 3), xI g (u_3.2.1 3) 49 (zT ((pushG γ kn σ) 3)), xI g (u_3.2.2 3) 49 (zI ((pushG γ kn σ) 3))] H locs := w
  subst h_2
  refine lv_istore_n (lv' := [(2, .int (bI (zL (lockS d σ) d))), (0, .ref x), (1, .int (nI d))]) hx hb dL_turnLock_7 rfl hl (by decide) rfl (fun ls hl => ?_)
  refine lv_goto (tgt := 15) hx hb dL_turnLock_8 (by decide) ?_
  refine lv_iload_n hx hb dL_turnLock_15 rfl (lv_at hl 0 rfl) ?_
  refine lv_if_eq (tgt := 23) hx hb dL_turnLock_16 (by decide) (fun h_4 => ?_) (fun h_4 => ?_)
  · have h_4 : (zL (lockS d σ) d) = false := bI_z.mp h_4
    refine lv_iconst (v := nI 0) hx hb dL_turnLock_23 (by decide) ?_
    refine ktopi (y := bI (zL (lockS d σ) d)) (by rw [h_4]; rfl) ?_
    subst hA
    subst hQ
    exact kreti F w u_3 [0, 1, 2, 3, 4, 5, 6, 7, 8, 9, 10, 11, 12, 13, 14, 15, 16, 17] rfl rfl (rfl) (Nat.le_of_ble_eq_true rfl) (Nat.le_of_ble_eq_true rfl) dL_turnLock_24
  · have h_4 : (zL (lockS d σ) d) = true := bI_o.mp h_4
    refine lv_iconst (v := nI 1) hx hb dL_turnLock_19 (by decide) ?_
    refine lv_goto (tgt := 24) hx hb dL_turnLock_20 (by decide) ?_
    refine ktopi (y := bI (zL (lockS d σ) d)) (by rw [h_4]; rfl) ?_
    subst hA
    subst hQ
    exact kreti F w u_3 [0, 1, 2, 3, 4, 5, 6, 7, 8, 9, 10, 11, 12, 13, 14, 15, 16, 17] rfl rfl (rfl) (Nat.le_of_ble_eq_true rfl) (Nat.le_of_ble_eq_true rfl) dL_turnLock_24
abbrev rmL_turnLock_A : Room := { frames := 7, cells := 1, slots := 6, locals := 103 }
set_option maxHeartbeats 4000000 in
set_option maxRecDepth 100000 in
theorem kL_turnLock_A (l : Launch) (hnl : l.stackTraces = false) (g : GG) (x : Nat) (nw : Nat) (sn : Nat) (tk : Bool) (hs : Nat) (tx : Nat) (tr : Nat) (n : Int32) (sz : Nat) (hn : ¬ (1 ≤ n.toInt ∧ n.toInt ≤ 48)) : Met l yL_turnLock wsL_turnLock rmL_turnLock_A (va_Pc [.ref x, .int n] (kPre g [cX x nw sn tk hs tx tr] sz)) (va_Qi (fun (r : Int32) (u : Unit) => r = (-102)) (kB g (va_A [cX x nw sn tk hs tx tr] sz) (fun u => [cX x nw sn tk hs tx tr])) (va_A [cX x nw sn tk hs tx tr] sz)) 1 6 (va_A [cX x nw sn tk hs tx tr] sz) := by
  refine kMetH (hh := [(2, 8, 11, 15)]) (cc := cL_turnLock) (maxL := 4) (ret := (some .int)) (own := RL) (by decide) rfl rfl (Nat.le_of_ble_eq_true rfl) ?_
  intro p e s m args below meth c ls Q H locs A F w hl htab hA hQ
  have hx := F.1.1
  have hb := F.1.2.1
  have hts := F.1.2.2.2.2
  have hl : lv_has ls 4 [(0, .ref x), (1, .int n)] := hl
  refine lv_iconst (v := nI 0) hx hb dL_turnLock_0 (by decide) ?_
  refine lv_istore_n (lv' := [(2, .int (nI 0)), (0, .ref x), (1, .int n)]) hx hb dL_turnLock_1 rfl hl (by decide) rfl (fun ls hl => ?_)
  refine lv_aload_n hx hb dL_turnLock_2 rfl (lv_at hl 1 rfl) ?_
  refine lv_iload_n hx hb dL_turnLock_3 rfl (lv_at hl 2 rfl) ?_
  refine kcaught (E0 := eIAE) (wc := []) (wr := [cX x nw sn tk hs tx tr]) (wn := fun (u : Unit) => [cX x nw sn tk hs tx tr]) F w [] [0] [0] rfl rfl rfl (fun _ => rfl)
    (fun hp => vx_runV (As := [.int n]) (rest := []) F.1 (kX5_turnLock_A l hnl g x n H.size hn) (cwV 1 hts gL_turnLock_X5_turnLock rfl rfl rfl ⟨rfl, hd_X5_turnLock⟩ ⟨Nat.le_of_ble_eq_true rfl, Nat.le_of_ble_eq_true rfl⟩) ⟨hp.1, va_recv F.2.2.2.1.1 w.1 (q0 := 0) (ci := 5) rfl rfl, hp.2⟩ rfl rfl hl.1 rfl (lv_room (Nat.le_of_ble_eq_true rfl)) dL_turnLock_4 ⟨Nat.le_of_ble_eq_true rfl, Nat.le_of_ble_eq_true rfl⟩)
    [] ⟨2, 8, 11, 15⟩ [] htab (fun z hz => nomatch hz) (by decide +kernel) (by decide) (by decide +kernel) (by decide +kernel) (fun q_1 _ H locs w => ?_)
  refine lv_astore_n (lv' := [(3, .ref q_1), (2, .int (nI 0)), (0, .ref x), (1, .int n)]) hx hb dL_turnLock_11 rfl hl (by decide) rfl (fun ls hl => ?_)
  refine lv_bipush (v := (-102)) hx hb dL_turnLock_12 (by decide) ?_
  subst hA
  subst hQ
  exact kreti F w () [0] rfl rfl (rfl) (Nat.le_of_ble_eq_true rfl) (Nat.le_of_ble_eq_true rfl) dL_turnLock_14
theorem hd_X5_turnSkip : yX5_turnSkip.cls ≠ "java/lang/invoke/MethodHandle" ∧ yX5_turnSkip.cls ≠ "java/lang/invoke/VarHandle" ∧ (parseMethodDescriptor yX5_turnSkip.desc).map (fun d => d.parameters.length) = some 1 := by decide +kernel
abbrev rmL_turnSkip_k : Room := { frames := 4, cells := 0, slots := 0, locals := 86 }
set_option maxHeartbeats 4000000 in
set_option maxRecDepth 100000 in
theorem kL_turnSkip_k (l : Launch) (g : GG) (x : Nat) (nw : Nat) (sn : Nat) (tk : Bool) (hs : Nat) (tx : Nat) (tr : Nat) (na : Nat) (nb : Nat) (σ : Sg) (hq : Nat) (kn : Nat) (ρ : Nat → Nat) (α : Nat → Nat) (β : Nat → Nat) (γ : Nat → Sg) (d : Nat) (sz : Nat) (hd : 1 ≤ d ∧ d ≤ 48) (hkn : kn ≤ 4) : Met l yL_turnSkip wsL_turnSkip rmL_turnSkip_k (va_Pc [.ref x, .int (nI d)] (kPre g [cX x nw sn tk hs tx tr, cR nw na nb σ, xI g na 49 (zT σ), xI g nb 49 (zI σ), cH hs hq kn, xQ g hq 4 (rq ρ), cR (ρ 0) (α 0) (β 0) (γ 0), xI g (α 0) 49 (zT (γ 0)), xI g (β 0) 49 (zI (γ 0)), cR (ρ 1) (α 1) (β 1) (γ 1), xI g (α 1) 49 (zT (γ 1)), xI g (β 1) 49 (zI (γ 1)), cR (ρ 2) (α 2) (β 2) (γ 2), xI g (α 2) 49 (zT (γ 2)), xI g (β 2) 49 (zI (γ 2)), cR (ρ 3) (α 3) (β 3) (γ 3), xI g (α 3) 49 (zT (γ 3)), xI g (β 3) 49 (zI (γ 3))] sz)) (va_Qi (fun (r : Int32) (u : (Nat → Nat) × (Nat → Nat) × (Nat → Nat)) => r = bI (zS (skipS d σ) d)) (kB g (va_A [cX x nw sn tk hs tx tr, cR nw na nb σ, xI g na 49 (zT σ), xI g nb 49 (zI σ), cH hs hq kn, xQ g hq 4 (rq ρ), cR (ρ 0) (α 0) (β 0) (γ 0), xI g (α 0) 49 (zT (γ 0)), xI g (β 0) 49 (zI (γ 0)), cR (ρ 1) (α 1) (β 1) (γ 1), xI g (α 1) 49 (zT (γ 1)), xI g (β 1) 49 (zI (γ 1)), cR (ρ 2) (α 2) (β 2) (γ 2), xI g (α 2) 49 (zT (γ 2)), xI g (β 2) 49 (zI (γ 2)), cR (ρ 3) (α 3) (β 3) (γ 3), xI g (α 3) 49 (zT (γ 3)), xI g (β 3) 49 (zI (γ 3))] sz) (fun u => [cX x nw sn tk hs tx tr, cR nw na nb (skipS d σ), xI g na 49 (zT (skipS d σ)), xI g nb 49 (zI (skipS d σ)), cH hs hq (pushN kn), xQ g hq 4 (rq u.1), cR (u.1 0) (u.2.1 0) (u.2.2 0) ((pushG γ kn σ) 0), xI g (u.2.1 0) 49 (zT ((pushG γ kn σ) 0)), xI g (u.2.2 0) 49 (zI ((pushG γ kn σ) 0)), cR (u.1 1) (u.2.1 1) (u.2.2 1) ((pushG γ kn σ) 1), xI g (u.2.1 1) 49 (zT ((pushG γ kn σ) 1)), xI g (u.2.2 1) 49 (zI ((pushG γ kn σ) 1)), cR (u.1 2) (u.2.1 2) (u.2.2 2) ((pushG γ kn σ) 2), xI g (u.2.1 2) 49 (zT ((pushG γ kn σ) 2)), xI g (u.2.2 2) 49 (zI ((pushG γ kn σ) 2)), cR (u.1 3) (u.2.1 3) (u.2.2 3) ((pushG γ kn σ) 3), xI g (u.2.1 3) 49 (zT ((pushG γ kn σ) 3)), xI g (u.2.2 3) 49 (zI ((pushG γ kn σ) 3))])) (va_A [cX x nw sn tk hs tx tr, cR nw na nb σ, xI g na 49 (zT σ), xI g nb 49 (zI σ), cH hs hq kn, xQ g hq 4 (rq ρ), cR (ρ 0) (α 0) (β 0) (γ 0), xI g (α 0) 49 (zT (γ 0)), xI g (β 0) 49 (zI (γ 0)), cR (ρ 1) (α 1) (β 1) (γ 1), xI g (α 1) 49 (zT (γ 1)), xI g (β 1) 49 (zI (γ 1)), cR (ρ 2) (α 2) (β 2) (γ 2), xI g (α 2) 49 (zT (γ 2)), xI g (β 2) 49 (zI (γ 2)), cR (ρ 3) (α 3) (β 3) (γ 3), xI g (α 3) 49 (zT (γ 3)), xI g (β 3) 49 (zI (γ 3))] sz)) 0 0 (va_A [cX x nw sn tk hs tx tr, cR nw na nb σ, xI g na 49 (zT σ), xI g nb 49 (zI σ), cH hs hq kn, xQ g hq 4 (rq ρ), cR (ρ 0) (α 0) (β 0) (γ 0), xI g (α 0) 49 (zT (γ 0)), xI g (β 0) 49 (zI (γ 0)), cR (ρ 1) (α 1) (β 1) (γ 1), xI g (α 1) 49 (zT (γ 1)), xI g (β 1) 49 (zI (γ 1)), cR (ρ 2) (α 2) (β 2) (γ 2), xI g (α 2) 49 (zT (γ 2)), xI g (β 2) 49 (zI (γ 2)), cR (ρ 3) (α 3) (β 3) (γ 3), xI g (α 3) 49 (zT (γ 3)), xI g (β 3) 49 (zI (γ 3))] sz) := by
  refine kMetH (hh := [(2, 8, 11, 15)]) (cc := cL_turnSkip) (maxL := 4) (ret := (some .int)) (own := RL) (by decide) rfl rfl (Nat.le_of_ble_eq_true rfl) ?_
  intro p e s m args below meth c ls Q H locs A F w hl htab hA hQ
  have hx := F.1.1
  have hb := F.1.2.1
  have hts := F.1.2.2.2.2
  have hl : lv_has ls 4 [(0, .ref x), (1, .int (nI d))] := hl
  refine lv_iconst (v := nI 0) hx hb dL_turnSkip_0 (by decide) ?_
  refine lv_istore_n (lv' := [(2, .int (nI 0)), (0, .ref x), (1, .int (nI d))]) hx hb dL_turnSkip_1 rfl hl (by decide) rfl (fun ls hl => ?_)
  refine lv_aload_n hx hb dL_turnSkip_2 rfl (lv_at hl 1 rfl) ?_
  refine lv_iload_n hx hb dL_turnSkip_3 rfl (lv_at hl 2 rfl) ?_
  refine kcalli (wc := [cX x nw sn tk hs tx tr, cR nw na nb σ, xI g na 49 (zT σ), xI g nb 49 (zI σ), cH hs hq kn, xQ g hq 4 (rq ρ), cR (ρ 0) (α 0) (β 0) (γ 0), xI g (α 0) 49 (zT (γ 0)), xI g (β 0) 49 (zI (γ 0)), cR (ρ 1) (α 1) (β 1) (γ 1), xI g (α 1) 49 (zT (γ 1)), xI g (β 1) 49 (zI (γ 1)), cR (ρ 2) (α 2) (β 2) (γ 2), xI g (α 2) 49 (zT (γ 2)), xI g (β 2) 49 (zI (γ 2)), cR (ρ 3) (α 3) (β 3) (γ 3), xI g (α 3) 49 (zT (γ 3)), xI g (β 3) 49 (zI (γ 3))]) (wr := []) (wn := fun (u : (Nat → Nat) × (Nat → Nat) × (Nat → Nat)) => [cX x nw sn tk hs tx tr, cR nw na nb (skipS d σ), xI g na 49 (zT (skipS d σ)), xI g nb 49 (zI (skipS d σ)), cH hs hq (pushN kn), xQ g hq 4 (rq u.1), cR (u.1 0) (u.2.1 0) (u.2.2 0) ((pushG γ kn σ) 0), xI g (u.2.1 0) 49 (zT ((pushG γ kn σ) 0)), xI g (u.2.2 0) 49 (zI ((pushG γ kn σ) 0)), cR (u.1 1) (u.2.1 1) (u.2.2 1) ((pushG γ kn σ) 1), xI g (u.2.1 1) 49 (zT ((pushG γ kn σ) 1)), xI g (u.2.2 1) 49 (zI ((pushG γ kn σ) 1)), cR (u.1 2) (u.2.1 2) (u.2.2 2) ((pushG γ kn σ) 2), xI g (u.2.1 2) 49 (zT ((pushG γ kn σ) 2)), xI g (u.2.2 2) 49 (zI ((pushG γ kn σ) 2)), cR (u.1 3) (u.2.1 3) (u.2.2 3) ((pushG γ kn σ) 3), xI g (u.2.1 3) 49 (zT ((pushG γ kn σ) 3)), xI g (u.2.2 3) 49 (zI ((pushG γ kn σ) 3))]) F w [0, 1, 2, 3, 4, 5, 6, 7, 8, 9, 10, 11, 12, 13, 14, 15, 16, 17] [] [0, 1, 2, 3, 4, 5, 6, 7, 8, 9, 10, 11, 12, 13, 14, 15, 16, 17] rfl rfl rfl (fun _ => rfl)
    (fun hp => va_runV (As := [.int (nI d)]) (rest := []) F.1 (kX5_turnSkip_k l g x nw sn tk hs tx tr na nb σ hq kn ρ α β γ d H.size hd hkn) (cwV 1 hts gL_turnSkip_X5_turnSkip rfl rfl rfl ⟨rfl, hd_X5_turnSkip⟩ ⟨Nat.le_of_ble_eq_true rfl, Nat.le_of_ble_eq_true rfl⟩) ⟨hp.1, va_recv F.2.2.2.1.1 w.1 (q0 := 0) (ci := 5) rfl rfl, hp.2⟩ rfl rfl hl.1 rfl (lv_room (Nat.le_of_ble_eq_true rfl)) dL_turnSkip_4 ⟨Nat.le_of_ble_eq_true rfl, Nat.le_of_ble_eq_true rfl⟩)
    (fun r_1 u H locs h_2 w => ?_)
  try dsimp only at h_2
  obtain ⟨u_3, hu9⟩ : ∃ z, z = u := ⟨_, rfl⟩
  subst hu9
  have w : kW g A s [cX x nw sn tk hs tx tr, cR nw na nb (skipS d σ), xI g na 49 (zT (skipS d σ)), xI g nb 49 (zI (skipS d σ)), cH hs hq (pushN kn), xQ g hq 4 (rq u_3.1), cR (u_3.1 0) (u_3.2.1 0) (u_3.2.2 0) ((pushG γ kn σ) 0), xI g (u_3.2.1 0) 49 (zT ((pushG γ kn σ) 0)), xI g (u_3.2.2 0) 49 (zI ((pushG γ kn σ) 0)), cR (u_3.1 1) (u_3.2.1 1) (u_3.2.2 1) ((pushG γ kn σ) 1), xI g (u_3.2.1 1) 49 (zT ((pushG γ kn σ) 1)), xI g (u_3.2.2 1) 49 (zI ((pushG γ kn σ) 1)), cR (u_3.1 2) (u_3.2.1 2) (u_3.2.2 2) ((pushG γ kn σ) 2), xI g (u_3.2.1 2) 49 (zT ((pushG γ kn σ) 2)), xI g (u_3.2.2 2) 49 (zI ((pushG γ kn σ) 2)), cR (u_3.1 3) (u_3.2.1 3) (u_3.2.2 3) ((pushG γ kn σ) 3), xI g (u_3.2.1 3) 49 (zT ((pushG γ kn σ) 3)), xI g (u_3.2.2 3) 49 (zI ((pushG γ kn σ) 3))] H locs := w
  subst h_2
  refine lv_istore_n (lv' := [(2, .int (bI (zS (skipS d σ) d))), (0, .ref x), (1, .int (nI d))]) hx hb dL_turnSkip_7 rfl hl (by decide) rfl (fun ls hl => ?_)
  refine lv_goto (tgt := 15) hx hb dL_turnSkip_8 (by decide) ?_
  refine lv_iload_n hx hb dL_turnSkip_15 rfl (lv_at hl 0 rfl) ?_
  refine lv_if_eq (tgt := 23) hx hb dL_turnSkip_16 (by decide) (fun h_4 => ?_) (fun h_4 => ?_)
  · have h_4 : (zS (skipS d σ) d) = false := bI_z.mp h_4
    refine lv_iconst (v := nI 0) hx hb dL_turnSkip_23 (by decide) ?_
    refine ktopi (y := bI (zS (skipS d σ) d)) (by rw [h_4]; rfl) ?_
    subst hA
    subst hQ
    exact kreti F w u_3 [0, 1, 2, 3, 4, 5, 6, 7, 8, 9, 10, 11, 12, 13, 14, 15, 16, 17] rfl rfl (rfl) (Nat.le_of_ble_eq_true rfl) (Nat.le_of_ble_eq_true rfl) dL_turnSkip_24
  · have h_4 : (zS (skipS d σ) d) = true := bI_o.mp h_4
    refine lv_iconst (v := nI 1) hx hb dL_turnSkip_19 (by decide) ?_
    refine lv_goto (tgt := 24) hx hb dL_turnSkip_20 (by decide) ?_
    refine ktopi (y := bI (zS (skipS d σ) d)) (by rw [h_4]; rfl) ?_
    subst hA
    subst hQ
    exact kreti F w u_3 [0, 1, 2, 3, 4, 5, 6, 7, 8, 9, 10, 11, 12, 13, 14, 15, 16, 17] rfl rfl (rfl) (Nat.le_of_ble_eq_true rfl) (Nat.le_of_ble_eq_true rfl) dL_turnSkip_24
abbrev rmL_turnSkip_A : Room := { frames := 7, cells := 1, slots := 6, locals := 103 }
set_option maxHeartbeats 4000000 in
set_option maxRecDepth 100000 in
theorem kL_turnSkip_A (l : Launch) (hnl : l.stackTraces = false) (g : GG) (x : Nat) (nw : Nat) (sn : Nat) (tk : Bool) (hs : Nat) (tx : Nat) (tr : Nat) (n : Int32) (sz : Nat) (hn : ¬ (1 ≤ n.toInt ∧ n.toInt ≤ 48)) : Met l yL_turnSkip wsL_turnSkip rmL_turnSkip_A (va_Pc [.ref x, .int n] (kPre g [cX x nw sn tk hs tx tr] sz)) (va_Qi (fun (r : Int32) (u : Unit) => r = (-102)) (kB g (va_A [cX x nw sn tk hs tx tr] sz) (fun u => [cX x nw sn tk hs tx tr])) (va_A [cX x nw sn tk hs tx tr] sz)) 1 6 (va_A [cX x nw sn tk hs tx tr] sz) := by
  refine kMetH (hh := [(2, 8, 11, 15)]) (cc := cL_turnSkip) (maxL := 4) (ret := (some .int)) (own := RL) (by decide) rfl rfl (Nat.le_of_ble_eq_true rfl) ?_
  intro p e s m args below meth c ls Q H locs A F w hl htab hA hQ
  have hx := F.1.1
  have hb := F.1.2.1
  have hts := F.1.2.2.2.2
  have hl : lv_has ls 4 [(0, .ref x), (1, .int n)] := hl
  refine lv_iconst (v := nI 0) hx hb dL_turnSkip_0 (by decide) ?_
  refine lv_istore_n (lv' := [(2, .int (nI 0)), (0, .ref x), (1, .int n)]) hx hb dL_turnSkip_1 rfl hl (by decide) rfl (fun ls hl => ?_)
  refine lv_aload_n hx hb dL_turnSkip_2 rfl (lv_at hl 1 rfl) ?_
  refine lv_iload_n hx hb dL_turnSkip_3 rfl (lv_at hl 2 rfl) ?_
  refine kcaught (E0 := eIAE) (wc := []) (wr := [cX x nw sn tk hs tx tr]) (wn := fun (u : Unit) => [cX x nw sn tk hs tx tr]) F w [] [0] [0] rfl rfl rfl (fun _ => rfl)
    (fun hp => vx_runV (As := [.int n]) (rest := []) F.1 (kX5_turnSkip_A l hnl g x n H.size hn) (cwV 1 hts gL_turnSkip_X5_turnSkip rfl rfl rfl ⟨rfl, hd_X5_turnSkip⟩ ⟨Nat.le_of_ble_eq_true rfl, Nat.le_of_ble_eq_true rfl⟩) ⟨hp.1, va_recv F.2.2.2.1.1 w.1 (q0 := 0) (ci := 5) rfl rfl, hp.2⟩ rfl rfl hl.1 rfl (lv_room (Nat.le_of_ble_eq_true rfl)) dL_turnSkip_4 ⟨Nat.le_of_ble_eq_true rfl, Nat.le_of_ble_eq_true rfl⟩)
    [] ⟨2, 8, 11, 15⟩ [] htab (fun z hz => nomatch hz) (by decide +kernel) (by decide) (by decide +kernel) (by decide +kernel) (fun q_1 _ H locs w => ?_)
  refine lv_astore_n (lv' := [(3, .ref q_1), (2, .int (nI 0)), (0, .ref x), (1, .int n)]) hx hb dL_turnSkip_11 rfl hl (by decide) rfl (fun ls hl => ?_)
  refine lv_bipush (v := (-102)) hx hb dL_turnSkip_12 (by decide) ?_
  subst hA
  subst hQ
  exact kreti F w () [0] rfl rfl (rfl) (Nat.le_of_ble_eq_true rfl) (Nat.le_of_ble_eq_true rfl) dL_turnSkip_14
theorem hd_X5_store : yX5_store.cls ≠ "java/lang/invoke/MethodHandle" ∧ yX5_store.cls ≠ "java/lang/invoke/VarHandle" ∧ (parseMethodDescriptor yX5_store.desc).map (fun d => d.parameters.length) = some 2 := by decide +kernel
abbrev rmL_store_k : Room := { frames := 4, cells := 0, slots := 0, locals := 87 }
set_option maxHeartbeats 4000000 in
set_option maxRecDepth 100000 in
theorem kL_store_k (l : Launch) (g : GG) (x : Nat) (nw : Nat) (sn : Nat) (tk : Bool) (hs : Nat) (tx : Nat) (tr : Nat) (na : Nat) (nb : Nat) (σ : Sg) (hq : Nat) (kn : Nat) (ρ : Nat → Nat) (α : Nat → Nat) (β : Nat → Nat) (γ : Nat → Sg) (d : Nat) (kd : Bool) (sz : Nat) (hd : 1 ≤ d ∧ d ≤ 48) (hr9 : reasZ σ d kd = 0) (hkn : kn ≤ 4) : Met l yL_store wsL_store rmL_store_k (va_Pc [.ref x, .int (nI d), .int (bI kd)] (kPre g [cX x nw sn tk hs tx tr, cR nw na nb σ, xI g na 49 (zT σ), xI g nb 49 (zI σ), cH hs hq kn, xQ g hq 4 (rq ρ), cR (ρ 0) (α 0) (β 0) (γ 0), xI g (α 0) 49 (zT (γ 0)), xI g (β 0) 49 (zI (γ 0)), cR (ρ 1) (α 1) (β 1) (γ 1), xI g (α 1) 49 (zT (γ 1)), xI g (β 1) 49 (zI (γ 1)), cR (ρ 2) (α 2) (β 2) (γ 2), xI g (α 2) 49 (zT (γ 2)), xI g (β 2) 49 (zI (γ 2)), cR (ρ 3) (α 3) (β 3) (γ 3), xI g (α 3) 49 (zT (γ 3)), xI g (β 3) 49 (zI (γ 3))] sz)) (va_Qi (fun (r : Int32) (u : (Nat → Nat) × (Nat → Nat) × (Nat → Nat)) => r = nI (zcnt (kindP (putS d kd σ) kd) 48)) (kB g (va_A [cX x nw sn tk hs tx tr, cR nw na nb σ, xI g na 49 (zT σ), xI g nb 49 (zI σ), cH hs hq kn, xQ g hq 4 (rq ρ), cR (ρ 0) (α 0) (β 0) (γ 0), xI g (α 0) 49 (zT (γ 0)), xI g (β 0) 49 (zI (γ 0)), cR (ρ 1) (α 1) (β 1) (γ 1), xI g (α 1) 49 (zT (γ 1)), xI g (β 1) 49 (zI (γ 1)), cR (ρ 2) (α 2) (β 2) (γ 2), xI g (α 2) 49 (zT (γ 2)), xI g (β 2) 49 (zI (γ 2)), cR (ρ 3) (α 3) (β 3) (γ 3), xI g (α 3) 49 (zT (γ 3)), xI g (β 3) 49 (zI (γ 3))] sz) (fun u => [cX x nw sn tk hs tx tr, cR nw na nb (putS d kd σ), xI g na 49 (zT (putS d kd σ)), xI g nb 49 (zI (putS d kd σ)), cH hs hq (pushN kn), xQ g hq 4 (rq u.1), cR (u.1 0) (u.2.1 0) (u.2.2 0) ((pushG γ kn σ) 0), xI g (u.2.1 0) 49 (zT ((pushG γ kn σ) 0)), xI g (u.2.2 0) 49 (zI ((pushG γ kn σ) 0)), cR (u.1 1) (u.2.1 1) (u.2.2 1) ((pushG γ kn σ) 1), xI g (u.2.1 1) 49 (zT ((pushG γ kn σ) 1)), xI g (u.2.2 1) 49 (zI ((pushG γ kn σ) 1)), cR (u.1 2) (u.2.1 2) (u.2.2 2) ((pushG γ kn σ) 2), xI g (u.2.1 2) 49 (zT ((pushG γ kn σ) 2)), xI g (u.2.2 2) 49 (zI ((pushG γ kn σ) 2)), cR (u.1 3) (u.2.1 3) (u.2.2 3) ((pushG γ kn σ) 3), xI g (u.2.1 3) 49 (zT ((pushG γ kn σ) 3)), xI g (u.2.2 3) 49 (zI ((pushG γ kn σ) 3))])) (va_A [cX x nw sn tk hs tx tr, cR nw na nb σ, xI g na 49 (zT σ), xI g nb 49 (zI σ), cH hs hq kn, xQ g hq 4 (rq ρ), cR (ρ 0) (α 0) (β 0) (γ 0), xI g (α 0) 49 (zT (γ 0)), xI g (β 0) 49 (zI (γ 0)), cR (ρ 1) (α 1) (β 1) (γ 1), xI g (α 1) 49 (zT (γ 1)), xI g (β 1) 49 (zI (γ 1)), cR (ρ 2) (α 2) (β 2) (γ 2), xI g (α 2) 49 (zT (γ 2)), xI g (β 2) 49 (zI (γ 2)), cR (ρ 3) (α 3) (β 3) (γ 3), xI g (α 3) 49 (zT (γ 3)), xI g (β 3) 49 (zI (γ 3))] sz)) 0 0 (va_A [cX x nw sn tk hs tx tr, cR nw na nb σ, xI g na 49 (zT σ), xI g nb 49 (zI σ), cH hs hq kn, xQ g hq 4 (rq ρ), cR (ρ 0) (α 0) (β 0) (γ 0), xI g (α 0) 49 (zT (γ 0)), xI g (β 0) 49 (zI (γ 0)), cR (ρ 1) (α 1) (β 1) (γ 1), xI g (α 1) 49 (zT (γ 1)), xI g (β 1) 49 (zI (γ 1)), cR (ρ 2) (α 2) (β 2) (γ 2), xI g (α 2) 49 (zT (γ 2)), xI g (β 2) 49 (zI (γ 2)), cR (ρ 3) (α 3) (β 3) (γ 3), xI g (α 3) 49 (zT (γ 3)), xI g (β 3) 49 (zI (γ 3))] sz) := by
  refine kMetH (hh := [(0, 6, 7, 15), (0, 6, 11, 25)]) (cc := cL_store) (maxL := 4) (ret := (some .int)) (own := RL) (by decide) rfl rfl (Nat.le_of_ble_eq_true rfl) ?_
  intro p e s m args below meth c ls Q H locs A F w hl htab hA hQ
  have hx := F.1.1
  have hb := F.1.2.1
  have hts := F.1.2.2.2.2
  have hl : lv_has ls 4 [(0, .ref x), (1, .int (nI d)), (2, .int (bI kd))] := hl
  refine lv_aload_n hx hb dL_store_0 rfl (lv_at hl 0 rfl) ?_
  refine lv_iload_n hx hb dL_store_1 rfl (lv_at hl 1 rfl) ?_
  refine lv_iload_n hx hb dL_store_2 rfl (lv_at hl 2 rfl) ?_
  refine kcalli (wc := [cX x nw sn tk hs tx tr, cR nw na nb σ, xI g na 49 (zT σ), xI g nb 49 (zI σ), cH hs hq kn, xQ g hq 4 (rq ρ), cR (ρ 0) (α 0) (β 0) (γ 0), xI g (α 0) 49 (zT (γ 0)), xI g (β 0) 49 (zI (γ 0)), cR (ρ 1) (α 1) (β 1) (γ 1), xI g (α 1) 49 (zT (γ 1)), xI g (β 1) 49 (zI (γ 1)), cR (ρ 2) (α 2) (β 2) (γ 2), xI g (α 2) 49 (zT (γ 2)), xI g (β 2) 49 (zI (γ 2)), cR (ρ 3) (α 3) (β 3) (γ 3), xI g (α 3) 49 (zT (γ 3)), xI g (β 3) 49 (zI (γ 3))]) (wr := []) (wn := fun (u : (Nat → Nat) × (Nat → Nat) × (Nat → Nat)) => [cX x nw sn tk hs tx tr, cR nw na nb (putS d kd σ), xI g na 49 (zT (putS d kd σ)), xI g nb 49 (zI (putS d kd σ)), cH hs hq (pushN kn), xQ g hq 4 (rq u.1), cR (u.1 0) (u.2.1 0) (u.2.2 0) ((pushG γ kn σ) 0), xI g (u.2.1 0) 49 (zT ((pushG γ kn σ) 0)), xI g (u.2.2 0) 49 (zI ((pushG γ kn σ) 0)), cR (u.1 1) (u.2.1 1) (u.2.2 1) ((pushG γ kn σ) 1), xI g (u.2.1 1) 49 (zT ((pushG γ kn σ) 1)), xI g (u.2.2 1) 49 (zI ((pushG γ kn σ) 1)), cR (u.1 2) (u.2.1 2) (u.2.2 2) ((pushG γ kn σ) 2), xI g (u.2.1 2) 49 (zT ((pushG γ kn σ) 2)), xI g (u.2.2 2) 49 (zI ((pushG γ kn σ) 2)), cR (u.1 3) (u.2.1 3) (u.2.2 3) ((pushG γ kn σ) 3), xI g (u.2.1 3) 49 (zT ((pushG γ kn σ) 3)), xI g (u.2.2 3) 49 (zI ((pushG γ kn σ) 3))]) F w [0, 1, 2, 3, 4, 5, 6, 7, 8, 9, 10, 11, 12, 13, 14, 15, 16, 17] [] [0, 1, 2, 3, 4, 5, 6, 7, 8, 9, 10, 11, 12, 13, 14, 15, 16, 17] rfl rfl rfl (fun _ => rfl)
    (fun hp => va_runV (As := [.int (nI d), .int (bI kd)]) (rest := []) F.1 (kX5_store_k l g x nw sn tk hs tx tr na nb σ hq kn ρ α β γ d kd H.size hd hr9 hkn) (cwV 2 hts gL_store_X5_store rfl rfl rfl ⟨rfl, hd_X5_store⟩ ⟨Nat.le_of_ble_eq_true rfl, Nat.le_of_ble_eq_true rfl⟩) ⟨hp.1, va_recv F.2.2.2.1.1 w.1 (q0 := 0) (ci := 5) rfl rfl, hp.2⟩ rfl rfl hl.1 rfl (lv_room (Nat.le_of_ble_eq_true rfl)) dL_store_3 ⟨Nat.le_of_ble_eq_true rfl, Nat.le_of_ble_eq_true rfl⟩)
    (fun r_1 u H locs h_2 w => ?_)
  try dsimp only at h_2
  obtain ⟨u_3, hu9⟩ : ∃ z, z = u := ⟨_, rfl⟩
  subst hu9
  have w : kW g A s [cX x nw sn tk hs tx tr, cR nw na nb (putS d kd σ), xI g na 49 (zT (putS d kd σ)), xI g nb 49 (zI (putS d kd σ)), cH hs hq (pushN kn), xQ g hq 4 (rq u_3.1), cR (u_3.1 0) (u_3.2.1 0) (u_3.2.2 0) ((pushG γ kn σ) 0), xI g (u_3.2.1 0) 49 (zT ((pushG γ kn σ) 0)), xI g (u_3.2.2 0) 49 (zI ((pushG γ kn σ) 0)), cR (u_3.1 1) (u_3.2.1 1) (u_3.2.2 1) ((pushG γ kn σ) 1), xI g (u_3.2.1 1) 49 (zT ((pushG γ kn σ) 1)), xI g (u_3.2.2 1) 49 (zI ((pushG γ kn σ) 1)), cR (u_3.1 2) (u_3.2.1 2) (u_3.2.2 2) ((pushG γ kn σ) 2), xI g (u_3.2.1 2) 49 (zT ((pushG γ kn σ) 2)), xI g (u_3.2.2 2) 49 (zI ((pushG γ kn σ) 2)), cR (u_3.1 3) (u_3.2.1 3) (u_3.2.2 3) ((pushG γ kn σ) 3), xI g (u_3.2.1 3) 49 (zT ((pushG γ kn σ) 3)), xI g (u_3.2.2 3) 49 (zI ((pushG γ kn σ) 3))] H locs := w
  subst h_2
  subst hA
  subst hQ
  exact kreti F w u_3 [0, 1, 2, 3, 4, 5, 6, 7, 8, 9, 10, 11, 12, 13, 14, 15, 16, 17] rfl rfl (rfl) (Nat.le_of_ble_eq_true rfl) (Nat.le_of_ble_eq_true rfl) dL_store_6
abbrev rmL_store_A : Room := { frames := 7, cells := 1, slots := 6, locals := 104 }
set_option maxHeartbeats 4000000 in
set_option maxRecDepth 100000 in
theorem kL_store_A (l : Launch) (hnl : l.stackTraces = false) (g : GG) (x : Nat) (nw : Nat) (sn : Nat) (tk : Bool) (hs : Nat) (tx : Nat) (tr : Nat) (n : Int32) (k : Int32) (sz : Nat) (hn : ¬ ((1 ≤ n.toInt ∧ n.toInt ≤ 48) ∧ (k = 0 ∨ k = 1))) : Met l yL_store wsL_store rmL_store_A (va_Pc [.ref x, .int n, .int k] (kPre g [cX x nw sn tk hs tx tr] sz)) (va_Qi (fun (r : Int32) (u : Unit) => r = (-102)) (kB g (va_A [cX x nw sn tk hs tx tr] sz) (fun u => [cX x nw sn tk hs tx tr])) (va_A [cX x nw sn tk hs tx tr] sz)) 1 6 (va_A [cX x nw sn tk hs tx tr] sz) := by
  refine kMetH (hh := [(0, 6, 7, 15), (0, 6, 11, 25)]) (cc := cL_store) (maxL := 4) (ret := (some .int)) (own := RL) (by decide) rfl rfl (Nat.le_of_ble_eq_true rfl) ?_
  intro p e s m args below meth c ls Q H locs A F w hl htab hA hQ
  have hx := F.1.1
  have hb := F.1.2.1
  have hts := F.1.2.2.2.2
  have hl : lv_has ls 4 [(0, .ref x), (1, .int n), (2, .int k)] := hl
  refine lv_aload_n hx hb dL_store_0 rfl (lv_at hl 0 rfl) ?_
  refine lv_iload_n hx hb dL_store_1 rfl (lv_at hl 1 rfl) ?_
  refine lv_iload_n hx hb dL_store_2 rfl (lv_at hl 2 rfl) ?_
  refine kcaught (E0 := eIAE) (wc := []) (wr := [cX x nw sn tk hs tx tr]) (wn := fun (u : Unit) => [cX x nw sn tk hs tx tr]) F w [] [0] [0] rfl rfl rfl (fun _ => rfl)
    (fun hp => vx_runV (As := [.int n, .int k]) (rest := []) F.1 (kX5_store_A l hnl g x n k H.size hn) (cwV 2 hts gL_store_X5_store rfl rfl rfl ⟨rfl, hd_X5_store⟩ ⟨Nat.le_of_ble_eq_true rfl, Nat.le_of_ble_eq_true rfl⟩) ⟨hp.1, va_recv F.2.2.2.1.1 w.1 (q0 := 0) (ci := 5) rfl rfl, hp.2⟩ rfl rfl hl.1 rfl (lv_room (Nat.le_of_ble_eq_true rfl)) dL_store_3 ⟨Nat.le_of_ble_eq_true rfl, Nat.le_of_ble_eq_true rfl⟩)
    [] ⟨0, 6, 7, 15⟩ [⟨0, 6, 11, 25⟩] htab (fun z hz => nomatch hz) (by decide +kernel) (by decide) (by decide +kernel) (by decide +kernel) (fun q_1 _ H locs w => ?_)
  refine lv_astore_n (lv' := [(3, .ref q_1), (0, .ref x), (1, .int n), (2, .int k)]) hx hb dL_store_7 rfl hl (by decide) rfl (fun ls hl => ?_)
  refine lv_bipush (v := (-102)) hx hb dL_store_8 (by decide) ?_
  subst hA
  subst hQ
  exact kreti F w () [0] rfl rfl (rfl) (Nat.le_of_ble_eq_true rfl) (Nat.le_of_ble_eq_true rfl) dL_store_10
abbrev rmL_store_S : Room := { frames := 7, cells := 1, slots := 6, locals := 104 }
set_option maxHeartbeats 4000000 in
set_option maxRecDepth 100000 in
theorem kL_store_S (l : Launch) (hnl : l.stackTraces = false) (g : GG) (x : Nat) (nw : Nat) (sn : Nat) (tk : Bool) (hs : Nat) (tx : Nat) (tr : Nat) (na : Nat) (nb : Nat) (σ : Sg) (d : Nat) (kd : Bool) (sz : Nat) (hd : 1 ≤ d ∧ d ≤ 48) (hr9 : reasZ σ d kd ≠ 0) : Met l yL_store wsL_store rmL_store_S (va_Pc [.ref x, .int (nI d), .int (bI kd)] (kPre g [cX x nw sn tk hs tx tr, cR nw na nb σ, xI g na 49 (zT σ), xI g nb 49 (zI σ)] sz)) (va_Qi (fun (r : Int32) (u : Unit) => r = (-103)) (kB g (va_A [cX x nw sn tk hs tx tr, cR nw na nb σ, xI g na 49 (zT σ), xI g nb 49 (zI σ)] sz) (fun u => [cX x nw sn tk hs tx tr, cR nw na nb σ, xI g na 49 (zT σ), xI g nb 49 (zI σ)])) (va_A [cX x nw sn tk hs tx tr, cR nw na nb σ, xI g na 49 (zT σ), xI g nb 49 (zI σ)] sz)) 1 6 (va_A [cX x nw sn tk hs tx tr, cR nw na nb σ, xI g na 49 (zT σ), xI g nb 49 (zI σ)] sz) := by
  refine kMetH (hh := [(0, 6, 7, 15), (0, 6, 11, 25)]) (cc := cL_store) (maxL := 4) (ret := (some .int)) (own := RL) (by decide) rfl rfl (Nat.le_of_ble_eq_true rfl) ?_
  intro p e s m args below meth c ls Q H locs A F w hl htab hA hQ
  have hx := F.1.1
  have hb := F.1.2.1
  have hts := F.1.2.2.2.2
  have hl : lv_has ls 4 [(0, .ref x), (1, .int (nI d)), (2, .int (bI kd))] := hl
  refine lv_aload_n hx hb dL_store_0 rfl (lv_at hl 0 rfl) ?_
  refine lv_iload_n hx hb dL_store_1 rfl (lv_at hl 1 rfl) ?_
  refine lv_iload_n hx hb dL_store_2 rfl (lv_at hl 2 rfl) ?_
  refine kcaught (E0 := eISE) (wc := [cX x nw sn tk hs tx tr, cR nw na nb σ, xI g na 49 (zT σ), xI g nb 49 (zI σ)]) (wr := []) (wn := fun (u : Unit) => [cX x nw sn tk hs tx tr, cR nw na nb σ, xI g na 49 (zT σ), xI g nb 49 (zI σ)]) F w [0, 1, 2, 3] [] [0, 1, 2, 3] rfl rfl rfl (fun _ => rfl)
    (fun hp => vx_runV (As := [.int (nI d), .int (bI kd)]) (rest := []) F.1 (kX5_store_S l hnl g x nw sn tk hs tx tr na nb σ d kd H.size hd hr9) (cwV 2 hts gL_store_X5_store rfl rfl rfl ⟨rfl, hd_X5_store⟩ ⟨Nat.le_of_ble_eq_true rfl, Nat.le_of_ble_eq_true rfl⟩) ⟨hp.1, va_recv F.2.2.2.1.1 w.1 (q0 := 0) (ci := 5) rfl rfl, hp.2⟩ rfl rfl hl.1 rfl (lv_room (Nat.le_of_ble_eq_true rfl)) dL_store_3 ⟨Nat.le_of_ble_eq_true rfl, Nat.le_of_ble_eq_true rfl⟩)
    [⟨0, 6, 7, 15⟩] ⟨0, 6, 11, 25⟩ [] htab (fun z hz => by rcases List.mem_cons.mp hz with rfl | hz; exact ⟨by decide, eIAE, by decide +kernel, by decide +kernel⟩; cases hz) (by decide +kernel) (by decide) (by decide +kernel) (by decide +kernel) (fun q_1 _ H locs w => ?_)
  refine lv_astore_n (lv' := [(3, .ref q_1), (0, .ref x), (1, .int (nI d)), (2, .int (bI kd))]) hx hb dL_store_11 rfl hl (by decide) rfl (fun ls hl => ?_)
  refine lv_bipush (v := (-103)) hx hb dL_store_12 (by decide) ?_
  subst hA
  subst hQ
  exact kreti F w () [0, 1, 2, 3] rfl rfl (rfl) (Nat.le_of_ble_eq_true rfl) (Nat.le_of_ble_eq_true rfl) dL_store_14
theorem hd_X5_takeOut : yX5_takeOut.cls ≠ "java/lang/invoke/MethodHandle" ∧ yX5_takeOut.cls ≠ "java/lang/invoke/VarHandle" ∧ (parseMethodDescriptor yX5_takeOut.desc).map (fun d => d.parameters.length) = some 1 := by decide +kernel
abbrev rmL_takeOut_k : Room := { frames := 4, cells := 0, slots := 0, locals := 87 }
set_option maxHeartbeats 4000000 in
set_option maxRecDepth 100000 in
theorem kL_takeOut_k (l : Launch) (g : GG) (x : Nat) (nw : Nat) (sn : Nat) (tk : Bool) (hs : Nat) (tx : Nat) (tr : Nat) (na : Nat) (nb : Nat) (σ : Sg) (hq : Nat) (kn : Nat) (ρ : Nat → Nat) (α : Nat → Nat) (β : Nat → Nat) (γ : Nat → Sg) (d : Nat) (sz : Nat) (hd : 1 ≤ d ∧ d ≤ 48) (hs9 : zO σ d = true ∧ zF σ d = true) (hkn : kn ≤ 4) : Met l yL_takeOut wsL_takeOut rmL_takeOut_k (va_Pc [.ref x, .int (nI d)] (kPre g [cX x nw sn tk hs tx tr, cR nw na nb σ, xI g na 49 (zT σ), xI g nb 49 (zI σ), cH hs hq kn, xQ g hq 4 (rq ρ), cR (ρ 0) (α 0) (β 0) (γ 0), xI g (α 0) 49 (zT (γ 0)), xI g (β 0) 49 (zI (γ 0)), cR (ρ 1) (α 1) (β 1) (γ 1), xI g (α 1) 49 (zT (γ 1)), xI g (β 1) 49 (zI (γ 1)), cR (ρ 2) (α 2) (β 2) (γ 2), xI g (α 2) 49 (zT (γ 2)), xI g (β 2) 49 (zI (γ 2)), cR (ρ 3) (α 3) (β 3) (γ 3), xI g (α 3) 49 (zT (γ 3)), xI g (β 3) 49 (zI (γ 3))] sz)) (va_Qi (fun (r : Int32) (u : (Nat → Nat) × (Nat → Nat) × (Nat → Nat)) => r = bI (zH σ d)) (kB g (va_A [cX x nw sn tk hs tx tr, cR nw na nb σ, xI g na 49 (zT σ), xI g nb 49 (zI σ), cH hs hq kn, xQ g hq 4 (rq ρ), cR (ρ 0) (α 0) (β 0) (γ 0), xI g (α 0) 49 (zT (γ 0)), xI g (β 0) 49 (zI (γ 0)), cR (ρ 1) (α 1) (β 1) (γ 1), xI g (α 1) 49 (zT (γ 1)), xI g (β 1) 49 (zI (γ 1)), cR (ρ 2) (α 2) (β 2) (γ 2), xI g (α 2) 49 (zT (γ 2)), xI g (β 2) 49 (zI (γ 2)), cR (ρ 3) (α 3) (β 3) (γ 3), xI g (α 3) 49 (zT (γ 3)), xI g (β 3) 49 (zI (γ 3))] sz) (fun u => [cX x nw sn tk hs tx tr, cR nw na nb (clrS d σ), xI g na 49 (zT (clrS d σ)), xI g nb 49 (zI (clrS d σ)), cH hs hq (pushN kn), xQ g hq 4 (rq u.1), cR (u.1 0) (u.2.1 0) (u.2.2 0) ((pushG γ kn σ) 0), xI g (u.2.1 0) 49 (zT ((pushG γ kn σ) 0)), xI g (u.2.2 0) 49 (zI ((pushG γ kn σ) 0)), cR (u.1 1) (u.2.1 1) (u.2.2 1) ((pushG γ kn σ) 1), xI g (u.2.1 1) 49 (zT ((pushG γ kn σ) 1)), xI g (u.2.2 1) 49 (zI ((pushG γ kn σ) 1)), cR (u.1 2) (u.2.1 2) (u.2.2 2) ((pushG γ kn σ) 2), xI g (u.2.1 2) 49 (zT ((pushG γ kn σ) 2)), xI g (u.2.2 2) 49 (zI ((pushG γ kn σ) 2)), cR (u.1 3) (u.2.1 3) (u.2.2 3) ((pushG γ kn σ) 3), xI g (u.2.1 3) 49 (zT ((pushG γ kn σ) 3)), xI g (u.2.2 3) 49 (zI ((pushG γ kn σ) 3))])) (va_A [cX x nw sn tk hs tx tr, cR nw na nb σ, xI g na 49 (zT σ), xI g nb 49 (zI σ), cH hs hq kn, xQ g hq 4 (rq ρ), cR (ρ 0) (α 0) (β 0) (γ 0), xI g (α 0) 49 (zT (γ 0)), xI g (β 0) 49 (zI (γ 0)), cR (ρ 1) (α 1) (β 1) (γ 1), xI g (α 1) 49 (zT (γ 1)), xI g (β 1) 49 (zI (γ 1)), cR (ρ 2) (α 2) (β 2) (γ 2), xI g (α 2) 49 (zT (γ 2)), xI g (β 2) 49 (zI (γ 2)), cR (ρ 3) (α 3) (β 3) (γ 3), xI g (α 3) 49 (zT (γ 3)), xI g (β 3) 49 (zI (γ 3))] sz)) 0 0 (va_A [cX x nw sn tk hs tx tr, cR nw na nb σ, xI g na 49 (zT σ), xI g nb 49 (zI σ), cH hs hq kn, xQ g hq 4 (rq ρ), cR (ρ 0) (α 0) (β 0) (γ 0), xI g (α 0) 49 (zT (γ 0)), xI g (β 0) 49 (zI (γ 0)), cR (ρ 1) (α 1) (β 1) (γ 1), xI g (α 1) 49 (zT (γ 1)), xI g (β 1) 49 (zI (γ 1)), cR (ρ 2) (α 2) (β 2) (γ 2), xI g (α 2) 49 (zT (γ 2)), xI g (β 2) 49 (zI (γ 2)), cR (ρ 3) (α 3) (β 3) (γ 3), xI g (α 3) 49 (zT (γ 3)), xI g (β 3) 49 (zI (γ 3))] sz) := by
  refine kMetH (hh := [(0, 5, 6, 15), (0, 5, 10, 25)]) (cc := cL_takeOut) (maxL := 3) (ret := (some .int)) (own := RL) (by decide) rfl rfl (Nat.le_of_ble_eq_true rfl) ?_
  intro p e s m args below meth c ls Q H locs A F w hl htab hA hQ
  have hx := F.1.1
  have hb := F.1.2.1
  have hts := F.1.2.2.2.2
  have hl : lv_has ls 3 [(0, .ref x), (1, .int (nI d))] := hl
  refine lv_aload_n hx hb dL_takeOut_0 rfl (lv_at hl 0 rfl) ?_
  refine lv_iload_n hx hb dL_takeOut_1 rfl (lv_at hl 1 rfl) ?_
  refine kcalli (wc := [cX x nw sn tk hs tx tr, cR nw na nb σ, xI g na 49 (zT σ), xI g nb 49 (zI σ), cH hs hq kn, xQ g hq 4 (rq ρ), cR (ρ 0) (α 0) (β 0) (γ 0), xI g (α 0) 49 (zT (γ 0)), xI g (β 0) 49 (zI (γ 0)), cR (ρ 1) (α 1) (β 1) (γ 1), xI g (α 1) 49 (zT (γ 1)), xI g (β 1) 49 (zI (γ 1)), cR (ρ 2) (α 2) (β 2) (γ 2), xI g (α 2) 49 (zT (γ 2)), xI g (β 2) 49 (zI (γ 2)), cR (ρ 3) (α 3) (β 3) (γ 3), xI g (α 3) 49 (zT (γ 3)), xI g (β 3) 49 (zI (γ 3))]) (wr := []) (wn := fun (u : (Nat → Nat) × (Nat → Nat) × (Nat → Nat)) => [cX x nw sn tk hs tx tr, cR nw na nb (clrS d σ), xI g na 49 (zT (clrS d σ)), xI g nb 49 (zI (clrS d σ)), cH hs hq (pushN kn), xQ g hq 4 (rq u.1), cR (u.1 0) (u.2.1 0) (u.2.2 0) ((pushG γ kn σ) 0), xI g (u.2.1 0) 49 (zT ((pushG γ kn σ) 0)), xI g (u.2.2 0) 49 (zI ((pushG γ kn σ) 0)), cR (u.1 1) (u.2.1 1) (u.2.2 1) ((pushG γ kn σ) 1), xI g (u.2.1 1) 49 (zT ((pushG γ kn σ) 1)), xI g (u.2.2 1) 49 (zI ((pushG γ kn σ) 1)), cR (u.1 2) (u.2.1 2) (u.2.2 2) ((pushG γ kn σ) 2), xI g (u.2.1 2) 49 (zT ((pushG γ kn σ) 2)), xI g (u.2.2 2) 49 (zI ((pushG γ kn σ) 2)), cR (u.1 3) (u.2.1 3) (u.2.2 3) ((pushG γ kn σ) 3), xI g (u.2.1 3) 49 (zT ((pushG γ kn σ) 3)), xI g (u.2.2 3) 49 (zI ((pushG γ kn σ) 3))]) F w [0, 1, 2, 3, 4, 5, 6, 7, 8, 9, 10, 11, 12, 13, 14, 15, 16, 17] [] [0, 1, 2, 3, 4, 5, 6, 7, 8, 9, 10, 11, 12, 13, 14, 15, 16, 17] rfl rfl rfl (fun _ => rfl)
    (fun hp => va_runV (As := [.int (nI d)]) (rest := []) F.1 (kX5_takeOut_k l g x nw sn tk hs tx tr na nb σ hq kn ρ α β γ d H.size hd hs9 hkn) (cwV 1 hts gL_takeOut_X5_takeOut rfl rfl rfl ⟨rfl, hd_X5_takeOut⟩ ⟨Nat.le_of_ble_eq_true rfl, Nat.le_of_ble_eq_true rfl⟩) ⟨hp.1, va_recv F.2.2.2.1.1 w.1 (q0 := 0) (ci := 5) rfl rfl, hp.2⟩ rfl rfl hl.1 rfl (lv_room (Nat.le_of_ble_eq_true rfl)) dL_takeOut_2 ⟨Nat.le_of_ble_eq_true rfl, Nat.le_of_ble_eq_true rfl⟩)
    (fun r_1 u H locs h_2 w => ?_)
  try dsimp only at h_2
  obtain ⟨u_3, hu9⟩ : ∃ z, z = u := ⟨_, rfl⟩
  subst hu9
  have w : kW g A s [cX x nw sn tk hs tx tr, cR nw na nb (clrS d σ), xI g na 49 (zT (clrS d σ)), xI g nb 49 (zI (clrS d σ)), cH hs hq (pushN kn), xQ g hq 4 (rq u_3.1), cR (u_3.1 0) (u_3.2.1 0) (u_3.2.2 0) ((pushG γ kn σ) 0), xI g (u_3.2.1 0) 49 (zT ((pushG γ kn σ) 0)), xI g (u_3.2.2 0) 49 (zI ((pushG γ kn σ) 0)), cR (u_3.1 1) (u_3.2.1 1) (u_3.2.2 1) ((pushG γ kn σ) 1), xI g (u_3.2.1 1) 49 (zT ((pushG γ kn σ) 1)), xI g (u_3.2.2 1) 49 (zI ((pushG γ kn σ) 1)), cR (u_3.1 2) (u_3.2.1 2) (u_3.2.2 2) ((pushG γ kn σ) 2), xI g (u_3.2.1 2) 49 (zT ((pushG γ kn σ) 2)), xI g (u_3.2.2 2) 49 (zI ((pushG γ kn σ) 2)), cR (u_3.1 3) (u_3.2.1 3) (u_3.2.2 3) ((pushG γ kn σ) 3), xI g (u_3.2.1 3) 49 (zT ((pushG γ kn σ) 3)), xI g (u_3.2.2 3) 49 (zI ((pushG γ kn σ) 3))] H locs := w
  subst h_2
  subst hA
  subst hQ
  exact kreti F w u_3 [0, 1, 2, 3, 4, 5, 6, 7, 8, 9, 10, 11, 12, 13, 14, 15, 16, 17] rfl rfl (rfl) (Nat.le_of_ble_eq_true rfl) (Nat.le_of_ble_eq_true rfl) dL_takeOut_5
abbrev rmL_takeOut_A : Room := { frames := 7, cells := 1, slots := 6, locals := 104 }
set_option maxHeartbeats 4000000 in
set_option maxRecDepth 100000 in
theorem kL_takeOut_A (l : Launch) (hnl : l.stackTraces = false) (g : GG) (x : Nat) (nw : Nat) (sn : Nat) (tk : Bool) (hs : Nat) (tx : Nat) (tr : Nat) (n : Int32) (sz : Nat) (hn : ¬ (1 ≤ n.toInt ∧ n.toInt ≤ 48)) : Met l yL_takeOut wsL_takeOut rmL_takeOut_A (va_Pc [.ref x, .int n] (kPre g [cX x nw sn tk hs tx tr] sz)) (va_Qi (fun (r : Int32) (u : Unit) => r = (-102)) (kB g (va_A [cX x nw sn tk hs tx tr] sz) (fun u => [cX x nw sn tk hs tx tr])) (va_A [cX x nw sn tk hs tx tr] sz)) 1 6 (va_A [cX x nw sn tk hs tx tr] sz) := by
  refine kMetH (hh := [(0, 5, 6, 15), (0, 5, 10, 25)]) (cc := cL_takeOut) (maxL := 3) (ret := (some .int)) (own := RL) (by decide) rfl rfl (Nat.le_of_ble_eq_true rfl) ?_
  intro p e s m args below meth c ls Q H locs A F w hl htab hA hQ
  have hx := F.1.1
  have hb := F.1.2.1
  have hts := F.1.2.2.2.2
  have hl : lv_has ls 3 [(0, .ref x), (1, .int n)] := hl
  refine lv_aload_n hx hb dL_takeOut_0 rfl (lv_at hl 0 rfl) ?_
  refine lv_iload_n hx hb dL_takeOut_1 rfl (lv_at hl 1 rfl) ?_
  refine kcaught (E0 := eIAE) (wc := []) (wr := [cX x nw sn tk hs tx tr]) (wn := fun (u : Unit) => [cX x nw sn tk hs tx tr]) F w [] [0] [0] rfl rfl rfl (fun _ => rfl)
    (fun hp => vx_runV (As := [.int n]) (rest := []) F.1 (kX5_takeOut_A l hnl g x n H.size hn) (cwV 1 hts gL_takeOut_X5_takeOut rfl rfl rfl ⟨rfl, hd_X5_takeOut⟩ ⟨Nat.le_of_ble_eq_true rfl, Nat.le_of_ble_eq_true rfl⟩) ⟨hp.1, va_recv F.2.2.2.1.1 w.1 (q0 := 0) (ci := 5) rfl rfl, hp.2⟩ rfl rfl hl.1 rfl (lv_room (Nat.le_of_ble_eq_true rfl)) dL_takeOut_2 ⟨Nat.le_of_ble_eq_true rfl, Nat.le_of_ble_eq_true rfl⟩)
    [] ⟨0, 5, 6, 15⟩ [⟨0, 5, 10, 25⟩] htab (fun z hz => nomatch hz) (by decide +kernel) (by decide) (by decide +kernel) (by decide +kernel) (fun q_1 _ H locs w => ?_)
  refine lv_astore_n (lv' := [(2, .ref q_1), (0, .ref x), (1, .int n)]) hx hb dL_takeOut_6 rfl hl (by decide) rfl (fun ls hl => ?_)
  refine lv_bipush (v := (-102)) hx hb dL_takeOut_7 (by decide) ?_
  subst hA
  subst hQ
  exact kreti F w () [0] rfl rfl (rfl) (Nat.le_of_ble_eq_true rfl) (Nat.le_of_ble_eq_true rfl) dL_takeOut_9
abbrev rmL_takeOut_S : Room := { frames := 7, cells := 1, slots := 6, locals := 104 }
set_option maxHeartbeats 4000000 in
set_option maxRecDepth 100000 in
theorem kL_takeOut_S (l : Launch) (hnl : l.stackTraces = false) (g : GG) (x : Nat) (nw : Nat) (sn : Nat) (tk : Bool) (hs : Nat) (tx : Nat) (tr : Nat) (na : Nat) (nb : Nat) (σ : Sg) (d : Nat) (sz : Nat) (hd : 1 ≤ d ∧ d ≤ 48) (hs9 : zO σ d = false ∨ zF σ d = false) : Met l yL_takeOut wsL_takeOut rmL_takeOut_S (va_Pc [.ref x, .int (nI d)] (kPre g [cX x nw sn tk hs tx tr, cR nw na nb σ, xI g na 49 (zT σ), xI g nb 49 (zI σ)] sz)) (va_Qi (fun (r : Int32) (u : Unit) => r = (-103)) (kB g (va_A [cX x nw sn tk hs tx tr, cR nw na nb σ, xI g na 49 (zT σ), xI g nb 49 (zI σ)] sz) (fun u => [cX x nw sn tk hs tx tr, cR nw na nb σ, xI g na 49 (zT σ), xI g nb 49 (zI σ)])) (va_A [cX x nw sn tk hs tx tr, cR nw na nb σ, xI g na 49 (zT σ), xI g nb 49 (zI σ)] sz)) 1 6 (va_A [cX x nw sn tk hs tx tr, cR nw na nb σ, xI g na 49 (zT σ), xI g nb 49 (zI σ)] sz) := by
  refine kMetH (hh := [(0, 5, 6, 15), (0, 5, 10, 25)]) (cc := cL_takeOut) (maxL := 3) (ret := (some .int)) (own := RL) (by decide) rfl rfl (Nat.le_of_ble_eq_true rfl) ?_
  intro p e s m args below meth c ls Q H locs A F w hl htab hA hQ
  have hx := F.1.1
  have hb := F.1.2.1
  have hts := F.1.2.2.2.2
  have hl : lv_has ls 3 [(0, .ref x), (1, .int (nI d))] := hl
  refine lv_aload_n hx hb dL_takeOut_0 rfl (lv_at hl 0 rfl) ?_
  refine lv_iload_n hx hb dL_takeOut_1 rfl (lv_at hl 1 rfl) ?_
  refine kcaught (E0 := eISE) (wc := [cX x nw sn tk hs tx tr, cR nw na nb σ, xI g na 49 (zT σ), xI g nb 49 (zI σ)]) (wr := []) (wn := fun (u : Unit) => [cX x nw sn tk hs tx tr, cR nw na nb σ, xI g na 49 (zT σ), xI g nb 49 (zI σ)]) F w [0, 1, 2, 3] [] [0, 1, 2, 3] rfl rfl rfl (fun _ => rfl)
    (fun hp => vx_runV (As := [.int (nI d)]) (rest := []) F.1 (kX5_takeOut_S l hnl g x nw sn tk hs tx tr na nb σ d H.size hd hs9) (cwV 1 hts gL_takeOut_X5_takeOut rfl rfl rfl ⟨rfl, hd_X5_takeOut⟩ ⟨Nat.le_of_ble_eq_true rfl, Nat.le_of_ble_eq_true rfl⟩) ⟨hp.1, va_recv F.2.2.2.1.1 w.1 (q0 := 0) (ci := 5) rfl rfl, hp.2⟩ rfl rfl hl.1 rfl (lv_room (Nat.le_of_ble_eq_true rfl)) dL_takeOut_2 ⟨Nat.le_of_ble_eq_true rfl, Nat.le_of_ble_eq_true rfl⟩)
    [⟨0, 5, 6, 15⟩] ⟨0, 5, 10, 25⟩ [] htab (fun z hz => by rcases List.mem_cons.mp hz with rfl | hz; exact ⟨by decide, eIAE, by decide +kernel, by decide +kernel⟩; cases hz) (by decide +kernel) (by decide) (by decide +kernel) (by decide +kernel) (fun q_1 _ H locs w => ?_)
  refine lv_astore_n (lv' := [(2, .ref q_1), (0, .ref x), (1, .int (nI d))]) hx hb dL_takeOut_10 rfl hl (by decide) rfl (fun ls hl => ?_)
  refine lv_bipush (v := (-103)) hx hb dL_takeOut_11 (by decide) ?_
  subst hA
  subst hQ
  exact kreti F w () [0, 1, 2, 3] rfl rfl (rfl) (Nat.le_of_ble_eq_true rfl) (Nat.le_of_ble_eq_true rfl) dL_takeOut_13
theorem hd_X5_isOpen : yX5_isOpen.cls ≠ "java/lang/invoke/MethodHandle" ∧ yX5_isOpen.cls ≠ "java/lang/invoke/VarHandle" ∧ (parseMethodDescriptor yX5_isOpen.desc).map (fun d => d.parameters.length) = some 1 := by decide +kernel
abbrev rmL_isOpen_A : Room := { frames := 7, cells := 1, slots := 6, locals := 103 }
set_option maxHeartbeats 4000000 in
set_option maxRecDepth 100000 in
theorem kL_isOpen_A (l : Launch) (hnl : l.stackTraces = false) (g : GG) (x : Nat) (nw : Nat) (sn : Nat) (tk : Bool) (hs : Nat) (tx : Nat) (tr : Nat) (n : Int32) (sz : Nat) (hn : ¬ (1 ≤ n.toInt ∧ n.toInt ≤ 48)) : Met l yL_isOpen wsL_isOpen rmL_isOpen_A (va_Pc [.ref x, .int n] (kPre g [cX x nw sn tk hs tx tr] sz)) (va_Qi (fun (r : Int32) (u : Unit) => r = (-102)) (kB g (va_A [cX x nw sn tk hs tx tr] sz) (fun u => [cX x nw sn tk hs tx tr])) (va_A [cX x nw sn tk hs tx tr] sz)) 1 6 (va_A [cX x nw sn tk hs tx tr] sz) := by
  refine kMetH (hh := [(2, 8, 11, 15)]) (cc := cL_isOpen) (maxL := 4) (ret := (some .int)) (own := RL) (by decide) rfl rfl (Nat.le_of_ble_eq_true rfl) ?_
  intro p e s m args below meth c ls Q H locs A F w hl htab hA hQ
  have hx := F.1.1
  have hb := F.1.2.1
  have hts := F.1.2.2.2.2
  have hl : lv_has ls 4 [(0, .ref x), (1, .int n)] := hl
  refine lv_iconst (v := nI 0) hx hb dL_isOpen_0 (by decide) ?_
  refine lv_istore_n (lv' := [(2, .int (nI 0)), (0, .ref x), (1, .int n)]) hx hb dL_isOpen_1 rfl hl (by decide) rfl (fun ls hl => ?_)
  refine lv_aload_n hx hb dL_isOpen_2 rfl (lv_at hl 1 rfl) ?_
  refine lv_iload_n hx hb dL_isOpen_3 rfl (lv_at hl 2 rfl) ?_
  refine kcaught (E0 := eIAE) (wc := []) (wr := [cX x nw sn tk hs tx tr]) (wn := fun (u : Unit) => [cX x nw sn tk hs tx tr]) F w [] [0] [0] rfl rfl rfl (fun _ => rfl)
    (fun hp => vx_runV (As := [.int n]) (rest := []) F.1 (kX5_isOpen_A l hnl g x n H.size hn) (cwV 1 hts gL_isOpen_X5_isOpen rfl rfl rfl ⟨rfl, hd_X5_isOpen⟩ ⟨Nat.le_of_ble_eq_true rfl, Nat.le_of_ble_eq_true rfl⟩) ⟨hp.1, va_recv F.2.2.2.1.1 w.1 (q0 := 0) (ci := 5) rfl rfl, hp.2⟩ rfl rfl hl.1 rfl (lv_room (Nat.le_of_ble_eq_true rfl)) dL_isOpen_4 ⟨Nat.le_of_ble_eq_true rfl, Nat.le_of_ble_eq_true rfl⟩)
    [] ⟨2, 8, 11, 15⟩ [] htab (fun z hz => nomatch hz) (by decide +kernel) (by decide) (by decide +kernel) (by decide +kernel) (fun q_1 _ H locs w => ?_)
  refine lv_astore_n (lv' := [(3, .ref q_1), (2, .int (nI 0)), (0, .ref x), (1, .int n)]) hx hb dL_isOpen_11 rfl hl (by decide) rfl (fun ls hl => ?_)
  refine lv_bipush (v := (-102)) hx hb dL_isOpen_12 (by decide) ?_
  subst hA
  subst hQ
  exact kreti F w () [0] rfl rfl (rfl) (Nat.le_of_ble_eq_true rfl) (Nat.le_of_ble_eq_true rfl) dL_isOpen_14
theorem hd_X5_wouldBeOpen : yX5_wouldBeOpen.cls ≠ "java/lang/invoke/MethodHandle" ∧ yX5_wouldBeOpen.cls ≠ "java/lang/invoke/VarHandle" ∧ (parseMethodDescriptor yX5_wouldBeOpen.desc).map (fun d => d.parameters.length) = some 2 := by decide +kernel
abbrev rmL_wouldBeOpen_A : Room := { frames := 7, cells := 1, slots := 6, locals := 107 }
set_option maxHeartbeats 4000000 in
set_option maxRecDepth 100000 in
theorem kL_wouldBeOpen_A (l : Launch) (hnl : l.stackTraces = false) (g : GG) (x : Nat) (nw : Nat) (sn : Nat) (tk : Bool) (hs : Nat) (tx : Nat) (tr : Nat) (n : Int32) (t : Int32) (sz : Nat) (hn : ¬ (1 ≤ n.toInt ∧ n.toInt ≤ t.toInt ∧ t.toInt ≤ 48)) : Met l yL_wouldBeOpen wsL_wouldBeOpen rmL_wouldBeOpen_A (va_Pc [.ref x, .int n, .int t] (kPre g [cX x nw sn tk hs tx tr] sz)) (va_Qi (fun (r : Int32) (u : Unit) => r = (-102)) (kB g (va_A [cX x nw sn tk hs tx tr] sz) (fun u => [cX x nw sn tk hs tx tr])) (va_A [cX x nw sn tk hs tx tr] sz)) 1 6 (va_A [cX x nw sn tk hs tx tr] sz) := by
  refine kMetH (hh := [(0, 6, 7, 15)]) (cc := cL_wouldBeOpen) (maxL := 4) (ret := (some .int)) (own := RL) (by decide) rfl rfl (Nat.le_of_ble_eq_true rfl) ?_
  intro p e s m args below meth c ls Q H locs A F w hl htab hA hQ
  have hx := F.1.1
  have hb := F.1.2.1
  have hts := F.1.2.2.2.2
  have hl : lv_has ls 4 [(0, .ref x), (1, .int n), (2, .int t)] := hl
  refine lv_aload_n hx hb dL_wouldBeOpen_0 rfl (lv_at hl 0 rfl) ?_
  refine lv_iload_n hx hb dL_wouldBeOpen_1 rfl (lv_at hl 1 rfl) ?_
  refine lv_iload_n hx hb dL_wouldBeOpen_2 rfl (lv_at hl 2 rfl) ?_
  refine kcaught (E0 := eIAE) (wc := []) (wr := [cX x nw sn tk hs tx tr]) (wn := fun (u : Unit) => [cX x nw sn tk hs tx tr]) F w [] [0] [0] rfl rfl rfl (fun _ => rfl)
    (fun hp => vx_runV (As := [.int n, .int t]) (rest := []) F.1 (kX5_wouldBeOpen_A l hnl g x n t H.size hn) (cwV 2 hts gL_wouldBeOpen_X5_wouldBeOpen rfl rfl rfl ⟨rfl, hd_X5_wouldBeOpen⟩ ⟨Nat.le_of_ble_eq_true rfl, Nat.le_of_ble_eq_true rfl⟩) ⟨hp.1, va_recv F.2.2.2.1.1 w.1 (q0 := 0) (ci := 5) rfl rfl, hp.2⟩ rfl rfl hl.1 rfl (lv_room (Nat.le_of_ble_eq_true rfl)) dL_wouldBeOpen_3 ⟨Nat.le_of_ble_eq_true rfl, Nat.le_of_ble_eq_true rfl⟩)
    [] ⟨0, 6, 7, 15⟩ [] htab (fun z hz => nomatch hz) (by decide +kernel) (by decide) (by decide +kernel) (by decide +kernel) (fun q_1 _ H locs w => ?_)
  refine lv_astore_n (lv' := [(3, .ref q_1), (0, .ref x), (1, .int n), (2, .int t)]) hx hb dL_wouldBeOpen_7 rfl hl (by decide) rfl (fun ls hl => ?_)
  refine lv_bipush (v := (-102)) hx hb dL_wouldBeOpen_8 (by decide) ?_
  subst hA
  subst hQ
  exact kreti F w () [0] rfl rfl (rfl) (Nat.le_of_ble_eq_true rfl) (Nat.le_of_ble_eq_true rfl) dL_wouldBeOpen_10
theorem hd_X5_whyNot : yX5_whyNot.cls ≠ "java/lang/invoke/MethodHandle" ∧ yX5_whyNot.cls ≠ "java/lang/invoke/VarHandle" ∧ (parseMethodDescriptor yX5_whyNot.desc).map (fun d => d.parameters.length) = some 2 := by decide +kernel
abbrev rmL_whyNot_A : Room := { frames := 7, cells := 1, slots := 6, locals := 104 }
set_option maxHeartbeats 4000000 in
set_option maxRecDepth 100000 in
theorem kL_whyNot_A (l : Launch) (hnl : l.stackTraces = false) (g : GG) (x : Nat) (nw : Nat) (sn : Nat) (tk : Bool) (hs : Nat) (tx : Nat) (tr : Nat) (n : Int32) (k : Int32) (sz : Nat) (hn : ¬ ((1 ≤ n.toInt ∧ n.toInt ≤ 48) ∧ (k = 0 ∨ k = 1))) : Met l yL_whyNot wsL_whyNot rmL_whyNot_A (va_Pc [.ref x, .int n, .int k] (kPre g [cX x nw sn tk hs tx tr] sz)) (va_Qi (fun (r : Int32) (u : Unit) => r = (-102)) (kB g (va_A [cX x nw sn tk hs tx tr] sz) (fun u => [cX x nw sn tk hs tx tr])) (va_A [cX x nw sn tk hs tx tr] sz)) 1 6 (va_A [cX x nw sn tk hs tx tr] sz) := by
  refine kMetH (hh := [(0, 6, 7, 15)]) (cc := cL_whyNot) (maxL := 4) (ret := (some .int)) (own := RL) (by decide) rfl rfl (Nat.le_of_ble_eq_true rfl) ?_
  intro p e s m args below meth c ls Q H locs A F w hl htab hA hQ
  have hx := F.1.1
  have hb := F.1.2.1
  have hts := F.1.2.2.2.2
  have hl : lv_has ls 4 [(0, .ref x), (1, .int n), (2, .int k)] := hl
  refine lv_aload_n hx hb dL_whyNot_0 rfl (lv_at hl 0 rfl) ?_
  refine lv_iload_n hx hb dL_whyNot_1 rfl (lv_at hl 1 rfl) ?_
  refine lv_iload_n hx hb dL_whyNot_2 rfl (lv_at hl 2 rfl) ?_
  refine kcaught (E0 := eIAE) (wc := []) (wr := [cX x nw sn tk hs tx tr]) (wn := fun (u : Unit) => [cX x nw sn tk hs tx tr]) F w [] [0] [0] rfl rfl rfl (fun _ => rfl)
    (fun hp => vx_runV (As := [.int n, .int k]) (rest := []) F.1 (kX5_whyNot_A l hnl g x n k H.size hn) (cwV 2 hts gL_whyNot_X5_whyNot rfl rfl rfl ⟨rfl, hd_X5_whyNot⟩ ⟨Nat.le_of_ble_eq_true rfl, Nat.le_of_ble_eq_true rfl⟩) ⟨hp.1, va_recv F.2.2.2.1.1 w.1 (q0 := 0) (ci := 5) rfl rfl, hp.2⟩ rfl rfl hl.1 rfl (lv_room (Nat.le_of_ble_eq_true rfl)) dL_whyNot_3 ⟨Nat.le_of_ble_eq_true rfl, Nat.le_of_ble_eq_true rfl⟩)
    [] ⟨0, 6, 7, 15⟩ [] htab (fun z hz => nomatch hz) (by decide +kernel) (by decide) (by decide +kernel) (by decide +kernel) (fun q_1 _ H locs w => ?_)
  refine lv_astore_n (lv' := [(3, .ref q_1), (0, .ref x), (1, .int n), (2, .int k)]) hx hb dL_whyNot_7 rfl hl (by decide) rfl (fun ls hl => ?_)
  refine lv_bipush (v := (-102)) hx hb dL_whyNot_8 (by decide) ?_
  subst hA
  subst hQ
  exact kreti F w () [0] rfl rfl (rfl) (Nat.le_of_ble_eq_true rfl) (Nat.le_of_ble_eq_true rfl) dL_whyNot_10
theorem hd_X5_thingsOf : yX5_thingsOf.cls ≠ "java/lang/invoke/MethodHandle" ∧ yX5_thingsOf.cls ≠ "java/lang/invoke/VarHandle" ∧ (parseMethodDescriptor yX5_thingsOf.desc).map (fun d => d.parameters.length) = some 1 := by decide +kernel
abbrev rmL_thingsOf_A : Room := { frames := 7, cells := 1, slots := 6, locals := 103 }
set_option maxHeartbeats 4000000 in
set_option maxRecDepth 100000 in
theorem kL_thingsOf_A (l : Launch) (hnl : l.stackTraces = false) (g : GG) (x : Nat) (nw : Nat) (sn : Nat) (tk : Bool) (hs : Nat) (tx : Nat) (tr : Nat) (k : Int32) (sz : Nat) (hk9 : ¬ (k = 0 ∨ k = 1)) : Met l yL_thingsOf wsL_thingsOf rmL_thingsOf_A (va_Pc [.ref x, .int k] (kPre g [cX x nw sn tk hs tx tr] sz)) (va_Qi (fun (r : Int32) (u : Unit) => r = (-102)) (kB g (va_A [cX x nw sn tk hs tx tr] sz) (fun u => [cX x nw sn tk hs tx tr])) (va_A [cX x nw sn tk hs tx tr] sz)) 1 6 (va_A [cX x nw sn tk hs tx tr] sz) := by
  refine kMetH (hh := [(0, 5, 6, 15)]) (cc := cL_thingsOf) (maxL := 3) (ret := (some .int)) (own := RL) (by decide) rfl rfl (Nat.le_of_ble_eq_true rfl) ?_
  intro p e s m args below meth c ls Q H locs A F w hl htab hA hQ
  have hx := F.1.1
  have hb := F.1.2.1
  have hts := F.1.2.2.2.2
  have hl : lv_has ls 3 [(0, .ref x), (1, .int k)] := hl
  refine lv_aload_n hx hb dL_thingsOf_0 rfl (lv_at hl 0 rfl) ?_
  refine lv_iload_n hx hb dL_thingsOf_1 rfl (lv_at hl 1 rfl) ?_
  refine kcaught (E0 := eIAE) (wc := []) (wr := [cX x nw sn tk hs tx tr]) (wn := fun (u : Unit) => [cX x nw sn tk hs tx tr]) F w [] [0] [0] rfl rfl rfl (fun _ => rfl)
    (fun hp => vx_runV (As := [.int k]) (rest := []) F.1 (kX5_thingsOf_A l hnl g x k H.size hk9) (cwV 1 hts gL_thingsOf_X5_thingsOf rfl rfl rfl ⟨rfl, hd_X5_thingsOf⟩ ⟨Nat.le_of_ble_eq_true rfl, Nat.le_of_ble_eq_true rfl⟩) ⟨hp.1, va_recv F.2.2.2.1.1 w.1 (q0 := 0) (ci := 5) rfl rfl, hp.2⟩ rfl rfl hl.1 rfl (lv_room (Nat.le_of_ble_eq_true rfl)) dL_thingsOf_2 ⟨Nat.le_of_ble_eq_true rfl, Nat.le_of_ble_eq_true rfl⟩)
    [] ⟨0, 5, 6, 15⟩ [] htab (fun z hz => nomatch hz) (by decide +kernel) (by decide) (by decide +kernel) (by decide +kernel) (fun q_1 _ H locs w => ?_)
  refine lv_astore_n (lv' := [(2, .ref q_1), (0, .ref x), (1, .int k)]) hx hb dL_thingsOf_6 rfl hl (by decide) rfl (fun ls hl => ?_)
  refine lv_bipush (v := (-102)) hx hb dL_thingsOf_7 (by decide) ?_
  subst hA
  subst hQ
  exact kreti F w () [0] rfl rfl (rfl) (Nat.le_of_ble_eq_true rfl) (Nat.le_of_ble_eq_true rfl) dL_thingsOf_9
theorem hd_X5_timesOf : yX5_timesOf.cls ≠ "java/lang/invoke/MethodHandle" ∧ yX5_timesOf.cls ≠ "java/lang/invoke/VarHandle" ∧ (parseMethodDescriptor yX5_timesOf.desc).map (fun d => d.parameters.length) = some 1 := by decide +kernel
abbrev rmL_timesOf_A : Room := { frames := 7, cells := 1, slots := 6, locals := 103 }
set_option maxHeartbeats 4000000 in
set_option maxRecDepth 100000 in
theorem kL_timesOf_A (l : Launch) (hnl : l.stackTraces = false) (g : GG) (x : Nat) (nw : Nat) (sn : Nat) (tk : Bool) (hs : Nat) (tx : Nat) (tr : Nat) (n : Int32) (sz : Nat) (hn : ¬ (1 ≤ n.toInt ∧ n.toInt ≤ 48)) : Met l yL_timesOf wsL_timesOf rmL_timesOf_A (va_Pc [.ref x, .int n] (kPre g [cX x nw sn tk hs tx tr] sz)) (va_Qi (fun (r : Int32) (u : Unit) => r = (-102)) (kB g (va_A [cX x nw sn tk hs tx tr] sz) (fun u => [cX x nw sn tk hs tx tr])) (va_A [cX x nw sn tk hs tx tr] sz)) 1 6 (va_A [cX x nw sn tk hs tx tr] sz) := by
  refine kMetH (hh := [(0, 5, 6, 15)]) (cc := cL_timesOf) (maxL := 3) (ret := (some .int)) (own := RL) (by decide) rfl rfl (Nat.le_of_ble_eq_true rfl) ?_
  intro p e s m args below meth c ls Q H locs A F w hl htab hA hQ
  have hx := F.1.1
  have hb := F.1.2.1
  have hts := F.1.2.2.2.2
  have hl : lv_has ls 3 [(0, .ref x), (1, .int n)] := hl
  refine lv_aload_n hx hb dL_timesOf_0 rfl (lv_at hl 0 rfl) ?_
  refine lv_iload_n hx hb dL_timesOf_1 rfl (lv_at hl 1 rfl) ?_
  refine kcaught (E0 := eIAE) (wc := []) (wr := [cX x nw sn tk hs tx tr]) (wn := fun (u : Unit) => [cX x nw sn tk hs tx tr]) F w [] [0] [0] rfl rfl rfl (fun _ => rfl)
    (fun hp => vx_runV (As := [.int n]) (rest := []) F.1 (kX5_timesOf_A l hnl g x n H.size hn) (cwV 1 hts gL_timesOf_X5_timesOf rfl rfl rfl ⟨rfl, hd_X5_timesOf⟩ ⟨Nat.le_of_ble_eq_true rfl, Nat.le_of_ble_eq_true rfl⟩) ⟨hp.1, va_recv F.2.2.2.1.1 w.1 (q0 := 0) (ci := 5) rfl rfl, hp.2⟩ rfl rfl hl.1 rfl (lv_room (Nat.le_of_ble_eq_true rfl)) dL_timesOf_2 ⟨Nat.le_of_ble_eq_true rfl, Nat.le_of_ble_eq_true rfl⟩)
    [] ⟨0, 5, 6, 15⟩ [] htab (fun z hz => nomatch hz) (by decide +kernel) (by decide) (by decide +kernel) (by decide +kernel) (fun q_1 _ H locs w => ?_)
  refine lv_astore_n (lv' := [(2, .ref q_1), (0, .ref x), (1, .int n)]) hx hb dL_timesOf_6 rfl hl (by decide) rfl (fun ls hl => ?_)
  refine lv_bipush (v := (-102)) hx hb dL_timesOf_7 (by decide) ?_
  subst hA
  subst hQ
  exact kreti F w () [0] rfl rfl (rfl) (Nat.le_of_ble_eq_true rfl) (Nat.le_of_ble_eq_true rfl) dL_timesOf_9
theorem hd_X5_divisorsOf : yX5_divisorsOf.cls ≠ "java/lang/invoke/MethodHandle" ∧ yX5_divisorsOf.cls ≠ "java/lang/invoke/VarHandle" ∧ (parseMethodDescriptor yX5_divisorsOf.desc).map (fun d => d.parameters.length) = some 1 := by decide +kernel
abbrev rmL_divisorsOf_A : Room := { frames := 7, cells := 1, slots := 6, locals := 105 }
set_option maxHeartbeats 4000000 in
set_option maxRecDepth 100000 in
theorem kL_divisorsOf_A (l : Launch) (hnl : l.stackTraces = false) (g : GG) (x : Nat) (nw : Nat) (sn : Nat) (tk : Bool) (hs : Nat) (tx : Nat) (tr : Nat) (n : Int32) (sz : Nat) (hn : ¬ (1 ≤ n.toInt ∧ n.toInt ≤ 48)) : Met l yL_divisorsOf wsL_divisorsOf rmL_divisorsOf_A (va_Pc [.ref x, .int n] (kPre g [cX x nw sn tk hs tx tr] sz)) (va_Qi (fun (r : Int32) (u : Unit) => r = (-102)) (kB g (va_A [cX x nw sn tk hs tx tr] sz) (fun u => [cX x nw sn tk hs tx tr])) (va_A [cX x nw sn tk hs tx tr] sz)) 1 6 (va_A [cX x nw sn tk hs tx tr] sz) := by
  refine kMetH (hh := [(0, 5, 6, 15)]) (cc := cL_divisorsOf) (maxL := 3) (ret := (some .int)) (own := RL) (by decide) rfl rfl (Nat.le_of_ble_eq_true rfl) ?_
  intro p e s m args below meth c ls Q H locs A F w hl htab hA hQ
  have hx := F.1.1
  have hb := F.1.2.1
  have hts := F.1.2.2.2.2
  have hl : lv_has ls 3 [(0, .ref x), (1, .int n)] := hl
  refine lv_aload_n hx hb dL_divisorsOf_0 rfl (lv_at hl 0 rfl) ?_
  refine lv_iload_n hx hb dL_divisorsOf_1 rfl (lv_at hl 1 rfl) ?_
  refine kcaught (E0 := eIAE) (wc := []) (wr := [cX x nw sn tk hs tx tr]) (wn := fun (u : Unit) => [cX x nw sn tk hs tx tr]) F w [] [0] [0] rfl rfl rfl (fun _ => rfl)
    (fun hp => vx_runV (As := [.int n]) (rest := []) F.1 (kX5_divisorsOf_A l hnl g x n H.size hn) (cwV 1 hts gL_divisorsOf_X5_divisorsOf rfl rfl rfl ⟨rfl, hd_X5_divisorsOf⟩ ⟨Nat.le_of_ble_eq_true rfl, Nat.le_of_ble_eq_true rfl⟩) ⟨hp.1, va_recv F.2.2.2.1.1 w.1 (q0 := 0) (ci := 5) rfl rfl, hp.2⟩ rfl rfl hl.1 rfl (lv_room (Nat.le_of_ble_eq_true rfl)) dL_divisorsOf_2 ⟨Nat.le_of_ble_eq_true rfl, Nat.le_of_ble_eq_true rfl⟩)
    [] ⟨0, 5, 6, 15⟩ [] htab (fun z hz => nomatch hz) (by decide +kernel) (by decide) (by decide +kernel) (by decide +kernel) (fun q_1 _ H locs w => ?_)
  refine lv_astore_n (lv' := [(2, .ref q_1), (0, .ref x), (1, .int n)]) hx hb dL_divisorsOf_6 rfl hl (by decide) rfl (fun ls hl => ?_)
  refine lv_bipush (v := (-102)) hx hb dL_divisorsOf_7 (by decide) ?_
  subst hA
  subst hQ
  exact kreti F w () [0] rfl rfl (rfl) (Nat.le_of_ble_eq_true rfl) (Nat.le_of_ble_eq_true rfl) dL_divisorsOf_9
theorem hd_X5_goBack : yX5_goBack.cls ≠ "java/lang/invoke/MethodHandle" ∧ yX5_goBack.cls ≠ "java/lang/invoke/VarHandle" ∧ (parseMethodDescriptor yX5_goBack.desc).map (fun d => d.parameters.length) = some 0 := by decide +kernel
abbrev rmL_goBack_k : Room := { frames := 4, cells := 0, slots := 0, locals := 85 }
set_option maxHeartbeats 4000000 in
set_option maxRecDepth 100000 in
theorem kL_goBack_k (l : Launch) (g : GG) (x : Nat) (nw : Nat) (sn : Nat) (tk : Bool) (hs : Nat) (tx : Nat) (tr : Nat) (na : Nat) (nb : Nat) (σ : Sg) (hq : Nat) (kn : Nat) (ρ : Nat → Nat) (α : Nat → Nat) (β : Nat → Nat) (γ : Nat → Sg) (sa : Nat) (sb : Nat) (κ : Sg) (sz : Nat) (hkn : kn ≤ 4) : Met l yL_goBack wsL_goBack rmL_goBack_k (va_Pc [.ref x] (kPre g [cX x nw sn true hs tx tr, cR nw na nb σ, xI g na 49 (zT σ), xI g nb 49 (zI σ), cH hs hq kn, xQ g hq 4 (rq ρ), cR (ρ 0) (α 0) (β 0) (γ 0), xI g (α 0) 49 (zT (γ 0)), xI g (β 0) 49 (zI (γ 0)), cR (ρ 1) (α 1) (β 1) (γ 1), xI g (α 1) 49 (zT (γ 1)), xI g (β 1) 49 (zI (γ 1)), cR (ρ 2) (α 2) (β 2) (γ 2), xI g (α 2) 49 (zT (γ 2)), xI g (β 2) 49 (zI (γ 2)), cR (ρ 3) (α 3) (β 3) (γ 3), xI g (α 3) 49 (zT (γ 3)), xI g (β 3) 49 (zI (γ 3)), cR sn sa sb κ, xI g sa 49 (zT κ), xI g sb 49 (zI κ)] sz)) (va_Qi (fun (r : Int32) (u : (Nat → Nat) × (Nat → Nat) × (Nat → Nat)) => r = nI (zcnt (zO κ) 48)) (kB g (va_A [cX x nw sn true hs tx tr, cR nw na nb σ, xI g na 49 (zT σ), xI g nb 49 (zI σ), cH hs hq kn, xQ g hq 4 (rq ρ), cR (ρ 0) (α 0) (β 0) (γ 0), xI g (α 0) 49 (zT (γ 0)), xI g (β 0) 49 (zI (γ 0)), cR (ρ 1) (α 1) (β 1) (γ 1), xI g (α 1) 49 (zT (γ 1)), xI g (β 1) 49 (zI (γ 1)), cR (ρ 2) (α 2) (β 2) (γ 2), xI g (α 2) 49 (zT (γ 2)), xI g (β 2) 49 (zI (γ 2)), cR (ρ 3) (α 3) (β 3) (γ 3), xI g (α 3) 49 (zT (γ 3)), xI g (β 3) 49 (zI (γ 3)), cR sn sa sb κ, xI g sa 49 (zT κ), xI g sb 49 (zI κ)] sz) (fun u => [cX x nw sn true hs tx tr, cR nw na nb κ, xI g na 49 (zT κ), xI g nb 49 (zI κ), cH hs hq (pushN kn), xQ g hq 4 (rq u.1), cR (u.1 0) (u.2.1 0) (u.2.2 0) ((pushG γ kn σ) 0), xI g (u.2.1 0) 49 (zT ((pushG γ kn σ) 0)), xI g (u.2.2 0) 49 (zI ((pushG γ kn σ) 0)), cR (u.1 1) (u.2.1 1) (u.2.2 1) ((pushG γ kn σ) 1), xI g (u.2.1 1) 49 (zT ((pushG γ kn σ) 1)), xI g (u.2.2 1) 49 (zI ((pushG γ kn σ) 1)), cR (u.1 2) (u.2.1 2) (u.2.2 2) ((pushG γ kn σ) 2), xI g (u.2.1 2) 49 (zT ((pushG γ kn σ) 2)), xI g (u.2.2 2) 49 (zI ((pushG γ kn σ) 2)), cR (u.1 3) (u.2.1 3) (u.2.2 3) ((pushG γ kn σ) 3), xI g (u.2.1 3) 49 (zT ((pushG γ kn σ) 3)), xI g (u.2.2 3) 49 (zI ((pushG γ kn σ) 3)), cR sn sa sb κ, xI g sa 49 (zT κ), xI g sb 49 (zI κ)])) (va_A [cX x nw sn true hs tx tr, cR nw na nb σ, xI g na 49 (zT σ), xI g nb 49 (zI σ), cH hs hq kn, xQ g hq 4 (rq ρ), cR (ρ 0) (α 0) (β 0) (γ 0), xI g (α 0) 49 (zT (γ 0)), xI g (β 0) 49 (zI (γ 0)), cR (ρ 1) (α 1) (β 1) (γ 1), xI g (α 1) 49 (zT (γ 1)), xI g (β 1) 49 (zI (γ 1)), cR (ρ 2) (α 2) (β 2) (γ 2), xI g (α 2) 49 (zT (γ 2)), xI g (β 2) 49 (zI (γ 2)), cR (ρ 3) (α 3) (β 3) (γ 3), xI g (α 3) 49 (zT (γ 3)), xI g (β 3) 49 (zI (γ 3)), cR sn sa sb κ, xI g sa 49 (zT κ), xI g sb 49 (zI κ)] sz)) 0 0 (va_A [cX x nw sn true hs tx tr, cR nw na nb σ, xI g na 49 (zT σ), xI g nb 49 (zI σ), cH hs hq kn, xQ g hq 4 (rq ρ), cR (ρ 0) (α 0) (β 0) (γ 0), xI g (α 0) 49 (zT (γ 0)), xI g (β 0) 49 (zI (γ 0)), cR (ρ 1) (α 1) (β 1) (γ 1), xI g (α 1) 49 (zT (γ 1)), xI g (β 1) 49 (zI (γ 1)), cR (ρ 2) (α 2) (β 2) (γ 2), xI g (α 2) 49 (zT (γ 2)), xI g (β 2) 49 (zI (γ 2)), cR (ρ 3) (α 3) (β 3) (γ 3), xI g (α 3) 49 (zT (γ 3)), xI g (β 3) 49 (zI (γ 3)), cR sn sa sb κ, xI g sa 49 (zT κ), xI g sb 49 (zI κ)] sz) := by
  refine kMetH (hh := [(0, 4, 5, 25)]) (cc := cL_goBack) (maxL := 2) (ret := (some .int)) (own := RL) (by decide) rfl rfl (Nat.le_of_ble_eq_true rfl) ?_
  intro p e s m args below meth c ls Q H locs A F w hl htab hA hQ
  have hx := F.1.1
  have hb := F.1.2.1
  have hts := F.1.2.2.2.2
  have hl : lv_has ls 2 [(0, .ref x)] := hl
  refine lv_aload_n hx hb dL_goBack_0 rfl (lv_at hl 0 rfl) ?_
  refine kcalli (wc := [cX x nw sn true hs tx tr, cR nw na nb σ, xI g na 49 (zT σ), xI g nb 49 (zI σ), cH hs hq kn, xQ g hq 4 (rq ρ), cR (ρ 0) (α 0) (β 0) (γ 0), xI g (α 0) 49 (zT (γ 0)), xI g (β 0) 49 (zI (γ 0)), cR (ρ 1) (α 1) (β 1) (γ 1), xI g (α 1) 49 (zT (γ 1)), xI g (β 1) 49 (zI (γ 1)), cR (ρ 2) (α 2) (β 2) (γ 2), xI g (α 2) 49 (zT (γ 2)), xI g (β 2) 49 (zI (γ 2)), cR (ρ 3) (α 3) (β 3) (γ 3), xI g (α 3) 49 (zT (γ 3)), xI g (β 3) 49 (zI (γ 3)), cR sn sa sb κ, xI g sa 49 (zT κ), xI g sb 49 (zI κ)]) (wr := []) (wn := fun (u : (Nat → Nat) × (Nat → Nat) × (Nat → Nat)) => [cX x nw sn true hs tx tr, cR nw na nb κ, xI g na 49 (zT κ), xI g nb 49 (zI κ), cH hs hq (pushN kn), xQ g hq 4 (rq u.1), cR (u.1 0) (u.2.1 0) (u.2.2 0) ((pushG γ kn σ) 0), xI g (u.2.1 0) 49 (zT ((pushG γ kn σ) 0)), xI g (u.2.2 0) 49 (zI ((pushG γ kn σ) 0)), cR (u.1 1) (u.2.1 1) (u.2.2 1) ((pushG γ kn σ) 1), xI g (u.2.1 1) 49 (zT ((pushG γ kn σ) 1)), xI g (u.2.2 1) 49 (zI ((pushG γ kn σ) 1)), cR (u.1 2) (u.2.1 2) (u.2.2 2) ((pushG γ kn σ) 2), xI g (u.2.1 2) 49 (zT ((pushG γ kn σ) 2)), xI g (u.2.2 2) 49 (zI ((pushG γ kn σ) 2)), cR (u.1 3) (u.2.1 3) (u.2.2 3) ((pushG γ kn σ) 3), xI g (u.2.1 3) 49 (zT ((pushG γ kn σ) 3)), xI g (u.2.2 3) 49 (zI ((pushG γ kn σ) 3)), cR sn sa sb κ, xI g sa 49 (zT κ), xI g sb 49 (zI κ)]) F w [0, 1, 2, 3, 4, 5, 6, 7, 8, 9, 10, 11, 12, 13, 14, 15, 16, 17, 18, 19, 20] [] [0, 1, 2, 3, 4, 5, 6, 7, 8, 9, 10, 11, 12, 13, 14, 15, 16, 17, 18, 19, 20] rfl rfl rfl (fun _ => rfl)
    (fun hp => va_runV (As := []) (rest := []) F.1 (kX5_goBack_k l g x nw sn false hs tx tr na nb σ hq kn ρ α β γ sa sb κ H.size hkn) (cwV 0 hts gL_goBack_X5_goBack rfl rfl rfl ⟨rfl, hd_X5_goBack⟩ ⟨Nat.le_of_ble_eq_true rfl, Nat.le_of_ble_eq_true rfl⟩) ⟨hp.1, va_recv F.2.2.2.1.1 w.1 (q0 := 0) (ci := 5) rfl rfl, hp.2⟩ rfl rfl hl.1 rfl (lv_room (Nat.le_of_ble_eq_true rfl)) dL_goBack_1 ⟨Nat.le_of_ble_eq_true rfl, Nat.le_of_ble_eq_true rfl⟩)
    (fun r_1 u H locs h_2 w => ?_)
  try dsimp only at h_2
  obtain ⟨u_3, hu9⟩ : ∃ z, z = u := ⟨_, rfl⟩
  subst hu9
  have w : kW g A s [cX x nw sn true hs tx tr, cR nw na nb κ, xI g na 49 (zT κ), xI g nb 49 (zI κ), cH hs hq (pushN kn), xQ g hq 4 (rq u_3.1), cR (u_3.1 0) (u_3.2.1 0) (u_3.2.2 0) ((pushG γ kn σ) 0), xI g (u_3.2.1 0) 49 (zT ((pushG γ kn σ) 0)), xI g (u_3.2.2 0) 49 (zI ((pushG γ kn σ) 0)), cR (u_3.1 1) (u_3.2.1 1) (u_3.2.2 1) ((pushG γ kn σ) 1), xI g (u_3.2.1 1) 49 (zT ((pushG γ kn σ) 1)), xI g (u_3.2.2 1) 49 (zI ((pushG γ kn σ) 1)), cR (u_3.1 2) (u_3.2.1 2) (u_3.2.2 2) ((pushG γ kn σ) 2), xI g (u_3.2.1 2) 49 (zT ((pushG γ kn σ) 2)), xI g (u_3.2.2 2) 49 (zI ((pushG γ kn σ) 2)), cR (u_3.1 3) (u_3.2.1 3) (u_3.2.2 3) ((pushG γ kn σ) 3), xI g (u_3.2.1 3) 49 (zT ((pushG γ kn σ) 3)), xI g (u_3.2.2 3) 49 (zI ((pushG γ kn σ) 3)), cR sn sa sb κ, xI g sa 49 (zT κ), xI g sb 49 (zI κ)] H locs := w
  subst h_2
  subst hA
  subst hQ
  exact kreti F w u_3 [0, 1, 2, 3, 4, 5, 6, 7, 8, 9, 10, 11, 12, 13, 14, 15, 16, 17, 18, 19, 20] rfl rfl (rfl) (Nat.le_of_ble_eq_true rfl) (Nat.le_of_ble_eq_true rfl) dL_goBack_4
abbrev rmL_goBack_S : Room := { frames := 7, cells := 1, slots := 6, locals := 102 }
set_option maxHeartbeats 4000000 in
set_option maxRecDepth 100000 in
theorem kL_goBack_S (l : Launch) (hnl : l.stackTraces = false) (g : GG) (x : Nat) (nw : Nat) (sn : Nat) (hs : Nat) (tx : Nat) (tr : Nat) (sz : Nat)  : Met l yL_goBack wsL_goBack rmL_goBack_S (va_Pc [.ref x] (kPre g [cX x nw sn false hs tx tr] sz)) (va_Qi (fun (r : Int32) (u : Unit) => r = (-103)) (kB g (va_A [cX x nw sn false hs tx tr] sz) (fun u => [cX x nw sn false hs tx tr])) (va_A [cX x nw sn false hs tx tr] sz)) 1 6 (va_A [cX x nw sn false hs tx tr] sz) := by
  refine kMetH (hh := [(0, 4, 5, 25)]) (cc := cL_goBack) (maxL := 2) (ret := (some .int)) (own := RL) (by decide) rfl rfl (Nat.le_of_ble_eq_true rfl) ?_
  intro p e s m args below meth c ls Q H locs A F w hl htab hA hQ
  have hx := F.1.1
  have hb := F.1.2.1
  have hts := F.1.2.2.2.2
  have hl : lv_has ls 2 [(0, .ref x)] := hl
  refine lv_aload_n hx hb dL_goBack_0 rfl (lv_at hl 0 rfl) ?_
  refine kcaught (E0 := eISE) (wc := [cX x nw sn false hs tx tr]) (wr := []) (wn := fun (u : Unit) => [cX x nw sn false hs tx tr]) F w [0] [] [0] rfl rfl rfl (fun _ => rfl)
    (fun hp => vx_runV (As := []) (rest := []) F.1 (kX5_goBack_S l hnl g x nw sn hs tx tr H.size ) (cwV 0 hts gL_goBack_X5_goBack rfl rfl rfl ⟨rfl, hd_X5_goBack⟩ ⟨Nat.le_of_ble_eq_true rfl, Nat.le_of_ble_eq_true rfl⟩) ⟨hp.1, va_recv F.2.2.2.1.1 w.1 (q0 := 0) (ci := 5) rfl rfl, hp.2⟩ rfl rfl hl.1 rfl (lv_room (Nat.le_of_ble_eq_true rfl)) dL_goBack_1 ⟨Nat.le_of_ble_eq_true rfl, Nat.le_of_ble_eq_true rfl⟩)
    [] ⟨0, 4, 5, 25⟩ [] htab (fun z hz => nomatch hz) (by decide +kernel) (by decide) (by decide +kernel) (by decide +kernel) (fun q_1 _ H locs w => ?_)
  refine lv_astore_n (lv' := [(1, .ref q_1), (0, .ref x)]) hx hb dL_goBack_5 rfl hl (by decide) rfl (fun ls hl => ?_)
  refine lv_bipush (v := (-103)) hx hb dL_goBack_6 (by decide) ?_
  subst hA
  subst hQ
  exact kreti F w () [0] rfl rfl (rfl) (Nat.le_of_ble_eq_true rfl) (Nat.le_of_ble_eq_true rfl) dL_goBack_8
theorem hd_X5_undo : yX5_undo.cls ≠ "java/lang/invoke/MethodHandle" ∧ yX5_undo.cls ≠ "java/lang/invoke/VarHandle" ∧ (parseMethodDescriptor yX5_undo.desc).map (fun d => d.parameters.length) = some 0 := by decide +kernel
abbrev rmL_undo_k : Room := { frames := 4, cells := 0, slots := 0, locals := 84 }
set_option maxHeartbeats 4000000 in
set_option maxRecDepth 100000 in
theorem kL_undo_k (l : Launch) (g : GG) (x : Nat) (nw : Nat) (sn : Nat) (tk : Bool) (hs : Nat) (tx : Nat) (tr : Nat) (na : Nat) (nb : Nat) (σ : Sg) (hq : Nat) (kn : Nat) (ρ : Nat → Nat) (α : Nat → Nat) (β : Nat → Nat) (γ : Nat → Sg) (sz : Nat) (hkn : kn < 4) : Met l yL_undo wsL_undo rmL_undo_k (va_Pc [.ref x] (kPre g [cX x nw sn tk hs tx tr, cR nw na nb σ, xI g na 49 (zT σ), xI g nb 49 (zI σ), cH hs hq (kn + 1), xQ g hq 4 (rq ρ), cR (ρ 0) (α 0) (β 0) (γ 0), xI g (α 0) 49 (zT (γ 0)), xI g (β 0) 49 (zI (γ 0)), cR (ρ 1) (α 1) (β 1) (γ 1), xI g (α 1) 49 (zT (γ 1)), xI g (β 1) 49 (zI (γ 1)), cR (ρ 2) (α 2) (β 2) (γ 2), xI g (α 2) 49 (zT (γ 2)), xI g (β 2) 49 (zI (γ 2)), cR (ρ 3) (α 3) (β 3) (γ 3), xI g (α 3) 49 (zT (γ 3)), xI g (β 3) 49 (zI (γ 3))] sz)) (va_Qi (fun (r : Int32) (u : Unit) => r = nI kn) (kB g (va_A [cX x nw sn tk hs tx tr, cR nw na nb σ, xI g na 49 (zT σ), xI g nb 49 (zI σ), cH hs hq (kn + 1), xQ g hq 4 (rq ρ), cR (ρ 0) (α 0) (β 0) (γ 0), xI g (α 0) 49 (zT (γ 0)), xI g (β 0) 49 (zI (γ 0)), cR (ρ 1) (α 1) (β 1) (γ 1), xI g (α 1) 49 (zT (γ 1)), xI g (β 1) 49 (zI (γ 1)), cR (ρ 2) (α 2) (β 2) (γ 2), xI g (α 2) 49 (zT (γ 2)), xI g (β 2) 49 (zI (γ 2)), cR (ρ 3) (α 3) (β 3) (γ 3), xI g (α 3) 49 (zT (γ 3)), xI g (β 3) 49 (zI (γ 3))] sz) (fun u => [cX x nw sn tk hs tx tr, cR nw na nb (γ kn), xI g na 49 (zT (γ kn)), xI g nb 49 (zI (γ kn)), cH hs hq kn, xQ g hq 4 (rq ρ), cR (ρ 0) (α 0) (β 0) (γ 0), xI g (α 0) 49 (zT (γ 0)), xI g (β 0) 49 (zI (γ 0)), cR (ρ 1) (α 1) (β 1) (γ 1), xI g (α 1) 49 (zT (γ 1)), xI g (β 1) 49 (zI (γ 1)), cR (ρ 2) (α 2) (β 2) (γ 2), xI g (α 2) 49 (zT (γ 2)), xI g (β 2) 49 (zI (γ 2)), cR (ρ 3) (α 3) (β 3) (γ 3), xI g (α 3) 49 (zT (γ 3)), xI g (β 3) 49 (zI (γ 3))])) (va_A [cX x nw sn tk hs tx tr, cR nw na nb σ, xI g na 49 (zT σ), xI g nb 49 (zI σ), cH hs hq (kn + 1), xQ g hq 4 (rq ρ), cR (ρ 0) (α 0) (β 0) (γ 0), xI g (α 0) 49 (zT (γ 0)), xI g (β 0) 49 (zI (γ 0)), cR (ρ 1) (α 1) (β 1) (γ 1), xI g (α 1) 49 (zT (γ 1)), xI g (β 1) 49 (zI (γ 1)), cR (ρ 2) (α 2) (β 2) (γ 2), xI g (α 2) 49 (zT (γ 2)), xI g (β 2) 49 (zI (γ 2)), cR (ρ 3) (α 3) (β 3) (γ 3), xI g (α 3) 49 (zT (γ 3)), xI g (β 3) 49 (zI (γ 3))] sz)) 0 0 (va_A [cX x nw sn tk hs tx tr, cR nw na nb σ, xI g na 49 (zT σ), xI g nb 49 (zI σ), cH hs hq (kn + 1), xQ g hq 4 (rq ρ), cR (ρ 0) (α 0) (β 0) (γ 0), xI g (α 0) 49 (zT (γ 0)), xI g (β 0) 49 (zI (γ 0)), cR (ρ 1) (α 1) (β 1) (γ 1), xI g (α 1) 49 (zT (γ 1)), xI g (β 1) 49 (zI (γ 1)), cR (ρ 2) (α 2) (β 2) (γ 2), xI g (α 2) 49 (zT (γ 2)), xI g (β 2) 49 (zI (γ 2)), cR (ρ 3) (α 3) (β 3) (γ 3), xI g (α 3) 49 (zT (γ 3)), xI g (β 3) 49 (zI (γ 3))] sz) := by
  refine kMetH (hh := [(0, 4, 5, 25)]) (cc := cL_undo) (maxL := 2) (ret := (some .int)) (own := RL) (by decide) rfl rfl (Nat.le_of_ble_eq_true rfl) ?_
  intro p e s m args below meth c ls Q H locs A F w hl htab hA hQ
  have hx := F.1.1
  have hb := F.1.2.1
  have hts := F.1.2.2.2.2
  have hl : lv_has ls 2 [(0, .ref x)] := hl
  refine lv_aload_n hx hb dL_undo_0 rfl (lv_at hl 0 rfl) ?_
  refine kcalli (wc := [cX x nw sn tk hs tx tr, cR nw na nb σ, xI g na 49 (zT σ), xI g nb 49 (zI σ), cH hs hq (kn + 1), xQ g hq 4 (rq ρ), cR (ρ 0) (α 0) (β 0) (γ 0), xI g (α 0) 49 (zT (γ 0)), xI g (β 0) 49 (zI (γ 0)), cR (ρ 1) (α 1) (β 1) (γ 1), xI g (α 1) 49 (zT (γ 1)), xI g (β 1) 49 (zI (γ 1)), cR (ρ 2) (α 2) (β 2) (γ 2), xI g (α 2) 49 (zT (γ 2)), xI g (β 2) 49 (zI (γ 2)), cR (ρ 3) (α 3) (β 3) (γ 3), xI g (α 3) 49 (zT (γ 3)), xI g (β 3) 49 (zI (γ 3))]) (wr := []) (wn := fun (u : Unit) => [cX x nw sn tk hs tx tr, cR nw na nb (γ kn), xI g na 49 (zT (γ kn)), xI g nb 49 (zI (γ kn)), cH hs hq kn, xQ g hq 4 (rq ρ), cR (ρ 0) (α 0) (β 0) (γ 0), xI g (α 0) 49 (zT (γ 0)), xI g (β 0) 49 (zI (γ 0)), cR (ρ 1) (α 1) (β 1) (γ 1), xI g (α 1) 49 (zT (γ 1)), xI g (β 1) 49 (zI (γ 1)), cR (ρ 2) (α 2) (β 2) (γ 2), xI g (α 2) 49 (zT (γ 2)), xI g (β 2) 49 (zI (γ 2)), cR (ρ 3) (α 3) (β 3) (γ 3), xI g (α 3) 49 (zT (γ 3)), xI g (β 3) 49 (zI (γ 3))]) F w [0, 1, 2, 3, 4, 5, 6, 7, 8, 9, 10, 11, 12, 13, 14, 15, 16, 17] [] [0, 1, 2, 3, 4, 5, 6, 7, 8, 9, 10, 11, 12, 13, 14, 15, 16, 17] rfl rfl rfl (fun _ => rfl)
    (fun hp => va_runV (As := []) (rest := []) F.1 (kX5_undo_k l g x nw sn tk hs tx tr na nb σ hq kn ρ α β γ H.size hkn) (cwV 0 hts gL_undo_X5_undo rfl rfl rfl ⟨rfl, hd_X5_undo⟩ ⟨Nat.le_of_ble_eq_true rfl, Nat.le_of_ble_eq_true rfl⟩) ⟨hp.1, va_recv F.2.2.2.1.1 w.1 (q0 := 0) (ci := 5) rfl rfl, hp.2⟩ rfl rfl hl.1 rfl (lv_room (Nat.le_of_ble_eq_true rfl)) dL_undo_1 ⟨Nat.le_of_ble_eq_true rfl, Nat.le_of_ble_eq_true rfl⟩)
    (fun r_1 _ H locs h_2 w => ?_)
  subst h_2
  subst hA
  subst hQ
  exact kreti F w () [0, 1, 2, 3, 4, 5, 6, 7, 8, 9, 10, 11, 12, 13, 14, 15, 16, 17] rfl rfl (rfl) (Nat.le_of_ble_eq_true rfl) (Nat.le_of_ble_eq_true rfl) dL_undo_4
abbrev rmL_undo_S : Room := { frames := 7, cells := 1, slots := 6, locals := 102 }
set_option maxHeartbeats 4000000 in
set_option maxRecDepth 100000 in
theorem kL_undo_S (l : Launch) (hnl : l.stackTraces = false) (g : GG) (x : Nat) (nw : Nat) (sn : Nat) (tk : Bool) (hs : Nat) (tx : Nat) (tr : Nat) (hq : Nat) (sz : Nat)  : Met l yL_undo wsL_undo rmL_undo_S (va_Pc [.ref x] (kPre g [cX x nw sn tk hs tx tr, cH hs hq 0] sz)) (va_Qi (fun (r : Int32) (u : Unit) => r = (-103)) (kB g (va_A [cX x nw sn tk hs tx tr, cH hs hq 0] sz) (fun u => [cX x nw sn tk hs tx tr, cH hs hq 0])) (va_A [cX x nw sn tk hs tx tr, cH hs hq 0] sz)) 1 6 (va_A [cX x nw sn tk hs tx tr, cH hs hq 0] sz) := by
  refine kMetH (hh := [(0, 4, 5, 25)]) (cc := cL_undo) (maxL := 2) (ret := (some .int)) (own := RL) (by decide) rfl rfl (Nat.le_of_ble_eq_true rfl) ?_
  intro p e s m args below meth c ls Q H locs A F w hl htab hA hQ
  have hx := F.1.1
  have hb := F.1.2.1
  have hts := F.1.2.2.2.2
  have hl : lv_has ls 2 [(0, .ref x)] := hl
  refine lv_aload_n hx hb dL_undo_0 rfl (lv_at hl 0 rfl) ?_
  refine kcaught (E0 := eISE) (wc := [cX x nw sn tk hs tx tr, cH hs hq 0]) (wr := []) (wn := fun (u : Unit) => [cX x nw sn tk hs tx tr, cH hs hq 0]) F w [0, 1] [] [0, 1] rfl rfl rfl (fun _ => rfl)
    (fun hp => vx_runV (As := []) (rest := []) F.1 (kX5_undo_S l hnl g x nw sn tk hs tx tr hq H.size ) (cwV 0 hts gL_undo_X5_undo rfl rfl rfl ⟨rfl, hd_X5_undo⟩ ⟨Nat.le_of_ble_eq_true rfl, Nat.le_of_ble_eq_true rfl⟩) ⟨hp.1, va_recv F.2.2.2.1.1 w.1 (q0 := 0) (ci := 5) rfl rfl, hp.2⟩ rfl rfl hl.1 rfl (lv_room (Nat.le_of_ble_eq_true rfl)) dL_undo_1 ⟨Nat.le_of_ble_eq_true rfl, Nat.le_of_ble_eq_true rfl⟩)
    [] ⟨0, 4, 5, 25⟩ [] htab (fun z hz => nomatch hz) (by decide +kernel) (by decide) (by decide +kernel) (by decide +kernel) (fun q_1 _ H locs w => ?_)
  refine lv_astore_n (lv' := [(1, .ref q_1), (0, .ref x)]) hx hb dL_undo_5 rfl hl (by decide) rfl (fun ls hl => ?_)
  refine lv_bipush (v := (-103)) hx hb dL_undo_6 (by decide) ?_
  subst hA
  subst hQ
  exact kreti F w () [0, 1] rfl rfl (rfl) (Nat.le_of_ble_eq_true rfl) (Nat.le_of_ble_eq_true rfl) dL_undo_8
theorem hd_X5_faultPosition : yX5_faultPosition.cls ≠ "java/lang/invoke/MethodHandle" ∧ yX5_faultPosition.cls ≠ "java/lang/invoke/VarHandle" ∧ (parseMethodDescriptor yX5_faultPosition.desc).map (fun d => d.parameters.length) = some 0 := by decide +kernel
abbrev rmL_faultPosition_k : Room := { frames := 7, cells := 0, slots := 0, locals := 154 }
set_option maxHeartbeats 4000000 in
set_option maxRecDepth 100000 in
theorem kL_faultPosition_k (l : Launch) (g : GG) (x : Nat) (nw : Nat) (sn : Nat) (tk : Bool) (hs : Nat) (tx : Nat) (tr : Nat) (na : Nat) (nb : Nat) (σ : Sg) (ch : Nat) (L : Nat) (T : Nat → Int32) (tw : Nat) (od : Nat) (os : Nat) (po : Nat) (re : Nat) (ca : Nat) (ta : Nat) (tb : Nat) (τ : Sg) (vb : Int32) (n1 : Nat) (n2 : Nat) (nm : Nat) (en : Nat) (sz : Nat) (hL : L ≤ 60) (hz9 : zRe T L σ ≠ 0) : Met l yL_faultPosition wsL_faultPosition rmL_faultPosition_k (va_Pc [.ref x] (kPre g [cX x nw sn tk hs tx tr, cR nw na nb σ, xI g na 49 (zT σ), xI g nb 49 (zI σ), cT tx ch L, xC g ch 60 T, cTr tr tw od os po re ca, cR tw ta tb τ, xI g ta 49 (zT τ), xI g tb 49 (zI τ), cO od vb n1 n2 nm en] sz)) (va_Qi (fun (r : Int32) (u : Int32 × Nat × Nat × Nat × Nat) => r = nI (zPo T L σ)) (kB g (va_A [cX x nw sn tk hs tx tr, cR nw na nb σ, xI g na 49 (zT σ), xI g nb 49 (zI σ), cT tx ch L, xC g ch 60 T, cTr tr tw od os po re ca, cR tw ta tb τ, xI g ta 49 (zT τ), xI g tb 49 (zI τ), cO od vb n1 n2 nm en] sz) (fun u => [cX x nw sn tk hs tx tr, cR nw na nb σ, xI g na 49 (zT σ), xI g nb 49 (zI σ), cT tx ch L, xC g ch 60 T, cTr tr tw od (zOs T L σ) (zPo T L σ) (zRe T L σ) (zCa T L σ), cR tw ta tb (zSt T L σ), xI g ta 49 (zT (zSt T L σ)), xI g tb 49 (zI (zSt T L σ)), cO od u.1 u.2.1 u.2.2.1 u.2.2.2.1 u.2.2.2.2])) (va_A [cX x nw sn tk hs tx tr, cR nw na nb σ, xI g na 49 (zT σ), xI g nb 49 (zI σ), cT tx ch L, xC g ch 60 T, cTr tr tw od os po re ca, cR tw ta tb τ, xI g ta 49 (zT τ), xI g tb 49 (zI τ), cO od vb n1 n2 nm en] sz)) 0 0 (va_A [cX x nw sn tk hs tx tr, cR nw na nb σ, xI g na 49 (zT σ), xI g nb 49 (zI σ), cT tx ch L, xC g ch 60 T, cTr tr tw od os po re ca, cR tw ta tb τ, xI g ta 49 (zT τ), xI g tb 49 (zI τ), cO od vb n1 n2 nm en] sz) := by
  refine kMetH (hh := [(0, 4, 5, 51)]) (cc := cL_faultPosition) (maxL := 2) (ret := (some .int)) (own := RL) (by decide) rfl rfl (Nat.le_of_ble_eq_true rfl) ?_
  intro p e s m args below meth c ls Q H locs A F w hl htab hA hQ
  have hx := F.1.1
  have hb := F.1.2.1
  have hts := F.1.2.2.2.2
  have hl : lv_has ls 2 [(0, .ref x)] := hl
  refine lv_aload_n hx hb dL_faultPosition_0 rfl (lv_at hl 0 rfl) ?_
  refine kcalli (wc := [cX x nw sn tk hs tx tr, cR nw na nb σ, xI g na 49 (zT σ), xI g nb 49 (zI σ), cT tx ch L, xC g ch 60 T, cTr tr tw od os po re ca, cR tw ta tb τ, xI g ta 49 (zT τ), xI g tb 49 (zI τ), cO od vb n1 n2 nm en]) (wr := []) (wn := fun (u : Int32 × Nat × Nat × Nat × Nat) => [cX x nw sn tk hs tx tr, cR nw na nb σ, xI g na 49 (zT σ), xI g nb 49 (zI σ), cT tx ch L, xC g ch 60 T, cTr tr tw od (zOs T L σ) (zPo T L σ) (zRe T L σ) (zCa T L σ), cR tw ta tb (zSt T L σ), xI g ta 49 (zT (zSt T L σ)), xI g tb 49 (zI (zSt T L σ)), cO od u.1 u.2.1 u.2.2.1 u.2.2.2.1 u.2.2.2.2]) F w [0, 1, 2, 3, 4, 5, 6, 7, 8, 9, 10] [] [0, 1, 2, 3, 4, 5, 6, 7, 8, 9, 10] rfl rfl rfl (fun _ => rfl)
    (fun hp => va_runV (As := []) (rest := []) F.1 (kX5_faultPosition_k l g x nw sn tk hs tx tr na nb σ ch L T tw od os po re ca ta tb τ vb n1 n2 nm en H.size hL hz9) (cwV 0 hts gL_faultPosition_X5_faultPosition rfl rfl rfl ⟨rfl, hd_X5_faultPosition⟩ ⟨Nat.le_of_ble_eq_true rfl, Nat.le_of_ble_eq_true rfl⟩) ⟨hp.1, va_recv F.2.2.2.1.1 w.1 (q0 := 0) (ci := 5) rfl rfl, hp.2⟩ rfl rfl hl.1 rfl (lv_room (Nat.le_of_ble_eq_true rfl)) dL_faultPosition_1 ⟨Nat.le_of_ble_eq_true rfl, Nat.le_of_ble_eq_true rfl⟩)
    (fun r_1 u H locs h_2 w => ?_)
  try dsimp only at h_2
  obtain ⟨u_3, hu9⟩ : ∃ z, z = u := ⟨_, rfl⟩
  subst hu9
  have w : kW g A s [cX x nw sn tk hs tx tr, cR nw na nb σ, xI g na 49 (zT σ), xI g nb 49 (zI σ), cT tx ch L, xC g ch 60 T, cTr tr tw od (zOs T L σ) (zPo T L σ) (zRe T L σ) (zCa T L σ), cR tw ta tb (zSt T L σ), xI g ta 49 (zT (zSt T L σ)), xI g tb 49 (zI (zSt T L σ)), cO od u_3.1 u_3.2.1 u_3.2.2.1 u_3.2.2.2.1 u_3.2.2.2.2] H locs := w
  subst h_2
  subst hA
  subst hQ
  exact kreti F w u_3 [0, 1, 2, 3, 4, 5, 6, 7, 8, 9, 10] rfl rfl (rfl) (Nat.le_of_ble_eq_true rfl) (Nat.le_of_ble_eq_true rfl) dL_faultPosition_4
abbrev rmL_faultPosition_N : Room := { frames := 7, cells := 1, slots := 6, locals := 154 }
set_option maxHeartbeats 4000000 in
set_option maxRecDepth 100000 in
theorem kL_faultPosition_N (l : Launch) (hnl : l.stackTraces = false) (g : GG) (x : Nat) (nw : Nat) (sn : Nat) (tk : Bool) (hs : Nat) (tx : Nat) (tr : Nat) (na : Nat) (nb : Nat) (σ : Sg) (ch : Nat) (L : Nat) (T : Nat → Int32) (tw : Nat) (od : Nat) (os : Nat) (po : Nat) (re : Nat) (ca : Nat) (ta : Nat) (tb : Nat) (τ : Sg) (vb : Int32) (n1 : Nat) (n2 : Nat) (nm : Nat) (en : Nat) (sz : Nat) (hL : L ≤ 60) (hz9 : zRe T L σ = 0) : Met l yL_faultPosition wsL_faultPosition rmL_faultPosition_N (va_Pc [.ref x] (kPre g [cX x nw sn tk hs tx tr, cR nw na nb σ, xI g na 49 (zT σ), xI g nb 49 (zI σ), cT tx ch L, xC g ch 60 T, cTr tr tw od os po re ca, cR tw ta tb τ, xI g ta 49 (zT τ), xI g tb 49 (zI τ), cO od vb n1 n2 nm en] sz)) (va_Qi (fun (r : Int32) (u : Int32 × Nat × Nat × Nat × Nat) => r = (-104)) (kB g (va_A [cX x nw sn tk hs tx tr, cR nw na nb σ, xI g na 49 (zT σ), xI g nb 49 (zI σ), cT tx ch L, xC g ch 60 T, cTr tr tw od os po re ca, cR tw ta tb τ, xI g ta 49 (zT τ), xI g tb 49 (zI τ), cO od vb n1 n2 nm en] sz) (fun u => [cX x nw sn tk hs tx tr, cR nw na nb σ, xI g na 49 (zT σ), xI g nb 49 (zI σ), cT tx ch L, xC g ch 60 T, cTr tr tw od (zOs T L σ) (zPo T L σ) (zRe T L σ) (zCa T L σ), cR tw ta tb (zSt T L σ), xI g ta 49 (zT (zSt T L σ)), xI g tb 49 (zI (zSt T L σ)), cO od u.1 u.2.1 u.2.2.1 u.2.2.2.1 u.2.2.2.2])) (va_A [cX x nw sn tk hs tx tr, cR nw na nb σ, xI g na 49 (zT σ), xI g nb 49 (zI σ), cT tx ch L, xC g ch 60 T, cTr tr tw od os po re ca, cR tw ta tb τ, xI g ta 49 (zT τ), xI g tb 49 (zI τ), cO od vb n1 n2 nm en] sz)) 1 6 (va_A [cX x nw sn tk hs tx tr, cR nw na nb σ, xI g na 49 (zT σ), xI g nb 49 (zI σ), cT tx ch L, xC g ch 60 T, cTr tr tw od os po re ca, cR tw ta tb τ, xI g ta 49 (zT τ), xI g tb 49 (zI τ), cO od vb n1 n2 nm en] sz) := by
  refine kMetH (hh := [(0, 4, 5, 51)]) (cc := cL_faultPosition) (maxL := 2) (ret := (some .int)) (own := RL) (by decide) rfl rfl (Nat.le_of_ble_eq_true rfl) ?_
  intro p e s m args below meth c ls Q H locs A F w hl htab hA hQ
  have hx := F.1.1
  have hb := F.1.2.1
  have hts := F.1.2.2.2.2
  have hl : lv_has ls 2 [(0, .ref x)] := hl
  refine lv_aload_n hx hb dL_faultPosition_0 rfl (lv_at hl 0 rfl) ?_
  refine kcaught (E0 := eNSE) (wc := [cX x nw sn tk hs tx tr, cR nw na nb σ, xI g na 49 (zT σ), xI g nb 49 (zI σ), cT tx ch L, xC g ch 60 T, cTr tr tw od os po re ca, cR tw ta tb τ, xI g ta 49 (zT τ), xI g tb 49 (zI τ), cO od vb n1 n2 nm en]) (wr := []) (wn := fun (u : Int32 × Nat × Nat × Nat × Nat) => [cX x nw sn tk hs tx tr, cR nw na nb σ, xI g na 49 (zT σ), xI g nb 49 (zI σ), cT tx ch L, xC g ch 60 T, cTr tr tw od (zOs T L σ) (zPo T L σ) (zRe T L σ) (zCa T L σ), cR tw ta tb (zSt T L σ), xI g ta 49 (zT (zSt T L σ)), xI g tb 49 (zI (zSt T L σ)), cO od u.1 u.2.1 u.2.2.1 u.2.2.2.1 u.2.2.2.2]) F w [0, 1, 2, 3, 4, 5, 6, 7, 8, 9, 10] [] [0, 1, 2, 3, 4, 5, 6, 7, 8, 9, 10] rfl rfl rfl (fun _ => rfl)
    (fun hp => vx_runV (As := []) (rest := []) F.1 (kX5_faultPosition_N l hnl g x nw sn tk hs tx tr na nb σ ch L T tw od os po re ca ta tb τ vb n1 n2 nm en H.size hL hz9) (cwV 0 hts gL_faultPosition_X5_faultPosition rfl rfl rfl ⟨rfl, hd_X5_faultPosition⟩ ⟨Nat.le_of_ble_eq_true rfl, Nat.le_of_ble_eq_true rfl⟩) ⟨hp.1, va_recv F.2.2.2.1.1 w.1 (q0 := 0) (ci := 5) rfl rfl, hp.2⟩ rfl rfl hl.1 rfl (lv_room (Nat.le_of_ble_eq_true rfl)) dL_faultPosition_1 ⟨Nat.le_of_ble_eq_true rfl, Nat.le_of_ble_eq_true rfl⟩)
    [] ⟨0, 4, 5, 51⟩ [] htab (fun z hz => nomatch hz) (by decide +kernel) (by decide) (by decide +kernel) (by decide +kernel) (fun q_1 u H locs w => ?_)
  obtain ⟨u_2, hu9⟩ : ∃ z, z = u := ⟨_, rfl⟩
  subst hu9
  have w : kW g A s [cX x nw sn tk hs tx tr, cR nw na nb σ, xI g na 49 (zT σ), xI g nb 49 (zI σ), cT tx ch L, xC g ch 60 T, cTr tr tw od (zOs T L σ) (zPo T L σ) (zRe T L σ) (zCa T L σ), cR tw ta tb (zSt T L σ), xI g ta 49 (zT (zSt T L σ)), xI g tb 49 (zI (zSt T L σ)), cO od u_2.1 u_2.2.1 u_2.2.2.1 u_2.2.2.2.1 u_2.2.2.2.2] H locs := w
  refine lv_astore_n (lv' := [(1, .ref q_1), (0, .ref x)]) hx hb dL_faultPosition_5 rfl hl (by decide) rfl (fun ls hl => ?_)
  refine lv_bipush (v := (-104)) hx hb dL_faultPosition_6 (by decide) ?_
  subst hA
  subst hQ
  exact kreti F w u_2 [0, 1, 2, 3, 4, 5, 6, 7, 8, 9, 10] rfl rfl (rfl) (Nat.le_of_ble_eq_true rfl) (Nat.le_of_ble_eq_true rfl) dL_faultPosition_8
theorem hd_X5_faultReason : yX5_faultReason.cls ≠ "java/lang/invoke/MethodHandle" ∧ yX5_faultReason.cls ≠ "java/lang/invoke/VarHandle" ∧ (parseMethodDescriptor yX5_faultReason.desc).map (fun d => d.parameters.length) = some 0 := by decide +kernel
abbrev rmL_faultReason_k : Room := { frames := 7, cells := 0, slots := 0, locals := 154 }
set_option maxHeartbeats 4000000 in
set_option maxRecDepth 100000 in
theorem kL_faultReason_k (l : Launch) (g : GG) (x : Nat) (nw : Nat) (sn : Nat) (tk : Bool) (hs : Nat) (tx : Nat) (tr : Nat) (na : Nat) (nb : Nat) (σ : Sg) (ch : Nat) (L : Nat) (T : Nat → Int32) (tw : Nat) (od : Nat) (os : Nat) (po : Nat) (re : Nat) (ca : Nat) (ta : Nat) (tb : Nat) (τ : Sg) (vb : Int32) (n1 : Nat) (n2 : Nat) (nm : Nat) (en : Nat) (sz : Nat) (hL : L ≤ 60) (hz9 : zRe T L σ ≠ 0) : Met l yL_faultReason wsL_faultReason rmL_faultReason_k (va_Pc [.ref x] (kPre g [cX x nw sn tk hs tx tr, cR nw na nb σ, xI g na 49 (zT σ), xI g nb 49 (zI σ), cT tx ch L, xC g ch 60 T, cTr tr tw od os po re ca, cR tw ta tb τ, xI g ta 49 (zT τ), xI g tb 49 (zI τ), cO od vb n1 n2 nm en] sz)) (va_Qi (fun (r : Int32) (u : Int32 × Nat × Nat × Nat × Nat) => r = nI (zRe T L σ)) (kB g (va_A [cX x nw sn tk hs tx tr, cR nw na nb σ, xI g na 49 (zT σ), xI g nb 49 (zI σ), cT tx ch L, xC g ch 60 T, cTr tr tw od os po re ca, cR tw ta tb τ, xI g ta 49 (zT τ), xI g tb 49 (zI τ), cO od vb n1 n2 nm en] sz) (fun u => [cX x nw sn tk hs tx tr, cR nw na nb σ, xI g na 49 (zT σ), xI g nb 49 (zI σ), cT tx ch L, xC g ch 60 T, cTr tr tw od (zOs T L σ) (zPo T L σ) (zRe T L σ) (zCa T L σ), cR tw ta tb (zSt T L σ), xI g ta 49 (zT (zSt T L σ)), xI g tb 49 (zI (zSt T L σ)), cO od u.1 u.2.1 u.2.2.1 u.2.2.2.1 u.2.2.2.2])) (va_A [cX x nw sn tk hs tx tr, cR nw na nb σ, xI g na 49 (zT σ), xI g nb 49 (zI σ), cT tx ch L, xC g ch 60 T, cTr tr tw od os po re ca, cR tw ta tb τ, xI g ta 49 (zT τ), xI g tb 49 (zI τ), cO od vb n1 n2 nm en] sz)) 0 0 (va_A [cX x nw sn tk hs tx tr, cR nw na nb σ, xI g na 49 (zT σ), xI g nb 49 (zI σ), cT tx ch L, xC g ch 60 T, cTr tr tw od os po re ca, cR tw ta tb τ, xI g ta 49 (zT τ), xI g tb 49 (zI τ), cO od vb n1 n2 nm en] sz) := by
  refine kMetH (hh := [(0, 4, 5, 51)]) (cc := cL_faultReason) (maxL := 2) (ret := (some .int)) (own := RL) (by decide) rfl rfl (Nat.le_of_ble_eq_true rfl) ?_
  intro p e s m args below meth c ls Q H locs A F w hl htab hA hQ
  have hx := F.1.1
  have hb := F.1.2.1
  have hts := F.1.2.2.2.2
  have hl : lv_has ls 2 [(0, .ref x)] := hl
  refine lv_aload_n hx hb dL_faultReason_0 rfl (lv_at hl 0 rfl) ?_
  refine kcalli (wc := [cX x nw sn tk hs tx tr, cR nw na nb σ, xI g na 49 (zT σ), xI g nb 49 (zI σ), cT tx ch L, xC g ch 60 T, cTr tr tw od os po re ca, cR tw ta tb τ, xI g ta 49 (zT τ), xI g tb 49 (zI τ), cO od vb n1 n2 nm en]) (wr := []) (wn := fun (u : Int32 × Nat × Nat × Nat × Nat) => [cX x nw sn tk hs tx tr, cR nw na nb σ, xI g na 49 (zT σ), xI g nb 49 (zI σ), cT tx ch L, xC g ch 60 T, cTr tr tw od (zOs T L σ) (zPo T L σ) (zRe T L σ) (zCa T L σ), cR tw ta tb (zSt T L σ), xI g ta 49 (zT (zSt T L σ)), xI g tb 49 (zI (zSt T L σ)), cO od u.1 u.2.1 u.2.2.1 u.2.2.2.1 u.2.2.2.2]) F w [0, 1, 2, 3, 4, 5, 6, 7, 8, 9, 10] [] [0, 1, 2, 3, 4, 5, 6, 7, 8, 9, 10] rfl rfl rfl (fun _ => rfl)
    (fun hp => va_runV (As := []) (rest := []) F.1 (kX5_faultReason_k l g x nw sn tk hs tx tr na nb σ ch L T tw od os po re ca ta tb τ vb n1 n2 nm en H.size hL hz9) (cwV 0 hts gL_faultReason_X5_faultReason rfl rfl rfl ⟨rfl, hd_X5_faultReason⟩ ⟨Nat.le_of_ble_eq_true rfl, Nat.le_of_ble_eq_true rfl⟩) ⟨hp.1, va_recv F.2.2.2.1.1 w.1 (q0 := 0) (ci := 5) rfl rfl, hp.2⟩ rfl rfl hl.1 rfl (lv_room (Nat.le_of_ble_eq_true rfl)) dL_faultReason_1 ⟨Nat.le_of_ble_eq_true rfl, Nat.le_of_ble_eq_true rfl⟩)
    (fun r_1 u H locs h_2 w => ?_)
  try dsimp only at h_2
  obtain ⟨u_3, hu9⟩ : ∃ z, z = u := ⟨_, rfl⟩
  subst hu9
  have w : kW g A s [cX x nw sn tk hs tx tr, cR nw na nb σ, xI g na 49 (zT σ), xI g nb 49 (zI σ), cT tx ch L, xC g ch 60 T, cTr tr tw od (zOs T L σ) (zPo T L σ) (zRe T L σ) (zCa T L σ), cR tw ta tb (zSt T L σ), xI g ta 49 (zT (zSt T L σ)), xI g tb 49 (zI (zSt T L σ)), cO od u_3.1 u_3.2.1 u_3.2.2.1 u_3.2.2.2.1 u_3.2.2.2.2] H locs := w
  subst h_2
  subst hA
  subst hQ
  exact kreti F w u_3 [0, 1, 2, 3, 4, 5, 6, 7, 8, 9, 10] rfl rfl (rfl) (Nat.le_of_ble_eq_true rfl) (Nat.le_of_ble_eq_true rfl) dL_faultReason_4
abbrev rmL_faultReason_N : Room := { frames := 7, cells := 1, slots := 6, locals := 154 }
set_option maxHeartbeats 4000000 in
set_option maxRecDepth 100000 in
theorem kL_faultReason_N (l : Launch) (hnl : l.stackTraces = false) (g : GG) (x : Nat) (nw : Nat) (sn : Nat) (tk : Bool) (hs : Nat) (tx : Nat) (tr : Nat) (na : Nat) (nb : Nat) (σ : Sg) (ch : Nat) (L : Nat) (T : Nat → Int32) (tw : Nat) (od : Nat) (os : Nat) (po : Nat) (re : Nat) (ca : Nat) (ta : Nat) (tb : Nat) (τ : Sg) (vb : Int32) (n1 : Nat) (n2 : Nat) (nm : Nat) (en : Nat) (sz : Nat) (hL : L ≤ 60) (hz9 : zRe T L σ = 0) : Met l yL_faultReason wsL_faultReason rmL_faultReason_N (va_Pc [.ref x] (kPre g [cX x nw sn tk hs tx tr, cR nw na nb σ, xI g na 49 (zT σ), xI g nb 49 (zI σ), cT tx ch L, xC g ch 60 T, cTr tr tw od os po re ca, cR tw ta tb τ, xI g ta 49 (zT τ), xI g tb 49 (zI τ), cO od vb n1 n2 nm en] sz)) (va_Qi (fun (r : Int32) (u : Int32 × Nat × Nat × Nat × Nat) => r = (-104)) (kB g (va_A [cX x nw sn tk hs tx tr, cR nw na nb σ, xI g na 49 (zT σ), xI g nb 49 (zI σ), cT tx ch L, xC g ch 60 T, cTr tr tw od os po re ca, cR tw ta tb τ, xI g ta 49 (zT τ), xI g tb 49 (zI τ), cO od vb n1 n2 nm en] sz) (fun u => [cX x nw sn tk hs tx tr, cR nw na nb σ, xI g na 49 (zT σ), xI g nb 49 (zI σ), cT tx ch L, xC g ch 60 T, cTr tr tw od (zOs T L σ) (zPo T L σ) (zRe T L σ) (zCa T L σ), cR tw ta tb (zSt T L σ), xI g ta 49 (zT (zSt T L σ)), xI g tb 49 (zI (zSt T L σ)), cO od u.1 u.2.1 u.2.2.1 u.2.2.2.1 u.2.2.2.2])) (va_A [cX x nw sn tk hs tx tr, cR nw na nb σ, xI g na 49 (zT σ), xI g nb 49 (zI σ), cT tx ch L, xC g ch 60 T, cTr tr tw od os po re ca, cR tw ta tb τ, xI g ta 49 (zT τ), xI g tb 49 (zI τ), cO od vb n1 n2 nm en] sz)) 1 6 (va_A [cX x nw sn tk hs tx tr, cR nw na nb σ, xI g na 49 (zT σ), xI g nb 49 (zI σ), cT tx ch L, xC g ch 60 T, cTr tr tw od os po re ca, cR tw ta tb τ, xI g ta 49 (zT τ), xI g tb 49 (zI τ), cO od vb n1 n2 nm en] sz) := by
  refine kMetH (hh := [(0, 4, 5, 51)]) (cc := cL_faultReason) (maxL := 2) (ret := (some .int)) (own := RL) (by decide) rfl rfl (Nat.le_of_ble_eq_true rfl) ?_
  intro p e s m args below meth c ls Q H locs A F w hl htab hA hQ
  have hx := F.1.1
  have hb := F.1.2.1
  have hts := F.1.2.2.2.2
  have hl : lv_has ls 2 [(0, .ref x)] := hl
  refine lv_aload_n hx hb dL_faultReason_0 rfl (lv_at hl 0 rfl) ?_
  refine kcaught (E0 := eNSE) (wc := [cX x nw sn tk hs tx tr, cR nw na nb σ, xI g na 49 (zT σ), xI g nb 49 (zI σ), cT tx ch L, xC g ch 60 T, cTr tr tw od os po re ca, cR tw ta tb τ, xI g ta 49 (zT τ), xI g tb 49 (zI τ), cO od vb n1 n2 nm en]) (wr := []) (wn := fun (u : Int32 × Nat × Nat × Nat × Nat) => [cX x nw sn tk hs tx tr, cR nw na nb σ, xI g na 49 (zT σ), xI g nb 49 (zI σ), cT tx ch L, xC g ch 60 T, cTr tr tw od (zOs T L σ) (zPo T L σ) (zRe T L σ) (zCa T L σ), cR tw ta tb (zSt T L σ), xI g ta 49 (zT (zSt T L σ)), xI g tb 49 (zI (zSt T L σ)), cO od u.1 u.2.1 u.2.2.1 u.2.2.2.1 u.2.2.2.2]) F w [0, 1, 2, 3, 4, 5, 6, 7, 8, 9, 10] [] [0, 1, 2, 3, 4, 5, 6, 7, 8, 9, 10] rfl rfl rfl (fun _ => rfl)
    (fun hp => vx_runV (As := []) (rest := []) F.1 (kX5_faultReason_N l hnl g x nw sn tk hs tx tr na nb σ ch L T tw od os po re ca ta tb τ vb n1 n2 nm en H.size hL hz9) (cwV 0 hts gL_faultReason_X5_faultReason rfl rfl rfl ⟨rfl, hd_X5_faultReason⟩ ⟨Nat.le_of_ble_eq_true rfl, Nat.le_of_ble_eq_true rfl⟩) ⟨hp.1, va_recv F.2.2.2.1.1 w.1 (q0 := 0) (ci := 5) rfl rfl, hp.2⟩ rfl rfl hl.1 rfl (lv_room (Nat.le_of_ble_eq_true rfl)) dL_faultReason_1 ⟨Nat.le_of_ble_eq_true rfl, Nat.le_of_ble_eq_true rfl⟩)
    [] ⟨0, 4, 5, 51⟩ [] htab (fun z hz => nomatch hz) (by decide +kernel) (by decide) (by decide +kernel) (by decide +kernel) (fun q_1 u H locs w => ?_)
  obtain ⟨u_2, hu9⟩ : ∃ z, z = u := ⟨_, rfl⟩
  subst hu9
  have w : kW g A s [cX x nw sn tk hs tx tr, cR nw na nb σ, xI g na 49 (zT σ), xI g nb 49 (zI σ), cT tx ch L, xC g ch 60 T, cTr tr tw od (zOs T L σ) (zPo T L σ) (zRe T L σ) (zCa T L σ), cR tw ta tb (zSt T L σ), xI g ta 49 (zT (zSt T L σ)), xI g tb 49 (zI (zSt T L σ)), cO od u_2.1 u_2.2.1 u_2.2.2.1 u_2.2.2.2.1 u_2.2.2.2.2] H locs := w
  refine lv_astore_n (lv' := [(1, .ref q_1), (0, .ref x)]) hx hb dL_faultReason_5 rfl hl (by decide) rfl (fun ls hl => ?_)
  refine lv_bipush (v := (-104)) hx hb dL_faultReason_6 (by decide) ?_
  subst hA
  subst hQ
  exact kreti F w u_2 [0, 1, 2, 3, 4, 5, 6, 7, 8, 9, 10] rfl rfl (rfl) (Nat.le_of_ble_eq_true rfl) (Nat.le_of_ble_eq_true rfl) dL_faultReason_8
theorem hd_X5_faultCause : yX5_faultCause.cls ≠ "java/lang/invoke/MethodHandle" ∧ yX5_faultCause.cls ≠ "java/lang/invoke/VarHandle" ∧ (parseMethodDescriptor yX5_faultCause.desc).map (fun d => d.parameters.length) = some 0 := by decide +kernel
abbrev rmL_faultCause_k : Room := { frames := 7, cells := 0, slots := 0, locals := 154 }
set_option maxHeartbeats 4000000 in
set_option maxRecDepth 100000 in
theorem kL_faultCause_k (l : Launch) (g : GG) (x : Nat) (nw : Nat) (sn : Nat) (tk : Bool) (hs : Nat) (tx : Nat) (tr : Nat) (na : Nat) (nb : Nat) (σ : Sg) (ch : Nat) (L : Nat) (T : Nat → Int32) (tw : Nat) (od : Nat) (os : Nat) (po : Nat) (re : Nat) (ca : Nat) (ta : Nat) (tb : Nat) (τ : Sg) (vb : Int32) (n1 : Nat) (n2 : Nat) (nm : Nat) (en : Nat) (sz : Nat) (hL : L ≤ 60) (hz9 : zRe T L σ ≠ 0) : Met l yL_faultCause wsL_faultCause rmL_faultCause_k (va_Pc [.ref x] (kPre g [cX x nw sn tk hs tx tr, cR nw na nb σ, xI g na 49 (zT σ), xI g nb 49 (zI σ), cT tx ch L, xC g ch 60 T, cTr tr tw od os po re ca, cR tw ta tb τ, xI g ta 49 (zT τ), xI g tb 49 (zI τ), cO od vb n1 n2 nm en] sz)) (va_Qi (fun (r : Int32) (u : Int32 × Nat × Nat × Nat × Nat) => r = nI (zCa T L σ)) (kB g (va_A [cX x nw sn tk hs tx tr, cR nw na nb σ, xI g na 49 (zT σ), xI g nb 49 (zI σ), cT tx ch L, xC g ch 60 T, cTr tr tw od os po re ca, cR tw ta tb τ, xI g ta 49 (zT τ), xI g tb 49 (zI τ), cO od vb n1 n2 nm en] sz) (fun u => [cX x nw sn tk hs tx tr, cR nw na nb σ, xI g na 49 (zT σ), xI g nb 49 (zI σ), cT tx ch L, xC g ch 60 T, cTr tr tw od (zOs T L σ) (zPo T L σ) (zRe T L σ) (zCa T L σ), cR tw ta tb (zSt T L σ), xI g ta 49 (zT (zSt T L σ)), xI g tb 49 (zI (zSt T L σ)), cO od u.1 u.2.1 u.2.2.1 u.2.2.2.1 u.2.2.2.2])) (va_A [cX x nw sn tk hs tx tr, cR nw na nb σ, xI g na 49 (zT σ), xI g nb 49 (zI σ), cT tx ch L, xC g ch 60 T, cTr tr tw od os po re ca, cR tw ta tb τ, xI g ta 49 (zT τ), xI g tb 49 (zI τ), cO od vb n1 n2 nm en] sz)) 0 0 (va_A [cX x nw sn tk hs tx tr, cR nw na nb σ, xI g na 49 (zT σ), xI g nb 49 (zI σ), cT tx ch L, xC g ch 60 T, cTr tr tw od os po re ca, cR tw ta tb τ, xI g ta 49 (zT τ), xI g tb 49 (zI τ), cO od vb n1 n2 nm en] sz) := by
  refine kMetH (hh := [(0, 4, 5, 51)]) (cc := cL_faultCause) (maxL := 2) (ret := (some .int)) (own := RL) (by decide) rfl rfl (Nat.le_of_ble_eq_true rfl) ?_
  intro p e s m args below meth c ls Q H locs A F w hl htab hA hQ
  have hx := F.1.1
  have hb := F.1.2.1
  have hts := F.1.2.2.2.2
  have hl : lv_has ls 2 [(0, .ref x)] := hl
  refine lv_aload_n hx hb dL_faultCause_0 rfl (lv_at hl 0 rfl) ?_
  refine kcalli (wc := [cX x nw sn tk hs tx tr, cR nw na nb σ, xI g na 49 (zT σ), xI g nb 49 (zI σ), cT tx ch L, xC g ch 60 T, cTr tr tw od os po re ca, cR tw ta tb τ, xI g ta 49 (zT τ), xI g tb 49 (zI τ), cO od vb n1 n2 nm en]) (wr := []) (wn := fun (u : Int32 × Nat × Nat × Nat × Nat) => [cX x nw sn tk hs tx tr, cR nw na nb σ, xI g na 49 (zT σ), xI g nb 49 (zI σ), cT tx ch L, xC g ch 60 T, cTr tr tw od (zOs T L σ) (zPo T L σ) (zRe T L σ) (zCa T L σ), cR tw ta tb (zSt T L σ), xI g ta 49 (zT (zSt T L σ)), xI g tb 49 (zI (zSt T L σ)), cO od u.1 u.2.1 u.2.2.1 u.2.2.2.1 u.2.2.2.2]) F w [0, 1, 2, 3, 4, 5, 6, 7, 8, 9, 10] [] [0, 1, 2, 3, 4, 5, 6, 7, 8, 9, 10] rfl rfl rfl (fun _ => rfl)
    (fun hp => va_runV (As := []) (rest := []) F.1 (kX5_faultCause_k l g x nw sn tk hs tx tr na nb σ ch L T tw od os po re ca ta tb τ vb n1 n2 nm en H.size hL hz9) (cwV 0 hts gL_faultCause_X5_faultCause rfl rfl rfl ⟨rfl, hd_X5_faultCause⟩ ⟨Nat.le_of_ble_eq_true rfl, Nat.le_of_ble_eq_true rfl⟩) ⟨hp.1, va_recv F.2.2.2.1.1 w.1 (q0 := 0) (ci := 5) rfl rfl, hp.2⟩ rfl rfl hl.1 rfl (lv_room (Nat.le_of_ble_eq_true rfl)) dL_faultCause_1 ⟨Nat.le_of_ble_eq_true rfl, Nat.le_of_ble_eq_true rfl⟩)
    (fun r_1 u H locs h_2 w => ?_)
  try dsimp only at h_2
  obtain ⟨u_3, hu9⟩ : ∃ z, z = u := ⟨_, rfl⟩
  subst hu9
  have w : kW g A s [cX x nw sn tk hs tx tr, cR nw na nb σ, xI g na 49 (zT σ), xI g nb 49 (zI σ), cT tx ch L, xC g ch 60 T, cTr tr tw od (zOs T L σ) (zPo T L σ) (zRe T L σ) (zCa T L σ), cR tw ta tb (zSt T L σ), xI g ta 49 (zT (zSt T L σ)), xI g tb 49 (zI (zSt T L σ)), cO od u_3.1 u_3.2.1 u_3.2.2.1 u_3.2.2.2.1 u_3.2.2.2.2] H locs := w
  subst h_2
  subst hA
  subst hQ
  exact kreti F w u_3 [0, 1, 2, 3, 4, 5, 6, 7, 8, 9, 10] rfl rfl (rfl) (Nat.le_of_ble_eq_true rfl) (Nat.le_of_ble_eq_true rfl) dL_faultCause_4
abbrev rmL_faultCause_N : Room := { frames := 7, cells := 1, slots := 6, locals := 154 }
set_option maxHeartbeats 4000000 in
set_option maxRecDepth 100000 in
theorem kL_faultCause_N (l : Launch) (hnl : l.stackTraces = false) (g : GG) (x : Nat) (nw : Nat) (sn : Nat) (tk : Bool) (hs : Nat) (tx : Nat) (tr : Nat) (na : Nat) (nb : Nat) (σ : Sg) (ch : Nat) (L : Nat) (T : Nat → Int32) (tw : Nat) (od : Nat) (os : Nat) (po : Nat) (re : Nat) (ca : Nat) (ta : Nat) (tb : Nat) (τ : Sg) (vb : Int32) (n1 : Nat) (n2 : Nat) (nm : Nat) (en : Nat) (sz : Nat) (hL : L ≤ 60) (hz9 : zRe T L σ = 0) : Met l yL_faultCause wsL_faultCause rmL_faultCause_N (va_Pc [.ref x] (kPre g [cX x nw sn tk hs tx tr, cR nw na nb σ, xI g na 49 (zT σ), xI g nb 49 (zI σ), cT tx ch L, xC g ch 60 T, cTr tr tw od os po re ca, cR tw ta tb τ, xI g ta 49 (zT τ), xI g tb 49 (zI τ), cO od vb n1 n2 nm en] sz)) (va_Qi (fun (r : Int32) (u : Int32 × Nat × Nat × Nat × Nat) => r = (-104)) (kB g (va_A [cX x nw sn tk hs tx tr, cR nw na nb σ, xI g na 49 (zT σ), xI g nb 49 (zI σ), cT tx ch L, xC g ch 60 T, cTr tr tw od os po re ca, cR tw ta tb τ, xI g ta 49 (zT τ), xI g tb 49 (zI τ), cO od vb n1 n2 nm en] sz) (fun u => [cX x nw sn tk hs tx tr, cR nw na nb σ, xI g na 49 (zT σ), xI g nb 49 (zI σ), cT tx ch L, xC g ch 60 T, cTr tr tw od (zOs T L σ) (zPo T L σ) (zRe T L σ) (zCa T L σ), cR tw ta tb (zSt T L σ), xI g ta 49 (zT (zSt T L σ)), xI g tb 49 (zI (zSt T L σ)), cO od u.1 u.2.1 u.2.2.1 u.2.2.2.1 u.2.2.2.2])) (va_A [cX x nw sn tk hs tx tr, cR nw na nb σ, xI g na 49 (zT σ), xI g nb 49 (zI σ), cT tx ch L, xC g ch 60 T, cTr tr tw od os po re ca, cR tw ta tb τ, xI g ta 49 (zT τ), xI g tb 49 (zI τ), cO od vb n1 n2 nm en] sz)) 1 6 (va_A [cX x nw sn tk hs tx tr, cR nw na nb σ, xI g na 49 (zT σ), xI g nb 49 (zI σ), cT tx ch L, xC g ch 60 T, cTr tr tw od os po re ca, cR tw ta tb τ, xI g ta 49 (zT τ), xI g tb 49 (zI τ), cO od vb n1 n2 nm en] sz) := by
  refine kMetH (hh := [(0, 4, 5, 51)]) (cc := cL_faultCause) (maxL := 2) (ret := (some .int)) (own := RL) (by decide) rfl rfl (Nat.le_of_ble_eq_true rfl) ?_
  intro p e s m args below meth c ls Q H locs A F w hl htab hA hQ
  have hx := F.1.1
  have hb := F.1.2.1
  have hts := F.1.2.2.2.2
  have hl : lv_has ls 2 [(0, .ref x)] := hl
  refine lv_aload_n hx hb dL_faultCause_0 rfl (lv_at hl 0 rfl) ?_
  refine kcaught (E0 := eNSE) (wc := [cX x nw sn tk hs tx tr, cR nw na nb σ, xI g na 49 (zT σ), xI g nb 49 (zI σ), cT tx ch L, xC g ch 60 T, cTr tr tw od os po re ca, cR tw ta tb τ, xI g ta 49 (zT τ), xI g tb 49 (zI τ), cO od vb n1 n2 nm en]) (wr := []) (wn := fun (u : Int32 × Nat × Nat × Nat × Nat) => [cX x nw sn tk hs tx tr, cR nw na nb σ, xI g na 49 (zT σ), xI g nb 49 (zI σ), cT tx ch L, xC g ch 60 T, cTr tr tw od (zOs T L σ) (zPo T L σ) (zRe T L σ) (zCa T L σ), cR tw ta tb (zSt T L σ), xI g ta 49 (zT (zSt T L σ)), xI g tb 49 (zI (zSt T L σ)), cO od u.1 u.2.1 u.2.2.1 u.2.2.2.1 u.2.2.2.2]) F w [0, 1, 2, 3, 4, 5, 6, 7, 8, 9, 10] [] [0, 1, 2, 3, 4, 5, 6, 7, 8, 9, 10] rfl rfl rfl (fun _ => rfl)
    (fun hp => vx_runV (As := []) (rest := []) F.1 (kX5_faultCause_N l hnl g x nw sn tk hs tx tr na nb σ ch L T tw od os po re ca ta tb τ vb n1 n2 nm en H.size hL hz9) (cwV 0 hts gL_faultCause_X5_faultCause rfl rfl rfl ⟨rfl, hd_X5_faultCause⟩ ⟨Nat.le_of_ble_eq_true rfl, Nat.le_of_ble_eq_true rfl⟩) ⟨hp.1, va_recv F.2.2.2.1.1 w.1 (q0 := 0) (ci := 5) rfl rfl, hp.2⟩ rfl rfl hl.1 rfl (lv_room (Nat.le_of_ble_eq_true rfl)) dL_faultCause_1 ⟨Nat.le_of_ble_eq_true rfl, Nat.le_of_ble_eq_true rfl⟩)
    [] ⟨0, 4, 5, 51⟩ [] htab (fun z hz => nomatch hz) (by decide +kernel) (by decide) (by decide +kernel) (by decide +kernel) (fun q_1 u H locs w => ?_)
  obtain ⟨u_2, hu9⟩ : ∃ z, z = u := ⟨_, rfl⟩
  subst hu9
  have w : kW g A s [cX x nw sn tk hs tx tr, cR nw na nb σ, xI g na 49 (zT σ), xI g nb 49 (zI σ), cT tx ch L, xC g ch 60 T, cTr tr tw od (zOs T L σ) (zPo T L σ) (zRe T L σ) (zCa T L σ), cR tw ta tb (zSt T L σ), xI g ta 49 (zT (zSt T L σ)), xI g tb 49 (zI (zSt T L σ)), cO od u_2.1 u_2.2.1 u_2.2.2.1 u_2.2.2.2.1 u_2.2.2.2.2] H locs := w
  refine lv_astore_n (lv' := [(1, .ref q_1), (0, .ref x)]) hx hb dL_faultCause_5 rfl hl (by decide) rfl (fun ls hl => ?_)
  refine lv_bipush (v := (-104)) hx hb dL_faultCause_6 (by decide) ?_
  subst hA
  subst hQ
  exact kreti F w u_2 [0, 1, 2, 3, 4, 5, 6, 7, 8, 9, 10] rfl rfl (rfl) (Nat.le_of_ble_eq_true rfl) (Nat.le_of_ble_eq_true rfl) dL_faultCause_8
theorem hd_X5_play : yX5_play.cls ≠ "java/lang/invoke/MethodHandle" ∧ yX5_play.cls ≠ "java/lang/invoke/VarHandle" ∧ (parseMethodDescriptor yX5_play.desc).map (fun d => d.parameters.length) = some 0 := by decide +kernel
abbrev rmL_play_k : Room := { frames := 7, cells := 0, slots := 0, locals := 154 }
set_option maxHeartbeats 4000000 in
set_option maxRecDepth 100000 in
theorem kL_play_k (l : Launch) (g : GG) (x : Nat) (nw : Nat) (sn : Nat) (tk : Bool) (hs : Nat) (tx : Nat) (tr : Nat) (na : Nat) (nb : Nat) (σ : Sg) (hq : Nat) (kn : Nat) (ρ : Nat → Nat) (α : Nat → Nat) (β : Nat → Nat) (γ : Nat → Sg) (ch : Nat) (L : Nat) (T : Nat → Int32) (tw : Nat) (od : Nat) (os : Nat) (po : Nat) (re : Nat) (ca : Nat) (ta : Nat) (tb : Nat) (τ : Sg) (vb : Int32) (n1 : Nat) (n2 : Nat) (nm : Nat) (en : Nat) (sz : Nat) (hL : L ≤ 60) (hz9 : zRe T L σ = 0) (hkn : kn ≤ 4) : Met l yL_play wsL_play rmL_play_k (va_Pc [.ref x] (kPre g [cX x nw sn tk hs tx tr, cR nw na nb σ, xI g na 49 (zT σ), xI g nb 49 (zI σ), cH hs hq kn, xQ g hq 4 (rq ρ), cR (ρ 0) (α 0) (β 0) (γ 0), xI g (α 0) 49 (zT (γ 0)), xI g (β 0) 49 (zI (γ 0)), cR (ρ 1) (α 1) (β 1) (γ 1), xI g (α 1) 49 (zT (γ 1)), xI g (β 1) 49 (zI (γ 1)), cR (ρ 2) (α 2) (β 2) (γ 2), xI g (α 2) 49 (zT (γ 2)), xI g (β 2) 49 (zI (γ 2)), cR (ρ 3) (α 3) (β 3) (γ 3), xI g (α 3) 49 (zT (γ 3)), xI g (β 3) 49 (zI (γ 3)), cT tx ch L, xC g ch 60 T, cTr tr tw od os po re ca, cR tw ta tb τ, xI g ta 49 (zT τ), xI g tb 49 (zI τ), cO od vb n1 n2 nm en] sz)) (va_Qi (fun (r : Int32) (u : (Int32 × Nat × Nat × Nat × Nat) × ((Nat → Nat) × (Nat → Nat) × (Nat → Nat))) => r = nI (zOs T L σ)) (kB g (va_A [cX x nw sn tk hs tx tr, cR nw na nb σ, xI g na 49 (zT σ), xI g nb 49 (zI σ), cH hs hq kn, xQ g hq 4 (rq ρ), cR (ρ 0) (α 0) (β 0) (γ 0), xI g (α 0) 49 (zT (γ 0)), xI g (β 0) 49 (zI (γ 0)), cR (ρ 1) (α 1) (β 1) (γ 1), xI g (α 1) 49 (zT (γ 1)), xI g (β 1) 49 (zI (γ 1)), cR (ρ 2) (α 2) (β 2) (γ 2), xI g (α 2) 49 (zT (γ 2)), xI g (β 2) 49 (zI (γ 2)), cR (ρ 3) (α 3) (β 3) (γ 3), xI g (α 3) 49 (zT (γ 3)), xI g (β 3) 49 (zI (γ 3)), cT tx ch L, xC g ch 60 T, cTr tr tw od os po re ca, cR tw ta tb τ, xI g ta 49 (zT τ), xI g tb 49 (zI τ), cO od vb n1 n2 nm en] sz) (fun u => [cX x nw sn tk hs tx tr, cR nw na nb (zSt T L σ), xI g na 49 (zT (zSt T L σ)), xI g nb 49 (zI (zSt T L σ)), cH hs hq (pushN kn), xQ g hq 4 (rq u.2.1), cR (u.2.1 0) (u.2.2.1 0) (u.2.2.2 0) ((pushG γ kn σ) 0), xI g (u.2.2.1 0) 49 (zT ((pushG γ kn σ) 0)), xI g (u.2.2.2 0) 49 (zI ((pushG γ kn σ) 0)), cR (u.2.1 1) (u.2.2.1 1) (u.2.2.2 1) ((pushG γ kn σ) 1), xI g (u.2.2.1 1) 49 (zT ((pushG γ kn σ) 1)), xI g (u.2.2.2 1) 49 (zI ((pushG γ kn σ) 1)), cR (u.2.1 2) (u.2.2.1 2) (u.2.2.2 2) ((pushG γ kn σ) 2), xI g (u.2.2.1 2) 49 (zT ((pushG γ kn σ) 2)), xI g (u.2.2.2 2) 49 (zI ((pushG γ kn σ) 2)), cR (u.2.1 3) (u.2.2.1 3) (u.2.2.2 3) ((pushG γ kn σ) 3), xI g (u.2.2.1 3) 49 (zT ((pushG γ kn σ) 3)), xI g (u.2.2.2 3) 49 (zI ((pushG γ kn σ) 3)), cT tx ch L, xC g ch 60 T, cTr tr tw od (zOs T L σ) (zPo T L σ) (zRe T L σ) (zCa T L σ), cR tw ta tb (zSt T L σ), xI g ta 49 (zT (zSt T L σ)), xI g tb 49 (zI (zSt T L σ)), cO od u.1.1 u.1.2.1 u.1.2.2.1 u.1.2.2.2.1 u.1.2.2.2.2])) (va_A [cX x nw sn tk hs tx tr, cR nw na nb σ, xI g na 49 (zT σ), xI g nb 49 (zI σ), cH hs hq kn, xQ g hq 4 (rq ρ), cR (ρ 0) (α 0) (β 0) (γ 0), xI g (α 0) 49 (zT (γ 0)), xI g (β 0) 49 (zI (γ 0)), cR (ρ 1) (α 1) (β 1) (γ 1), xI g (α 1) 49 (zT (γ 1)), xI g (β 1) 49 (zI (γ 1)), cR (ρ 2) (α 2) (β 2) (γ 2), xI g (α 2) 49 (zT (γ 2)), xI g (β 2) 49 (zI (γ 2)), cR (ρ 3) (α 3) (β 3) (γ 3), xI g (α 3) 49 (zT (γ 3)), xI g (β 3) 49 (zI (γ 3)), cT tx ch L, xC g ch 60 T, cTr tr tw od os po re ca, cR tw ta tb τ, xI g ta 49 (zT τ), xI g tb 49 (zI τ), cO od vb n1 n2 nm en] sz)) 0 0 (va_A [cX x nw sn tk hs tx tr, cR nw na nb σ, xI g na 49 (zT σ), xI g nb 49 (zI σ), cH hs hq kn, xQ g hq 4 (rq ρ), cR (ρ 0) (α 0) (β 0) (γ 0), xI g (α 0) 49 (zT (γ 0)), xI g (β 0) 49 (zI (γ 0)), cR (ρ 1) (α 1) (β 1) (γ 1), xI g (α 1) 49 (zT (γ 1)), xI g (β 1) 49 (zI (γ 1)), cR (ρ 2) (α 2) (β 2) (γ 2), xI g (α 2) 49 (zT (γ 2)), xI g (β 2) 49 (zI (γ 2)), cR (ρ 3) (α 3) (β 3) (γ 3), xI g (α 3) 49 (zT (γ 3)), xI g (β 3) 49 (zI (γ 3)), cT tx ch L, xC g ch 60 T, cTr tr tw od os po re ca, cR tw ta tb τ, xI g ta 49 (zT τ), xI g tb 49 (zI τ), cO od vb n1 n2 nm en] sz) := by
  refine kMetH (hh := [(0, 4, 5, 25)]) (cc := cL_play) (maxL := 2) (ret := (some .int)) (own := RL) (by decide) rfl rfl (Nat.le_of_ble_eq_true rfl) ?_
  intro p e s m args below meth c ls Q H locs A F w hl htab hA hQ
  have hx := F.1.1
  have hb := F.1.2.1
  have hts := F.1.2.2.2.2
  have hl : lv_has ls 2 [(0, .ref x)] := hl
  refine lv_aload_n hx hb dL_play_0 rfl (lv_at hl 0 rfl) ?_
  refine kcalli (wc := [cX x nw sn tk hs tx tr, cR nw na nb σ, xI g na 49 (zT σ), xI g nb 49 (zI σ), cH hs hq kn, xQ g hq 4 (rq ρ), cR (ρ 0) (α 0) (β 0) (γ 0), xI g (α 0) 49 (zT (γ 0)), xI g (β 0) 49 (zI (γ 0)), cR (ρ 1) (α 1) (β 1) (γ 1), xI g (α 1) 49 (zT (γ 1)), xI g (β 1) 49 (zI (γ 1)), cR (ρ 2) (α 2) (β 2) (γ 2), xI g (α 2) 49 (zT (γ 2)), xI g (β 2) 49 (zI (γ 2)), cR (ρ 3) (α 3) (β 3) (γ 3), xI g (α 3) 49 (zT (γ 3)), xI g (β 3) 49 (zI (γ 3)), cT tx ch L, xC g ch 60 T, cTr tr tw od os po re ca, cR tw ta tb τ, xI g ta 49 (zT τ), xI g tb 49 (zI τ), cO od vb n1 n2 nm en]) (wr := []) (wn := fun (u : (Int32 × Nat × Nat × Nat × Nat) × ((Nat → Nat) × (Nat → Nat) × (Nat → Nat))) => [cX x nw sn tk hs tx tr, cR nw na nb (zSt T L σ), xI g na 49 (zT (zSt T L σ)), xI g nb 49 (zI (zSt T L σ)), cH hs hq (pushN kn), xQ g hq 4 (rq u.2.1), cR (u.2.1 0) (u.2.2.1 0) (u.2.2.2 0) ((pushG γ kn σ) 0), xI g (u.2.2.1 0) 49 (zT ((pushG γ kn σ) 0)), xI g (u.2.2.2 0) 49 (zI ((pushG γ kn σ) 0)), cR (u.2.1 1) (u.2.2.1 1) (u.2.2.2 1) ((pushG γ kn σ) 1), xI g (u.2.2.1 1) 49 (zT ((pushG γ kn σ) 1)), xI g (u.2.2.2 1) 49 (zI ((pushG γ kn σ) 1)), cR (u.2.1 2) (u.2.2.1 2) (u.2.2.2 2) ((pushG γ kn σ) 2), xI g (u.2.2.1 2) 49 (zT ((pushG γ kn σ) 2)), xI g (u.2.2.2 2) 49 (zI ((pushG γ kn σ) 2)), cR (u.2.1 3) (u.2.2.1 3) (u.2.2.2 3) ((pushG γ kn σ) 3), xI g (u.2.2.1 3) 49 (zT ((pushG γ kn σ) 3)), xI g (u.2.2.2 3) 49 (zI ((pushG γ kn σ) 3)), cT tx ch L, xC g ch 60 T, cTr tr tw od (zOs T L σ) (zPo T L σ) (zRe T L σ) (zCa T L σ), cR tw ta tb (zSt T L σ), xI g ta 49 (zT (zSt T L σ)), xI g tb 49 (zI (zSt T L σ)), cO od u.1.1 u.1.2.1 u.1.2.2.1 u.1.2.2.2.1 u.1.2.2.2.2]) F w [0, 1, 2, 3, 4, 5, 6, 7, 8, 9, 10, 11, 12, 13, 14, 15, 16, 17, 18, 19, 20, 21, 22, 23, 24] [] [0, 1, 2, 3, 4, 5, 6, 7, 8, 9, 10, 11, 12, 13, 14, 15, 16, 17, 18, 19, 20, 21, 22, 23, 24] rfl rfl rfl (fun _ => rfl)
    (fun hp => va_runV (As := []) (rest := []) F.1 (kX5_play_k l g x nw sn tk hs tx tr na nb σ hq kn ρ α β γ ch L T tw od os po re ca ta tb τ vb n1 n2 nm en H.size hL hz9 hkn) (cwV 0 hts gL_play_X5_play rfl rfl rfl ⟨rfl, hd_X5_play⟩ ⟨Nat.le_of_ble_eq_true rfl, Nat.le_of_ble_eq_true rfl⟩) ⟨hp.1, va_recv F.2.2.2.1.1 w.1 (q0 := 0) (ci := 5) rfl rfl, hp.2⟩ rfl rfl hl.1 rfl (lv_room (Nat.le_of_ble_eq_true rfl)) dL_play_1 ⟨Nat.le_of_ble_eq_true rfl, Nat.le_of_ble_eq_true rfl⟩)
    (fun r_1 u H locs h_2 w => ?_)
  try dsimp only at h_2
  obtain ⟨u_3, hu9⟩ : ∃ z, z = u := ⟨_, rfl⟩
  subst hu9
  have w : kW g A s [cX x nw sn tk hs tx tr, cR nw na nb (zSt T L σ), xI g na 49 (zT (zSt T L σ)), xI g nb 49 (zI (zSt T L σ)), cH hs hq (pushN kn), xQ g hq 4 (rq u_3.2.1), cR (u_3.2.1 0) (u_3.2.2.1 0) (u_3.2.2.2 0) ((pushG γ kn σ) 0), xI g (u_3.2.2.1 0) 49 (zT ((pushG γ kn σ) 0)), xI g (u_3.2.2.2 0) 49 (zI ((pushG γ kn σ) 0)), cR (u_3.2.1 1) (u_3.2.2.1 1) (u_3.2.2.2 1) ((pushG γ kn σ) 1), xI g (u_3.2.2.1 1) 49 (zT ((pushG γ kn σ) 1)), xI g (u_3.2.2.2 1) 49 (zI ((pushG γ kn σ) 1)), cR (u_3.2.1 2) (u_3.2.2.1 2) (u_3.2.2.2 2) ((pushG γ kn σ) 2), xI g (u_3.2.2.1 2) 49 (zT ((pushG γ kn σ) 2)), xI g (u_3.2.2.2 2) 49 (zI ((pushG γ kn σ) 2)), cR (u_3.2.1 3) (u_3.2.2.1 3) (u_3.2.2.2 3) ((pushG γ kn σ) 3), xI g (u_3.2.2.1 3) 49 (zT ((pushG γ kn σ) 3)), xI g (u_3.2.2.2 3) 49 (zI ((pushG γ kn σ) 3)), cT tx ch L, xC g ch 60 T, cTr tr tw od (zOs T L σ) (zPo T L σ) (zRe T L σ) (zCa T L σ), cR tw ta tb (zSt T L σ), xI g ta 49 (zT (zSt T L σ)), xI g tb 49 (zI (zSt T L σ)), cO od u_3.1.1 u_3.1.2.1 u_3.1.2.2.1 u_3.1.2.2.2.1 u_3.1.2.2.2.2] H locs := w
  subst h_2
  subst hA
  subst hQ
  exact kreti F w u_3 [0, 1, 2, 3, 4, 5, 6, 7, 8, 9, 10, 11, 12, 13, 14, 15, 16, 17, 18, 19, 20, 21, 22, 23, 24] rfl rfl (rfl) (Nat.le_of_ble_eq_true rfl) (Nat.le_of_ble_eq_true rfl) dL_play_4
abbrev rmL_play_S : Room := { frames := 7, cells := 1, slots := 6, locals := 154 }
set_option maxHeartbeats 4000000 in
set_option maxRecDepth 100000 in
theorem kL_play_S (l : Launch) (hnl : l.stackTraces = false) (g : GG) (x : Nat) (nw : Nat) (sn : Nat) (tk : Bool) (hs : Nat) (tx : Nat) (tr : Nat) (na : Nat) (nb : Nat) (σ : Sg) (ch : Nat) (L : Nat) (T : Nat → Int32) (tw : Nat) (od : Nat) (os : Nat) (po : Nat) (re : Nat) (ca : Nat) (ta : Nat) (tb : Nat) (τ : Sg) (vb : Int32) (n1 : Nat) (n2 : Nat) (nm : Nat) (en : Nat) (sz : Nat) (hL : L ≤ 60) (hz9 : zRe T L σ ≠ 0) : Met l yL_play wsL_play rmL_play_S (va_Pc [.ref x] (kPre g [cX x nw sn tk hs tx tr, cR nw na nb σ, xI g na 49 (zT σ), xI g nb 49 (zI σ), cT tx ch L, xC g ch 60 T, cTr tr tw od os po re ca, cR tw ta tb τ, xI g ta 49 (zT τ), xI g tb 49 (zI τ), cO od vb n1 n2 nm en] sz)) (va_Qi (fun (r : Int32) (u : Int32 × Nat × Nat × Nat × Nat) => r = (-103)) (kB g (va_A [cX x nw sn tk hs tx tr, cR nw na nb σ, xI g na 49 (zT σ), xI g nb 49 (zI σ), cT tx ch L, xC g ch 60 T, cTr tr tw od os po re ca, cR tw ta tb τ, xI g ta 49 (zT τ), xI g tb 49 (zI τ), cO od vb n1 n2 nm en] sz) (fun u => [cX x nw sn tk hs tx tr, cR nw na nb σ, xI g na 49 (zT σ), xI g nb 49 (zI σ), cT tx ch L, xC g ch 60 T, cTr tr tw od (zOs T L σ) (zPo T L σ) (zRe T L σ) (zCa T L σ), cR tw ta tb (zSt T L σ), xI g ta 49 (zT (zSt T L σ)), xI g tb 49 (zI (zSt T L σ)), cO od u.1 u.2.1 u.2.2.1 u.2.2.2.1 u.2.2.2.2])) (va_A [cX x nw sn tk hs tx tr, cR nw na nb σ, xI g na 49 (zT σ), xI g nb 49 (zI σ), cT tx ch L, xC g ch 60 T, cTr tr tw od os po re ca, cR tw ta tb τ, xI g ta 49 (zT τ), xI g tb 49 (zI τ), cO od vb n1 n2 nm en] sz)) 1 6 (va_A [cX x nw sn tk hs tx tr, cR nw na nb σ, xI g na 49 (zT σ), xI g nb 49 (zI σ), cT tx ch L, xC g ch 60 T, cTr tr tw od os po re ca, cR tw ta tb τ, xI g ta 49 (zT τ), xI g tb 49 (zI τ), cO od vb n1 n2 nm en] sz) := by
  refine kMetH (hh := [(0, 4, 5, 25)]) (cc := cL_play) (maxL := 2) (ret := (some .int)) (own := RL) (by decide) rfl rfl (Nat.le_of_ble_eq_true rfl) ?_
  intro p e s m args below meth c ls Q H locs A F w hl htab hA hQ
  have hx := F.1.1
  have hb := F.1.2.1
  have hts := F.1.2.2.2.2
  have hl : lv_has ls 2 [(0, .ref x)] := hl
  refine lv_aload_n hx hb dL_play_0 rfl (lv_at hl 0 rfl) ?_
  refine kcaught (E0 := eISE) (wc := [cX x nw sn tk hs tx tr, cR nw na nb σ, xI g na 49 (zT σ), xI g nb 49 (zI σ), cT tx ch L, xC g ch 60 T, cTr tr tw od os po re ca, cR tw ta tb τ, xI g ta 49 (zT τ), xI g tb 49 (zI τ), cO od vb n1 n2 nm en]) (wr := []) (wn := fun (u : Int32 × Nat × Nat × Nat × Nat) => [cX x nw sn tk hs tx tr, cR nw na nb σ, xI g na 49 (zT σ), xI g nb 49 (zI σ), cT tx ch L, xC g ch 60 T, cTr tr tw od (zOs T L σ) (zPo T L σ) (zRe T L σ) (zCa T L σ), cR tw ta tb (zSt T L σ), xI g ta 49 (zT (zSt T L σ)), xI g tb 49 (zI (zSt T L σ)), cO od u.1 u.2.1 u.2.2.1 u.2.2.2.1 u.2.2.2.2]) F w [0, 1, 2, 3, 4, 5, 6, 7, 8, 9, 10] [] [0, 1, 2, 3, 4, 5, 6, 7, 8, 9, 10] rfl rfl rfl (fun _ => rfl)
    (fun hp => vx_runV (As := []) (rest := []) F.1 (kX5_play_S l hnl g x nw sn tk hs tx tr na nb σ ch L T tw od os po re ca ta tb τ vb n1 n2 nm en H.size hL hz9) (cwV 0 hts gL_play_X5_play rfl rfl rfl ⟨rfl, hd_X5_play⟩ ⟨Nat.le_of_ble_eq_true rfl, Nat.le_of_ble_eq_true rfl⟩) ⟨hp.1, va_recv F.2.2.2.1.1 w.1 (q0 := 0) (ci := 5) rfl rfl, hp.2⟩ rfl rfl hl.1 rfl (lv_room (Nat.le_of_ble_eq_true rfl)) dL_play_1 ⟨Nat.le_of_ble_eq_true rfl, Nat.le_of_ble_eq_true rfl⟩)
    [] ⟨0, 4, 5, 25⟩ [] htab (fun z hz => nomatch hz) (by decide +kernel) (by decide) (by decide +kernel) (by decide +kernel) (fun q_1 u H locs w => ?_)
  obtain ⟨u_2, hu9⟩ : ∃ z, z = u := ⟨_, rfl⟩
  subst hu9
  have w : kW g A s [cX x nw sn tk hs tx tr, cR nw na nb σ, xI g na 49 (zT σ), xI g nb 49 (zI σ), cT tx ch L, xC g ch 60 T, cTr tr tw od (zOs T L σ) (zPo T L σ) (zRe T L σ) (zCa T L σ), cR tw ta tb (zSt T L σ), xI g ta 49 (zT (zSt T L σ)), xI g tb 49 (zI (zSt T L σ)), cO od u_2.1 u_2.2.1 u_2.2.2.1 u_2.2.2.2.1 u_2.2.2.2.2] H locs := w
  refine lv_astore_n (lv' := [(1, .ref q_1), (0, .ref x)]) hx hb dL_play_5 rfl hl (by decide) rfl (fun ls hl => ?_)
  refine lv_bipush (v := (-103)) hx hb dL_play_6 (by decide) ?_
  subst hA
  subst hQ
  exact kreti F w u_2 [0, 1, 2, 3, 4, 5, 6, 7, 8, 9, 10] rfl rfl (rfl) (Nat.le_of_ble_eq_true rfl) (Nat.le_of_ble_eq_true rfl) dL_play_8
theorem hd_X5_nextOpen : yX5_nextOpen.cls ≠ "java/lang/invoke/MethodHandle" ∧ yX5_nextOpen.cls ≠ "java/lang/invoke/VarHandle" ∧ (parseMethodDescriptor yX5_nextOpen.desc).map (fun d => d.parameters.length) = some 1 := by decide +kernel
abbrev rmL_nextOpen_A : Room := { frames := 7, cells := 1, slots := 6, locals := 104 }
set_option maxHeartbeats 4000000 in
set_option maxRecDepth 100000 in
theorem kL_nextOpen_A (l : Launch) (hnl : l.stackTraces = false) (g : GG) (x : Nat) (nw : Nat) (sn : Nat) (tk : Bool) (hs : Nat) (tx : Nat) (tr : Nat) (n : Int32) (sz : Nat) (hn : ¬ (1 ≤ n.toInt ∧ n.toInt ≤ 48)) : Met l yL_nextOpen wsL_nextOpen rmL_nextOpen_A (va_Pc [.ref x, .int n] (kPre g [cX x nw sn tk hs tx tr] sz)) (va_Qi (fun (r : Int32) (u : Unit) => r = (-102)) (kB g (va_A [cX x nw sn tk hs tx tr] sz) (fun u => [cX x nw sn tk hs tx tr])) (va_A [cX x nw sn tk hs tx tr] sz)) 1 6 (va_A [cX x nw sn tk hs tx tr] sz) := by
  refine kMetH (hh := [(0, 5, 6, 15), (0, 5, 10, 51)]) (cc := cL_nextOpen) (maxL := 3) (ret := (some .int)) (own := RL) (by decide) rfl rfl (Nat.le_of_ble_eq_true rfl) ?_
  intro p e s m args below meth c ls Q H locs A F w hl htab hA hQ
  have hx := F.1.1
  have hb := F.1.2.1
  have hts := F.1.2.2.2.2
  have hl : lv_has ls 3 [(0, .ref x), (1, .int n)] := hl
  refine lv_aload_n hx hb dL_nextOpen_0 rfl (lv_at hl 0 rfl) ?_
  refine lv_iload_n hx hb dL_nextOpen_1 rfl (lv_at hl 1 rfl) ?_
  refine kcaught (E0 := eIAE) (wc := []) (wr := [cX x nw sn tk hs tx tr]) (wn := fun (u : Unit) => [cX x nw sn tk hs tx tr]) F w [] [0] [0] rfl rfl rfl (fun _ => rfl)
    (fun hp => vx_runV (As := [.int n]) (rest := []) F.1 (kX5_nextOpen_A l hnl g x n H.size hn) (cwV 1 hts gL_nextOpen_X5_nextOpen rfl rfl rfl ⟨rfl, hd_X5_nextOpen⟩ ⟨Nat.le_of_ble_eq_true rfl, Nat.le_of_ble_eq_true rfl⟩) ⟨hp.1, va_recv F.2.2.2.1.1 w.1 (q0 := 0) (ci := 5) rfl rfl, hp.2⟩ rfl rfl hl.1 rfl (lv_room (Nat.le_of_ble_eq_true rfl)) dL_nextOpen_2 ⟨Nat.le_of_ble_eq_true rfl, Nat.le_of_ble_eq_true rfl⟩)
    [] ⟨0, 5, 6, 15⟩ [⟨0, 5, 10, 51⟩] htab (fun z hz => nomatch hz) (by decide +kernel) (by decide) (by decide +kernel) (by decide +kernel) (fun q_1 _ H locs w => ?_)
  refine lv_astore_n (lv' := [(2, .ref q_1), (0, .ref x), (1, .int n)]) hx hb dL_nextOpen_6 rfl hl (by decide) rfl (fun ls hl => ?_)
  refine lv_bipush (v := (-102)) hx hb dL_nextOpen_7 (by decide) ?_
  subst hA
  subst hQ
  exact kreti F w () [0] rfl rfl (rfl) (Nat.le_of_ble_eq_true rfl) (Nat.le_of_ble_eq_true rfl) dL_nextOpen_9
theorem hd_X5_thingAt : yX5_thingAt.cls ≠ "java/lang/invoke/MethodHandle" ∧ yX5_thingAt.cls ≠ "java/lang/invoke/VarHandle" ∧ (parseMethodDescriptor yX5_thingAt.desc).map (fun d => d.parameters.length) = some 1 := by decide +kernel
abbrev rmL_thingAt : Room := { frames := 7, cells := 1, slots := 6, locals := 103 }
set_option maxHeartbeats 4000000 in
set_option maxRecDepth 100000 in
theorem kL_thingAt (l : Launch) (hnl : l.stackTraces = false) (g : GG) (x : Nat) (nw : Nat) (sn : Nat) (tk : Bool) (hs : Nat) (tx : Nat) (tr : Nat) (na : Nat) (nb : Nat) (σ : Sg) (d : Nat) (sz : Nat) (hd : 1 ≤ d ∧ d ≤ 48) : Met l yL_thingAt wsL_thingAt rmL_thingAt (va_Pc [.ref x, .int (nI d)] (kPre g [cX x nw sn tk hs tx tr, cR nw na nb σ, xI g na 49 (zT σ), xI g nb 49 (zI σ)] sz)) (va_Qi (fun (r : Int32) (u : Unit) => r = thV σ d) (kB g (va_A [cX x nw sn tk hs tx tr, cR nw na nb σ, xI g na 49 (zT σ), xI g nb 49 (zI σ)] sz) (fun u => [cX x nw sn tk hs tx tr, cR nw na nb σ, xI g na 49 (zT σ), xI g nb 49 (zI σ)])) (va_A [cX x nw sn tk hs tx tr, cR nw na nb σ, xI g na 49 (zT σ), xI g nb 49 (zI σ)] sz)) 1 6 (va_A [cX x nw sn tk hs tx tr, cR nw na nb σ, xI g na 49 (zT σ), xI g nb 49 (zI σ)] sz) := by
  refine kMetH (hh := [(0, 5, 6, 15), (0, 5, 10, 51)]) (cc := cL_thingAt) (maxL := 3) (ret := (some .int)) (own := RL) (by decide) rfl rfl (Nat.le_of_ble_eq_true rfl) ?_
  intro p e s m args below meth c ls Q H locs A F w hl htab hA hQ
  have hx := F.1.1
  have hb := F.1.2.1
  have hts := F.1.2.2.2.2
  have hl : lv_has ls 3 [(0, .ref x), (1, .int (nI d))] := hl
  rcases (show zF σ d = true ∨ zF σ d = false from by cases zF σ d; exact Or.inr rfl; exact Or.inl rfl) with h_1 | h_1
  · skip
    refine lv_aload_n hx hb dL_thingAt_0 rfl (lv_at hl 0 rfl) ?_
    refine lv_iload_n hx hb dL_thingAt_1 rfl (lv_at hl 1 rfl) ?_
    refine kcalli (wc := [cX x nw sn tk hs tx tr, cR nw na nb σ, xI g na 49 (zT σ), xI g nb 49 (zI σ)]) (wr := []) (wn := fun (u : Unit) => [cX x nw sn tk hs tx tr, cR nw na nb σ, xI g na 49 (zT σ), xI g nb 49 (zI σ)]) F w [0, 1, 2, 3] [] [0, 1, 2, 3] rfl rfl rfl (fun _ => rfl)
      (fun hp => va_runV (As := [.int (nI d)]) (rest := []) F.1 (kX5_thingAt_k l g x nw sn tk hs tx tr na nb σ d H.size hd h_1) (cwV 1 hts gL_thingAt_X5_thingAt rfl rfl rfl ⟨rfl, hd_X5_thingAt⟩ ⟨Nat.le_of_ble_eq_true rfl, Nat.le_of_ble_eq_true rfl⟩) ⟨hp.1, va_recv F.2.2.2.1.1 w.1 (q0 := 0) (ci := 5) rfl rfl, hp.2⟩ rfl rfl hl.1 rfl (lv_room (Nat.le_of_ble_eq_true rfl)) dL_thingAt_2 ⟨Nat.le_of_ble_eq_true rfl, Nat.le_of_ble_eq_true rfl⟩)
      (fun r_2 _ H locs h_3 w => ?_)
    subst h_3
    refine ktopi (y := thV σ d) ((thV_t h_1).symm) ?_
    subst hA
    subst hQ
    exact kreti F w () [0, 1, 2, 3] rfl rfl (rfl) (Nat.le_of_ble_eq_true rfl) (Nat.le_of_ble_eq_true rfl) dL_thingAt_5
  · skip
    refine lv_aload_n hx hb dL_thingAt_0 rfl (lv_at hl 0 rfl) ?_
    refine lv_iload_n hx hb dL_thingAt_1 rfl (lv_at hl 1 rfl) ?_
    refine kcaught (E0 := eNSE) (wc := [cX x nw sn tk hs tx tr, cR nw na nb σ, xI g na 49 (zT σ), xI g nb 49 (zI σ)]) (wr := []) (wn := fun (u : Unit) => [cX x nw sn tk hs tx tr, cR nw na nb σ, xI g na 49 (zT σ), xI g nb 49 (zI σ)]) F w [0, 1, 2, 3] [] [0, 1, 2, 3] rfl rfl rfl (fun _ => rfl)
      (fun hp => vx_runV (As := [.int (nI d)]) (rest := []) F.1 (kX5_thingAt_N l hnl g x nw sn tk hs tx tr na nb σ d H.size hd h_1) (cwV 1 hts gL_thingAt_X5_thingAt rfl rfl rfl ⟨rfl, hd_X5_thingAt⟩ ⟨Nat.le_of_ble_eq_true rfl, Nat.le_of_ble_eq_true rfl⟩) ⟨hp.1, va_recv F.2.2.2.1.1 w.1 (q0 := 0) (ci := 5) rfl rfl, hp.2⟩ rfl rfl hl.1 rfl (lv_room (Nat.le_of_ble_eq_true rfl)) dL_thingAt_2 ⟨Nat.le_of_ble_eq_true rfl, Nat.le_of_ble_eq_true rfl⟩)
      [⟨0, 5, 6, 15⟩] ⟨0, 5, 10, 51⟩ [] htab (fun z hz => by rcases List.mem_cons.mp hz with rfl | hz; exact ⟨by decide, eIAE, by decide +kernel, by decide +kernel⟩; cases hz) (by decide +kernel) (by decide) (by decide +kernel) (by decide +kernel) (fun q_4 _ H locs w => ?_)
    refine lv_astore_n (lv' := [(2, .ref q_4), (0, .ref x), (1, .int (nI d))]) hx hb dL_thingAt_10 rfl hl (by decide) rfl (fun ls hl => ?_)
    refine lv_bipush (v := (-104)) hx hb dL_thingAt_11 (by decide) ?_
    refine ktopi (y := thV σ d) ((thV_f h_1).symm) ?_
    subst hA
    subst hQ
    exact kreti F w () [0, 1, 2, 3] rfl rfl (rfl) (Nat.le_of_ble_eq_true rfl) (Nat.le_of_ble_eq_true rfl) dL_thingAt_13
abbrev rmL_nextOpen : Room := { frames := 7, cells := 1, slots := 6, locals := 104 }
set_option maxHeartbeats 4000000 in
set_option maxRecDepth 100000 in
theorem kL_nextOpen (l : Launch) (hnl : l.stackTraces = false) (g : GG) (x : Nat) (nw : Nat) (sn : Nat) (tk : Bool) (hs : Nat) (tx : Nat) (tr : Nat) (na : Nat) (nb : Nat) (σ : Sg) (d : Nat) (sz : Nat) (hd : 1 ≤ d ∧ d ≤ 48) : Met l yL_nextOpen wsL_nextOpen rmL_nextOpen (va_Pc [.ref x, .int (nI d)] (kPre g [cX x nw sn tk hs tx tr, cR nw na nb σ, xI g na 49 (zT σ), xI g nb 49 (zI σ)] sz)) (va_Qi (fun (r : Int32) (u : Unit) => r = nxV (zO σ) d) (kB g (va_A [cX x nw sn tk hs tx tr, cR nw na nb σ, xI g na 49 (zT σ), xI g nb 49 (zI σ)] sz) (fun u => [cX x nw sn tk hs tx tr, cR nw na nb σ, xI g na 49 (zT σ), xI g nb 49 (zI σ)])) (va_A [cX x nw sn tk hs tx tr, cR nw na nb σ, xI g na 49 (zT σ), xI g nb 49 (zI σ)] sz)) 1 6 (va_A [cX x nw sn tk hs tx tr, cR nw na nb σ, xI g na 49 (zT σ), xI g nb 49 (zI σ)] sz) := by
  refine kMetH (hh := [(0, 5, 6, 15), (0, 5, 10, 51)]) (cc := cL_nextOpen) (maxL := 3) (ret := (some .int)) (own := RL) (by decide) rfl rfl (Nat.le_of_ble_eq_true rfl) ?_
  intro p e s m args below meth c ls Q H locs A F w hl htab hA hQ
  have hx := F.1.1
  have hb := F.1.2.1
  have hts := F.1.2.2.2.2
  have hl : lv_has ls 3 [(0, .ref x), (1, .int (nI d))] := hl
  obtain ⟨n1, n2, n3, n4⟩ := nxN_s (zO σ) hd.2
  rcases (show nxN (zO σ) d < 49 ∨ ¬ nxN (zO σ) d < 49 from Decidable.em _) with h_1 | h_1
  · skip
    refine lv_aload_n hx hb dL_nextOpen_0 rfl (lv_at hl 0 rfl) ?_
    refine lv_iload_n hx hb dL_nextOpen_1 rfl (lv_at hl 1 rfl) ?_
    refine kcalli (wc := [cX x nw sn tk hs tx tr, cR nw na nb σ, xI g na 49 (zT σ), xI g nb 49 (zI σ)]) (wr := []) (wn := fun (u : Unit) => [cX x nw sn tk hs tx tr, cR nw na nb σ, xI g na 49 (zT σ), xI g nb 49 (zI σ)]) F w [0, 1, 2, 3] [] [0, 1, 2, 3] rfl rfl rfl (fun _ => rfl)
      (fun hp => va_runV (As := [.int (nI d)]) (rest := []) F.1 (kX5_nextOpen_k l g x nw sn tk hs tx tr na nb σ d (nxN (zO σ) d) H.size hd (⟨n1, by omega⟩) n3 (n4 h_1)) (cwV 1 hts gL_nextOpen_X5_nextOpen rfl rfl rfl ⟨rfl, hd_X5_nextOpen⟩ ⟨Nat.le_of_ble_eq_true rfl, Nat.le_of_ble_eq_true rfl⟩) ⟨hp.1, va_recv F.2.2.2.1.1 w.1 (q0 := 0) (ci := 5) rfl rfl, hp.2⟩ rfl rfl hl.1 rfl (lv_room (Nat.le_of_ble_eq_true rfl)) dL_nextOpen_2 ⟨Nat.le_of_ble_eq_true rfl, Nat.le_of_ble_eq_true rfl⟩)
      (fun r_2 _ H locs h_3 w => ?_)
    subst h_3
    refine ktopi (y := nxV (zO σ) d) ((if_pos h_1).symm) ?_
    subst hA
    subst hQ
    exact kreti F w () [0, 1, 2, 3] rfl rfl (rfl) (Nat.le_of_ble_eq_true rfl) (Nat.le_of_ble_eq_true rfl) dL_nextOpen_5
  · skip
    refine lv_aload_n hx hb dL_nextOpen_0 rfl (lv_at hl 0 rfl) ?_
    refine lv_iload_n hx hb dL_nextOpen_1 rfl (lv_at hl 1 rfl) ?_
    refine kcaught (E0 := eNSE) (wc := [cX x nw sn tk hs tx tr, cR nw na nb σ, xI g na 49 (zT σ), xI g nb 49 (zI σ)]) (wr := []) (wn := fun (u : Unit) => [cX x nw sn tk hs tx tr, cR nw na nb σ, xI g na 49 (zT σ), xI g nb 49 (zI σ)]) F w [0, 1, 2, 3] [] [0, 1, 2, 3] rfl rfl rfl (fun _ => rfl)
      (fun hp => vx_runV (As := [.int (nI d)]) (rest := []) F.1 (kX5_nextOpen_N l hnl g x nw sn tk hs tx tr na nb σ d H.size hd (fun j a c => n3 j a (by omega))) (cwV 1 hts gL_nextOpen_X5_nextOpen rfl rfl rfl ⟨rfl, hd_X5_nextOpen⟩ ⟨Nat.le_of_ble_eq_true rfl, Nat.le_of_ble_eq_true rfl⟩) ⟨hp.1, va_recv F.2.2.2.1.1 w.1 (q0 := 0) (ci := 5) rfl rfl, hp.2⟩ rfl rfl hl.1 rfl (lv_room (Nat.le_of_ble_eq_true rfl)) dL_nextOpen_2 ⟨Nat.le_of_ble_eq_true rfl, Nat.le_of_ble_eq_true rfl⟩)
      [⟨0, 5, 6, 15⟩] ⟨0, 5, 10, 51⟩ [] htab (fun z hz => by rcases List.mem_cons.mp hz with rfl | hz; exact ⟨by decide, eIAE, by decide +kernel, by decide +kernel⟩; cases hz) (by decide +kernel) (by decide) (by decide +kernel) (by decide +kernel) (fun q_4 _ H locs w => ?_)
    refine lv_astore_n (lv' := [(2, .ref q_4), (0, .ref x), (1, .int (nI d))]) hx hb dL_nextOpen_10 rfl hl (by decide) rfl (fun ls hl => ?_)
    refine lv_bipush (v := (-104)) hx hb dL_nextOpen_11 (by decide) ?_
    refine ktopi (y := nxV (zO σ) d) ((if_neg h_1).symm) ?_
    subst hA
    subst hQ
    exact kreti F w () [0, 1, 2, 3] rfl rfl (rfl) (Nat.le_of_ble_eq_true rfl) (Nat.le_of_ble_eq_true rfl) dL_nextOpen_13
