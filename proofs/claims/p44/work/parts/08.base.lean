/-! The frame of this work: one bundle for what a method stands on (kF), one for the cells that it moves (kW), one row a call. -/
abbrev GG : Type := va_G × (ClassId × ClassId × ClassId × ClassId)
abbrev gI (g : GG) : ClassId := g.2.1
abbrev gJ (g : GG) : ClassId := g.2.2.1
abbrev gC (g : GG) : ClassId := g.2.2.2.1
abbrev gR (g : GG) : ClassId := g.2.2.2.2
abbrev gTys (g : GG) : List (ClassId × FieldType) := [(gI g, .int), (gC g, .char), (gR g, .object RX2)]
def kNst : List Cond := [
  .fieldLinkNest RX5 63 "DivisorLockers$Row" "open" "J" RX5, .fieldLinkNest RX5 85 "DivisorLockers$Row" "locked" "J" RX5, .fieldLinkNest RX5 103 "DivisorLockers$Row" "skipped" "J" RX5,
  .fieldLinkNest RX5 129 "DivisorLockers$Row" "filled" "J" RX5, .fieldLinkNest RX5 141 "DivisorLockers$Row" "turns" "[I" RX5, .fieldLinkNest RX5 149 "DivisorLockers$Row" "times" "[I" RX5,
  .fieldLinkNest RX5 193 "DivisorLockers$History" "size" "I" RX5, .fieldLinkNest RX5 204 "DivisorLockers$Text" "length" "I" RX5, .fieldLinkNest RX5 217 "DivisorLockers$Trial" "reason" "I" RX5,
  .fieldLinkNest RX5 222 "DivisorLockers$Trial" "position" "I" RX5, .fieldLinkNest RX5 225 "DivisorLockers$Trial" "cause" "I" RX5, .fieldLinkNest RX5 230 "DivisorLockers$Trial" "row" "LDivisorLockers$Row;" RX5,
  .fieldLinkNest RX5 233 "DivisorLockers$Trial" "orders" "I" RX5, .fieldLinkNest RX1 58 "DivisorLockers$Row" "locked" "J" RX5, .fieldLinkNest RX4 42 "DivisorLockers$Text" "length" "I" RX5, .fieldLinkNest RX4 51 "DivisorLockers$Order" "end" "I" RX5,
  .methodLinkNest RX1 51 yX5_isStretch RX5, .methodLinkNest RX1 55 yX5_isInRow RX5, .methodLinkNest RX1 64 yX5_contains RX5, .methodLinkNest RX1 68 yX5_isKind RX5,
  .methodLinkNest RX2 38 yX5_contains RX5, .methodLinkNest RX2 42 yX5_bit RX5, .methodLinkNest RX2 46 yX5_countUp RX5, .methodLinkNest RX2 50 yX5_multiplesOf RX5, .methodLinkNest RX2 55 yX5_timesInRow RX5, .methodLinkNest RX4 20 yX1_init RX5]
def kStr : List (String × Nat × String) := [(RX5, 113, "there is no such door or no such kind"), (RX5, 118, "the thing is not stored"), (RX5, 127, "the door is closed"), (RX5, 132, "there is no thing behind the door"), (RX5, 152, "the number is out of range"),
  (RX5, 159, "no door from this one on is open"), (RX5, 175, "there is no such kind"), (RX5, 191, "there is no snapshot"), (RX5, 197, "the history is empty"), (RX5, 202, "the character is out of range"), (RX5, 207, "the text is full"),
  (RX5, 220, "the text has no fault"), (RX5, 228, "the text has a fault"), (RX5, 50, "the pass is out of range"), (RX5, 77, "the passes are out of range"), (RX5, 83, "there is no such door"), (RX5, 94, "the door is locked")]
abbrev eIAE : String := "java/lang/IllegalArgumentException"
abbrev eISE : String := "java/lang/IllegalStateException"
abbrev eNSE : String := "java/util/NoSuchElementException"
def kNca : List (String × String) := [(eISE, eIAE), (eNSE, eIAE)]
def kIsNst : Cond → Bool
  | .fieldLinkNest .. => true
  | .methodLinkNest .. => true
  | _ => false
theorem kNst_is : ∀ w ∈ kNst, kIsNst w = true := by decide +kernel
theorem kNst_tab : ∀ w ∈ kNst, w.onTables = true := by decide +kernel
theorem kNst_warm {w : Cond} (h : kIsNst w = true) {s U : State} (hW : s.WarmedH U.vm) (hz : va_Nw w s) : va_Nw w U := by
  cases w <;> first | (simp [kIsNst] at h; done) | exact va_Nw.warmF hW hz | exact va_Nw.warmM hW hz
/-- what of the tables every method stands on, beside its own words -/
def kG (g : GG) (U : State) : Prop := va_K g.1 vwCl (gTys g) U ∧ (∀ w ∈ kNst, va_Nw w U) ∧ (∀ q ∈ kStr, ∃ a, vk_R q.1 q.2.1 q.2.2 a U) ∧ va_AO RX2 U ∧ (∀ q ∈ kNca, va_Nc q.1 q.2 U)
theorem kG.warm {g : GG} {s U : State} (hW : s.WarmedH U.vm) (h : kG g s) : kG g U :=
  ⟨va_K.moved hW.alike h.1, fun w hw => kNst_warm (kNst_is w hw) hW (h.2.1 w hw), fun q hq => (h.2.2.1 q hq).elim fun a ha => ⟨a, vk_R.warm hW ha⟩, va_AO.moved hW.alike h.2.2.2.1, fun q hq => va_Nc.moved hW.alike (h.2.2.2.2 q hq)⟩
theorem kG.same {g : GG} {s U : State} (hv : s.vm = U.vm) (h : kG g s) : kG g U := by
  have ha : s.vm.Alike U.vm := by rw [hv]; exact Vm.Alike.refl _
  exact ⟨va_K.moved ha h.1, fun w hw => va_Nw.same (kNst_tab w hw) hv (h.2.1 w hw), fun q hq => (h.2.2.1 q hq).elim fun a ha => ⟨a, vk_R.same hv.symm ha⟩, va_AO.moved ha h.2.2.2.1, fun q hq => va_Nc.moved ha (h.2.2.2.2 q hq)⟩
/-- the two statics that a throw reads -/
def kZ (A : Nat → Prop) (U : State) (H : Heap) : Prop := vx_Zq Bundle.tN "UNASSIGNED_STACK" Bundle.steD A U H ∧ vx_Zq Bundle.tN "SUPPRESSED_SENTINEL" Bundle.listD A U H
theorem kZ.moved {A : Nat → Prop} {u U : State} {H : Heap} (hv : u.vm.Alike U.vm) (h : kZ A u H) : kZ A U H := ⟨vx_Zq.moved hv h.1, vx_Zq.moved hv h.2⟩
theorem kZ.kept {A : Nat → Prop} {U : State} {H H1 : Heap} (h : kZ A U H) (hq : ∀ a : Nat, a < H.size → ¬ A a → H1[a]? = H[a]?) : kZ A U H1 := ⟨vx_Zq.kept h.1 hq, vx_Zq.kept h.2 hq⟩
theorem kZ.narrow {A B : Nat → Prop} {U : State} {H : Heap} (h : kZ A U H) (hAB : ∀ q, B q → A q) : kZ B U H := ⟨vx_Zq.narrow h.1 hAB, vx_Zq.narrow h.2 hAB⟩
/-- a method's start: its cells, and the tables -/
def kPre (g : GG) (ws : va_W) (sz : Nat) (U : State) : Prop := U.heap.size = sz ∧ va_P g.1 vwCl ws U.heap ∧ va_D (fun _ => True) ws ∧ kG g U ∧ kZ (va_A ws sz) U U.heap
theorem kPre_blind {av : List Value} {g : GG} {ws : va_W} {sz : Nat} : FrameBlind (va_Pc av (kPre g ws sz)) := fun a U gg mk h =>
  ⟨h.1, h.2.1, h.2.2.1, h.2.2.2.1, kG.same (s := U) (U := U.calling gg mk a) rfl h.2.2.2.2.1, kZ.moved (u := U) (U := U.calling gg mk a) (Vm.Alike.refl U.vm) h.2.2.2.2.2⟩
/-- its end: the cells as they are then -/
def kB {S : Type} (g : GG) (A : Nat → Prop) (w' : S → va_W) (u : S) (t : State) : Prop := va_P g.1 vwCl (w' u) t.heap ∧ va_D A (w' u)
/-- within: the cells now -/
def kW (g : GG) (A : Nat → Prop) (s : State) (ws : va_W) (H : Heap) (locs : List Loc) : Prop := va_P g.1 vwCl ws H ∧ va_D A ws ∧ va_S A s.heap H locs
def kF (p : Program) (m : MethodId) (c : Code) (cc : ByteArray) (nL : Nat) (s : State) (args : Array Value) (Ts : List Cond) (own : String) (meth : Method) (ret : Option FieldType) (g : GG) (A : Nat → Prop) : Prop :=
  CallFix p m c cc nL s args Ts own ∧ meth.sig.returnType = ret ∧ meth.locks = false ∧ kG g s ∧ kZ A s s.heap ∧ (∀ q, s.heap.size ≤ q → A q)
theorem kPick {ws wc : va_W} {is : List Nat} (h : is.map (fun i => ws[i]?) = wc.map some) : is.filterMap (fun i => ws[i]?) = wc := by
  have h2 : ∀ l : List (Option (Nat × va_E)), l.filterMap id = (List.map some wc).filterMap id → l.filterMap id = wc := fun l hl => by rw [hl, List.filterMap_map]; simp
  have h3 : is.filterMap (fun i => ws[i]?) = (is.map (fun i => ws[i]?)).filterMap id := by rw [List.filterMap_map]; rfl
  rw [h3]
  exact h2 _ (by rw [h])
theorem kW.perm {g : GG} {A : Nat → Prop} {s : State} {ws ws' : va_W} {H : Heap} {locs : List Loc} (w : kW g A s ws H locs) (is : List Nat) (h : is.map (fun i => ws[i]?) = ws'.map some) (hn : va_nd is = true) : kW g A s ws' H locs :=
  ⟨w.1.sub is (kPick h), w.2.1.sub is hn h, w.2.2⟩
section KA
variable {p : Program} {l : Launch} {e : Env} {R : Room} {s : State} {m : MethodId} {args : Array Value} {below : List Frame} {meth : Method} {c : Code} {H : Heap} {locs : List Loc} {cells slots : Nat} {Q : State → Prop}
variable {cc : ByteArray} {nL : Nat} {Ts : List Cond} {own : String} {ret : Option FieldType} {g : GG} {A : Nat → Prop} {ws : va_W} {pc : Nat} {ls : Array Slot} {st0 rest : List Value}
theorem kpre (F : kF p m c cc nL s args Ts own meth ret g A) (w : kW g A s ws H locs) {wc : va_W} {As : List Value} (isC : List Nat) (hC : isC.map (fun i => ws[i]?) = wc.map some) (hn : va_nd isC = true) : PreS s H (va_Pc As (kPre g wc H.size)) As := by
  refine ⟨kPre_blind, fun U hU hW => ⟨rfl, by rw [hU], by rw [hU]; exact w.1.sub isC (kPick hC), (w.2.1.sub isC hn hC).weaken (fun _ _ _ _ => trivial), kG.warm hW F.2.2.2.1, ?_⟩⟩
  rw [hU]
  exact ((F.2.2.2.2.1.kept (H1 := H) (fun a h1 h2 => w.2.2.2.1 a h1 h2)).narrow (va_free w.2.1 w.2.2 F.2.2.2.2.2 isC hC)).moved hW.alike
theorem kjoin (F : kF p m c cc nL s args Ts own meth ret g A) (w : kW g A s ws H locs) {wc wr w1 wn : va_W} {H1 : Heap} {locs1 : List Loc} (isC isR : List Nat) (hC : isC.map (fun i => ws[i]?) = wc.map some) (hR : isR.map (fun i => ws[i]?) = wr.map some) (hn : va_nd isR = true) (hdis : isR.all (fun i => !isC.contains i) = true)
    (isP : List Nat) (hP : isP.map (fun i => (wr ++ w1)[i]?) = wn.map some) (hnP : va_nd isP = true) (hk : ∀ q : Nat, q < H.size → ¬ va_A wc H.size q → H1[q]? = H[q]?) (b1 : va_P g.1 vwCl w1 H1) (b2 : va_D (va_A wc H.size) w1) (hS : va_S A s.heap H1 locs1) : kW g A s wn H1 locs1 := by
  obtain ⟨j1, j2⟩ := va_join w.1 w.2.1 isC isR hC hR hn (fun i hi hc => by have := List.all_eq_true.mp hdis i hi; simp [hc] at this) hk (va_free w.2.1 w.2.2 F.2.2.2.2.2 isC hC) b1 b2
  exact ⟨j1.sub isP (kPick hP), j2.sub isP hnP hP, hS⟩
theorem kcalli {S : Type} {post : Int32 → S → Prop} {w' wn : S → va_W} {wc wr : va_W} {a : Array Value} {As : List Value} {mc ms : Nat} (F : kF p m c cc nL s args Ts own meth ret g A) (w : kW g A s ws H locs) (isC isR isP : List Nat)
    (hC : isC.map (fun i => ws[i]?) = wc.map some) (hR : isR.map (fun i => ws[i]?) = wr.map some) (hck : (va_nd isC && va_nd isR && va_nd isP && isR.all (fun i => !isC.contains i)) = true) (hP : ∀ u, isP.map (fun i => (wr ++ w' u)[i]?) = (wn u).map some)
    (hr : PreS s H (va_Pc As (kPre g wc H.size)) As → va_Run p l e R s m args below meth c H locs cells slots mc ms (F0 m pc ls st0) rest (va_Qi post (kB g (va_A wc H.size) w') (va_A wc H.size) a) (va_A wc H.size))
    (kk : ∀ (r : Int32) (u : S) (H1 : Heap) (locs1 : List Loc), post r u → kW g A s (wn u) H1 locs1 → W p l e R s m args below meth c H1 locs1 (cells + mc) (slots + ms) Q (F0 m (pc + 3) ls (.int r :: rest))) :
    W p l e R s m args below meth c H locs cells slots Q (F0 m pc ls st0) := by
  simp only [Bool.and_eq_true] at hck
  obtain ⟨⟨⟨k1, k2⟩, k3⟩, k4⟩ := hck
  have hF := va_free w.2.1 w.2.2 F.2.2.2.2.2 isC hC
  exact va_calli (hr (kpre F w isC hC k1)) w.2.2 (fun q _ h => hF q h) hF (fun r u t H1 locs1 ht hvm hw hB hz hk hS => kk r u H1 locs1 hw (kjoin F w isC isR hC hR k2 k4 isP (hP u) k3 hk (by rw [← ht]; exact hB.1) hB.2 hS))
theorem kcalll {S : Type} {post : Int64 → S → Prop} {w' wn : S → va_W} {wc wr : va_W} {a : Array Value} {As : List Value} {mc ms : Nat} (F : kF p m c cc nL s args Ts own meth ret g A) (w : kW g A s ws H locs) (isC isR isP : List Nat)
    (hC : isC.map (fun i => ws[i]?) = wc.map some) (hR : isR.map (fun i => ws[i]?) = wr.map some) (hck : (va_nd isC && va_nd isR && va_nd isP && isR.all (fun i => !isC.contains i)) = true) (hP : ∀ u, isP.map (fun i => (wr ++ w' u)[i]?) = (wn u).map some)
    (hr : PreS s H (va_Pc As (kPre g wc H.size)) As → va_Run p l e R s m args below meth c H locs cells slots mc ms (F0 m pc ls st0) rest (va_Ql post (kB g (va_A wc H.size) w') (va_A wc H.size) a) (va_A wc H.size))
    (kk : ∀ (r : Int64) (u : S) (H1 : Heap) (locs1 : List Loc), post r u → kW g A s (wn u) H1 locs1 → W p l e R s m args below meth c H1 locs1 (cells + mc) (slots + ms) Q (F0 m (pc + 3) ls (.long r :: rest))) :
    W p l e R s m args below meth c H locs cells slots Q (F0 m pc ls st0) := by
  simp only [Bool.and_eq_true] at hck
  obtain ⟨⟨⟨k1, k2⟩, k3⟩, k4⟩ := hck
  have hF := va_free w.2.1 w.2.2 F.2.2.2.2.2 isC hC
  exact va_calll (hr (kpre F w isC hC k1)) w.2.2 (fun q _ h => hF q h) hF (fun r u t H1 locs1 ht hvm hw hB hz hk hS => kk r u H1 locs1 hw (kjoin F w isC isR hC hR k2 k4 isP (hP u) k3 hk (by rw [← ht]; exact hB.1) hB.2 hS))
theorem kcallf {S : Type} {post : UInt32 → S → Prop} {w' wn : S → va_W} {wc wr : va_W} {a : Array Value} {As : List Value} {mc ms : Nat} (F : kF p m c cc nL s args Ts own meth ret g A) (w : kW g A s ws H locs) (isC isR isP : List Nat)
    (hC : isC.map (fun i => ws[i]?) = wc.map some) (hR : isR.map (fun i => ws[i]?) = wr.map some) (hck : (va_nd isC && va_nd isR && va_nd isP && isR.all (fun i => !isC.contains i)) = true) (hP : ∀ u, isP.map (fun i => (wr ++ w' u)[i]?) = (wn u).map some)
    (hr : PreS s H (va_Pc As (kPre g wc H.size)) As → va_Run p l e R s m args below meth c H locs cells slots mc ms (F0 m pc ls st0) rest (va_Qf post (kB g (va_A wc H.size) w') (va_A wc H.size) a) (va_A wc H.size))
    (kk : ∀ (r : UInt32) (u : S) (H1 : Heap) (locs1 : List Loc), post r u → kW g A s (wn u) H1 locs1 → W p l e R s m args below meth c H1 locs1 (cells + mc) (slots + ms) Q (F0 m (pc + 3) ls (.float r :: rest))) :
    W p l e R s m args below meth c H locs cells slots Q (F0 m pc ls st0) := by
  simp only [Bool.and_eq_true] at hck
  obtain ⟨⟨⟨k1, k2⟩, k3⟩, k4⟩ := hck
  have hF := va_free w.2.1 w.2.2 F.2.2.2.2.2 isC hC
  exact va_callf (hr (kpre F w isC hC k1)) w.2.2 (fun q _ h => hF q h) hF (fun r u t H1 locs1 ht hvm hw hB hz hk hS => kk r u H1 locs1 hw (kjoin F w isC isR hC hR k2 k4 isP (hP u) k3 hk (by rw [← ht]; exact hB.1) hB.2 hS))
theorem kcallv {S : Type} {post : S → Prop} {w' wn : S → va_W} {wc wr : va_W} {a : Array Value} {As : List Value} {mc ms : Nat} (F : kF p m c cc nL s args Ts own meth ret g A) (w : kW g A s ws H locs) (isC isR isP : List Nat)
    (hC : isC.map (fun i => ws[i]?) = wc.map some) (hR : isR.map (fun i => ws[i]?) = wr.map some) (hck : (va_nd isC && va_nd isR && va_nd isP && isR.all (fun i => !isC.contains i)) = true) (hP : ∀ u, isP.map (fun i => (wr ++ w' u)[i]?) = (wn u).map some)
    (hr : PreS s H (va_Pc As (kPre g wc H.size)) As → va_Run p l e R s m args below meth c H locs cells slots mc ms (F0 m pc ls st0) rest (va_Qv post (kB g (va_A wc H.size) w') (va_A wc H.size) a) (va_A wc H.size))
    (kk : ∀ (u : S) (H1 : Heap) (locs1 : List Loc), post u → kW g A s (wn u) H1 locs1 → W p l e R s m args below meth c H1 locs1 (cells + mc) (slots + ms) Q (F0 m (pc + 3) ls rest)) :
    W p l e R s m args below meth c H locs cells slots Q (F0 m pc ls st0) := by
  simp only [Bool.and_eq_true] at hck
  obtain ⟨⟨⟨k1, k2⟩, k3⟩, k4⟩ := hck
  have hF := va_free w.2.1 w.2.2 F.2.2.2.2.2 isC hC
  exact va_callv (hr (kpre F w isC hC k1)) w.2.2 (fun q _ h => hF q h) hF (fun u t H1 locs1 ht hvm hw hB hz hk hS => kk u H1 locs1 hw (kjoin F w isC isR hC hR k2 k4 isP (hP u) k3 hk (by rw [← ht]; exact hB.1) hB.2 hS))
theorem kget {C ref : String} {T : u_T} {N ci index : Nat} {aa : Nat} (F : kF p m c cc nL s args Ts own meth ret g A) (w : kW g A s ws H locs) (hin : ∀ w ∈ u_ws C T N, w ∈ Ts) (q0 : Nat) {fs : List Value} (he : ws[q0]? = some (aa, .inr (ci, fs))) (hc : vwCl[ci]? = some (C, T, N)) (k : Nat) (hk : k < N)
    (hlink : Cond.fieldLink own index ref (T k).2.1 (T k).2.2.1 ∈ Ts) (hsame : (T k).1 = ref) {v : Value} (hv : fs[k]? = some v) (hdg : decode cc pc = .ok (.getfield index, 3)) (kk : W p l e R s m args below meth c H locs cells slots Q (F0 m (pc + 3) ls (v :: rest))) :
    W p l e R s m args below meth c H locs cells slots Q (F0 m pc ls (.ref aa :: rest)) :=
  va_get (D := g.1) F.1.1 F.1.2.1 F.1.2.2.2.2 hin F.1.2.2.2.1 F.2.2.2.1.1 w.1 q0 he hc k hk (F.1.2.2.2.2 _ hlink) (fun x h => by rw [← hsame]; exact h) hv hdg kk
theorem kgetN {C ref host : String} {T : u_T} {N ci index : Nat} {aa : Nat} (F : kF p m c cc nL s args Ts own meth ret g A) (w : kW g A s ws H locs) (hin : ∀ w ∈ u_ws C T N, w ∈ Ts) (q0 : Nat) {fs : List Value} (he : ws[q0]? = some (aa, .inr (ci, fs))) (hc : vwCl[ci]? = some (C, T, N)) (k : Nat) (hk : k < N)
    (hlink : Cond.fieldLinkNest own index ref (T k).2.1 (T k).2.2.1 host ∈ kNst) (hsame : (T k).1 = ref) {v : Value} (hv : fs[k]? = some v) (hdg : decode cc pc = .ok (.getfield index, 3)) (kk : W p l e R s m args below meth c H locs cells slots Q (F0 m (pc + 3) ls (v :: rest))) :
    W p l e R s m args below meth c H locs cells slots Q (F0 m pc ls (.ref aa :: rest)) :=
  va_getN (D := g.1) F.1.1 F.1.2.1 F.1.2.2.2.2 hin F.1.2.2.2.1 F.2.2.2.1.1 w.1 q0 he hc k hk (va_Nw.use (kNst_tab _ hlink) (F.2.2.2.1.2.1 _ hlink)) (fun x h => by rw [← hsame]; exact h) hv hdg kk
theorem kput {C ref : String} {T : u_T} {N ci index : Nat} {aa : Nat} (F : kF p m c cc nL s args Ts own meth ret g A) (w : kW g A s ws H locs) (hin : ∀ w ∈ u_ws C T N, w ∈ Ts) {ty0 : Nat → FieldType} (hty : ∀ k, k < N → parseFieldDescriptor (T k).2.2.1 = some (ty0 k)) (hnm : ∀ a, a < N → ∀ b, b < N → a ≠ b → (T a).2.1 ≠ (T b).2.1) (q0 : Nat) {fs : List Value} (he : ws[q0]? = some (aa, .inr (ci, fs))) (hc : vwCl[ci]? = some (C, T, N)) (k : Nat) (hk : k < N)
    (hlink : Cond.fieldLink own index ref (T k).2.1 (T k).2.2.1 ∈ Ts) (hsame : (T k).1 = ref) (hfin : (T k).2.2.2 = false) {v : Value} (hn : narrow (ty0 k) v = v) (hfit : fits (ty0 k) v = true) (hl : k < fs.length) {wn : va_W} (hwn : ws.set q0 (aa, .inr (ci, fs.set k v)) = wn) (hdg : decode cc pc = .ok (.putfield index, 3))
    (kk : ∀ (H1 : Heap) (locs1 : List Loc), kW g A s wn H1 locs1 → W p l e R s m args below meth c H1 locs1 cells slots Q (F0 m (pc + 3) ls rest)) :
    W p l e R s m args below meth c H locs cells slots Q (F0 m pc ls (v :: .ref aa :: rest)) :=
  va_put (D := g.1) F.1.1 F.1.2.1 F.1.2.2.2.2 hin ty0 hty hnm F.1.2.2.2.1 F.2.2.2.1.1 w.1 w.2.1 w.2.2 q0 he hc k hk (F.1.2.2.2.2 _ hlink) (fun x h => by rw [← hsame]; exact h) hfin (hty k hk) hn hfit hl hdg (fun H1 locs1 h1 h2 h3 => kk H1 locs1 (by subst hwn; exact ⟨h1, h2, h3⟩))
theorem kputN {C ref host : String} {T : u_T} {N ci index : Nat} {aa : Nat} (F : kF p m c cc nL s args Ts own meth ret g A) (w : kW g A s ws H locs) (hin : ∀ w ∈ u_ws C T N, w ∈ Ts) {ty0 : Nat → FieldType} (hty : ∀ k, k < N → parseFieldDescriptor (T k).2.2.1 = some (ty0 k)) (hnm : ∀ a, a < N → ∀ b, b < N → a ≠ b → (T a).2.1 ≠ (T b).2.1) (q0 : Nat) {fs : List Value} (he : ws[q0]? = some (aa, .inr (ci, fs))) (hc : vwCl[ci]? = some (C, T, N)) (k : Nat) (hk : k < N)
    (hlink : Cond.fieldLinkNest own index ref (T k).2.1 (T k).2.2.1 host ∈ kNst) (hsame : (T k).1 = ref) (hfin : (T k).2.2.2 = false) {v : Value} (hn : narrow (ty0 k) v = v) (hfit : fits (ty0 k) v = true) (hl : k < fs.length) {wn : va_W} (hwn : ws.set q0 (aa, .inr (ci, fs.set k v)) = wn) (hdg : decode cc pc = .ok (.putfield index, 3))
    (kk : ∀ (H1 : Heap) (locs1 : List Loc), kW g A s wn H1 locs1 → W p l e R s m args below meth c H1 locs1 cells slots Q (F0 m (pc + 3) ls rest)) :
    W p l e R s m args below meth c H locs cells slots Q (F0 m pc ls (v :: .ref aa :: rest)) :=
  va_putN (D := g.1) F.1.1 F.1.2.1 F.1.2.2.2.2 hin ty0 hty hnm F.1.2.2.2.1 F.2.2.2.1.1 w.1 w.2.1 w.2.2 q0 he hc k hk (va_Nw.use (kNst_tab _ hlink) (F.2.2.2.1.2.1 _ hlink)) (fun x h => by rw [← hsame]; exact h) hfin (hty k hk) hn hfit hl hdg (fun H1 locs1 h1 h2 h3 => kk H1 locs1 (by subst hwn; exact ⟨h1, h2, h3⟩))
theorem kputF {C ref : String} {T : u_T} {N ci index : Nat} {aa : Nat} (F : kF p m c cc nL s args Ts own meth ret g A) (w : kW g A s ws H locs) (hin : ∀ w ∈ u_ws C T N, w ∈ Ts) {ty0 : Nat → FieldType} (hty : ∀ k, k < N → parseFieldDescriptor (T k).2.2.1 = some (ty0 k)) (hnm : ∀ a, a < N → ∀ b, b < N → a ≠ b → (T a).2.1 ≠ (T b).2.1) (q0 : Nat) {fs : List Value} (he : ws[q0]? = some (aa, .inr (ci, fs))) (hc : vwCl[ci]? = some (C, T, N)) (k : Nat) (hk : k < N)
    (hlink : Cond.fieldLink own index ref (T k).2.1 (T k).2.2.1 ∈ Ts) (hsame : (T k).1 = ref) (hfin : (T k).2.2.2 = true) (hin2 : meth.name = "<init>") (hdecl : (T k).1 = own) {v : Value} (hn : narrow (ty0 k) v = v) (hfit : fits (ty0 k) v = true) (hl : k < fs.length) {wn : va_W} (hwn : ws.set q0 (aa, .inr (ci, fs.set k v)) = wn) (hdg : decode cc pc = .ok (.putfield index, 3))
    (kk : ∀ (H1 : Heap) (locs1 : List Loc), kW g A s wn H1 locs1 → W p l e R s m args below meth c H1 locs1 cells slots Q (F0 m (pc + 3) ls rest)) :
    W p l e R s m args below meth c H locs cells slots Q (F0 m pc ls (v :: .ref aa :: rest)) :=
  va_putF (D := g.1) F.1.1 F.1.2.1 F.1.2.2.2.2 hin ty0 hty hnm F.1.2.2.2.1 F.2.2.2.1.1 w.1 w.2.1 w.2.2 q0 he hc k hk (F.1.2.2.2.2 _ hlink) (fun x h => by rw [← hsame]; exact h) hfin hin2 hdecl (hty k hk) hn hfit hl hdg (fun H1 locs1 h1 h2 h3 => kk H1 locs1 (by subst hwn; exact ⟨h1, h2, h3⟩))
theorem kiald {aa n : Nat} {f : Nat → Int32} {i : Int32} {v : Int32} (F : kF p m c cc nL s args Ts own meth ret g A) (w : kW g A s ws H locs) (q0 : Nat) (ha : ws[q0]? = some (aa, .inl (gI g, n, .inl f))) (hin : vp_in i n) (hv : f i.toNatClampNeg = v) (hdg : decode cc pc = .ok (.iaload, 1))
    (kk : W p l e R s m args below meth c H locs cells slots Q (F0 m (pc + 1) ls (.int v :: rest))) : W p l e R s m args below meth c H locs cells slots Q (F0 m pc ls (.int i :: .ref aa :: rest)) := by
  subst hv
  exact va_iald (D := g.1) F.1.1 F.1.2.1 F.2.2.2.1.1 w.1 q0 0 ha rfl hin hdg kk
theorem kcald {aa n : Nat} {f : Nat → Int32} {i : Int32} {v : Int32} (F : kF p m c cc nL s args Ts own meth ret g A) (w : kW g A s ws H locs) (q0 : Nat) (ha : ws[q0]? = some (aa, .inl (gC g, n, .inl f))) (hin : vp_in i n) (hv : f i.toNatClampNeg = v) (hdg : decode cc pc = .ok (.caload, 1))
    (kk : W p l e R s m args below meth c H locs cells slots Q (F0 m (pc + 1) ls (.int v :: rest))) : W p l e R s m args below meth c H locs cells slots Q (F0 m pc ls (.int i :: .ref aa :: rest)) := by
  subst hv
  exact va_cald (D := g.1) F.1.1 F.1.2.1 F.2.2.2.1.1 w.1 q0 1 ha rfl hin hdg kk
theorem kqald {aa n : Nat} {f : Nat → Option Nat} {i : Int32} {v : Value} (F : kF p m c cc nL s args Ts own meth ret g A) (w : kW g A s ws H locs) (q0 : Nat) (ha : ws[q0]? = some (aa, .inl (gR g, n, .inr (.inr (.inr (.inr f)))))) (hin : vp_in i n) (hv : va_rf (f i.toNatClampNeg) = v) (hdg : decode cc pc = .ok (.aaload, 1))
    (kk : W p l e R s m args below meth c H locs cells slots Q (F0 m (pc + 1) ls (v :: rest))) : W p l e R s m args below meth c H locs cells slots Q (F0 m pc ls (.int i :: .ref aa :: rest)) := by
  subst hv
  exact va_aldq (D := g.1) F.1.1 F.1.2.1 F.2.2.2.1.1 w.1 q0 2 (C := RX2) ha rfl hin hdg kk
/-- what an array holds may be told by any numbers that are the same within it -/
theorem kW.arr {aa n : Nat} {cA : ClassId} {f f' : Nat → Int32} (w : kW g A s ws H locs) (q0 : Nat) (ha : ws[q0]? = some (aa, .inl (cA, n, .inl f))) (hf : ∀ j, j < n → f j = f' j) {wn : va_W} (hwn : ws.set q0 (aa, .inl (cA, n, .inl f')) = wn) : kW g A s wn H locs := by
  subst hwn
  have e : vp_cell cA (n, .inl f) = vp_cell cA (n, .inl f') := by
    rw [vp_cell_i, vp_cell_i]
    unfold arrV
    congr 1
    exact congrArg Array.ofFn (funext fun j => by show Value.int (f j.val) = Value.int (f' j.val); rw [hf j.val j.isLt])
  refine ⟨w.1.set (e := .inl (cA, n, .inl f')) w.2.1 ha ?_ (fun _ _ => rfl), w.2.1.set ha, w.2.2⟩
  have h := w.1 q0 _ ha
  show H[aa]? = some (vp_cell cA (n, .inl f'))
  rw [← e]
  exact h
theorem kW.arrQ {aa n : Nat} {cA : ClassId} {f f' : Nat → Option Nat} (w : kW g A s ws H locs) (q0 : Nat) (ha : ws[q0]? = some (aa, .inl (cA, n, .inr (.inr (.inr (.inr f)))))) (hf : ∀ j, j < n → f j = f' j) {wn : va_W} (hwn : ws.set q0 (aa, .inl (cA, n, .inr (.inr (.inr (.inr f'))))) = wn) : kW g A s wn H locs := by
  subst hwn
  have e : vp_cell cA (n, .inr (.inr (.inr (.inr f)))) = vp_cell cA (n, .inr (.inr (.inr (.inr f')))) := by
    rw [vp_cell_q, vp_cell_q]
    unfold arrV
    congr 1
    exact congrArg Array.ofFn (funext fun j => by show va_rf (f j.val) = va_rf (f' j.val); rw [hf j.val j.isLt])
  refine ⟨w.1.set (e := .inl (cA, n, .inr (.inr (.inr (.inr f'))))) w.2.1 ha ?_ (fun _ _ => rfl), w.2.1.set ha, w.2.2⟩
  have h := w.1 q0 _ ha
  show H[aa]? = some (vp_cell cA (n, .inr (.inr (.inr (.inr f')))))
  rw [← e]
  exact h
theorem kiast {aa n : Nat} {f f' : Nat → Int32} {i x : Int32} (F : kF p m c cc nL s args Ts own meth ret g A) (w : kW g A s ws H locs) (q0 : Nat) (ha : ws[q0]? = some (aa, .inl (gI g, n, .inl f))) (hin : vp_in i n) (hf : upd f i.toNatClampNeg x = f') {wn : va_W} (hwn : ws.set q0 (aa, .inl (gI g, n, .inl f')) = wn) (hdg : decode cc pc = .ok (.iastore, 1))
    (kk : ∀ (H1 : Heap) (locs1 : List Loc), kW g A s wn H1 locs1 → W p l e R s m args below meth c H1 locs1 cells slots Q (F0 m (pc + 1) ls rest)) : W p l e R s m args below meth c H locs cells slots Q (F0 m pc ls (.int x :: .int i :: .ref aa :: rest)) :=
  va_iast (D := g.1) F.1.1 F.1.2.1 F.2.2.2.1.1 w.1 w.2.1 w.2.2 q0 0 ha rfl hin hdg (fun H1 locs1 h1 h2 h3 => kk H1 locs1 (by subst hwn; subst hf; exact ⟨h1, h2, h3⟩))
theorem kcast {aa n : Nat} {f f' : Nat → Int32} {i x : Int32} (F : kF p m c cc nL s args Ts own meth ret g A) (w : kW g A s ws H locs) (q0 : Nat) (ha : ws[q0]? = some (aa, .inl (gC g, n, .inl f))) (hin : vp_in i n) (hf : upd f i.toNatClampNeg (vp_nar .char x) = f') {wn : va_W} (hwn : ws.set q0 (aa, .inl (gC g, n, .inl f')) = wn) (hdg : decode cc pc = .ok (.castore, 1))
    (kk : ∀ (H1 : Heap) (locs1 : List Loc), kW g A s wn H1 locs1 → W p l e R s m args below meth c H1 locs1 cells slots Q (F0 m (pc + 1) ls rest)) : W p l e R s m args below meth c H locs cells slots Q (F0 m pc ls (.int x :: .int i :: .ref aa :: rest)) :=
  va_cast (D := g.1) F.1.1 F.1.2.1 F.2.2.2.1.1 w.1 w.2.1 w.2.2 q0 1 ha rfl hin hdg (fun H1 locs1 h1 h2 h3 => kk H1 locs1 (by subst hwn; subst hf; exact ⟨h1, h2, h3⟩))
theorem kqast {aa n v ci : Nat} {r : vw_C} {vs : List Value} {f f' : Nat → Option Nat} {i : Int32} (F : kF p m c cc nL s args Ts own meth ret g A) (w : kW g A s ws H locs) (q0 qk : Nat) (ha : ws[q0]? = some (aa, .inl (gR g, n, .inr (.inr (.inr (.inr f)))))) (hv : ws[qk]? = some (v, .inr (ci, vs))) (hc : vwCl[ci]? = some r) (hr : r.1 = RX2) (hin : vp_in i n) (hf : va_up f i.toNatClampNeg (some v) = f') {wn : va_W} (hwn : ws.set q0 (aa, .inl (gR g, n, .inr (.inr (.inr (.inr f'))))) = wn) (hdg : decode cc pc = .ok (.aastore, 1))
    (kk : ∀ (H1 : Heap) (locs1 : List Loc), kW g A s wn H1 locs1 → W p l e R s m args below meth c H1 locs1 cells slots Q (F0 m (pc + 1) ls rest)) : W p l e R s m args below meth c H locs cells slots Q (F0 m pc ls (.ref v :: .int i :: .ref aa :: rest)) :=
  va_astq (D := g.1) F.1.1 F.1.2.1 F.2.2.2.1.1 w.1 w.2.1 w.2.2 q0 2 qk ci ha (by show (some (gR g, FieldType.object RX2)) = some (gR g, FieldType.object r.1); rw [hr]) hv hc hin hdg (fun H1 locs1 h1 h2 h3 => kk H1 locs1 (by subst hwn; subst hf; exact ⟨h1, h2, h3⟩))
theorem kalen {aa t0 : Nat} {cA : ClassId} {x : vp_A} {ty : FieldType} {v : Int32} (F : kF p m c cc nL s args Ts own meth ret g A) (w : kW g A s ws H locs) (q0 : Nat) (ha : ws[q0]? = some (aa, .inl (cA, x))) (ht : (gTys g)[t0]? = some (cA, ty)) (hv : Int32.ofNat x.1 = v) (hdg : decode cc pc = .ok (.arraylength, 1))
    (kk : W p l e R s m args below meth c H locs cells slots Q (F0 m (pc + 1) ls (.int v :: rest))) : W p l e R s m args below meth c H locs cells slots Q (F0 m pc ls (.ref aa :: rest)) :=
  va_alen (D := g.1) F.1.1 F.1.2.1 F.2.2.2.1.1 w.1 q0 t0 ha ht hv hdg kk
theorem kend (w : kW g A s ws H locs) {S : Type} {w' : S → va_W} (u : S) (is : List Nat) (h : is.map (fun i => ws[i]?) = (w' u).map some) (hn : va_nd is = true) (t : State) (ht : t.heap = H) : kB g A w' u t ∧ va_F A s t :=
  ⟨⟨by rw [ht]; exact w.1.sub is (kPick h), w.2.1.sub is hn h⟩, w.2.2.F ht⟩
theorem kreti {S : Type} {post : Int32 → S → Prop} {w' : S → va_W} {v : Int32} {mc ms : Nat} (F : kF p m c cc nL s args Ts own meth (some .int) g A) (w : kW g A s ws H locs) (u : S) (is : List Nat) (h : is.map (fun i => ws[i]?) = (w' u).map some) (hn : va_nd is = true) (hp : post v u) (hcm : cells ≤ mc) (hsm : slots ≤ ms) (hdg : decode cc pc = .ok (.ireturn, 1)) :
    W p l e R s m args below meth c H locs cells slots (MQ below (va_Qi post (kB g A w') A) args s mc ms A) (F0 m pc ls [.int v]) :=
  W.widen hcm hsm (W.iret F.1.1 F.1.2.1 F.2.1 (fun t ht _ => ⟨⟨v, u, rfl, hp, (kend w u is h hn t ht).1⟩, (kend w u is h hn t ht).2⟩) w.2.2.2.2 hdg F.2.2.1)
theorem kretz {S : Type} {post : Int32 → S → Prop} {w' : S → va_W} {v : Int32} {mc ms : Nat} (F : kF p m c cc nL s args Ts own meth (some .boolean) g A) (w : kW g A s ws H locs) (u : S) (is : List Nat) (h : is.map (fun i => ws[i]?) = (w' u).map some) (hn : va_nd is = true) (hp : post v u) (hz : narrow .boolean (.int v) = .int v) (hcm : cells ≤ mc) (hsm : slots ≤ ms) (hdg : decode cc pc = .ok (.ireturn, 1)) :
    W p l e R s m args below meth c H locs cells slots (MQ below (va_Qi post (kB g A w') A) args s mc ms A) (F0 m pc ls [.int v]) :=
  W.widen hcm hsm (W.zret F.1.1 F.1.2.1 F.2.1 hz (fun t ht _ => ⟨⟨v, u, rfl, hp, (kend w u is h hn t ht).1⟩, (kend w u is h hn t ht).2⟩) w.2.2.2.2 hdg F.2.2.1)
theorem kretl {S : Type} {post : Int64 → S → Prop} {w' : S → va_W} {v : Int64} {mc ms : Nat} (F : kF p m c cc nL s args Ts own meth (some .long) g A) (w : kW g A s ws H locs) (u : S) (is : List Nat) (h : is.map (fun i => ws[i]?) = (w' u).map some) (hn : va_nd is = true) (hp : post v u) (hcm : cells ≤ mc) (hsm : slots ≤ ms) (hdg : decode cc pc = .ok (.lreturn, 1)) :
    W p l e R s m args below meth c H locs cells slots (MQ below (va_Ql post (kB g A w') A) args s mc ms A) (F0 m pc ls [.long v]) :=
  W.widen hcm hsm (W.lret F.1.1 F.1.2.1 F.2.1 (fun t ht _ => ⟨⟨v, u, rfl, hp, (kend w u is h hn t ht).1⟩, (kend w u is h hn t ht).2⟩) w.2.2.2.2 hdg F.2.2.1)
theorem kretf {S : Type} {post : UInt32 → S → Prop} {w' : S → va_W} {v : UInt32} {mc ms : Nat} (F : kF p m c cc nL s args Ts own meth (some .float) g A) (w : kW g A s ws H locs) (u : S) (is : List Nat) (h : is.map (fun i => ws[i]?) = (w' u).map some) (hn : va_nd is = true) (hp : post v u) (hcm : cells ≤ mc) (hsm : slots ≤ ms) (hdg : decode cc pc = .ok (.freturn, 1)) :
    W p l e R s m args below meth c H locs cells slots (MQ below (va_Qf post (kB g A w') A) args s mc ms A) (F0 m pc ls [.float v]) :=
  W.widen hcm hsm (W.fret F.1.1 F.1.2.1 F.2.1 (fun t ht _ => ⟨⟨v, u, rfl, hp, (kend w u is h hn t ht).1⟩, (kend w u is h hn t ht).2⟩) w.2.2.2.2 hdg F.2.2.1)
theorem kretv {S : Type} {post : S → Prop} {w' : S → va_W} {mc ms : Nat} (F : kF p m c cc nL s args Ts own meth none g A) (w : kW g A s ws H locs) (u : S) (is : List Nat) (h : is.map (fun i => ws[i]?) = (w' u).map some) (hn : va_nd is = true) (hp : post u) (hcm : cells ≤ mc) (hsm : slots ≤ ms) (hdg : decode cc pc = .ok (.return_, 1)) :
    W p l e R s m args below meth c H locs cells slots (MQ below (va_Qv post (kB g A w') A) args s mc ms A) (F0 m pc ls []) :=
  W.widen hcm hsm (W.vret F.1.1 F.1.2.1 F.2.1 (fun t ht _ => ⟨⟨u, rfl, hp, (kend w u is h hn t ht).1⟩, (kend w u is h hn t ht).2⟩) w.2.2.2.2 hdg F.2.2.1)
end KA
/-- a method's proof out of the walk of its body -/
theorem kMet {l : Launch} {y : MethodName} {ws ws' : List Cond} {rm : Room} {av : List Value} {g : GG} {w : va_W} {sz : Nat} {Qc : Array Value → State → Outcome → State → Prop} {mc ms : Nat} {cc : ByteArray} {maxL : Nat} {ret : Option FieldType} {own : String}
    (hy : plainName y.cls = true) (hw : ws = Cond.code y cc maxL ret :: ws') (ho : y.cls = own) (hlen : (lg_sl av).length ≤ maxL)
    (body : ∀ (p : Program) (e : Env) (s : State) (m : MethodId) (args : Array Value) (below : List Frame) (meth : Method) (c : Code) (ls : Array Slot) (Q : State → Prop) (H : Heap) (locs : List Loc) (A : Nat → Prop), kF p m c cc maxL s args ws own meth ret g A → kW g A s w H locs → lv_has ls maxL (lv_args 0 av) → meth.name = y.name → A = va_A w sz → Q = MQ below Qc args s mc ms (va_A w sz) →
      W p l e rm s m args below meth c H locs 0 0 Q (F0 m 0 ls [])) : Met l y ws rm (va_Pc av (kPre g w sz)) Qc mc ms (va_A w sz) := by
  refine Met.ofW (cc := cc) (maxL := maxL) (ret := ret) hy hw ?_
  intro p e s m args below meth c s₁ B hml hv
  obtain ⟨rfl, hsz, hP, hD, hG, hZ⟩ := hv
  subst hsz
  have hl := lv_entry av (n := maxL) hlen
  rw [lg_entry_eq]
  exact body p e s m _ below meth c _ _ s.heap [] _ ⟨⟨B.exec, B.bytes, hml, by rw [← ho]; exact findClass_of_methodNamed B.named, atoms_spec (ws := ws) B.pre⟩, B.returns, B.notSynchronized, hG, hZ, fun q h => Or.inr h⟩ ⟨hP, hD.self, va_S.rf⟩ hl (name_of_methodNamed B.named B.method).1 rfl rfl
section KT
variable {p : Program} {l : Launch} {e : Env} {R : Room} {s : State} {m : MethodId} {args : Array Value} {below : List Frame} {meth : Method} {c : Code} {H : Heap} {locs : List Loc} {cells slots : Nat} {Q : State → Prop} {pc : Nat} {ls : Array Slot} {rest : List Value}
theorem ktopi {x y : Int32} (h : x = y) (k : W p l e R s m args below meth c H locs cells slots Q (F0 m pc ls (.int y :: rest))) : W p l e R s m args below meth c H locs cells slots Q (F0 m pc ls (.int x :: rest)) := by subst h; exact k
theorem ktopl {x y : Int64} (h : x = y) (k : W p l e R s m args below meth c H locs cells slots Q (F0 m pc ls (.long y :: rest))) : W p l e R s m args below meth c H locs cells slots Q (F0 m pc ls (.long x :: rest)) := by subst h; exact k
theorem ktopf {x y : UInt32} (h : x = y) (k : W p l e R s m args below meth c H locs cells slots Q (F0 m pc ls (.float y :: rest))) : W p l e R s m args below meth c H locs cells slots Q (F0 m pc ls (.float x :: rest)) := by subst h; exact k
theorem ktopd {x y : UInt64} (h : x = y) (k : W p l e R s m args below meth c H locs cells slots Q (F0 m pc ls (.double y :: rest))) : W p l e R s m args below meth c H locs cells slots Q (F0 m pc ls (.double x :: rest)) := by subst h; exact k
end KT
theorem kW.cast {g : GG} {A : Nat → Prop} {s : State} {ws ws' : va_W} {H : Heap} {locs : List Loc} (w : kW g A s ws H locs) (h : ws = ws') : kW g A s ws' H locs := h ▸ w
-- the cells
abbrev xO (a ci : Nat) (fs : List Value) : Nat × va_E := (a, .inr (ci, fs))
abbrev xI (g : GG) (a n : Nat) (f : Nat → Int32) : Nat × va_E := (a, .inl (gI g, n, .inl f))
abbrev xC (g : GG) (a n : Nat) (f : Nat → Int32) : Nat × va_E := (a, .inl (gC g, n, .inl f))
abbrev xQ (g : GG) (a n : Nat) (f : Nat → Option Nat) : Nat × va_E := (a, .inl (gR g, n, .inr (.inr (.inr (.inr f)))))
-- booleans
def bI : Bool → Int32
  | true => 1
  | false => 0
theorem bI_z {b : Bool} : bI b = 0 ↔ b = false := by cases b <;> decide
theorem bI_o {b : Bool} : ¬ bI b = 0 ↔ b = true := by cases b <;> decide
theorem bI_1 {b : Bool} : bI b = nI 1 ↔ b = true := by cases b <;> decide
theorem bI_n1 {b : Bool} : ¬ bI b = nI 1 ↔ b = false := by cases b <;> decide
theorem kz_n (b : Bool) : narrow .boolean (.int (bI b)) = .int (bI b) := by cases b <;> decide +kernel
theorem kz_f (b : Bool) : fits .boolean (.int (bI b)) = true := by cases b <;> decide +kernel
-- comparisons of small numbers
theorem kc_eq_t {a b : Nat} (ha : a < 2147483648) (hb : b < 2147483648) : nI a = nI b ↔ a = b := nI_eq ha hb
theorem kc_eq_f {a b : Nat} (ha : a < 2147483648) (hb : b < 2147483648) : ¬ nI a = nI b ↔ a ≠ b := not_congr (nI_eq ha hb)
theorem kc_ne_t {a b : Nat} (ha : a < 2147483648) (hb : b < 2147483648) : ¬ nI a = nI b ↔ a ≠ b := not_congr (nI_eq ha hb)
theorem kc_ne_f {a b : Nat} (ha : a < 2147483648) (hb : b < 2147483648) : nI a = nI b ↔ a = b := nI_eq ha hb
theorem kc_lt_t {a b : Nat} (ha : a < 2147483648) (hb : b < 2147483648) : nI a < nI b ↔ a < b := nI_ltI ha hb
theorem kc_lt_f {a b : Nat} (ha : a < 2147483648) (hb : b < 2147483648) : ¬ nI a < nI b ↔ a ≥ b := (not_congr (nI_ltI ha hb)).trans (by omega)
theorem kc_ge_t {a b : Nat} (ha : a < 2147483648) (hb : b < 2147483648) : nI b ≤ nI a ↔ a ≥ b := nI_leI hb ha
theorem kc_ge_f {a b : Nat} (ha : a < 2147483648) (hb : b < 2147483648) : ¬ nI b ≤ nI a ↔ a < b := (not_congr (nI_leI hb ha)).trans (by omega)
theorem kc_gt_t {a b : Nat} (ha : a < 2147483648) (hb : b < 2147483648) : nI b < nI a ↔ a > b := nI_ltI hb ha
theorem kc_gt_f {a b : Nat} (ha : a < 2147483648) (hb : b < 2147483648) : ¬ nI b < nI a ↔ a ≤ b := (not_congr (nI_ltI hb ha)).trans (by omega)
theorem kc_le_t {a b : Nat} (ha : a < 2147483648) (hb : b < 2147483648) : nI a ≤ nI b ↔ a ≤ b := nI_leI ha hb
theorem kc_le_f {a b : Nat} (ha : a < 2147483648) (hb : b < 2147483648) : ¬ nI a ≤ nI b ↔ a > b := (not_congr (nI_leI ha hb)).trans (by omega)
theorem kc0_eq_t {a : Nat} (ha : a < 2147483648) : nI a = 0 ↔ a = 0 := by rw [← nI_0]; exact nI_eq ha (by omega)
theorem kc0_eq_f {a : Nat} (ha : a < 2147483648) : ¬ nI a = 0 ↔ a ≠ 0 := not_congr (kc0_eq_t ha)
theorem kc0_ne_t {a : Nat} (ha : a < 2147483648) : ¬ nI a = 0 ↔ a ≠ 0 := not_congr (kc0_eq_t ha)
theorem kc0_ne_f {a : Nat} (ha : a < 2147483648) : nI a = 0 ↔ a = 0 := kc0_eq_t ha
theorem kc0_lt_t {a : Nat} (ha : a < 2147483648) : nI a < 0 ↔ a < 0 := by rw [← nI_0]; exact nI_ltI ha (by omega)
theorem kc0_lt_f {a : Nat} (ha : a < 2147483648) : ¬ nI a < 0 ↔ a ≥ 0 := (not_congr (kc0_lt_t ha)).trans (by omega)
theorem kc0_ge_t {a : Nat} (ha : a < 2147483648) : 0 ≤ nI a ↔ a ≥ 0 := by rw [← nI_0]; exact nI_leI (by omega) ha
theorem kc0_ge_f {a : Nat} (ha : a < 2147483648) : ¬ 0 ≤ nI a ↔ a < 0 := (not_congr (kc0_ge_t ha)).trans (by omega)
theorem kc0_gt_t {a : Nat} (ha : a < 2147483648) : 0 < nI a ↔ a > 0 := by rw [← nI_0]; exact nI_ltI (by omega) ha
theorem kc0_gt_f {a : Nat} (ha : a < 2147483648) : ¬ 0 < nI a ↔ a ≤ 0 := (not_congr (kc0_gt_t ha)).trans (by omega)
theorem kc0_le_t {a : Nat} (ha : a < 2147483648) : nI a ≤ 0 ↔ a ≤ 0 := by rw [← nI_0]; exact nI_leI ha (by omega)
theorem kc0_le_f {a : Nat} (ha : a < 2147483648) : ¬ nI a ≤ 0 ↔ a > 0 := (not_congr (kc0_le_t ha)).trans (by omega)
-- any int against a small one: by its whole number
theorem ki_lt {x y : Int32} : x < y ↔ x.toInt < y.toInt := Int32.lt_iff_toInt_lt
theorem ki_le {x y : Int32} : x ≤ y ↔ x.toInt ≤ y.toInt := Int32.le_iff_toInt_le
theorem ki_n {a : Nat} (h : a < 2147483648) : (nI a).toInt = (a : Int) := nI_toInt h
theorem ki_of {x : Int32} {a b : Nat} (h1 : (a : Int) ≤ x.toInt) (h2 : x.toInt ≤ (b : Int)) : ∃ d : Nat, a ≤ d ∧ d ≤ b ∧ x = nI d := by
  have hx : x.toInt < 2147483648 := x.toInt_lt
  refine ⟨x.toInt.toNat, by omega, by omega, ?_⟩
  rw [← Int32.toInt_inj, nI_toInt (by omega)]
  omega
