/-! ===== the class: where it throws ===== -/
theorem hat_X5_pass_IAE : ∀ w ∈ (at_IAE).filter goodWord, w ∈ wsX5_pass := by decide +kernel
abbrev rmX5_pass_A : Room := { frames := 6, cells := 1, slots := 6, locals := 82 }
set_option maxHeartbeats 4000000 in
set_option maxRecDepth 100000 in
theorem kX5_pass_A (l : Launch) (hnl : l.stackTraces = false) (g : GG) (x : Nat) (n : Int32) (sz : Nat) (hn : ¬ (1 ≤ n.toInt ∧ n.toInt ≤ 48)) : vx_Met l yX5_pass wsX5_pass rmX5_pass_A (va_Pc [.ref x, .int n] (kPre g [] sz)) (va_Qi (fun (_ : Int32) (_ : Unit) => False) (kB g (va_A [] sz) (fun _ => [])) (va_A [] sz)) (vx_X (fun (_ : Unit) => True) (fun E u t => E = eIAE ∧ kB g (va_A [] sz) (fun u => []) u t) (va_A [] sz)) 1 6 (va_A [] sz) := by
  refine kMetX (cc := cX5_pass) (maxL := 2) (ret := (some .int)) (own := RX5) (by decide) rfl rfl (Nat.le_of_ble_eq_true rfl) ?_
  intro p e s m args below meth c ls Q H locs A F w hl hno hA hQ
  have hx := F.1.1
  have hb := F.1.2.1
  have hts := F.1.2.2.2.2
  have hl : lv_has ls 2 [(0, .ref x), (1, .int n)] := hl
  refine lv_iload_n hx hb dX5_pass_0 rfl (lv_at hl 1 rfl) ?_
  refine kcalli (wc := []) (wr := []) (wn := fun (u : Unit) => []) F w [] [] [] rfl rfl rfl (fun _ => rfl)
    (fun hp => va_runS (As := [.int n]) (rest := []) F.1 (kX5_isInRow l g n H.size ) (va_cwS 1 hts gX5_pass_X5_isInRow rfl rfl rfl hd_X5_isInRow ⟨Nat.le_of_ble_eq_true rfl, Nat.le_of_ble_eq_true rfl⟩) hp rfl rfl hl.1 rfl (lv_room (Nat.le_of_ble_eq_true rfl)) dX5_pass_1 ⟨Nat.le_of_ble_eq_true rfl, Nat.le_of_ble_eq_true rfl⟩)
    (fun r_1 _ H locs h_2 w => ?_)
  subst h_2
  refine ktopi (y := bI false) (congrArg bI (decide_eq_false hn)) ?_
  refine lv_if_ne (tgt := 17) hx hb dX5_pass_4 (by decide) (fun h_3 => ?_) (fun h_3 => ?_)
  · have h_3 : false = true := bI_o.mp h_3
    exact absurd h_3 (by simp)
  · have h_3 : false = false := bI_z.mp h_3
    subst hA
    subst hQ
    exact kthrow (nR := 0) (text := "the pass is out of range") hnl F w hl.1 hno fit_1.1 fit_1.2.2.2 (by decide +kernel) (by decide +kernel) (by decide +kernel) (khat_IAE (fun w hw => hts w (hat_X5_pass_IAE w hw))) ot_IAE dX5_pass_7 dX5_pass_10 dX5_pass_11 dX5_pass_13 dX5_pass_16 (Nat.le_of_ble_eq_true rfl) (Nat.le_of_ble_eq_true rfl) (Nat.le_of_ble_eq_true rfl) (Nat.le_of_ble_eq_true rfl) (Nat.le_of_ble_eq_true rfl) () [] rfl rfl trivial (Nat.le_of_ble_eq_true rfl) (Nat.le_of_ble_eq_true rfl)
theorem hat_X5_turnDoor_IAE : ∀ w ∈ (at_IAE).filter goodWord, w ∈ wsX5_turnDoor := by decide +kernel
abbrev rmX5_turnDoor_A : Room := { frames := 6, cells := 1, slots := 6, locals := 82 }
set_option maxHeartbeats 4000000 in
set_option maxRecDepth 100000 in
theorem kX5_turnDoor_A (l : Launch) (hnl : l.stackTraces = false) (g : GG) (x : Nat) (n : Int32) (sz : Nat) (hn : ¬ (1 ≤ n.toInt ∧ n.toInt ≤ 48)) : vx_Met l yX5_turnDoor wsX5_turnDoor rmX5_turnDoor_A (va_Pc [.ref x, .int n] (kPre g [] sz)) (va_Qi (fun (_ : Int32) (_ : Unit) => False) (kB g (va_A [] sz) (fun _ => [])) (va_A [] sz)) (vx_X (fun (_ : Unit) => True) (fun E u t => E = eIAE ∧ kB g (va_A [] sz) (fun u => []) u t) (va_A [] sz)) 1 6 (va_A [] sz) := by
  refine kMetX (cc := cX5_turnDoor) (maxL := 2) (ret := (some .boolean)) (own := RX5) (by decide) rfl rfl (Nat.le_of_ble_eq_true rfl) ?_
  intro p e s m args below meth c ls Q H locs A F w hl hno hA hQ
  have hx := F.1.1
  have hb := F.1.2.1
  have hts := F.1.2.2.2.2
  have hl : lv_has ls 2 [(0, .ref x), (1, .int n)] := hl
  refine lv_iload_n hx hb dX5_turnDoor_0 rfl (lv_at hl 1 rfl) ?_
  refine kcalli (wc := []) (wr := []) (wn := fun (u : Unit) => []) F w [] [] [] rfl rfl rfl (fun _ => rfl)
    (fun hp => va_runS (As := [.int n]) (rest := []) F.1 (kX5_isInRow l g n H.size ) (va_cwS 1 hts gX5_turnDoor_X5_isInRow rfl rfl rfl hd_X5_isInRow ⟨Nat.le_of_ble_eq_true rfl, Nat.le_of_ble_eq_true rfl⟩) hp rfl rfl hl.1 rfl (lv_room (Nat.le_of_ble_eq_true rfl)) dX5_turnDoor_1 ⟨Nat.le_of_ble_eq_true rfl, Nat.le_of_ble_eq_true rfl⟩)
    (fun r_1 _ H locs h_2 w => ?_)
  subst h_2
  refine ktopi (y := bI false) (congrArg bI (decide_eq_false hn)) ?_
  refine lv_if_ne (tgt := 17) hx hb dX5_turnDoor_4 (by decide) (fun h_3 => ?_) (fun h_3 => ?_)
  · have h_3 : false = true := bI_o.mp h_3
    exact absurd h_3 (by simp)
  · have h_3 : false = false := bI_z.mp h_3
    subst hA
    subst hQ
    exact kthrow (nR := 0) (text := "there is no such door") hnl F w hl.1 hno fit_1.1 fit_1.2.2.2 (by decide +kernel) (by decide +kernel) (by decide +kernel) (khat_IAE (fun w hw => hts w (hat_X5_turnDoor_IAE w hw))) ot_IAE dX5_turnDoor_7 dX5_turnDoor_10 dX5_turnDoor_11 dX5_turnDoor_13 dX5_turnDoor_16 (Nat.le_of_ble_eq_true rfl) (Nat.le_of_ble_eq_true rfl) (Nat.le_of_ble_eq_true rfl) (Nat.le_of_ble_eq_true rfl) (Nat.le_of_ble_eq_true rfl) () [] rfl rfl trivial (Nat.le_of_ble_eq_true rfl) (Nat.le_of_ble_eq_true rfl)
theorem hat_X5_turnLock_IAE : ∀ w ∈ (at_IAE).filter goodWord, w ∈ wsX5_turnLock := by decide +kernel
abbrev rmX5_turnLock_A : Room := { frames := 6, cells := 1, slots := 6, locals := 82 }
set_option maxHeartbeats 4000000 in
set_option maxRecDepth 100000 in
theorem kX5_turnLock_A (l : Launch) (hnl : l.stackTraces = false) (g : GG) (x : Nat) (n : Int32) (sz : Nat) (hn : ¬ (1 ≤ n.toInt ∧ n.toInt ≤ 48)) : vx_Met l yX5_turnLock wsX5_turnLock rmX5_turnLock_A (va_Pc [.ref x, .int n] (kPre g [] sz)) (va_Qi (fun (_ : Int32) (_ : Unit) => False) (kB g (va_A [] sz) (fun _ => [])) (va_A [] sz)) (vx_X (fun (_ : Unit) => True) (fun E u t => E = eIAE ∧ kB g (va_A [] sz) (fun u => []) u t) (va_A [] sz)) 1 6 (va_A [] sz) := by
  refine kMetX (cc := cX5_turnLock) (maxL := 2) (ret := (some .boolean)) (own := RX5) (by decide) rfl rfl (Nat.le_of_ble_eq_true rfl) ?_
  intro p e s m args below meth c ls Q H locs A F w hl hno hA hQ
  have hx := F.1.1
  have hb := F.1.2.1
  have hts := F.1.2.2.2.2
  have hl : lv_has ls 2 [(0, .ref x), (1, .int n)] := hl
  refine lv_iload_n hx hb dX5_turnLock_0 rfl (lv_at hl 1 rfl) ?_
  refine kcalli (wc := []) (wr := []) (wn := fun (u : Unit) => []) F w [] [] [] rfl rfl rfl (fun _ => rfl)
    (fun hp => va_runS (As := [.int n]) (rest := []) F.1 (kX5_isInRow l g n H.size ) (va_cwS 1 hts gX5_turnLock_X5_isInRow rfl rfl rfl hd_X5_isInRow ⟨Nat.le_of_ble_eq_true rfl, Nat.le_of_ble_eq_true rfl⟩) hp rfl rfl hl.1 rfl (lv_room (Nat.le_of_ble_eq_true rfl)) dX5_turnLock_1 ⟨Nat.le_of_ble_eq_true rfl, Nat.le_of_ble_eq_true rfl⟩)
    (fun r_1 _ H locs h_2 w => ?_)
  subst h_2
  refine ktopi (y := bI false) (congrArg bI (decide_eq_false hn)) ?_
  refine lv_if_ne (tgt := 17) hx hb dX5_turnLock_4 (by decide) (fun h_3 => ?_) (fun h_3 => ?_)
  · have h_3 : false = true := bI_o.mp h_3
    exact absurd h_3 (by simp)
  · have h_3 : false = false := bI_z.mp h_3
    subst hA
    subst hQ
    exact kthrow (nR := 0) (text := "there is no such door") hnl F w hl.1 hno fit_1.1 fit_1.2.2.2 (by decide +kernel) (by decide +kernel) (by decide +kernel) (khat_IAE (fun w hw => hts w (hat_X5_turnLock_IAE w hw))) ot_IAE dX5_turnLock_7 dX5_turnLock_10 dX5_turnLock_11 dX5_turnLock_13 dX5_turnLock_16 (Nat.le_of_ble_eq_true rfl) (Nat.le_of_ble_eq_true rfl) (Nat.le_of_ble_eq_true rfl) (Nat.le_of_ble_eq_true rfl) (Nat.le_of_ble_eq_true rfl) () [] rfl rfl trivial (Nat.le_of_ble_eq_true rfl) (Nat.le_of_ble_eq_true rfl)
theorem hat_X5_turnSkip_IAE : ∀ w ∈ (at_IAE).filter goodWord, w ∈ wsX5_turnSkip := by decide +kernel
abbrev rmX5_turnSkip_A : Room := { frames := 6, cells := 1, slots := 6, locals := 82 }
set_option maxHeartbeats 4000000 in
set_option maxRecDepth 100000 in
theorem kX5_turnSkip_A (l : Launch) (hnl : l.stackTraces = false) (g : GG) (x : Nat) (n : Int32) (sz : Nat) (hn : ¬ (1 ≤ n.toInt ∧ n.toInt ≤ 48)) : vx_Met l yX5_turnSkip wsX5_turnSkip rmX5_turnSkip_A (va_Pc [.ref x, .int n] (kPre g [] sz)) (va_Qi (fun (_ : Int32) (_ : Unit) => False) (kB g (va_A [] sz) (fun _ => [])) (va_A [] sz)) (vx_X (fun (_ : Unit) => True) (fun E u t => E = eIAE ∧ kB g (va_A [] sz) (fun u => []) u t) (va_A [] sz)) 1 6 (va_A [] sz) := by
  refine kMetX (cc := cX5_turnSkip) (maxL := 2) (ret := (some .boolean)) (own := RX5) (by decide) rfl rfl (Nat.le_of_ble_eq_true rfl) ?_
  intro p e s m args below meth c ls Q H locs A F w hl hno hA hQ
  have hx := F.1.1
  have hb := F.1.2.1
  have hts := F.1.2.2.2.2
  have hl : lv_has ls 2 [(0, .ref x), (1, .int n)] := hl
  refine lv_iload_n hx hb dX5_turnSkip_0 rfl (lv_at hl 1 rfl) ?_
  refine kcalli (wc := []) (wr := []) (wn := fun (u : Unit) => []) F w [] [] [] rfl rfl rfl (fun _ => rfl)
    (fun hp => va_runS (As := [.int n]) (rest := []) F.1 (kX5_isInRow l g n H.size ) (va_cwS 1 hts gX5_turnSkip_X5_isInRow rfl rfl rfl hd_X5_isInRow ⟨Nat.le_of_ble_eq_true rfl, Nat.le_of_ble_eq_true rfl⟩) hp rfl rfl hl.1 rfl (lv_room (Nat.le_of_ble_eq_true rfl)) dX5_turnSkip_1 ⟨Nat.le_of_ble_eq_true rfl, Nat.le_of_ble_eq_true rfl⟩)
    (fun r_1 _ H locs h_2 w => ?_)
  subst h_2
  refine ktopi (y := bI false) (congrArg bI (decide_eq_false hn)) ?_
  refine lv_if_ne (tgt := 17) hx hb dX5_turnSkip_4 (by decide) (fun h_3 => ?_) (fun h_3 => ?_)
  · have h_3 : false = true := bI_o.mp h_3
    exact absurd h_3 (by simp)
  · have h_3 : false = false := bI_z.mp h_3
    subst hA
    subst hQ
    exact kthrow (nR := 0) (text := "the pass is out of range") hnl F w hl.1 hno fit_1.1 fit_1.2.2.2 (by decide +kernel) (by decide +kernel) (by decide +kernel) (khat_IAE (fun w hw => hts w (hat_X5_turnSkip_IAE w hw))) ot_IAE dX5_turnSkip_7 dX5_turnSkip_10 dX5_turnSkip_11 dX5_turnSkip_13 dX5_turnSkip_16 (Nat.le_of_ble_eq_true rfl) (Nat.le_of_ble_eq_true rfl) (Nat.le_of_ble_eq_true rfl) (Nat.le_of_ble_eq_true rfl) (Nat.le_of_ble_eq_true rfl) () [] rfl rfl trivial (Nat.le_of_ble_eq_true rfl) (Nat.le_of_ble_eq_true rfl)
theorem hat_X5_takeOut_IAE : ∀ w ∈ (at_IAE).filter goodWord, w ∈ wsX5_takeOut := by decide +kernel
abbrev rmX5_takeOut_A : Room := { frames := 6, cells := 1, slots := 6, locals := 82 }
set_option maxHeartbeats 4000000 in
set_option maxRecDepth 100000 in
theorem kX5_takeOut_A (l : Launch) (hnl : l.stackTraces = false) (g : GG) (x : Nat) (n : Int32) (sz : Nat) (hn : ¬ (1 ≤ n.toInt ∧ n.toInt ≤ 48)) : vx_Met l yX5_takeOut wsX5_takeOut rmX5_takeOut_A (va_Pc [.ref x, .int n] (kPre g [] sz)) (va_Qi (fun (_ : Int32) (_ : Unit) => False) (kB g (va_A [] sz) (fun _ => [])) (va_A [] sz)) (vx_X (fun (_ : Unit) => True) (fun E u t => E = eIAE ∧ kB g (va_A [] sz) (fun u => []) u t) (va_A [] sz)) 1 6 (va_A [] sz) := by
  refine kMetX (cc := cX5_takeOut) (maxL := 3) (ret := (some .int)) (own := RX5) (by decide) rfl rfl (Nat.le_of_ble_eq_true rfl) ?_
  intro p e s m args below meth c ls Q H locs A F w hl hno hA hQ
  have hx := F.1.1
  have hb := F.1.2.1
  have hts := F.1.2.2.2.2
  have hl : lv_has ls 3 [(0, .ref x), (1, .int n)] := hl
  refine lv_iload_n hx hb dX5_takeOut_0 rfl (lv_at hl 1 rfl) ?_
  refine kcalli (wc := []) (wr := []) (wn := fun (u : Unit) => []) F w [] [] [] rfl rfl rfl (fun _ => rfl)
    (fun hp => va_runS (As := [.int n]) (rest := []) F.1 (kX5_isInRow l g n H.size ) (va_cwS 1 hts gX5_takeOut_X5_isInRow rfl rfl rfl hd_X5_isInRow ⟨Nat.le_of_ble_eq_true rfl, Nat.le_of_ble_eq_true rfl⟩) hp rfl rfl hl.1 rfl (lv_room (Nat.le_of_ble_eq_true rfl)) dX5_takeOut_1 ⟨Nat.le_of_ble_eq_true rfl, Nat.le_of_ble_eq_true rfl⟩)
    (fun r_1 _ H locs h_2 w => ?_)
  subst h_2
  refine ktopi (y := bI false) (congrArg bI (decide_eq_false hn)) ?_
  refine lv_if_ne (tgt := 17) hx hb dX5_takeOut_4 (by decide) (fun h_3 => ?_) (fun h_3 => ?_)
  · have h_3 : false = true := bI_o.mp h_3
    exact absurd h_3 (by simp)
  · have h_3 : false = false := bI_z.mp h_3
    subst hA
    subst hQ
    exact kthrow (nR := 0) (text := "there is no such door") hnl F w hl.1 hno fit_1.1 fit_1.2.2.2 (by decide +kernel) (by decide +kernel) (by decide +kernel) (khat_IAE (fun w hw => hts w (hat_X5_takeOut_IAE w hw))) ot_IAE dX5_takeOut_7 dX5_takeOut_10 dX5_takeOut_11 dX5_takeOut_13 dX5_takeOut_16 (Nat.le_of_ble_eq_true rfl) (Nat.le_of_ble_eq_true rfl) (Nat.le_of_ble_eq_true rfl) (Nat.le_of_ble_eq_true rfl) (Nat.le_of_ble_eq_true rfl) () [] rfl rfl trivial (Nat.le_of_ble_eq_true rfl) (Nat.le_of_ble_eq_true rfl)
theorem hat_X5_isOpen_IAE : ∀ w ∈ (at_IAE).filter goodWord, w ∈ wsX5_isOpen := by decide +kernel
abbrev rmX5_isOpen_A : Room := { frames := 6, cells := 1, slots := 6, locals := 82 }
set_option maxHeartbeats 4000000 in
set_option maxRecDepth 100000 in
theorem kX5_isOpen_A (l : Launch) (hnl : l.stackTraces = false) (g : GG) (x : Nat) (n : Int32) (sz : Nat) (hn : ¬ (1 ≤ n.toInt ∧ n.toInt ≤ 48)) : vx_Met l yX5_isOpen wsX5_isOpen rmX5_isOpen_A (va_Pc [.ref x, .int n] (kPre g [] sz)) (va_Qi (fun (_ : Int32) (_ : Unit) => False) (kB g (va_A [] sz) (fun _ => [])) (va_A [] sz)) (vx_X (fun (_ : Unit) => True) (fun E u t => E = eIAE ∧ kB g (va_A [] sz) (fun u => []) u t) (va_A [] sz)) 1 6 (va_A [] sz) := by
  refine kMetX (cc := cX5_isOpen) (maxL := 2) (ret := (some .boolean)) (own := RX5) (by decide) rfl rfl (Nat.le_of_ble_eq_true rfl) ?_
  intro p e s m args below meth c ls Q H locs A F w hl hno hA hQ
  have hx := F.1.1
  have hb := F.1.2.1
  have hts := F.1.2.2.2.2
  have hl : lv_has ls 2 [(0, .ref x), (1, .int n)] := hl
  refine lv_iload_n hx hb dX5_isOpen_0 rfl (lv_at hl 1 rfl) ?_
  refine kcalli (wc := []) (wr := []) (wn := fun (u : Unit) => []) F w [] [] [] rfl rfl rfl (fun _ => rfl)
    (fun hp => va_runS (As := [.int n]) (rest := []) F.1 (kX5_isInRow l g n H.size ) (va_cwS 1 hts gX5_isOpen_X5_isInRow rfl rfl rfl hd_X5_isInRow ⟨Nat.le_of_ble_eq_true rfl, Nat.le_of_ble_eq_true rfl⟩) hp rfl rfl hl.1 rfl (lv_room (Nat.le_of_ble_eq_true rfl)) dX5_isOpen_1 ⟨Nat.le_of_ble_eq_true rfl, Nat.le_of_ble_eq_true rfl⟩)
    (fun r_1 _ H locs h_2 w => ?_)
  subst h_2
  refine ktopi (y := bI false) (congrArg bI (decide_eq_false hn)) ?_
  refine lv_if_ne (tgt := 17) hx hb dX5_isOpen_4 (by decide) (fun h_3 => ?_) (fun h_3 => ?_)
  · have h_3 : false = true := bI_o.mp h_3
    exact absurd h_3 (by simp)
  · have h_3 : false = false := bI_z.mp h_3
    subst hA
    subst hQ
    exact kthrow (nR := 0) (text := "there is no such door") hnl F w hl.1 hno fit_1.1 fit_1.2.2.2 (by decide +kernel) (by decide +kernel) (by decide +kernel) (khat_IAE (fun w hw => hts w (hat_X5_isOpen_IAE w hw))) ot_IAE dX5_isOpen_7 dX5_isOpen_10 dX5_isOpen_11 dX5_isOpen_13 dX5_isOpen_16 (Nat.le_of_ble_eq_true rfl) (Nat.le_of_ble_eq_true rfl) (Nat.le_of_ble_eq_true rfl) (Nat.le_of_ble_eq_true rfl) (Nat.le_of_ble_eq_true rfl) () [] rfl rfl trivial (Nat.le_of_ble_eq_true rfl) (Nat.le_of_ble_eq_true rfl)
theorem hat_X5_isLocked_IAE : ∀ w ∈ (at_IAE).filter goodWord, w ∈ wsX5_isLocked := by decide +kernel
abbrev rmX5_isLocked_A : Room := { frames := 6, cells := 1, slots := 6, locals := 82 }
set_option maxHeartbeats 4000000 in
set_option maxRecDepth 100000 in
theorem kX5_isLocked_A (l : Launch) (hnl : l.stackTraces = false) (g : GG) (x : Nat) (n : Int32) (sz : Nat) (hn : ¬ (1 ≤ n.toInt ∧ n.toInt ≤ 48)) : vx_Met l yX5_isLocked wsX5_isLocked rmX5_isLocked_A (va_Pc [.ref x, .int n] (kPre g [] sz)) (va_Qi (fun (_ : Int32) (_ : Unit) => False) (kB g (va_A [] sz) (fun _ => [])) (va_A [] sz)) (vx_X (fun (_ : Unit) => True) (fun E u t => E = eIAE ∧ kB g (va_A [] sz) (fun u => []) u t) (va_A [] sz)) 1 6 (va_A [] sz) := by
  refine kMetX (cc := cX5_isLocked) (maxL := 2) (ret := (some .boolean)) (own := RX5) (by decide) rfl rfl (Nat.le_of_ble_eq_true rfl) ?_
  intro p e s m args below meth c ls Q H locs A F w hl hno hA hQ
  have hx := F.1.1
  have hb := F.1.2.1
  have hts := F.1.2.2.2.2
  have hl : lv_has ls 2 [(0, .ref x), (1, .int n)] := hl
  refine lv_iload_n hx hb dX5_isLocked_0 rfl (lv_at hl 1 rfl) ?_
  refine kcalli (wc := []) (wr := []) (wn := fun (u : Unit) => []) F w [] [] [] rfl rfl rfl (fun _ => rfl)
    (fun hp => va_runS (As := [.int n]) (rest := []) F.1 (kX5_isInRow l g n H.size ) (va_cwS 1 hts gX5_isLocked_X5_isInRow rfl rfl rfl hd_X5_isInRow ⟨Nat.le_of_ble_eq_true rfl, Nat.le_of_ble_eq_true rfl⟩) hp rfl rfl hl.1 rfl (lv_room (Nat.le_of_ble_eq_true rfl)) dX5_isLocked_1 ⟨Nat.le_of_ble_eq_true rfl, Nat.le_of_ble_eq_true rfl⟩)
    (fun r_1 _ H locs h_2 w => ?_)
  subst h_2
  refine ktopi (y := bI false) (congrArg bI (decide_eq_false hn)) ?_
  refine lv_if_ne (tgt := 17) hx hb dX5_isLocked_4 (by decide) (fun h_3 => ?_) (fun h_3 => ?_)
  · have h_3 : false = true := bI_o.mp h_3
    exact absurd h_3 (by simp)
  · have h_3 : false = false := bI_z.mp h_3
    subst hA
    subst hQ
    exact kthrow (nR := 0) (text := "there is no such door") hnl F w hl.1 hno fit_1.1 fit_1.2.2.2 (by decide +kernel) (by decide +kernel) (by decide +kernel) (khat_IAE (fun w hw => hts w (hat_X5_isLocked_IAE w hw))) ot_IAE dX5_isLocked_7 dX5_isLocked_10 dX5_isLocked_11 dX5_isLocked_13 dX5_isLocked_16 (Nat.le_of_ble_eq_true rfl) (Nat.le_of_ble_eq_true rfl) (Nat.le_of_ble_eq_true rfl) (Nat.le_of_ble_eq_true rfl) (Nat.le_of_ble_eq_true rfl) () [] rfl rfl trivial (Nat.le_of_ble_eq_true rfl) (Nat.le_of_ble_eq_true rfl)
theorem hat_X5_turnsOf_IAE : ∀ w ∈ (at_IAE).filter goodWord, w ∈ wsX5_turnsOf := by decide +kernel
abbrev rmX5_turnsOf_A : Room := { frames := 6, cells := 1, slots := 6, locals := 82 }
set_option maxHeartbeats 4000000 in
set_option maxRecDepth 100000 in
theorem kX5_turnsOf_A (l : Launch) (hnl : l.stackTraces = false) (g : GG) (x : Nat) (n : Int32) (sz : Nat) (hn : ¬ (1 ≤ n.toInt ∧ n.toInt ≤ 48)) : vx_Met l yX5_turnsOf wsX5_turnsOf rmX5_turnsOf_A (va_Pc [.ref x, .int n] (kPre g [] sz)) (va_Qi (fun (_ : Int32) (_ : Unit) => False) (kB g (va_A [] sz) (fun _ => [])) (va_A [] sz)) (vx_X (fun (_ : Unit) => True) (fun E u t => E = eIAE ∧ kB g (va_A [] sz) (fun u => []) u t) (va_A [] sz)) 1 6 (va_A [] sz) := by
  refine kMetX (cc := cX5_turnsOf) (maxL := 2) (ret := (some .int)) (own := RX5) (by decide) rfl rfl (Nat.le_of_ble_eq_true rfl) ?_
  intro p e s m args below meth c ls Q H locs A F w hl hno hA hQ
  have hx := F.1.1
  have hb := F.1.2.1
  have hts := F.1.2.2.2.2
  have hl : lv_has ls 2 [(0, .ref x), (1, .int n)] := hl
  refine lv_iload_n hx hb dX5_turnsOf_0 rfl (lv_at hl 1 rfl) ?_
  refine kcalli (wc := []) (wr := []) (wn := fun (u : Unit) => []) F w [] [] [] rfl rfl rfl (fun _ => rfl)
    (fun hp => va_runS (As := [.int n]) (rest := []) F.1 (kX5_isInRow l g n H.size ) (va_cwS 1 hts gX5_turnsOf_X5_isInRow rfl rfl rfl hd_X5_isInRow ⟨Nat.le_of_ble_eq_true rfl, Nat.le_of_ble_eq_true rfl⟩) hp rfl rfl hl.1 rfl (lv_room (Nat.le_of_ble_eq_true rfl)) dX5_turnsOf_1 ⟨Nat.le_of_ble_eq_true rfl, Nat.le_of_ble_eq_true rfl⟩)
    (fun r_1 _ H locs h_2 w => ?_)
  subst h_2
  refine ktopi (y := bI false) (congrArg bI (decide_eq_false hn)) ?_
  refine lv_if_ne (tgt := 17) hx hb dX5_turnsOf_4 (by decide) (fun h_3 => ?_) (fun h_3 => ?_)
  · have h_3 : false = true := bI_o.mp h_3
    exact absurd h_3 (by simp)
  · have h_3 : false = false := bI_z.mp h_3
    subst hA
    subst hQ
    exact kthrow (nR := 0) (text := "there is no such door") hnl F w hl.1 hno fit_1.1 fit_1.2.2.2 (by decide +kernel) (by decide +kernel) (by decide +kernel) (khat_IAE (fun w hw => hts w (hat_X5_turnsOf_IAE w hw))) ot_IAE dX5_turnsOf_7 dX5_turnsOf_10 dX5_turnsOf_11 dX5_turnsOf_13 dX5_turnsOf_16 (Nat.le_of_ble_eq_true rfl) (Nat.le_of_ble_eq_true rfl) (Nat.le_of_ble_eq_true rfl) (Nat.le_of_ble_eq_true rfl) (Nat.le_of_ble_eq_true rfl) () [] rfl rfl trivial (Nat.le_of_ble_eq_true rfl) (Nat.le_of_ble_eq_true rfl)
theorem hat_X5_isSkipped_IAE : ∀ w ∈ (at_IAE).filter goodWord, w ∈ wsX5_isSkipped := by decide +kernel
abbrev rmX5_isSkipped_A : Room := { frames := 6, cells := 1, slots := 6, locals := 82 }
set_option maxHeartbeats 4000000 in
set_option maxRecDepth 100000 in
theorem kX5_isSkipped_A (l : Launch) (hnl : l.stackTraces = false) (g : GG) (x : Nat) (n : Int32) (sz : Nat) (hn : ¬ (1 ≤ n.toInt ∧ n.toInt ≤ 48)) : vx_Met l yX5_isSkipped wsX5_isSkipped rmX5_isSkipped_A (va_Pc [.ref x, .int n] (kPre g [] sz)) (va_Qi (fun (_ : Int32) (_ : Unit) => False) (kB g (va_A [] sz) (fun _ => [])) (va_A [] sz)) (vx_X (fun (_ : Unit) => True) (fun E u t => E = eIAE ∧ kB g (va_A [] sz) (fun u => []) u t) (va_A [] sz)) 1 6 (va_A [] sz) := by
  refine kMetX (cc := cX5_isSkipped) (maxL := 2) (ret := (some .boolean)) (own := RX5) (by decide) rfl rfl (Nat.le_of_ble_eq_true rfl) ?_
  intro p e s m args below meth c ls Q H locs A F w hl hno hA hQ
  have hx := F.1.1
  have hb := F.1.2.1
  have hts := F.1.2.2.2.2
  have hl : lv_has ls 2 [(0, .ref x), (1, .int n)] := hl
  refine lv_iload_n hx hb dX5_isSkipped_0 rfl (lv_at hl 1 rfl) ?_
  refine kcalli (wc := []) (wr := []) (wn := fun (u : Unit) => []) F w [] [] [] rfl rfl rfl (fun _ => rfl)
    (fun hp => va_runS (As := [.int n]) (rest := []) F.1 (kX5_isInRow l g n H.size ) (va_cwS 1 hts gX5_isSkipped_X5_isInRow rfl rfl rfl hd_X5_isInRow ⟨Nat.le_of_ble_eq_true rfl, Nat.le_of_ble_eq_true rfl⟩) hp rfl rfl hl.1 rfl (lv_room (Nat.le_of_ble_eq_true rfl)) dX5_isSkipped_1 ⟨Nat.le_of_ble_eq_true rfl, Nat.le_of_ble_eq_true rfl⟩)
    (fun r_1 _ H locs h_2 w => ?_)
  subst h_2
  refine ktopi (y := bI false) (congrArg bI (decide_eq_false hn)) ?_
  refine lv_if_ne (tgt := 17) hx hb dX5_isSkipped_4 (by decide) (fun h_3 => ?_) (fun h_3 => ?_)
  · have h_3 : false = true := bI_o.mp h_3
    exact absurd h_3 (by simp)
  · have h_3 : false = false := bI_z.mp h_3
    subst hA
    subst hQ
    exact kthrow (nR := 0) (text := "the pass is out of range") hnl F w hl.1 hno fit_1.1 fit_1.2.2.2 (by decide +kernel) (by decide +kernel) (by decide +kernel) (khat_IAE (fun w hw => hts w (hat_X5_isSkipped_IAE w hw))) ot_IAE dX5_isSkipped_7 dX5_isSkipped_10 dX5_isSkipped_11 dX5_isSkipped_13 dX5_isSkipped_16 (Nat.le_of_ble_eq_true rfl) (Nat.le_of_ble_eq_true rfl) (Nat.le_of_ble_eq_true rfl) (Nat.le_of_ble_eq_true rfl) (Nat.le_of_ble_eq_true rfl) () [] rfl rfl trivial (Nat.le_of_ble_eq_true rfl) (Nat.le_of_ble_eq_true rfl)
theorem hat_X5_timesOf_IAE : ∀ w ∈ (at_IAE).filter goodWord, w ∈ wsX5_timesOf := by decide +kernel
abbrev rmX5_timesOf_A : Room := { frames := 6, cells := 1, slots := 6, locals := 82 }
set_option maxHeartbeats 4000000 in
set_option maxRecDepth 100000 in
theorem kX5_timesOf_A (l : Launch) (hnl : l.stackTraces = false) (g : GG) (x : Nat) (n : Int32) (sz : Nat) (hn : ¬ (1 ≤ n.toInt ∧ n.toInt ≤ 48)) : vx_Met l yX5_timesOf wsX5_timesOf rmX5_timesOf_A (va_Pc [.ref x, .int n] (kPre g [] sz)) (va_Qi (fun (_ : Int32) (_ : Unit) => False) (kB g (va_A [] sz) (fun _ => [])) (va_A [] sz)) (vx_X (fun (_ : Unit) => True) (fun E u t => E = eIAE ∧ kB g (va_A [] sz) (fun u => []) u t) (va_A [] sz)) 1 6 (va_A [] sz) := by
  refine kMetX (cc := cX5_timesOf) (maxL := 2) (ret := (some .int)) (own := RX5) (by decide) rfl rfl (Nat.le_of_ble_eq_true rfl) ?_
  intro p e s m args below meth c ls Q H locs A F w hl hno hA hQ
  have hx := F.1.1
  have hb := F.1.2.1
  have hts := F.1.2.2.2.2
  have hl : lv_has ls 2 [(0, .ref x), (1, .int n)] := hl
  refine lv_iload_n hx hb dX5_timesOf_0 rfl (lv_at hl 1 rfl) ?_
  refine kcalli (wc := []) (wr := []) (wn := fun (u : Unit) => []) F w [] [] [] rfl rfl rfl (fun _ => rfl)
    (fun hp => va_runS (As := [.int n]) (rest := []) F.1 (kX5_isInRow l g n H.size ) (va_cwS 1 hts gX5_timesOf_X5_isInRow rfl rfl rfl hd_X5_isInRow ⟨Nat.le_of_ble_eq_true rfl, Nat.le_of_ble_eq_true rfl⟩) hp rfl rfl hl.1 rfl (lv_room (Nat.le_of_ble_eq_true rfl)) dX5_timesOf_1 ⟨Nat.le_of_ble_eq_true rfl, Nat.le_of_ble_eq_true rfl⟩)
    (fun r_1 _ H locs h_2 w => ?_)
  subst h_2
  refine ktopi (y := bI false) (congrArg bI (decide_eq_false hn)) ?_
  refine lv_if_ne (tgt := 17) hx hb dX5_timesOf_4 (by decide) (fun h_3 => ?_) (fun h_3 => ?_)
  · have h_3 : false = true := bI_o.mp h_3
    exact absurd h_3 (by simp)
  · have h_3 : false = false := bI_z.mp h_3
    subst hA
    subst hQ
    exact kthrow (nR := 0) (text := "the pass is out of range") hnl F w hl.1 hno fit_1.1 fit_1.2.2.2 (by decide +kernel) (by decide +kernel) (by decide +kernel) (khat_IAE (fun w hw => hts w (hat_X5_timesOf_IAE w hw))) ot_IAE dX5_timesOf_7 dX5_timesOf_10 dX5_timesOf_11 dX5_timesOf_13 dX5_timesOf_16 (Nat.le_of_ble_eq_true rfl) (Nat.le_of_ble_eq_true rfl) (Nat.le_of_ble_eq_true rfl) (Nat.le_of_ble_eq_true rfl) (Nat.le_of_ble_eq_true rfl) () [] rfl rfl trivial (Nat.le_of_ble_eq_true rfl) (Nat.le_of_ble_eq_true rfl)
theorem hat_X5_divisorsOf_IAE : ∀ w ∈ (at_IAE).filter goodWord, w ∈ wsX5_divisorsOf := by decide +kernel
abbrev rmX5_divisorsOf_A : Room := { frames := 6, cells := 1, slots := 6, locals := 82 }
set_option maxHeartbeats 4000000 in
set_option maxRecDepth 100000 in
theorem kX5_divisorsOf_A (l : Launch) (hnl : l.stackTraces = false) (g : GG) (x : Nat) (n : Int32) (sz : Nat) (hn : ¬ (1 ≤ n.toInt ∧ n.toInt ≤ 48)) : vx_Met l yX5_divisorsOf wsX5_divisorsOf rmX5_divisorsOf_A (va_Pc [.ref x, .int n] (kPre g [] sz)) (va_Qi (fun (_ : Int32) (_ : Unit) => False) (kB g (va_A [] sz) (fun _ => [])) (va_A [] sz)) (vx_X (fun (_ : Unit) => True) (fun E u t => E = eIAE ∧ kB g (va_A [] sz) (fun u => []) u t) (va_A [] sz)) 1 6 (va_A [] sz) := by
  refine kMetX (cc := cX5_divisorsOf) (maxL := 4) (ret := (some .int)) (own := RX5) (by decide) rfl rfl (Nat.le_of_ble_eq_true rfl) ?_
  intro p e s m args below meth c ls Q H locs A F w hl hno hA hQ
  have hx := F.1.1
  have hb := F.1.2.1
  have hts := F.1.2.2.2.2
  have hl : lv_has ls 4 [(0, .ref x), (1, .int n)] := hl
  refine lv_iload_n hx hb dX5_divisorsOf_0 rfl (lv_at hl 1 rfl) ?_
  refine kcalli (wc := []) (wr := []) (wn := fun (u : Unit) => []) F w [] [] [] rfl rfl rfl (fun _ => rfl)
    (fun hp => va_runS (As := [.int n]) (rest := []) F.1 (kX5_isInRow l g n H.size ) (va_cwS 1 hts gX5_divisorsOf_X5_isInRow rfl rfl rfl hd_X5_isInRow ⟨Nat.le_of_ble_eq_true rfl, Nat.le_of_ble_eq_true rfl⟩) hp rfl rfl hl.1 rfl (lv_room (Nat.le_of_ble_eq_true rfl)) dX5_divisorsOf_1 ⟨Nat.le_of_ble_eq_true rfl, Nat.le_of_ble_eq_true rfl⟩)
    (fun r_1 _ H locs h_2 w => ?_)
  subst h_2
  refine ktopi (y := bI false) (congrArg bI (decide_eq_false hn)) ?_
  refine lv_if_ne (tgt := 17) hx hb dX5_divisorsOf_4 (by decide) (fun h_3 => ?_) (fun h_3 => ?_)
  · have h_3 : false = true := bI_o.mp h_3
    exact absurd h_3 (by simp)
  · have h_3 : false = false := bI_z.mp h_3
    subst hA
    subst hQ
    exact kthrow (nR := 0) (text := "the number is out of range") hnl F w hl.1 hno fit_1.1 fit_1.2.2.2 (by decide +kernel) (by decide +kernel) (by decide +kernel) (khat_IAE (fun w hw => hts w (hat_X5_divisorsOf_IAE w hw))) ot_IAE dX5_divisorsOf_7 dX5_divisorsOf_10 dX5_divisorsOf_11 dX5_divisorsOf_13 dX5_divisorsOf_16 (Nat.le_of_ble_eq_true rfl) (Nat.le_of_ble_eq_true rfl) (Nat.le_of_ble_eq_true rfl) (Nat.le_of_ble_eq_true rfl) (Nat.le_of_ble_eq_true rfl) () [] rfl rfl trivial (Nat.le_of_ble_eq_true rfl) (Nat.le_of_ble_eq_true rfl)
theorem hat_X5_nextOpen_IAE : ∀ w ∈ (at_IAE).filter goodWord, w ∈ wsX5_nextOpen := by decide +kernel
abbrev rmX5_nextOpen_A : Room := { frames := 6, cells := 1, slots := 6, locals := 82 }
set_option maxHeartbeats 4000000 in
set_option maxRecDepth 100000 in
theorem kX5_nextOpen_A (l : Launch) (hnl : l.stackTraces = false) (g : GG) (x : Nat) (n : Int32) (sz : Nat) (hn : ¬ (1 ≤ n.toInt ∧ n.toInt ≤ 48)) : vx_Met l yX5_nextOpen wsX5_nextOpen rmX5_nextOpen_A (va_Pc [.ref x, .int n] (kPre g [] sz)) (va_Qi (fun (_ : Int32) (_ : Unit) => False) (kB g (va_A [] sz) (fun _ => [])) (va_A [] sz)) (vx_X (fun (_ : Unit) => True) (fun E u t => E = eIAE ∧ kB g (va_A [] sz) (fun u => []) u t) (va_A [] sz)) 1 6 (va_A [] sz) := by
  refine kMetX (cc := cX5_nextOpen) (maxL := 3) (ret := (some .int)) (own := RX5) (by decide) rfl rfl (Nat.le_of_ble_eq_true rfl) ?_
  intro p e s m args below meth c ls Q H locs A F w hl hno hA hQ
  have hx := F.1.1
  have hb := F.1.2.1
  have hts := F.1.2.2.2.2
  have hl : lv_has ls 3 [(0, .ref x), (1, .int n)] := hl
  refine lv_iload_n hx hb dX5_nextOpen_0 rfl (lv_at hl 1 rfl) ?_
  refine kcalli (wc := []) (wr := []) (wn := fun (u : Unit) => []) F w [] [] [] rfl rfl rfl (fun _ => rfl)
    (fun hp => va_runS (As := [.int n]) (rest := []) F.1 (kX5_isInRow l g n H.size ) (va_cwS 1 hts gX5_nextOpen_X5_isInRow rfl rfl rfl hd_X5_isInRow ⟨Nat.le_of_ble_eq_true rfl, Nat.le_of_ble_eq_true rfl⟩) hp rfl rfl hl.1 rfl (lv_room (Nat.le_of_ble_eq_true rfl)) dX5_nextOpen_1 ⟨Nat.le_of_ble_eq_true rfl, Nat.le_of_ble_eq_true rfl⟩)
    (fun r_1 _ H locs h_2 w => ?_)
  subst h_2
  refine ktopi (y := bI false) (congrArg bI (decide_eq_false hn)) ?_
  refine lv_if_ne (tgt := 17) hx hb dX5_nextOpen_4 (by decide) (fun h_3 => ?_) (fun h_3 => ?_)
  · have h_3 : false = true := bI_o.mp h_3
    exact absurd h_3 (by simp)
  · have h_3 : false = false := bI_z.mp h_3
    subst hA
    subst hQ
    exact kthrow (nR := 0) (text := "there is no such door") hnl F w hl.1 hno fit_1.1 fit_1.2.2.2 (by decide +kernel) (by decide +kernel) (by decide +kernel) (khat_IAE (fun w hw => hts w (hat_X5_nextOpen_IAE w hw))) ot_IAE dX5_nextOpen_7 dX5_nextOpen_10 dX5_nextOpen_11 dX5_nextOpen_13 dX5_nextOpen_16 (Nat.le_of_ble_eq_true rfl) (Nat.le_of_ble_eq_true rfl) (Nat.le_of_ble_eq_true rfl) (Nat.le_of_ble_eq_true rfl) (Nat.le_of_ble_eq_true rfl) () [] rfl rfl trivial (Nat.le_of_ble_eq_true rfl) (Nat.le_of_ble_eq_true rfl)
theorem hat_X5_thingAt_IAE : ∀ w ∈ (at_IAE).filter goodWord, w ∈ wsX5_thingAt := by decide +kernel
abbrev rmX5_thingAt_A : Room := { frames := 6, cells := 1, slots := 6, locals := 82 }
set_option maxHeartbeats 4000000 in
set_option maxRecDepth 100000 in
theorem kX5_thingAt_A (l : Launch) (hnl : l.stackTraces = false) (g : GG) (x : Nat) (n : Int32) (sz : Nat) (hn : ¬ (1 ≤ n.toInt ∧ n.toInt ≤ 48)) : vx_Met l yX5_thingAt wsX5_thingAt rmX5_thingAt_A (va_Pc [.ref x, .int n] (kPre g [] sz)) (va_Qi (fun (_ : Int32) (_ : Unit) => False) (kB g (va_A [] sz) (fun _ => [])) (va_A [] sz)) (vx_X (fun (_ : Unit) => True) (fun E u t => E = eIAE ∧ kB g (va_A [] sz) (fun u => []) u t) (va_A [] sz)) 1 6 (va_A [] sz) := by
  refine kMetX (cc := cX5_thingAt) (maxL := 2) (ret := (some .int)) (own := RX5) (by decide) rfl rfl (Nat.le_of_ble_eq_true rfl) ?_
  intro p e s m args below meth c ls Q H locs A F w hl hno hA hQ
  have hx := F.1.1
  have hb := F.1.2.1
  have hts := F.1.2.2.2.2
  have hl : lv_has ls 2 [(0, .ref x), (1, .int n)] := hl
  refine lv_iload_n hx hb dX5_thingAt_0 rfl (lv_at hl 1 rfl) ?_
  refine kcalli (wc := []) (wr := []) (wn := fun (u : Unit) => []) F w [] [] [] rfl rfl rfl (fun _ => rfl)
    (fun hp => va_runS (As := [.int n]) (rest := []) F.1 (kX5_isInRow l g n H.size ) (va_cwS 1 hts gX5_thingAt_X5_isInRow rfl rfl rfl hd_X5_isInRow ⟨Nat.le_of_ble_eq_true rfl, Nat.le_of_ble_eq_true rfl⟩) hp rfl rfl hl.1 rfl (lv_room (Nat.le_of_ble_eq_true rfl)) dX5_thingAt_1 ⟨Nat.le_of_ble_eq_true rfl, Nat.le_of_ble_eq_true rfl⟩)
    (fun r_1 _ H locs h_2 w => ?_)
  subst h_2
  refine ktopi (y := bI false) (congrArg bI (decide_eq_false hn)) ?_
  refine lv_if_ne (tgt := 17) hx hb dX5_thingAt_4 (by decide) (fun h_3 => ?_) (fun h_3 => ?_)
  · have h_3 : false = true := bI_o.mp h_3
    exact absurd h_3 (by simp)
  · have h_3 : false = false := bI_z.mp h_3
    subst hA
    subst hQ
    exact kthrow (nR := 0) (text := "there is no such door") hnl F w hl.1 hno fit_1.1 fit_1.2.2.2 (by decide +kernel) (by decide +kernel) (by decide +kernel) (khat_IAE (fun w hw => hts w (hat_X5_thingAt_IAE w hw))) ot_IAE dX5_thingAt_7 dX5_thingAt_10 dX5_thingAt_11 dX5_thingAt_13 dX5_thingAt_16 (Nat.le_of_ble_eq_true rfl) (Nat.le_of_ble_eq_true rfl) (Nat.le_of_ble_eq_true rfl) (Nat.le_of_ble_eq_true rfl) (Nat.le_of_ble_eq_true rfl) () [] rfl rfl trivial (Nat.le_of_ble_eq_true rfl) (Nat.le_of_ble_eq_true rfl)
theorem hat_X5_passRow_IAE : ∀ w ∈ (at_IAE).filter goodWord, w ∈ wsX5_passRow := by decide +kernel
abbrev rmX5_passRow_A : Room := { frames := 6, cells := 1, slots := 6, locals := 82 }
set_option maxHeartbeats 4000000 in
set_option maxRecDepth 100000 in
theorem kX5_passRow_A (l : Launch) (hnl : l.stackTraces = false) (g : GG) (x : Nat) (n : Int32) (t : Int32) (sz : Nat) (hn : ¬ (1 ≤ n.toInt ∧ n.toInt ≤ t.toInt ∧ t.toInt ≤ 48)) : vx_Met l yX5_passRow wsX5_passRow rmX5_passRow_A (va_Pc [.ref x, .int n, .int t] (kPre g [] sz)) (va_Qi (fun (_ : Int32) (_ : Unit) => False) (kB g (va_A [] sz) (fun _ => [])) (va_A [] sz)) (vx_X (fun (_ : Unit) => True) (fun E u t => E = eIAE ∧ kB g (va_A [] sz) (fun u => []) u t) (va_A [] sz)) 1 6 (va_A [] sz) := by
  refine kMetX (cc := cX5_passRow) (maxL := 3) (ret := (some .int)) (own := RX5) (by decide) rfl rfl (Nat.le_of_ble_eq_true rfl) ?_
  intro p e s m args below meth c ls Q H locs A F w hl hno hA hQ
  have hx := F.1.1
  have hb := F.1.2.1
  have hts := F.1.2.2.2.2
  have hl : lv_has ls 3 [(0, .ref x), (1, .int n), (2, .int t)] := hl
  refine lv_iload_n hx hb dX5_passRow_0 rfl (lv_at hl 1 rfl) ?_
  refine lv_iload_n hx hb dX5_passRow_1 rfl (lv_at hl 2 rfl) ?_
  refine kcalli (wc := []) (wr := []) (wn := fun (u : Unit) => []) F w [] [] [] rfl rfl rfl (fun _ => rfl)
    (fun hp => va_runS (As := [.int n, .int t]) (rest := []) F.1 (kX5_isStretch l g n t H.size ) (va_cwS 2 hts gX5_passRow_X5_isStretch rfl rfl rfl hd_X5_isStretch ⟨Nat.le_of_ble_eq_true rfl, Nat.le_of_ble_eq_true rfl⟩) hp rfl rfl hl.1 rfl (lv_room (Nat.le_of_ble_eq_true rfl)) dX5_passRow_2 ⟨Nat.le_of_ble_eq_true rfl, Nat.le_of_ble_eq_true rfl⟩)
    (fun r_1 _ H locs h_2 w => ?_)
  subst h_2
  refine ktopi (y := bI false) (congrArg bI (decide_eq_false hn)) ?_
  refine lv_if_ne (tgt := 18) hx hb dX5_passRow_5 (by decide) (fun h_3 => ?_) (fun h_3 => ?_)
  · have h_3 : false = true := bI_o.mp h_3
    exact absurd h_3 (by simp)
  · have h_3 : false = false := bI_z.mp h_3
    subst hA
    subst hQ
    exact kthrow (nR := 0) (text := "the passes are out of range") hnl F w hl.1 hno fit_1.1 fit_1.2.2.2 (by decide +kernel) (by decide +kernel) (by decide +kernel) (khat_IAE (fun w hw => hts w (hat_X5_passRow_IAE w hw))) ot_IAE dX5_passRow_8 dX5_passRow_11 dX5_passRow_12 dX5_passRow_14 dX5_passRow_17 (Nat.le_of_ble_eq_true rfl) (Nat.le_of_ble_eq_true rfl) (Nat.le_of_ble_eq_true rfl) (Nat.le_of_ble_eq_true rfl) (Nat.le_of_ble_eq_true rfl) () [] rfl rfl trivial (Nat.le_of_ble_eq_true rfl) (Nat.le_of_ble_eq_true rfl)
theorem hat_X5_wouldBeOpen_IAE : ∀ w ∈ (at_IAE).filter goodWord, w ∈ wsX5_wouldBeOpen := by decide +kernel
abbrev rmX5_wouldBeOpen_A : Room := { frames := 6, cells := 1, slots := 6, locals := 82 }
set_option maxHeartbeats 4000000 in
set_option maxRecDepth 100000 in
theorem kX5_wouldBeOpen_A (l : Launch) (hnl : l.stackTraces = false) (g : GG) (x : Nat) (n : Int32) (t : Int32) (sz : Nat) (hn : ¬ (1 ≤ n.toInt ∧ n.toInt ≤ t.toInt ∧ t.toInt ≤ 48)) : vx_Met l yX5_wouldBeOpen wsX5_wouldBeOpen rmX5_wouldBeOpen_A (va_Pc [.ref x, .int n, .int t] (kPre g [] sz)) (va_Qi (fun (_ : Int32) (_ : Unit) => False) (kB g (va_A [] sz) (fun _ => [])) (va_A [] sz)) (vx_X (fun (_ : Unit) => True) (fun E u t => E = eIAE ∧ kB g (va_A [] sz) (fun u => []) u t) (va_A [] sz)) 1 6 (va_A [] sz) := by
  refine kMetX (cc := cX5_wouldBeOpen) (maxL := 6) (ret := (some .int)) (own := RX5) (by decide) rfl rfl (Nat.le_of_ble_eq_true rfl) ?_
  intro p e s m args below meth c ls Q H locs A F w hl hno hA hQ
  have hx := F.1.1
  have hb := F.1.2.1
  have hts := F.1.2.2.2.2
  have hl : lv_has ls 6 [(0, .ref x), (1, .int n), (2, .int t)] := hl
  refine lv_iload_n hx hb dX5_wouldBeOpen_0 rfl (lv_at hl 1 rfl) ?_
  refine lv_iload_n hx hb dX5_wouldBeOpen_1 rfl (lv_at hl 2 rfl) ?_
  refine kcalli (wc := []) (wr := []) (wn := fun (u : Unit) => []) F w [] [] [] rfl rfl rfl (fun _ => rfl)
    (fun hp => va_runS (As := [.int n, .int t]) (rest := []) F.1 (kX5_isStretch l g n t H.size ) (va_cwS 2 hts gX5_wouldBeOpen_X5_isStretch rfl rfl rfl hd_X5_isStretch ⟨Nat.le_of_ble_eq_true rfl, Nat.le_of_ble_eq_true rfl⟩) hp rfl rfl hl.1 rfl (lv_room (Nat.le_of_ble_eq_true rfl)) dX5_wouldBeOpen_2 ⟨Nat.le_of_ble_eq_true rfl, Nat.le_of_ble_eq_true rfl⟩)
    (fun r_1 _ H locs h_2 w => ?_)
  subst h_2
  refine ktopi (y := bI false) (congrArg bI (decide_eq_false hn)) ?_
  refine lv_if_ne (tgt := 18) hx hb dX5_wouldBeOpen_5 (by decide) (fun h_3 => ?_) (fun h_3 => ?_)
  · have h_3 : false = true := bI_o.mp h_3
    exact absurd h_3 (by simp)
  · have h_3 : false = false := bI_z.mp h_3
    subst hA
    subst hQ
    exact kthrow (nR := 0) (text := "the passes are out of range") hnl F w hl.1 hno fit_1.1 fit_1.2.2.2 (by decide +kernel) (by decide +kernel) (by decide +kernel) (khat_IAE (fun w hw => hts w (hat_X5_wouldBeOpen_IAE w hw))) ot_IAE dX5_wouldBeOpen_8 dX5_wouldBeOpen_11 dX5_wouldBeOpen_12 dX5_wouldBeOpen_14 dX5_wouldBeOpen_17 (Nat.le_of_ble_eq_true rfl) (Nat.le_of_ble_eq_true rfl) (Nat.le_of_ble_eq_true rfl) (Nat.le_of_ble_eq_true rfl) (Nat.le_of_ble_eq_true rfl) () [] rfl rfl trivial (Nat.le_of_ble_eq_true rfl) (Nat.le_of_ble_eq_true rfl)
theorem hat_X5_store_IAE : ∀ w ∈ (at_IAE).filter goodWord, w ∈ wsX5_store := by decide +kernel
abbrev rmX5_store_A : Room := { frames := 6, cells := 1, slots := 6, locals := 82 }
set_option maxHeartbeats 4000000 in
set_option maxRecDepth 100000 in
theorem kX5_store_A (l : Launch) (hnl : l.stackTraces = false) (g : GG) (x : Nat) (n : Int32) (k : Int32) (sz : Nat) (hn : ¬ ((1 ≤ n.toInt ∧ n.toInt ≤ 48) ∧ (k = 0 ∨ k = 1))) : vx_Met l yX5_store wsX5_store rmX5_store_A (va_Pc [.ref x, .int n, .int k] (kPre g [] sz)) (va_Qi (fun (_ : Int32) (_ : Unit) => False) (kB g (va_A [] sz) (fun _ => [])) (va_A [] sz)) (vx_X (fun (_ : Unit) => True) (fun E u t => E = eIAE ∧ kB g (va_A [] sz) (fun u => []) u t) (va_A [] sz)) 1 6 (va_A [] sz) := by
  refine kMetX (cc := cX5_store) (maxL := 3) (ret := (some .int)) (own := RX5) (by decide) rfl rfl (Nat.le_of_ble_eq_true rfl) ?_
  intro p e s m args below meth c ls Q H locs A F w hl hno hA hQ
  have hx := F.1.1
  have hb := F.1.2.1
  have hts := F.1.2.2.2.2
  have hl : lv_has ls 3 [(0, .ref x), (1, .int n), (2, .int k)] := hl
  rcases (show (1 ≤ n.toInt ∧ n.toInt ≤ 48) ∨ ¬ (1 ≤ n.toInt ∧ n.toInt ≤ 48) from Decidable.em _) with h_1 | h_1
  · skip
    refine lv_iload_n hx hb dX5_store_0 rfl (lv_at hl 1 rfl) ?_
    refine kcalli (wc := []) (wr := []) (wn := fun (u : Unit) => []) F w [] [] [] rfl rfl rfl (fun _ => rfl)
      (fun hp => va_runS (As := [.int n]) (rest := []) F.1 (kX5_isInRow l g n H.size ) (va_cwS 1 hts gX5_store_X5_isInRow rfl rfl rfl hd_X5_isInRow ⟨Nat.le_of_ble_eq_true rfl, Nat.le_of_ble_eq_true rfl⟩) hp rfl rfl hl.1 rfl (lv_room (Nat.le_of_ble_eq_true rfl)) dX5_store_1 ⟨Nat.le_of_ble_eq_true rfl, Nat.le_of_ble_eq_true rfl⟩)
      (fun r_2 _ H locs h_3 w => ?_)
    subst h_3
    refine ktopi (y := bI true) (congrArg bI (decide_eq_true h_1)) ?_
    refine lv_if_eq (tgt := 14) hx hb dX5_store_4 (by decide) (fun h_4 => ?_) (fun h_4 => ?_)
    · have h_4 : true = false := bI_z.mp h_4
      exact absurd h_4 (by simp)
    · have h_4 : true = true := bI_o.mp h_4
      refine lv_iload_n hx hb dX5_store_7 rfl (lv_at hl 2 rfl) ?_
      refine kcalli (wc := []) (wr := []) (wn := fun (u : Unit) => []) F w [] [] [] rfl rfl rfl (fun _ => rfl)
        (fun hp => va_runS (As := [.int k]) (rest := []) F.1 (kX5_isKind l g k H.size ) (va_cwS 1 hts gX5_store_X5_isKind rfl rfl rfl hd_X5_isKind ⟨Nat.le_of_ble_eq_true rfl, Nat.le_of_ble_eq_true rfl⟩) hp rfl rfl hl.1 rfl (lv_room (Nat.le_of_ble_eq_true rfl)) dX5_store_8 ⟨Nat.le_of_ble_eq_true rfl, Nat.le_of_ble_eq_true rfl⟩)
        (fun r_5 _ H locs h_6 w => ?_)
      subst h_6
      refine ktopi (y := bI false) (congrArg bI (decide_eq_false (fun hk => hn ⟨h_1, hk⟩))) ?_
      refine lv_if_ne (tgt := 24) hx hb dX5_store_11 (by decide) (fun h_7 => ?_) (fun h_7 => ?_)
      · have h_7 : false = true := bI_o.mp h_7
        exact absurd h_7 (by simp)
      · have h_7 : false = false := bI_z.mp h_7
        subst hA
        subst hQ
        exact kthrow (nR := 0) (text := "there is no such door or no such kind") hnl F w hl.1 hno fit_1.1 fit_1.2.2.2 (by decide +kernel) (by decide +kernel) (by decide +kernel) (khat_IAE (fun w hw => hts w (hat_X5_store_IAE w hw))) ot_IAE dX5_store_14 dX5_store_17 dX5_store_18 dX5_store_20 dX5_store_23 (Nat.le_of_ble_eq_true rfl) (Nat.le_of_ble_eq_true rfl) (Nat.le_of_ble_eq_true rfl) (Nat.le_of_ble_eq_true rfl) (Nat.le_of_ble_eq_true rfl) () [] rfl rfl trivial (Nat.le_of_ble_eq_true rfl) (Nat.le_of_ble_eq_true rfl)
  · skip
    refine lv_iload_n hx hb dX5_store_0 rfl (lv_at hl 1 rfl) ?_
    refine kcalli (wc := []) (wr := []) (wn := fun (u : Unit) => []) F w [] [] [] rfl rfl rfl (fun _ => rfl)
      (fun hp => va_runS (As := [.int n]) (rest := []) F.1 (kX5_isInRow l g n H.size ) (va_cwS 1 hts gX5_store_X5_isInRow rfl rfl rfl hd_X5_isInRow ⟨Nat.le_of_ble_eq_true rfl, Nat.le_of_ble_eq_true rfl⟩) hp rfl rfl hl.1 rfl (lv_room (Nat.le_of_ble_eq_true rfl)) dX5_store_1 ⟨Nat.le_of_ble_eq_true rfl, Nat.le_of_ble_eq_true rfl⟩)
      (fun r_8 _ H locs h_9 w => ?_)
    subst h_9
    refine ktopi (y := bI false) (congrArg bI (decide_eq_false h_1)) ?_
    refine lv_if_eq (tgt := 14) hx hb dX5_store_4 (by decide) (fun h_10 => ?_) (fun h_10 => ?_)
    · have h_10 : false = false := bI_z.mp h_10
      subst hA
      subst hQ
      exact kthrow (nR := 0) (text := "there is no such door or no such kind") hnl F w hl.1 hno fit_1.1 fit_1.2.2.2 (by decide +kernel) (by decide +kernel) (by decide +kernel) (khat_IAE (fun w hw => hts w (hat_X5_store_IAE w hw))) ot_IAE dX5_store_14 dX5_store_17 dX5_store_18 dX5_store_20 dX5_store_23 (Nat.le_of_ble_eq_true rfl) (Nat.le_of_ble_eq_true rfl) (Nat.le_of_ble_eq_true rfl) (Nat.le_of_ble_eq_true rfl) (Nat.le_of_ble_eq_true rfl) () [] rfl rfl trivial (Nat.le_of_ble_eq_true rfl) (Nat.le_of_ble_eq_true rfl)
    · have h_10 : false = true := bI_o.mp h_10
      exact absurd h_10 (by simp)
theorem hat_X5_whyNot_IAE : ∀ w ∈ (at_IAE).filter goodWord, w ∈ wsX5_whyNot := by decide +kernel
abbrev rmX5_whyNot_A : Room := { frames := 6, cells := 1, slots := 6, locals := 82 }
set_option maxHeartbeats 4000000 in
set_option maxRecDepth 100000 in
theorem kX5_whyNot_A (l : Launch) (hnl : l.stackTraces = false) (g : GG) (x : Nat) (n : Int32) (k : Int32) (sz : Nat) (hn : ¬ ((1 ≤ n.toInt ∧ n.toInt ≤ 48) ∧ (k = 0 ∨ k = 1))) : vx_Met l yX5_whyNot wsX5_whyNot rmX5_whyNot_A (va_Pc [.ref x, .int n, .int k] (kPre g [] sz)) (va_Qi (fun (_ : Int32) (_ : Unit) => False) (kB g (va_A [] sz) (fun _ => [])) (va_A [] sz)) (vx_X (fun (_ : Unit) => True) (fun E u t => E = eIAE ∧ kB g (va_A [] sz) (fun u => []) u t) (va_A [] sz)) 1 6 (va_A [] sz) := by
  refine kMetX (cc := cX5_whyNot) (maxL := 3) (ret := (some .int)) (own := RX5) (by decide) rfl rfl (Nat.le_of_ble_eq_true rfl) ?_
  intro p e s m args below meth c ls Q H locs A F w hl hno hA hQ
  have hx := F.1.1
  have hb := F.1.2.1
  have hts := F.1.2.2.2.2
  have hl : lv_has ls 3 [(0, .ref x), (1, .int n), (2, .int k)] := hl
  rcases (show (1 ≤ n.toInt ∧ n.toInt ≤ 48) ∨ ¬ (1 ≤ n.toInt ∧ n.toInt ≤ 48) from Decidable.em _) with h_1 | h_1
  · skip
    refine lv_iload_n hx hb dX5_whyNot_0 rfl (lv_at hl 1 rfl) ?_
    refine kcalli (wc := []) (wr := []) (wn := fun (u : Unit) => []) F w [] [] [] rfl rfl rfl (fun _ => rfl)
      (fun hp => va_runS (As := [.int n]) (rest := []) F.1 (kX5_isInRow l g n H.size ) (va_cwS 1 hts gX5_whyNot_X5_isInRow rfl rfl rfl hd_X5_isInRow ⟨Nat.le_of_ble_eq_true rfl, Nat.le_of_ble_eq_true rfl⟩) hp rfl rfl hl.1 rfl (lv_room (Nat.le_of_ble_eq_true rfl)) dX5_whyNot_1 ⟨Nat.le_of_ble_eq_true rfl, Nat.le_of_ble_eq_true rfl⟩)
      (fun r_2 _ H locs h_3 w => ?_)
    subst h_3
    refine ktopi (y := bI true) (congrArg bI (decide_eq_true h_1)) ?_
    refine lv_if_eq (tgt := 14) hx hb dX5_whyNot_4 (by decide) (fun h_4 => ?_) (fun h_4 => ?_)
    · have h_4 : true = false := bI_z.mp h_4
      exact absurd h_4 (by simp)
    · have h_4 : true = true := bI_o.mp h_4
      refine lv_iload_n hx hb dX5_whyNot_7 rfl (lv_at hl 2 rfl) ?_
      refine kcalli (wc := []) (wr := []) (wn := fun (u : Unit) => []) F w [] [] [] rfl rfl rfl (fun _ => rfl)
        (fun hp => va_runS (As := [.int k]) (rest := []) F.1 (kX5_isKind l g k H.size ) (va_cwS 1 hts gX5_whyNot_X5_isKind rfl rfl rfl hd_X5_isKind ⟨Nat.le_of_ble_eq_true rfl, Nat.le_of_ble_eq_true rfl⟩) hp rfl rfl hl.1 rfl (lv_room (Nat.le_of_ble_eq_true rfl)) dX5_whyNot_8 ⟨Nat.le_of_ble_eq_true rfl, Nat.le_of_ble_eq_true rfl⟩)
        (fun r_5 _ H locs h_6 w => ?_)
      subst h_6
      refine ktopi (y := bI false) (congrArg bI (decide_eq_false (fun hk => hn ⟨h_1, hk⟩))) ?_
      refine lv_if_ne (tgt := 24) hx hb dX5_whyNot_11 (by decide) (fun h_7 => ?_) (fun h_7 => ?_)
      · have h_7 : false = true := bI_o.mp h_7
        exact absurd h_7 (by simp)
      · have h_7 : false = false := bI_z.mp h_7
        subst hA
        subst hQ
        exact kthrow (nR := 0) (text := "there is no such door or no such kind") hnl F w hl.1 hno fit_1.1 fit_1.2.2.2 (by decide +kernel) (by decide +kernel) (by decide +kernel) (khat_IAE (fun w hw => hts w (hat_X5_whyNot_IAE w hw))) ot_IAE dX5_whyNot_14 dX5_whyNot_17 dX5_whyNot_18 dX5_whyNot_20 dX5_whyNot_23 (Nat.le_of_ble_eq_true rfl) (Nat.le_of_ble_eq_true rfl) (Nat.le_of_ble_eq_true rfl) (Nat.le_of_ble_eq_true rfl) (Nat.le_of_ble_eq_true rfl) () [] rfl rfl trivial (Nat.le_of_ble_eq_true rfl) (Nat.le_of_ble_eq_true rfl)
  · skip
    refine lv_iload_n hx hb dX5_whyNot_0 rfl (lv_at hl 1 rfl) ?_
    refine kcalli (wc := []) (wr := []) (wn := fun (u : Unit) => []) F w [] [] [] rfl rfl rfl (fun _ => rfl)
      (fun hp => va_runS (As := [.int n]) (rest := []) F.1 (kX5_isInRow l g n H.size ) (va_cwS 1 hts gX5_whyNot_X5_isInRow rfl rfl rfl hd_X5_isInRow ⟨Nat.le_of_ble_eq_true rfl, Nat.le_of_ble_eq_true rfl⟩) hp rfl rfl hl.1 rfl (lv_room (Nat.le_of_ble_eq_true rfl)) dX5_whyNot_1 ⟨Nat.le_of_ble_eq_true rfl, Nat.le_of_ble_eq_true rfl⟩)
      (fun r_8 _ H locs h_9 w => ?_)
    subst h_9
    refine ktopi (y := bI false) (congrArg bI (decide_eq_false h_1)) ?_
    refine lv_if_eq (tgt := 14) hx hb dX5_whyNot_4 (by decide) (fun h_10 => ?_) (fun h_10 => ?_)
    · have h_10 : false = false := bI_z.mp h_10
      subst hA
      subst hQ
      exact kthrow (nR := 0) (text := "there is no such door or no such kind") hnl F w hl.1 hno fit_1.1 fit_1.2.2.2 (by decide +kernel) (by decide +kernel) (by decide +kernel) (khat_IAE (fun w hw => hts w (hat_X5_whyNot_IAE w hw))) ot_IAE dX5_whyNot_14 dX5_whyNot_17 dX5_whyNot_18 dX5_whyNot_20 dX5_whyNot_23 (Nat.le_of_ble_eq_true rfl) (Nat.le_of_ble_eq_true rfl) (Nat.le_of_ble_eq_true rfl) (Nat.le_of_ble_eq_true rfl) (Nat.le_of_ble_eq_true rfl) () [] rfl rfl trivial (Nat.le_of_ble_eq_true rfl) (Nat.le_of_ble_eq_true rfl)
    · have h_10 : false = true := bI_o.mp h_10
      exact absurd h_10 (by simp)
theorem hat_X5_thingsOf_IAE : ∀ w ∈ (at_IAE).filter goodWord, w ∈ wsX5_thingsOf := by decide +kernel
abbrev rmX5_thingsOf_A : Room := { frames := 6, cells := 1, slots := 6, locals := 82 }
set_option maxHeartbeats 4000000 in
set_option maxRecDepth 100000 in
theorem kX5_thingsOf_A (l : Launch) (hnl : l.stackTraces = false) (g : GG) (x : Nat) (k : Int32) (sz : Nat) (hk9 : ¬ (k = 0 ∨ k = 1)) : vx_Met l yX5_thingsOf wsX5_thingsOf rmX5_thingsOf_A (va_Pc [.ref x, .int k] (kPre g [] sz)) (va_Qi (fun (_ : Int32) (_ : Unit) => False) (kB g (va_A [] sz) (fun _ => [])) (va_A [] sz)) (vx_X (fun (_ : Unit) => True) (fun E u t => E = eIAE ∧ kB g (va_A [] sz) (fun u => []) u t) (va_A [] sz)) 1 6 (va_A [] sz) := by
  refine kMetX (cc := cX5_thingsOf) (maxL := 2) (ret := (some .int)) (own := RX5) (by decide) rfl rfl (Nat.le_of_ble_eq_true rfl) ?_
  intro p e s m args below meth c ls Q H locs A F w hl hno hA hQ
  have hx := F.1.1
  have hb := F.1.2.1
  have hts := F.1.2.2.2.2
  have hl : lv_has ls 2 [(0, .ref x), (1, .int k)] := hl
  refine lv_iload_n hx hb dX5_thingsOf_0 rfl (lv_at hl 1 rfl) ?_
  refine kcalli (wc := []) (wr := []) (wn := fun (u : Unit) => []) F w [] [] [] rfl rfl rfl (fun _ => rfl)
    (fun hp => va_runS (As := [.int k]) (rest := []) F.1 (kX5_isKind l g k H.size ) (va_cwS 1 hts gX5_thingsOf_X5_isKind rfl rfl rfl hd_X5_isKind ⟨Nat.le_of_ble_eq_true rfl, Nat.le_of_ble_eq_true rfl⟩) hp rfl rfl hl.1 rfl (lv_room (Nat.le_of_ble_eq_true rfl)) dX5_thingsOf_1 ⟨Nat.le_of_ble_eq_true rfl, Nat.le_of_ble_eq_true rfl⟩)
    (fun r_1 _ H locs h_2 w => ?_)
  subst h_2
  refine ktopi (y := bI false) (congrArg bI (decide_eq_false hk9)) ?_
  refine lv_if_ne (tgt := 17) hx hb dX5_thingsOf_4 (by decide) (fun h_3 => ?_) (fun h_3 => ?_)
  · have h_3 : false = true := bI_o.mp h_3
    exact absurd h_3 (by simp)
  · have h_3 : false = false := bI_z.mp h_3
    subst hA
    subst hQ
    exact kthrow (nR := 0) (text := "there is no such kind") hnl F w hl.1 hno fit_1.1 fit_1.2.2.2 (by decide +kernel) (by decide +kernel) (by decide +kernel) (khat_IAE (fun w hw => hts w (hat_X5_thingsOf_IAE w hw))) ot_IAE dX5_thingsOf_7 dX5_thingsOf_10 dX5_thingsOf_11 dX5_thingsOf_13 dX5_thingsOf_16 (Nat.le_of_ble_eq_true rfl) (Nat.le_of_ble_eq_true rfl) (Nat.le_of_ble_eq_true rfl) (Nat.le_of_ble_eq_true rfl) (Nat.le_of_ble_eq_true rfl) () [] rfl rfl trivial (Nat.le_of_ble_eq_true rfl) (Nat.le_of_ble_eq_true rfl)
theorem hat_X5_type_IAE : ∀ w ∈ (at_IAE).filter goodWord, w ∈ wsX5_type := by decide +kernel
abbrev rmX5_type_A : Room := { frames := 6, cells := 1, slots := 6, locals := 82 }
set_option maxHeartbeats 4000000 in
set_option maxRecDepth 100000 in
theorem kX5_type_A (l : Launch) (hnl : l.stackTraces = false) (g : GG) (x : Nat) (n : Int32) (sz : Nat) (hn : ¬ (32 ≤ n.toInt ∧ n.toInt ≤ 126)) : vx_Met l yX5_type wsX5_type rmX5_type_A (va_Pc [.ref x, .int n] (kPre g [] sz)) (va_Qi (fun (_ : Int32) (_ : Unit) => False) (kB g (va_A [] sz) (fun _ => [])) (va_A [] sz)) (vx_X (fun (_ : Unit) => True) (fun E u t => E = eIAE ∧ kB g (va_A [] sz) (fun u => []) u t) (va_A [] sz)) 1 6 (va_A [] sz) := by
  refine kMetX (cc := cX5_type) (maxL := 2) (ret := (some .int)) (own := RX5) (by decide) rfl rfl (Nat.le_of_ble_eq_true rfl) ?_
  intro p e s m args below meth c ls Q H locs A F w hl hno hA hQ
  have hx := F.1.1
  have hb := F.1.2.1
  have hts := F.1.2.2.2.2
  have hl : lv_has ls 2 [(0, .ref x), (1, .int n)] := hl
  refine lv_iload_n hx hb dX5_type_0 rfl (lv_at hl 1 rfl) ?_
  refine lv_bipush (v := nI 32) hx hb dX5_type_1 (by decide) ?_
  refine lv_icmp_lt (tgt := 12) hx hb dX5_type_3 (by decide) (fun h_1 => ?_) (fun h_1 => ?_)
  · subst hA
    subst hQ
    exact kthrow (nR := 0) (text := "the character is out of range") hnl F w hl.1 hno fit_1.1 fit_1.2.2.2 (by decide +kernel) (by decide +kernel) (by decide +kernel) (khat_IAE (fun w hw => hts w (hat_X5_type_IAE w hw))) ot_IAE dX5_type_12 dX5_type_15 dX5_type_16 dX5_type_18 dX5_type_21 (Nat.le_of_ble_eq_true rfl) (Nat.le_of_ble_eq_true rfl) (Nat.le_of_ble_eq_true rfl) (Nat.le_of_ble_eq_true rfl) (Nat.le_of_ble_eq_true rfl) () [] rfl rfl trivial (Nat.le_of_ble_eq_true rfl) (Nat.le_of_ble_eq_true rfl)
  · refine lv_iload_n hx hb dX5_type_6 rfl (lv_at hl 1 rfl) ?_
    refine lv_bipush (v := nI 126) hx hb dX5_type_7 (by decide) ?_
    refine lv_icmp_le (tgt := 22) hx hb dX5_type_9 (by decide) (fun h_2 => ?_) (fun h_2 => ?_)
    · simp only [ki_lt, ki_le, ki_n (show 32 < 2147483648 by omega), ki_n (show 126 < 2147483648 by omega)] at h_1 h_2
      omega
    · subst hA
      subst hQ
      exact kthrow (nR := 0) (text := "the character is out of range") hnl F w hl.1 hno fit_1.1 fit_1.2.2.2 (by decide +kernel) (by decide +kernel) (by decide +kernel) (khat_IAE (fun w hw => hts w (hat_X5_type_IAE w hw))) ot_IAE dX5_type_12 dX5_type_15 dX5_type_16 dX5_type_18 dX5_type_21 (Nat.le_of_ble_eq_true rfl) (Nat.le_of_ble_eq_true rfl) (Nat.le_of_ble_eq_true rfl) (Nat.le_of_ble_eq_true rfl) (Nat.le_of_ble_eq_true rfl) () [] rfl rfl trivial (Nat.le_of_ble_eq_true rfl) (Nat.le_of_ble_eq_true rfl)
theorem hat_X5_turnDoor_ISE : ∀ w ∈ (at_ISE).filter goodWord, w ∈ wsX5_turnDoor := by decide +kernel
abbrev rmX5_turnDoor_S : Room := { frames := 6, cells := 1, slots := 6, locals := 82 }
set_option maxHeartbeats 4000000 in
set_option maxRecDepth 100000 in
theorem kX5_turnDoor_S (l : Launch) (hnl : l.stackTraces = false) (g : GG) (x : Nat) (nw : Nat) (sn : Nat) (tk : Bool) (hs : Nat) (tx : Nat) (tr : Nat) (na : Nat) (nb : Nat) (σ : Sg) (d : Nat) (sz : Nat) (hd : 1 ≤ d ∧ d ≤ 48) (hl9 : zL σ d = true) : vx_Met l yX5_turnDoor wsX5_turnDoor rmX5_turnDoor_S (va_Pc [.ref x, .int (nI d)] (kPre g [cX x nw sn tk hs tx tr, cR nw na nb σ, xI g na 49 (zT σ), xI g nb 49 (zI σ)] sz)) (va_Qi (fun (_ : Int32) (_ : Unit) => False) (kB g (va_A [cX x nw sn tk hs tx tr, cR nw na nb σ, xI g na 49 (zT σ), xI g nb 49 (zI σ)] sz) (fun _ => [cX x nw sn tk hs tx tr, cR nw na nb σ, xI g na 49 (zT σ), xI g nb 49 (zI σ)])) (va_A [cX x nw sn tk hs tx tr, cR nw na nb σ, xI g na 49 (zT σ), xI g nb 49 (zI σ)] sz)) (vx_X (fun (_ : Unit) => True) (fun E u t => E = eISE ∧ kB g (va_A [cX x nw sn tk hs tx tr, cR nw na nb σ, xI g na 49 (zT σ), xI g nb 49 (zI σ)] sz) (fun u => [cX x nw sn tk hs tx tr, cR nw na nb σ, xI g na 49 (zT σ), xI g nb 49 (zI σ)]) u t) (va_A [cX x nw sn tk hs tx tr, cR nw na nb σ, xI g na 49 (zT σ), xI g nb 49 (zI σ)] sz)) 1 6 (va_A [cX x nw sn tk hs tx tr, cR nw na nb σ, xI g na 49 (zT σ), xI g nb 49 (zI σ)] sz) := by
  refine kMetX (cc := cX5_turnDoor) (maxL := 2) (ret := (some .boolean)) (own := RX5) (by decide) rfl rfl (Nat.le_of_ble_eq_true rfl) ?_
  intro p e s m args below meth c ls Q H locs A F w hl hno hA hQ
  have hx := F.1.1
  have hb := F.1.2.1
  have hts := F.1.2.2.2.2
  have hl : lv_has ls 2 [(0, .ref x), (1, .int (nI d))] := hl
  refine lv_iload_n hx hb dX5_turnDoor_0 rfl (lv_at hl 1 rfl) ?_
  refine kcalli (wc := []) (wr := [cX x nw sn tk hs tx tr, cR nw na nb σ, xI g na 49 (zT σ), xI g nb 49 (zI σ)]) (wn := fun (u : Unit) => [cX x nw sn tk hs tx tr, cR nw na nb σ, xI g na 49 (zT σ), xI g nb 49 (zI σ)]) F w [] [0, 1, 2, 3] [0, 1, 2, 3] rfl rfl rfl (fun _ => rfl)
    (fun hp => va_runS (As := [.int (nI d)]) (rest := []) F.1 (kX5_isInRow l g (nI d) H.size ) (va_cwS 1 hts gX5_turnDoor_X5_isInRow rfl rfl rfl hd_X5_isInRow ⟨Nat.le_of_ble_eq_true rfl, Nat.le_of_ble_eq_true rfl⟩) hp rfl rfl hl.1 rfl (lv_room (Nat.le_of_ble_eq_true rfl)) dX5_turnDoor_1 ⟨Nat.le_of_ble_eq_true rfl, Nat.le_of_ble_eq_true rfl⟩)
    (fun r_1 _ H locs h_2 w => ?_)
  subst h_2
  refine ktopi (y := bI true) (congrArg bI (door_t hd)) ?_
  refine lv_if_ne (tgt := 17) hx hb dX5_turnDoor_4 (by decide) (fun h_3 => ?_) (fun h_3 => ?_)
  · have h_3 : true = true := bI_o.mp h_3
    refine lv_aload_n hx hb dX5_turnDoor_17 rfl (lv_at hl 0 rfl) ?_
    refine kget (fs := [.ref nw, .ref sn, .int (bI tk), .ref hs, .ref tx, .ref tr]) F w in_X5_turnDoor_X5 0 rfl rfl 0 (by decide) (by decide +kernel) rfl rfl dX5_turnDoor_18 ?_
    refine kgetN (host := RX5) (fs := [.long (zB (zO σ)), .long (zB (zL σ)), .long (zB (zS σ)), .long (zB (zF σ)), .long (zB (zV σ)), .ref na, .ref nb]) F w in_X5_turnDoor_X2 1 rfl rfl 1 (by decide) (by decide +kernel) rfl rfl dX5_turnDoor_21 ?_
    refine lv_iload_n hx hb dX5_turnDoor_24 rfl (lv_at hl 1 rfl) ?_
    refine kcalli (wc := []) (wr := [cX x nw sn tk hs tx tr, cR nw na nb σ, xI g na 49 (zT σ), xI g nb 49 (zI σ)]) (wn := fun (u : Unit) => [cX x nw sn tk hs tx tr, cR nw na nb σ, xI g na 49 (zT σ), xI g nb 49 (zI σ)]) F w [] [0, 1, 2, 3] [0, 1, 2, 3] rfl rfl rfl (fun _ => rfl)
      (fun hp => va_runS (As := [.long (zB (zL σ)), .int (nI d)]) (rest := []) F.1 (kX5_contains l g (zB (zL σ)) d H.size (by omega)) (va_cwS 2 hts gX5_turnDoor_X5_contains rfl rfl rfl hd_X5_contains ⟨Nat.le_of_ble_eq_true rfl, Nat.le_of_ble_eq_true rfl⟩) hp rfl rfl hl.1 rfl (lv_room (Nat.le_of_ble_eq_true rfl)) dX5_turnDoor_25 ⟨Nat.le_of_ble_eq_true rfl, Nat.le_of_ble_eq_true rfl⟩)
      (fun r_4 _ H locs h_5 w => ?_)
    subst h_5
    refine ktopi (y := bI (zL σ d)) (congrArg bI (zG_in (by omega) (by omega))) ?_
    refine ktopi (y := bI true) (congrArg bI hl9) ?_
    refine lv_if_eq (tgt := 41) hx hb dX5_turnDoor_28 (by decide) (fun h_6 => ?_) (fun h_6 => ?_)
    · have h_6 : true = false := bI_z.mp h_6
      exact absurd h_6 (by simp)
    · have h_6 : true = true := bI_o.mp h_6
      subst hA
      subst hQ
      exact kthrow (nR := 0) (text := "the door is locked") hnl F w hl.1 hno fit_1.2.1 fit_1.2.2.2 (by decide +kernel) (by decide +kernel) (by decide +kernel) (khat_ISE (fun w hw => hts w (hat_X5_turnDoor_ISE w hw))) ot_ISE dX5_turnDoor_31 dX5_turnDoor_34 dX5_turnDoor_35 dX5_turnDoor_37 dX5_turnDoor_40 (Nat.le_of_ble_eq_true rfl) (Nat.le_of_ble_eq_true rfl) (Nat.le_of_ble_eq_true rfl) (Nat.le_of_ble_eq_true rfl) (Nat.le_of_ble_eq_true rfl) () [0, 1, 2, 3] rfl rfl trivial (Nat.le_of_ble_eq_true rfl) (Nat.le_of_ble_eq_true rfl)
  · have h_3 : true = false := bI_z.mp h_3
    exact absurd h_3 (by simp)
theorem hat_X5_store_ISE : ∀ w ∈ (at_ISE).filter goodWord, w ∈ wsX5_store := by decide +kernel
abbrev rmX5_store_S : Room := { frames := 6, cells := 1, slots := 6, locals := 82 }
set_option maxHeartbeats 4000000 in
set_option maxRecDepth 100000 in
theorem kX5_store_S (l : Launch) (hnl : l.stackTraces = false) (g : GG) (x : Nat) (nw : Nat) (sn : Nat) (tk : Bool) (hs : Nat) (tx : Nat) (tr : Nat) (na : Nat) (nb : Nat) (σ : Sg) (d : Nat) (kd : Bool) (sz : Nat) (hd : 1 ≤ d ∧ d ≤ 48) (hr9 : reasZ σ d kd ≠ 0) : vx_Met l yX5_store wsX5_store rmX5_store_S (va_Pc [.ref x, .int (nI d), .int (bI kd)] (kPre g [cX x nw sn tk hs tx tr, cR nw na nb σ, xI g na 49 (zT σ), xI g nb 49 (zI σ)] sz)) (va_Qi (fun (_ : Int32) (_ : Unit) => False) (kB g (va_A [cX x nw sn tk hs tx tr, cR nw na nb σ, xI g na 49 (zT σ), xI g nb 49 (zI σ)] sz) (fun _ => [cX x nw sn tk hs tx tr, cR nw na nb σ, xI g na 49 (zT σ), xI g nb 49 (zI σ)])) (va_A [cX x nw sn tk hs tx tr, cR nw na nb σ, xI g na 49 (zT σ), xI g nb 49 (zI σ)] sz)) (vx_X (fun (_ : Unit) => True) (fun E u t => E = eISE ∧ kB g (va_A [cX x nw sn tk hs tx tr, cR nw na nb σ, xI g na 49 (zT σ), xI g nb 49 (zI σ)] sz) (fun u => [cX x nw sn tk hs tx tr, cR nw na nb σ, xI g na 49 (zT σ), xI g nb 49 (zI σ)]) u t) (va_A [cX x nw sn tk hs tx tr, cR nw na nb σ, xI g na 49 (zT σ), xI g nb 49 (zI σ)] sz)) 1 6 (va_A [cX x nw sn tk hs tx tr, cR nw na nb σ, xI g na 49 (zT σ), xI g nb 49 (zI σ)] sz) := by
  refine kMetX (cc := cX5_store) (maxL := 3) (ret := (some .int)) (own := RX5) (by decide) rfl rfl (Nat.le_of_ble_eq_true rfl) ?_
  intro p e s m args below meth c ls Q H locs A F w hl hno hA hQ
  have hx := F.1.1
  have hb := F.1.2.1
  have hts := F.1.2.2.2.2
  have hl : lv_has ls 3 [(0, .ref x), (1, .int (nI d)), (2, .int (bI kd))] := hl
  refine lv_iload_n hx hb dX5_store_0 rfl (lv_at hl 1 rfl) ?_
  refine kcalli (wc := []) (wr := [cX x nw sn tk hs tx tr, cR nw na nb σ, xI g na 49 (zT σ), xI g nb 49 (zI σ)]) (wn := fun (u : Unit) => [cX x nw sn tk hs tx tr, cR nw na nb σ, xI g na 49 (zT σ), xI g nb 49 (zI σ)]) F w [] [0, 1, 2, 3] [0, 1, 2, 3] rfl rfl rfl (fun _ => rfl)
    (fun hp => va_runS (As := [.int (nI d)]) (rest := []) F.1 (kX5_isInRow l g (nI d) H.size ) (va_cwS 1 hts gX5_store_X5_isInRow rfl rfl rfl hd_X5_isInRow ⟨Nat.le_of_ble_eq_true rfl, Nat.le_of_ble_eq_true rfl⟩) hp rfl rfl hl.1 rfl (lv_room (Nat.le_of_ble_eq_true rfl)) dX5_store_1 ⟨Nat.le_of_ble_eq_true rfl, Nat.le_of_ble_eq_true rfl⟩)
    (fun r_1 _ H locs h_2 w => ?_)
  subst h_2
  refine ktopi (y := bI true) (congrArg bI (door_t hd)) ?_
  refine lv_if_eq (tgt := 14) hx hb dX5_store_4 (by decide) (fun h_3 => ?_) (fun h_3 => ?_)
  · have h_3 : true = false := bI_z.mp h_3
    exact absurd h_3 (by simp)
  · have h_3 : true = true := bI_o.mp h_3
    refine lv_iload_n hx hb dX5_store_7 rfl (lv_at hl 2 rfl) ?_
    refine kcalli (wc := []) (wr := [cX x nw sn tk hs tx tr, cR nw na nb σ, xI g na 49 (zT σ), xI g nb 49 (zI σ)]) (wn := fun (u : Unit) => [cX x nw sn tk hs tx tr, cR nw na nb σ, xI g na 49 (zT σ), xI g nb 49 (zI σ)]) F w [] [0, 1, 2, 3] [0, 1, 2, 3] rfl rfl rfl (fun _ => rfl)
      (fun hp => va_runS (As := [.int (bI kd)]) (rest := []) F.1 (kX5_isKind l g (bI kd) H.size ) (va_cwS 1 hts gX5_store_X5_isKind rfl rfl rfl hd_X5_isKind ⟨Nat.le_of_ble_eq_true rfl, Nat.le_of_ble_eq_true rfl⟩) hp rfl rfl hl.1 rfl (lv_room (Nat.le_of_ble_eq_true rfl)) dX5_store_8 ⟨Nat.le_of_ble_eq_true rfl, Nat.le_of_ble_eq_true rfl⟩)
      (fun r_4 _ H locs h_5 w => ?_)
    subst h_5
    refine ktopi (y := bI true) (congrArg bI (kind_b kd)) ?_
    refine lv_if_ne (tgt := 24) hx hb dX5_store_11 (by decide) (fun h_6 => ?_) (fun h_6 => ?_)
    · have h_6 : true = true := bI_o.mp h_6
      have hr4 := reasZ_le σ d kd
      refine lv_aload_n hx hb dX5_store_24 rfl (lv_at hl 0 rfl) ?_
      refine kget (fs := [.ref nw, .ref sn, .int (bI tk), .ref hs, .ref tx, .ref tr]) F w in_X5_store_X5 0 rfl rfl 0 (by decide) (by decide +kernel) rfl rfl dX5_store_25 ?_
      refine lv_iload_n hx hb dX5_store_28 rfl (lv_at hl 1 rfl) ?_
      refine lv_iload_n hx hb dX5_store_29 rfl (lv_at hl 2 rfl) ?_
      refine kcalli (wc := [cR nw na nb σ, xI g na 49 (zT σ), xI g nb 49 (zI σ)]) (wr := [cX x nw sn tk hs tx tr]) (wn := fun (u : Unit) => [cX x nw sn tk hs tx tr, cR nw na nb σ, xI g na 49 (zT σ), xI g nb 49 (zI σ)]) F w [1, 2, 3] [0] [0, 1, 2, 3] rfl rfl rfl (fun _ => rfl)
        (fun hp => va_runV (As := [.int (nI d), .int (bI kd)]) (rest := []) F.1 (kX2_reasonAgainst l g nw na nb σ d kd H.size (by omega)) (cwV 2 hts gX5_store_X2_reasonAgainst rfl rfl rfl ⟨rfl, hd_X2_reasonAgainst⟩ ⟨Nat.le_of_ble_eq_true rfl, Nat.le_of_ble_eq_true rfl⟩) ⟨hp.1, va_recv F.2.2.2.1.1 w.1 (q0 := 1) (ci := 2) rfl rfl, hp.2⟩ rfl rfl hl.1 rfl (lv_room (Nat.le_of_ble_eq_true rfl)) dX5_store_30 ⟨Nat.le_of_ble_eq_true rfl, Nat.le_of_ble_eq_true rfl⟩)
        (fun r_7 _ H locs h_8 w => ?_)
      subst h_8
      refine lv_if_eq (tgt := 46) hx hb dX5_store_33 (by decide) (fun h_9 => ?_) (fun h_9 => ?_)
      · have h_9 : reasZ σ d kd = 0 := (kc0_eq_t (by omega)).mp h_9
        exact absurd h_9 hr9
      · have h_9 : reasZ σ d kd ≠ 0 := (kc0_eq_f (by omega)).mp h_9
        subst hA
        subst hQ
        exact kthrow (nR := 0) (text := "the thing is not stored") hnl F w hl.1 hno fit_1.2.1 fit_1.2.2.2 (by decide +kernel) (by decide +kernel) (by decide +kernel) (khat_ISE (fun w hw => hts w (hat_X5_store_ISE w hw))) ot_ISE dX5_store_36 dX5_store_39 dX5_store_40 dX5_store_42 dX5_store_45 (Nat.le_of_ble_eq_true rfl) (Nat.le_of_ble_eq_true rfl) (Nat.le_of_ble_eq_true rfl) (Nat.le_of_ble_eq_true rfl) (Nat.le_of_ble_eq_true rfl) () [0, 1, 2, 3] rfl rfl trivial (Nat.le_of_ble_eq_true rfl) (Nat.le_of_ble_eq_true rfl)
    · have h_6 : true = false := bI_z.mp h_6
      exact absurd h_6 (by simp)
theorem hat_X5_takeOut_ISE : ∀ w ∈ (at_ISE).filter goodWord, w ∈ wsX5_takeOut := by decide +kernel
abbrev rmX5_takeOut_S : Room := { frames := 6, cells := 1, slots := 6, locals := 82 }
set_option maxHeartbeats 4000000 in
set_option maxRecDepth 100000 in
theorem kX5_takeOut_S (l : Launch) (hnl : l.stackTraces = false) (g : GG) (x : Nat) (nw : Nat) (sn : Nat) (tk : Bool) (hs : Nat) (tx : Nat) (tr : Nat) (na : Nat) (nb : Nat) (σ : Sg) (d : Nat) (sz : Nat) (hd : 1 ≤ d ∧ d ≤ 48) (hs9 : zO σ d = false ∨ zF σ d = false) : vx_Met l yX5_takeOut wsX5_takeOut rmX5_takeOut_S (va_Pc [.ref x, .int (nI d)] (kPre g [cX x nw sn tk hs tx tr, cR nw na nb σ, xI g na 49 (zT σ), xI g nb 49 (zI σ)] sz)) (va_Qi (fun (_ : Int32) (_ : Unit) => False) (kB g (va_A [cX x nw sn tk hs tx tr, cR nw na nb σ, xI g na 49 (zT σ), xI g nb 49 (zI σ)] sz) (fun _ => [cX x nw sn tk hs tx tr, cR nw na nb σ, xI g na 49 (zT σ), xI g nb 49 (zI σ)])) (va_A [cX x nw sn tk hs tx tr, cR nw na nb σ, xI g na 49 (zT σ), xI g nb 49 (zI σ)] sz)) (vx_X (fun (_ : Unit) => True) (fun E u t => E = eISE ∧ kB g (va_A [cX x nw sn tk hs tx tr, cR nw na nb σ, xI g na 49 (zT σ), xI g nb 49 (zI σ)] sz) (fun u => [cX x nw sn tk hs tx tr, cR nw na nb σ, xI g na 49 (zT σ), xI g nb 49 (zI σ)]) u t) (va_A [cX x nw sn tk hs tx tr, cR nw na nb σ, xI g na 49 (zT σ), xI g nb 49 (zI σ)] sz)) 1 6 (va_A [cX x nw sn tk hs tx tr, cR nw na nb σ, xI g na 49 (zT σ), xI g nb 49 (zI σ)] sz) := by
  refine kMetX (cc := cX5_takeOut) (maxL := 3) (ret := (some .int)) (own := RX5) (by decide) rfl rfl (Nat.le_of_ble_eq_true rfl) ?_
  intro p e s m args below meth c ls Q H locs A F w hl hno hA hQ
  have hx := F.1.1
  have hb := F.1.2.1
  have hts := F.1.2.2.2.2
  have hl : lv_has ls 3 [(0, .ref x), (1, .int (nI d))] := hl
  refine lv_iload_n hx hb dX5_takeOut_0 rfl (lv_at hl 1 rfl) ?_
  refine kcalli (wc := []) (wr := [cX x nw sn tk hs tx tr, cR nw na nb σ, xI g na 49 (zT σ), xI g nb 49 (zI σ)]) (wn := fun (u : Unit) => [cX x nw sn tk hs tx tr, cR nw na nb σ, xI g na 49 (zT σ), xI g nb 49 (zI σ)]) F w [] [0, 1, 2, 3] [0, 1, 2, 3] rfl rfl rfl (fun _ => rfl)
    (fun hp => va_runS (As := [.int (nI d)]) (rest := []) F.1 (kX5_isInRow l g (nI d) H.size ) (va_cwS 1 hts gX5_takeOut_X5_isInRow rfl rfl rfl hd_X5_isInRow ⟨Nat.le_of_ble_eq_true rfl, Nat.le_of_ble_eq_true rfl⟩) hp rfl rfl hl.1 rfl (lv_room (Nat.le_of_ble_eq_true rfl)) dX5_takeOut_1 ⟨Nat.le_of_ble_eq_true rfl, Nat.le_of_ble_eq_true rfl⟩)
    (fun r_1 _ H locs h_2 w => ?_)
  subst h_2
  refine ktopi (y := bI true) (congrArg bI (door_t hd)) ?_
  refine lv_if_ne (tgt := 17) hx hb dX5_takeOut_4 (by decide) (fun h_3 => ?_) (fun h_3 => ?_)
  · have h_3 : true = true := bI_o.mp h_3
    rcases (show zO σ d = true ∨ zO σ d = false from by cases zO σ d; exact Or.inr rfl; exact Or.inl rfl) with h_4 | h_4
    · skip
      refine lv_aload_n hx hb dX5_takeOut_17 rfl (lv_at hl 0 rfl) ?_
      refine kget (fs := [.ref nw, .ref sn, .int (bI tk), .ref hs, .ref tx, .ref tr]) F w in_X5_takeOut_X5 0 rfl rfl 0 (by decide) (by decide +kernel) rfl rfl dX5_takeOut_18 ?_
      refine kgetN (host := RX5) (fs := [.long (zB (zO σ)), .long (zB (zL σ)), .long (zB (zS σ)), .long (zB (zF σ)), .long (zB (zV σ)), .ref na, .ref nb]) F w in_X5_takeOut_X2 1 rfl rfl 0 (by decide) (by decide +kernel) rfl rfl dX5_takeOut_21 ?_
      refine lv_iload_n hx hb dX5_takeOut_24 rfl (lv_at hl 1 rfl) ?_
      refine kcalli (wc := []) (wr := [cX x nw sn tk hs tx tr, cR nw na nb σ, xI g na 49 (zT σ), xI g nb 49 (zI σ)]) (wn := fun (u : Unit) => [cX x nw sn tk hs tx tr, cR nw na nb σ, xI g na 49 (zT σ), xI g nb 49 (zI σ)]) F w [] [0, 1, 2, 3] [0, 1, 2, 3] rfl rfl rfl (fun _ => rfl)
        (fun hp => va_runS (As := [.long (zB (zO σ)), .int (nI d)]) (rest := []) F.1 (kX5_contains l g (zB (zO σ)) d H.size (by omega)) (va_cwS 2 hts gX5_takeOut_X5_contains rfl rfl rfl hd_X5_contains ⟨Nat.le_of_ble_eq_true rfl, Nat.le_of_ble_eq_true rfl⟩) hp rfl rfl hl.1 rfl (lv_room (Nat.le_of_ble_eq_true rfl)) dX5_takeOut_25 ⟨Nat.le_of_ble_eq_true rfl, Nat.le_of_ble_eq_true rfl⟩)
        (fun r_5 _ H locs h_6 w => ?_)
      subst h_6
      refine ktopi (y := bI (zO σ d)) (congrArg bI (zG_in (by omega) (by omega))) ?_
      refine ktopi (y := bI true) (congrArg bI h_4) ?_
      refine lv_if_ne (tgt := 41) hx hb dX5_takeOut_28 (by decide) (fun h_7 => ?_) (fun h_7 => ?_)
      · have h_7 : true = true := bI_o.mp h_7
        refine lv_aload_n hx hb dX5_takeOut_41 rfl (lv_at hl 0 rfl) ?_
        refine kget (fs := [.ref nw, .ref sn, .int (bI tk), .ref hs, .ref tx, .ref tr]) F w in_X5_takeOut_X5 0 rfl rfl 0 (by decide) (by decide +kernel) rfl rfl dX5_takeOut_42 ?_
        refine kgetN (host := RX5) (fs := [.long (zB (zO σ)), .long (zB (zL σ)), .long (zB (zS σ)), .long (zB (zF σ)), .long (zB (zV σ)), .ref na, .ref nb]) F w in_X5_takeOut_X2 1 rfl rfl 3 (by decide) (by decide +kernel) rfl rfl dX5_takeOut_45 ?_
        refine lv_iload_n hx hb dX5_takeOut_48 rfl (lv_at hl 1 rfl) ?_
        refine kcalli (wc := []) (wr := [cX x nw sn tk hs tx tr, cR nw na nb σ, xI g na 49 (zT σ), xI g nb 49 (zI σ)]) (wn := fun (u : Unit) => [cX x nw sn tk hs tx tr, cR nw na nb σ, xI g na 49 (zT σ), xI g nb 49 (zI σ)]) F w [] [0, 1, 2, 3] [0, 1, 2, 3] rfl rfl rfl (fun _ => rfl)
          (fun hp => va_runS (As := [.long (zB (zF σ)), .int (nI d)]) (rest := []) F.1 (kX5_contains l g (zB (zF σ)) d H.size (by omega)) (va_cwS 2 hts gX5_takeOut_X5_contains rfl rfl rfl hd_X5_contains ⟨Nat.le_of_ble_eq_true rfl, Nat.le_of_ble_eq_true rfl⟩) hp rfl rfl hl.1 rfl (lv_room (Nat.le_of_ble_eq_true rfl)) dX5_takeOut_49 ⟨Nat.le_of_ble_eq_true rfl, Nat.le_of_ble_eq_true rfl⟩)
          (fun r_8 _ H locs h_9 w => ?_)
        subst h_9
        refine ktopi (y := bI (zF σ d)) (congrArg bI (zG_in (by omega) (by omega))) ?_
        refine ktopi (y := bI false) (congrArg bI (hs9.resolve_left (by rw [h_4]; decide))) ?_
        refine lv_if_ne (tgt := 65) hx hb dX5_takeOut_52 (by decide) (fun h_10 => ?_) (fun h_10 => ?_)
        · have h_10 : false = true := bI_o.mp h_10
          exact absurd h_10 (by simp)
        · have h_10 : false = false := bI_z.mp h_10
          subst hA
          subst hQ
          exact kthrow (nR := 0) (text := "there is no thing behind the door") hnl F w hl.1 hno fit_1.2.1 fit_1.2.2.2 (by decide +kernel) (by decide +kernel) (by decide +kernel) (khat_ISE (fun w hw => hts w (hat_X5_takeOut_ISE w hw))) ot_ISE dX5_takeOut_55 dX5_takeOut_58 dX5_takeOut_59 dX5_takeOut_61 dX5_takeOut_64 (Nat.le_of_ble_eq_true rfl) (Nat.le_of_ble_eq_true rfl) (Nat.le_of_ble_eq_true rfl) (Nat.le_of_ble_eq_true rfl) (Nat.le_of_ble_eq_true rfl) () [0, 1, 2, 3] rfl rfl trivial (Nat.le_of_ble_eq_true rfl) (Nat.le_of_ble_eq_true rfl)
      · have h_7 : true = false := bI_z.mp h_7
        exact absurd h_7 (by simp)
    · skip
      refine lv_aload_n hx hb dX5_takeOut_17 rfl (lv_at hl 0 rfl) ?_
      refine kget (fs := [.ref nw, .ref sn, .int (bI tk), .ref hs, .ref tx, .ref tr]) F w in_X5_takeOut_X5 0 rfl rfl 0 (by decide) (by decide +kernel) rfl rfl dX5_takeOut_18 ?_
      refine kgetN (host := RX5) (fs := [.long (zB (zO σ)), .long (zB (zL σ)), .long (zB (zS σ)), .long (zB (zF σ)), .long (zB (zV σ)), .ref na, .ref nb]) F w in_X5_takeOut_X2 1 rfl rfl 0 (by decide) (by decide +kernel) rfl rfl dX5_takeOut_21 ?_
      refine lv_iload_n hx hb dX5_takeOut_24 rfl (lv_at hl 1 rfl) ?_
      refine kcalli (wc := []) (wr := [cX x nw sn tk hs tx tr, cR nw na nb σ, xI g na 49 (zT σ), xI g nb 49 (zI σ)]) (wn := fun (u : Unit) => [cX x nw sn tk hs tx tr, cR nw na nb σ, xI g na 49 (zT σ), xI g nb 49 (zI σ)]) F w [] [0, 1, 2, 3] [0, 1, 2, 3] rfl rfl rfl (fun _ => rfl)
        (fun hp => va_runS (As := [.long (zB (zO σ)), .int (nI d)]) (rest := []) F.1 (kX5_contains l g (zB (zO σ)) d H.size (by omega)) (va_cwS 2 hts gX5_takeOut_X5_contains rfl rfl rfl hd_X5_contains ⟨Nat.le_of_ble_eq_true rfl, Nat.le_of_ble_eq_true rfl⟩) hp rfl rfl hl.1 rfl (lv_room (Nat.le_of_ble_eq_true rfl)) dX5_takeOut_25 ⟨Nat.le_of_ble_eq_true rfl, Nat.le_of_ble_eq_true rfl⟩)
        (fun r_11 _ H locs h_12 w => ?_)
      subst h_12
      refine ktopi (y := bI (zO σ d)) (congrArg bI (zG_in (by omega) (by omega))) ?_
      refine ktopi (y := bI false) (congrArg bI h_4) ?_
      refine lv_if_ne (tgt := 41) hx hb dX5_takeOut_28 (by decide) (fun h_13 => ?_) (fun h_13 => ?_)
      · have h_13 : false = true := bI_o.mp h_13
        exact absurd h_13 (by simp)
      · have h_13 : false = false := bI_z.mp h_13
        subst hA
        subst hQ
        exact kthrow (nR := 0) (text := "the door is closed") hnl F w hl.1 hno fit_1.2.1 fit_1.2.2.2 (by decide +kernel) (by decide +kernel) (by decide +kernel) (khat_ISE (fun w hw => hts w (hat_X5_takeOut_ISE w hw))) ot_ISE dX5_takeOut_31 dX5_takeOut_34 dX5_takeOut_35 dX5_takeOut_37 dX5_takeOut_40 (Nat.le_of_ble_eq_true rfl) (Nat.le_of_ble_eq_true rfl) (Nat.le_of_ble_eq_true rfl) (Nat.le_of_ble_eq_true rfl) (Nat.le_of_ble_eq_true rfl) () [0, 1, 2, 3] rfl rfl trivial (Nat.le_of_ble_eq_true rfl) (Nat.le_of_ble_eq_true rfl)
  · have h_3 : true = false := bI_z.mp h_3
    exact absurd h_3 (by simp)
theorem hat_X5_goBack_ISE : ∀ w ∈ (at_ISE).filter goodWord, w ∈ wsX5_goBack := by decide +kernel
abbrev rmX5_goBack_S : Room := { frames := 6, cells := 1, slots := 6, locals := 82 }
set_option maxHeartbeats 4000000 in
set_option maxRecDepth 100000 in
theorem kX5_goBack_S (l : Launch) (hnl : l.stackTraces = false) (g : GG) (x : Nat) (nw : Nat) (sn : Nat) (hs : Nat) (tx : Nat) (tr : Nat) (sz : Nat)  : vx_Met l yX5_goBack wsX5_goBack rmX5_goBack_S (va_Pc [.ref x] (kPre g [cX x nw sn false hs tx tr] sz)) (va_Qi (fun (_ : Int32) (_ : Unit) => False) (kB g (va_A [cX x nw sn false hs tx tr] sz) (fun _ => [cX x nw sn false hs tx tr])) (va_A [cX x nw sn false hs tx tr] sz)) (vx_X (fun (_ : Unit) => True) (fun E u t => E = eISE ∧ kB g (va_A [cX x nw sn false hs tx tr] sz) (fun u => [cX x nw sn false hs tx tr]) u t) (va_A [cX x nw sn false hs tx tr] sz)) 1 6 (va_A [cX x nw sn false hs tx tr] sz) := by
  refine kMetX (cc := cX5_goBack) (maxL := 1) (ret := (some .int)) (own := RX5) (by decide) rfl rfl (Nat.le_of_ble_eq_true rfl) ?_
  intro p e s m args below meth c ls Q H locs A F w hl hno hA hQ
  have hx := F.1.1
  have hb := F.1.2.1
  have hts := F.1.2.2.2.2
  have hl : lv_has ls 1 [(0, .ref x)] := hl
  refine lv_aload_n hx hb dX5_goBack_0 rfl (lv_at hl 0 rfl) ?_
  refine kget (fs := [.ref nw, .ref sn, .int (bI false), .ref hs, .ref tx, .ref tr]) F w in_X5_goBack_X5 0 rfl rfl 2 (by decide) (by decide +kernel) rfl rfl dX5_goBack_1 ?_
  refine lv_if_ne (tgt := 17) hx hb dX5_goBack_4 (by decide) (fun h_1 => ?_) (fun h_1 => ?_)
  · have h_1 : false = true := bI_o.mp h_1
    exact absurd h_1 (by simp)
  · have h_1 : false = false := bI_z.mp h_1
    subst hA
    subst hQ
    exact kthrow (nR := 0) (text := "there is no snapshot") hnl F w hl.1 hno fit_1.2.1 fit_1.2.2.2 (by decide +kernel) (by decide +kernel) (by decide +kernel) (khat_ISE (fun w hw => hts w (hat_X5_goBack_ISE w hw))) ot_ISE dX5_goBack_7 dX5_goBack_10 dX5_goBack_11 dX5_goBack_13 dX5_goBack_16 (Nat.le_of_ble_eq_true rfl) (Nat.le_of_ble_eq_true rfl) (Nat.le_of_ble_eq_true rfl) (Nat.le_of_ble_eq_true rfl) (Nat.le_of_ble_eq_true rfl) () [0] rfl rfl trivial (Nat.le_of_ble_eq_true rfl) (Nat.le_of_ble_eq_true rfl)
theorem hat_X5_undo_ISE : ∀ w ∈ (at_ISE).filter goodWord, w ∈ wsX5_undo := by decide +kernel
abbrev rmX5_undo_S : Room := { frames := 6, cells := 1, slots := 6, locals := 82 }
set_option maxHeartbeats 4000000 in
set_option maxRecDepth 100000 in
theorem kX5_undo_S (l : Launch) (hnl : l.stackTraces = false) (g : GG) (x : Nat) (nw : Nat) (sn : Nat) (tk : Bool) (hs : Nat) (tx : Nat) (tr : Nat) (hq : Nat) (sz : Nat)  : vx_Met l yX5_undo wsX5_undo rmX5_undo_S (va_Pc [.ref x] (kPre g [cX x nw sn tk hs tx tr, cH hs hq 0] sz)) (va_Qi (fun (_ : Int32) (_ : Unit) => False) (kB g (va_A [cX x nw sn tk hs tx tr, cH hs hq 0] sz) (fun _ => [cX x nw sn tk hs tx tr, cH hs hq 0])) (va_A [cX x nw sn tk hs tx tr, cH hs hq 0] sz)) (vx_X (fun (_ : Unit) => True) (fun E u t => E = eISE ∧ kB g (va_A [cX x nw sn tk hs tx tr, cH hs hq 0] sz) (fun u => [cX x nw sn tk hs tx tr, cH hs hq 0]) u t) (va_A [cX x nw sn tk hs tx tr, cH hs hq 0] sz)) 1 6 (va_A [cX x nw sn tk hs tx tr, cH hs hq 0] sz) := by
  refine kMetX (cc := cX5_undo) (maxL := 1) (ret := (some .int)) (own := RX5) (by decide) rfl rfl (Nat.le_of_ble_eq_true rfl) ?_
  intro p e s m args below meth c ls Q H locs A F w hl hno hA hQ
  have hx := F.1.1
  have hb := F.1.2.1
  have hts := F.1.2.2.2.2
  have hl : lv_has ls 1 [(0, .ref x)] := hl
  refine lv_aload_n hx hb dX5_undo_0 rfl (lv_at hl 0 rfl) ?_
  refine kget (fs := [.ref nw, .ref sn, .int (bI tk), .ref hs, .ref tx, .ref tr]) F w in_X5_undo_X5 0 rfl rfl 3 (by decide) (by decide +kernel) rfl rfl dX5_undo_1 ?_
  refine kgetN (host := RX5) (fs := [.ref hq, .int (nI 0)]) F w in_X5_undo_X0 1 rfl rfl 1 (by decide) (by decide +kernel) rfl rfl dX5_undo_4 ?_
  refine lv_if_ne (tgt := 20) hx hb dX5_undo_7 (by decide) (fun h_1 => ?_) (fun h_1 => ?_)
  · have h_1 : 0 ≠ 0 := (kc0_ne_t (by omega)).mp h_1
    exact absurd rfl h_1
  · have h_1 : 0 = 0 := (kc0_ne_f (by omega)).mp h_1
    subst hA
    subst hQ
    exact kthrow (nR := 0) (text := "the history is empty") hnl F w hl.1 hno fit_1.2.1 fit_1.2.2.2 (by decide +kernel) (by decide +kernel) (by decide +kernel) (khat_ISE (fun w hw => hts w (hat_X5_undo_ISE w hw))) ot_ISE dX5_undo_10 dX5_undo_13 dX5_undo_14 dX5_undo_16 dX5_undo_19 (Nat.le_of_ble_eq_true rfl) (Nat.le_of_ble_eq_true rfl) (Nat.le_of_ble_eq_true rfl) (Nat.le_of_ble_eq_true rfl) (Nat.le_of_ble_eq_true rfl) () [0, 1] rfl rfl trivial (Nat.le_of_ble_eq_true rfl) (Nat.le_of_ble_eq_true rfl)
theorem hat_X5_type_ISE : ∀ w ∈ (at_ISE).filter goodWord, w ∈ wsX5_type := by decide +kernel
abbrev rmX5_type_S : Room := { frames := 6, cells := 1, slots := 6, locals := 82 }
set_option maxHeartbeats 4000000 in
set_option maxRecDepth 100000 in
theorem kX5_type_S (l : Launch) (hnl : l.stackTraces = false) (g : GG) (x : Nat) (nw : Nat) (sn : Nat) (tk : Bool) (hs : Nat) (tx : Nat) (tr : Nat) (ch : Nat) (k : Nat) (sz : Nat) (hk : 32 ≤ k ∧ k ≤ 126) : vx_Met l yX5_type wsX5_type rmX5_type_S (va_Pc [.ref x, .int (nI k)] (kPre g [cX x nw sn tk hs tx tr, cT tx ch 60] sz)) (va_Qi (fun (_ : Int32) (_ : Unit) => False) (kB g (va_A [cX x nw sn tk hs tx tr, cT tx ch 60] sz) (fun _ => [cX x nw sn tk hs tx tr, cT tx ch 60])) (va_A [cX x nw sn tk hs tx tr, cT tx ch 60] sz)) (vx_X (fun (_ : Unit) => True) (fun E u t => E = eISE ∧ kB g (va_A [cX x nw sn tk hs tx tr, cT tx ch 60] sz) (fun u => [cX x nw sn tk hs tx tr, cT tx ch 60]) u t) (va_A [cX x nw sn tk hs tx tr, cT tx ch 60] sz)) 1 6 (va_A [cX x nw sn tk hs tx tr, cT tx ch 60] sz) := by
  refine kMetX (cc := cX5_type) (maxL := 2) (ret := (some .int)) (own := RX5) (by decide) rfl rfl (Nat.le_of_ble_eq_true rfl) ?_
  intro p e s m args below meth c ls Q H locs A F w hl hno hA hQ
  have hx := F.1.1
  have hb := F.1.2.1
  have hts := F.1.2.2.2.2
  have hl : lv_has ls 2 [(0, .ref x), (1, .int (nI k))] := hl
  refine lv_iload_n hx hb dX5_type_0 rfl (lv_at hl 1 rfl) ?_
  refine lv_bipush (v := nI 32) hx hb dX5_type_1 (by decide) ?_
  refine lv_icmp_lt (tgt := 12) hx hb dX5_type_3 (by decide) (fun h_1 => ?_) (fun h_1 => ?_)
  · have h_1 : k < 32 := (kc_lt_t (by omega) (by omega)).mp h_1
    omega
  · have h_1 : k ≥ 32 := (kc_lt_f (by omega) (by omega)).mp h_1
    refine lv_iload_n hx hb dX5_type_6 rfl (lv_at hl 1 rfl) ?_
    refine lv_bipush (v := nI 126) hx hb dX5_type_7 (by decide) ?_
    refine lv_icmp_le (tgt := 22) hx hb dX5_type_9 (by decide) (fun h_2 => ?_) (fun h_2 => ?_)
    · have h_2 : k ≤ 126 := (kc_le_t (by omega) (by omega)).mp h_2
      refine lv_aload_n hx hb dX5_type_22 rfl (lv_at hl 0 rfl) ?_
      refine kget (fs := [.ref nw, .ref sn, .int (bI tk), .ref hs, .ref tx, .ref tr]) F w in_X5_type_X5 0 rfl rfl 4 (by decide) (by decide +kernel) rfl rfl dX5_type_23 ?_
      refine kgetN (host := RX5) (fs := [.ref ch, .int (nI 60)]) F w in_X5_type_X3 1 rfl rfl 1 (by decide) (by decide +kernel) rfl rfl dX5_type_26 ?_
      refine lv_bipush (v := nI 60) hx hb dX5_type_29 (by decide) ?_
      refine lv_icmp_lt (tgt := 44) hx hb dX5_type_31 (by decide) (fun h_3 => ?_) (fun h_3 => ?_)
      · have h_3 : 60 < 60 := (kc_lt_t (by omega) (by omega)).mp h_3
        omega
      · have h_3 : 60 ≥ 60 := (kc_lt_f (by omega) (by omega)).mp h_3
        subst hA
        subst hQ
        exact kthrow (nR := 0) (text := "the text is full") hnl F w hl.1 hno fit_1.2.1 fit_1.2.2.2 (by decide +kernel) (by decide +kernel) (by decide +kernel) (khat_ISE (fun w hw => hts w (hat_X5_type_ISE w hw))) ot_ISE dX5_type_34 dX5_type_37 dX5_type_38 dX5_type_40 dX5_type_43 (Nat.le_of_ble_eq_true rfl) (Nat.le_of_ble_eq_true rfl) (Nat.le_of_ble_eq_true rfl) (Nat.le_of_ble_eq_true rfl) (Nat.le_of_ble_eq_true rfl) () [0, 1] rfl rfl trivial (Nat.le_of_ble_eq_true rfl) (Nat.le_of_ble_eq_true rfl)
    · have h_2 : k > 126 := (kc_le_f (by omega) (by omega)).mp h_2
      omega
theorem hat_X5_thingAt_NSE : ∀ w ∈ (kat_NSE).filter goodWord, w ∈ wsX5_thingAt := by decide +kernel
abbrev rmX5_thingAt_N : Room := { frames := 6, cells := 1, slots := 6, locals := 82 }
set_option maxHeartbeats 4000000 in
set_option maxRecDepth 100000 in
theorem kX5_thingAt_N (l : Launch) (hnl : l.stackTraces = false) (g : GG) (x : Nat) (nw : Nat) (sn : Nat) (tk : Bool) (hs : Nat) (tx : Nat) (tr : Nat) (na : Nat) (nb : Nat) (σ : Sg) (d : Nat) (sz : Nat) (hd : 1 ≤ d ∧ d ≤ 48) (hf9 : zF σ d = false) : vx_Met l yX5_thingAt wsX5_thingAt rmX5_thingAt_N (va_Pc [.ref x, .int (nI d)] (kPre g [cX x nw sn tk hs tx tr, cR nw na nb σ, xI g na 49 (zT σ), xI g nb 49 (zI σ)] sz)) (va_Qi (fun (_ : Int32) (_ : Unit) => False) (kB g (va_A [cX x nw sn tk hs tx tr, cR nw na nb σ, xI g na 49 (zT σ), xI g nb 49 (zI σ)] sz) (fun _ => [cX x nw sn tk hs tx tr, cR nw na nb σ, xI g na 49 (zT σ), xI g nb 49 (zI σ)])) (va_A [cX x nw sn tk hs tx tr, cR nw na nb σ, xI g na 49 (zT σ), xI g nb 49 (zI σ)] sz)) (vx_X (fun (_ : Unit) => True) (fun E u t => E = eNSE ∧ kB g (va_A [cX x nw sn tk hs tx tr, cR nw na nb σ, xI g na 49 (zT σ), xI g nb 49 (zI σ)] sz) (fun u => [cX x nw sn tk hs tx tr, cR nw na nb σ, xI g na 49 (zT σ), xI g nb 49 (zI σ)]) u t) (va_A [cX x nw sn tk hs tx tr, cR nw na nb σ, xI g na 49 (zT σ), xI g nb 49 (zI σ)] sz)) 1 6 (va_A [cX x nw sn tk hs tx tr, cR nw na nb σ, xI g na 49 (zT σ), xI g nb 49 (zI σ)] sz) := by
  refine kMetX (cc := cX5_thingAt) (maxL := 2) (ret := (some .int)) (own := RX5) (by decide) rfl rfl (Nat.le_of_ble_eq_true rfl) ?_
  intro p e s m args below meth c ls Q H locs A F w hl hno hA hQ
  have hx := F.1.1
  have hb := F.1.2.1
  have hts := F.1.2.2.2.2
  have hl : lv_has ls 2 [(0, .ref x), (1, .int (nI d))] := hl
  refine lv_iload_n hx hb dX5_thingAt_0 rfl (lv_at hl 1 rfl) ?_
  refine kcalli (wc := []) (wr := [cX x nw sn tk hs tx tr, cR nw na nb σ, xI g na 49 (zT σ), xI g nb 49 (zI σ)]) (wn := fun (u : Unit) => [cX x nw sn tk hs tx tr, cR nw na nb σ, xI g na 49 (zT σ), xI g nb 49 (zI σ)]) F w [] [0, 1, 2, 3] [0, 1, 2, 3] rfl rfl rfl (fun _ => rfl)
    (fun hp => va_runS (As := [.int (nI d)]) (rest := []) F.1 (kX5_isInRow l g (nI d) H.size ) (va_cwS 1 hts gX5_thingAt_X5_isInRow rfl rfl rfl hd_X5_isInRow ⟨Nat.le_of_ble_eq_true rfl, Nat.le_of_ble_eq_true rfl⟩) hp rfl rfl hl.1 rfl (lv_room (Nat.le_of_ble_eq_true rfl)) dX5_thingAt_1 ⟨Nat.le_of_ble_eq_true rfl, Nat.le_of_ble_eq_true rfl⟩)
    (fun r_1 _ H locs h_2 w => ?_)
  subst h_2
  refine ktopi (y := bI true) (congrArg bI (door_t hd)) ?_
  refine lv_if_ne (tgt := 17) hx hb dX5_thingAt_4 (by decide) (fun h_3 => ?_) (fun h_3 => ?_)
  · have h_3 : true = true := bI_o.mp h_3
    refine lv_aload_n hx hb dX5_thingAt_17 rfl (lv_at hl 0 rfl) ?_
    refine kget (fs := [.ref nw, .ref sn, .int (bI tk), .ref hs, .ref tx, .ref tr]) F w in_X5_thingAt_X5 0 rfl rfl 0 (by decide) (by decide +kernel) rfl rfl dX5_thingAt_18 ?_
    refine kgetN (host := RX5) (fs := [.long (zB (zO σ)), .long (zB (zL σ)), .long (zB (zS σ)), .long (zB (zF σ)), .long (zB (zV σ)), .ref na, .ref nb]) F w in_X5_thingAt_X2 1 rfl rfl 3 (by decide) (by decide +kernel) rfl rfl dX5_thingAt_21 ?_
    refine lv_iload_n hx hb dX5_thingAt_24 rfl (lv_at hl 1 rfl) ?_
    refine kcalli (wc := []) (wr := [cX x nw sn tk hs tx tr, cR nw na nb σ, xI g na 49 (zT σ), xI g nb 49 (zI σ)]) (wn := fun (u : Unit) => [cX x nw sn tk hs tx tr, cR nw na nb σ, xI g na 49 (zT σ), xI g nb 49 (zI σ)]) F w [] [0, 1, 2, 3] [0, 1, 2, 3] rfl rfl rfl (fun _ => rfl)
      (fun hp => va_runS (As := [.long (zB (zF σ)), .int (nI d)]) (rest := []) F.1 (kX5_contains l g (zB (zF σ)) d H.size (by omega)) (va_cwS 2 hts gX5_thingAt_X5_contains rfl rfl rfl hd_X5_contains ⟨Nat.le_of_ble_eq_true rfl, Nat.le_of_ble_eq_true rfl⟩) hp rfl rfl hl.1 rfl (lv_room (Nat.le_of_ble_eq_true rfl)) dX5_thingAt_25 ⟨Nat.le_of_ble_eq_true rfl, Nat.le_of_ble_eq_true rfl⟩)
      (fun r_4 _ H locs h_5 w => ?_)
    subst h_5
    refine ktopi (y := bI (zF σ d)) (congrArg bI (zG_in (by omega) (by omega))) ?_
    refine ktopi (y := bI false) (congrArg bI hf9) ?_
    refine lv_if_ne (tgt := 41) hx hb dX5_thingAt_28 (by decide) (fun h_6 => ?_) (fun h_6 => ?_)
    · have h_6 : false = true := bI_o.mp h_6
      exact absurd h_6 (by simp)
    · have h_6 : false = false := bI_z.mp h_6
      subst hA
      subst hQ
      exact kthrowN (nR := 0) (text := "there is no thing behind the door") nse_0 nse_1 nse_2 nse_5 hnl F w hl.1 hno fit_1.2.2.1 fit_1.2.2.2 (by decide +kernel) (by decide +kernel) (by decide +kernel) (khat_NSE (fun w hw => hts w (hat_X5_thingAt_NSE w hw))) ot_NSE dX5_thingAt_31 dX5_thingAt_34 dX5_thingAt_35 dX5_thingAt_37 dX5_thingAt_40 (Nat.le_of_ble_eq_true rfl) (Nat.le_of_ble_eq_true rfl) (Nat.le_of_ble_eq_true rfl) (Nat.le_of_ble_eq_true rfl) (Nat.le_of_ble_eq_true rfl) () [0, 1, 2, 3] rfl rfl trivial (Nat.le_of_ble_eq_true rfl) (Nat.le_of_ble_eq_true rfl)
  · have h_3 : true = false := bI_z.mp h_3
    exact absurd h_3 (by simp)
theorem hat_X5_nextOpen_NSE : ∀ w ∈ (kat_NSE).filter goodWord, w ∈ wsX5_nextOpen := by decide +kernel
abbrev rmX5_nextOpen_N : Room := { frames := 6, cells := 1, slots := 6, locals := 82 }
set_option maxHeartbeats 4000000 in
set_option maxRecDepth 100000 in
theorem kX5_nextOpen_N (l : Launch) (hnl : l.stackTraces = false) (g : GG) (x : Nat) (nw : Nat) (sn : Nat) (tk : Bool) (hs : Nat) (tx : Nat) (tr : Nat) (na : Nat) (nb : Nat) (σ : Sg) (d : Nat) (sz : Nat) (hd : 1 ≤ d ∧ d ≤ 48) (he2 : ∀ j, d ≤ j → j < 49 → zO σ j = false) : vx_Met l yX5_nextOpen wsX5_nextOpen rmX5_nextOpen_N (va_Pc [.ref x, .int (nI d)] (kPre g [cX x nw sn tk hs tx tr, cR nw na nb σ, xI g na 49 (zT σ), xI g nb 49 (zI σ)] sz)) (va_Qi (fun (_ : Int32) (_ : Unit) => False) (kB g (va_A [cX x nw sn tk hs tx tr, cR nw na nb σ, xI g na 49 (zT σ), xI g nb 49 (zI σ)] sz) (fun _ => [cX x nw sn tk hs tx tr, cR nw na nb σ, xI g na 49 (zT σ), xI g nb 49 (zI σ)])) (va_A [cX x nw sn tk hs tx tr, cR nw na nb σ, xI g na 49 (zT σ), xI g nb 49 (zI σ)] sz)) (vx_X (fun (_ : Unit) => True) (fun E u t => E = eNSE ∧ kB g (va_A [cX x nw sn tk hs tx tr, cR nw na nb σ, xI g na 49 (zT σ), xI g nb 49 (zI σ)] sz) (fun u => [cX x nw sn tk hs tx tr, cR nw na nb σ, xI g na 49 (zT σ), xI g nb 49 (zI σ)]) u t) (va_A [cX x nw sn tk hs tx tr, cR nw na nb σ, xI g na 49 (zT σ), xI g nb 49 (zI σ)] sz)) 1 6 (va_A [cX x nw sn tk hs tx tr, cR nw na nb σ, xI g na 49 (zT σ), xI g nb 49 (zI σ)] sz) := by
  refine kMetX (cc := cX5_nextOpen) (maxL := 3) (ret := (some .int)) (own := RX5) (by decide) rfl rfl (Nat.le_of_ble_eq_true rfl) ?_
  intro p e s m args below meth c ls Q H locs A F w hl hno hA hQ
  have hx := F.1.1
  have hb := F.1.2.1
  have hts := F.1.2.2.2.2
  have hl : lv_has ls 3 [(0, .ref x), (1, .int (nI d))] := hl
  refine lv_iload_n hx hb dX5_nextOpen_0 rfl (lv_at hl 1 rfl) ?_
  refine kcalli (wc := []) (wr := [cX x nw sn tk hs tx tr, cR nw na nb σ, xI g na 49 (zT σ), xI g nb 49 (zI σ)]) (wn := fun (u : Unit) => [cX x nw sn tk hs tx tr, cR nw na nb σ, xI g na 49 (zT σ), xI g nb 49 (zI σ)]) F w [] [0, 1, 2, 3] [0, 1, 2, 3] rfl rfl rfl (fun _ => rfl)
    (fun hp => va_runS (As := [.int (nI d)]) (rest := []) F.1 (kX5_isInRow l g (nI d) H.size ) (va_cwS 1 hts gX5_nextOpen_X5_isInRow rfl rfl rfl hd_X5_isInRow ⟨Nat.le_of_ble_eq_true rfl, Nat.le_of_ble_eq_true rfl⟩) hp rfl rfl hl.1 rfl (lv_room (Nat.le_of_ble_eq_true rfl)) dX5_nextOpen_1 ⟨Nat.le_of_ble_eq_true rfl, Nat.le_of_ble_eq_true rfl⟩)
    (fun r_1 _ H locs h_2 w => ?_)
  subst h_2
  refine ktopi (y := bI true) (congrArg bI (door_t hd)) ?_
  refine lv_if_ne (tgt := 17) hx hb dX5_nextOpen_4 (by decide) (fun h_3 => ?_) (fun h_3 => ?_)
  · have h_3 : true = true := bI_o.mp h_3
    refine lv_iload_n hx hb dX5_nextOpen_17 rfl (lv_at hl 1 rfl) ?_
    refine lv_istore_n (lv' := [(2, .int (nI d)), (0, .ref x), (1, .int (nI d))]) hx hb dX5_nextOpen_18 rfl hl (by decide) rfl (fun ls hl => ?_)
    have LP_4 : ∀ (fu : Nat) (i : Nat) (h1 : d ≤ i) (h2 : i ≤ 49) (H : Heap) (locs : List Loc) (ls : Array Slot), 50 - i < fu → kW g A s [cX x nw sn tk hs tx tr, cR nw na nb σ, xI g na 49 (zT σ), xI g nb 49 (zI σ)] H locs → lv_has ls 3 [(2, .int (nI i)), (0, .ref x), (1, .int (nI d))] → W p l e rmX5_nextOpen_N s m args below meth c H locs 0 0 Q (F0 m 19 ls []) := by
      intro fu
      induction fu with
      | zero => intro i h1 h2 H locs ls hlt; omega
      | succ fu ih_4 =>
        intro i h1 h2 H locs ls hlt w hl
        refine lv_iload_n hx hb dX5_nextOpen_19 rfl (lv_at hl 0 rfl) ?_
        refine lv_bipush (v := nI 48) hx hb dX5_nextOpen_20 (by decide) ?_
        refine lv_icmp_gt (tgt := 47) hx hb dX5_nextOpen_22 (by decide) (fun h_5 => ?_) (fun h_5 => ?_)
        · have h_5 : i > 48 := (kc_gt_t (by omega) (by omega)).mp h_5
          subst hA
          subst hQ
          exact kthrowN (nR := 0) (text := "no door from this one on is open") nse_0 nse_1 nse_2 nse_5 hnl F w hl.1 hno fit_1.2.2.1 fit_1.2.2.2 (by decide +kernel) (by decide +kernel) (by decide +kernel) (khat_NSE (fun w hw => hts w (hat_X5_nextOpen_NSE w hw))) ot_NSE dX5_nextOpen_47 dX5_nextOpen_50 dX5_nextOpen_51 dX5_nextOpen_53 dX5_nextOpen_56 (Nat.le_of_ble_eq_true rfl) (Nat.le_of_ble_eq_true rfl) (Nat.le_of_ble_eq_true rfl) (Nat.le_of_ble_eq_true rfl) (Nat.le_of_ble_eq_true rfl) () [0, 1, 2, 3] rfl rfl trivial (Nat.le_of_ble_eq_true rfl) (Nat.le_of_ble_eq_true rfl)
        · have h_5 : i ≤ 48 := (kc_gt_f (by omega) (by omega)).mp h_5
          refine lv_aload_n hx hb dX5_nextOpen_25 rfl (lv_at hl 1 rfl) ?_
          refine kget (fs := [.ref nw, .ref sn, .int (bI tk), .ref hs, .ref tx, .ref tr]) F w in_X5_nextOpen_X5 0 rfl rfl 0 (by decide) (by decide +kernel) rfl rfl dX5_nextOpen_26 ?_
          refine kgetN (host := RX5) (fs := [.long (zB (zO σ)), .long (zB (zL σ)), .long (zB (zS σ)), .long (zB (zF σ)), .long (zB (zV σ)), .ref na, .ref nb]) F w in_X5_nextOpen_X2 1 rfl rfl 0 (by decide) (by decide +kernel) rfl rfl dX5_nextOpen_29 ?_
          refine lv_iload_n hx hb dX5_nextOpen_32 rfl (lv_at hl 0 rfl) ?_
          refine kcalli (wc := []) (wr := [cX x nw sn tk hs tx tr, cR nw na nb σ, xI g na 49 (zT σ), xI g nb 49 (zI σ)]) (wn := fun (u : Unit) => [cX x nw sn tk hs tx tr, cR nw na nb σ, xI g na 49 (zT σ), xI g nb 49 (zI σ)]) F w [] [0, 1, 2, 3] [0, 1, 2, 3] rfl rfl rfl (fun _ => rfl)
            (fun hp => va_runS (As := [.long (zB (zO σ)), .int (nI i)]) (rest := []) F.1 (kX5_contains l g (zB (zO σ)) i H.size (by omega)) (va_cwS 2 hts gX5_nextOpen_X5_contains rfl rfl rfl hd_X5_contains ⟨Nat.le_of_ble_eq_true rfl, Nat.le_of_ble_eq_true rfl⟩) hp rfl rfl hl.1 rfl (lv_room (Nat.le_of_ble_eq_true rfl)) dX5_nextOpen_33 ⟨Nat.le_of_ble_eq_true rfl, Nat.le_of_ble_eq_true rfl⟩)
            (fun r_6 _ H locs h_7 w => ?_)
          subst h_7
          refine ktopi (y := bI (zO σ i)) (congrArg bI (zG_in (by omega) (by omega))) ?_
          refine ktopi (y := bI false) (congrArg bI (he2 i h1 (by omega))) ?_
          refine lv_if_eq (tgt := 41) hx hb dX5_nextOpen_36 (by decide) (fun h_8 => ?_) (fun h_8 => ?_)
          · have h_8 : false = false := bI_z.mp h_8
            refine lv_iinc (v := nI (i + 1)) (lv' := [(2, .int (nI (i + 1))), (0, .ref x), (1, .int (nI d))]) hx hb dX5_nextOpen_41 hl (k := 0) rfl (nI_add i 1) (by decide) rfl (fun ls hl => ?_)
            refine lv_goto (tgt := 19) hx hb dX5_nextOpen_44 (by decide) ?_
            exact ih_4 (i + 1) (by omega) (by omega) _ _ _ (by omega) (kW.perm w [0, 1, 2, 3] rfl rfl) (lv_sub hl [0, 1, 2] rfl)
          · have h_8 : false = true := bI_o.mp h_8
            exact absurd h_8 (by simp)
    exact LP_4 _ d (by omega) (by omega) _ _ _ (Nat.lt_succ_self _) (kW.perm w [0, 1, 2, 3] rfl rfl) (lv_sub hl [0, 1, 2] rfl)
  · have h_3 : true = false := bI_z.mp h_3
    exact absurd h_3 (by simp)
theorem hat_X5_faultPosition_NSE : ∀ w ∈ (kat_NSE).filter goodWord, w ∈ wsX5_faultPosition := by decide +kernel
abbrev rmX5_faultPosition_N : Room := { frames := 6, cells := 1, slots := 6, locals := 134 }
set_option maxHeartbeats 4000000 in
set_option maxRecDepth 100000 in
theorem kX5_faultPosition_N (l : Launch) (hnl : l.stackTraces = false) (g : GG) (x : Nat) (nw : Nat) (sn : Nat) (tk : Bool) (hs : Nat) (tx : Nat) (tr : Nat) (na : Nat) (nb : Nat) (σ : Sg) (ch : Nat) (L : Nat) (T : Nat → Int32) (tw : Nat) (od : Nat) (os : Nat) (po : Nat) (re : Nat) (ca : Nat) (ta : Nat) (tb : Nat) (τ : Sg) (vb : Int32) (n1 : Nat) (n2 : Nat) (nm : Nat) (en : Nat) (sz : Nat) (hL : L ≤ 60) (hz9 : zRe T L σ = 0) : vx_Met l yX5_faultPosition wsX5_faultPosition rmX5_faultPosition_N (va_Pc [.ref x] (kPre g [cX x nw sn tk hs tx tr, cR nw na nb σ, xI g na 49 (zT σ), xI g nb 49 (zI σ), cT tx ch L, xC g ch 60 T, cTr tr tw od os po re ca, cR tw ta tb τ, xI g ta 49 (zT τ), xI g tb 49 (zI τ), cO od vb n1 n2 nm en] sz)) (va_Qi (fun (_ : Int32) (_ : Unit) => False) (kB g (va_A [cX x nw sn tk hs tx tr, cR nw na nb σ, xI g na 49 (zT σ), xI g nb 49 (zI σ), cT tx ch L, xC g ch 60 T, cTr tr tw od os po re ca, cR tw ta tb τ, xI g ta 49 (zT τ), xI g tb 49 (zI τ), cO od vb n1 n2 nm en] sz) (fun _ => [cX x nw sn tk hs tx tr, cR nw na nb σ, xI g na 49 (zT σ), xI g nb 49 (zI σ), cT tx ch L, xC g ch 60 T, cTr tr tw od os po re ca, cR tw ta tb τ, xI g ta 49 (zT τ), xI g tb 49 (zI τ), cO od vb n1 n2 nm en])) (va_A [cX x nw sn tk hs tx tr, cR nw na nb σ, xI g na 49 (zT σ), xI g nb 49 (zI σ), cT tx ch L, xC g ch 60 T, cTr tr tw od os po re ca, cR tw ta tb τ, xI g ta 49 (zT τ), xI g tb 49 (zI τ), cO od vb n1 n2 nm en] sz)) (vx_X (fun (_ : Int32 × Nat × Nat × Nat × Nat) => True) (fun E u t => E = eNSE ∧ kB g (va_A [cX x nw sn tk hs tx tr, cR nw na nb σ, xI g na 49 (zT σ), xI g nb 49 (zI σ), cT tx ch L, xC g ch 60 T, cTr tr tw od os po re ca, cR tw ta tb τ, xI g ta 49 (zT τ), xI g tb 49 (zI τ), cO od vb n1 n2 nm en] sz) (fun u => [cX x nw sn tk hs tx tr, cR nw na nb σ, xI g na 49 (zT σ), xI g nb 49 (zI σ), cT tx ch L, xC g ch 60 T, cTr tr tw od (zOs T L σ) (zPo T L σ) (zRe T L σ) (zCa T L σ), cR tw ta tb (zSt T L σ), xI g ta 49 (zT (zSt T L σ)), xI g tb 49 (zI (zSt T L σ)), cO od u.1 u.2.1 u.2.2.1 u.2.2.2.1 u.2.2.2.2]) u t) (va_A [cX x nw sn tk hs tx tr, cR nw na nb σ, xI g na 49 (zT σ), xI g nb 49 (zI σ), cT tx ch L, xC g ch 60 T, cTr tr tw od os po re ca, cR tw ta tb τ, xI g ta 49 (zT τ), xI g tb 49 (zI τ), cO od vb n1 n2 nm en] sz)) 1 6 (va_A [cX x nw sn tk hs tx tr, cR nw na nb σ, xI g na 49 (zT σ), xI g nb 49 (zI σ), cT tx ch L, xC g ch 60 T, cTr tr tw od os po re ca, cR tw ta tb τ, xI g ta 49 (zT τ), xI g tb 49 (zI τ), cO od vb n1 n2 nm en] sz) := by
  refine kMetX (cc := cX5_faultPosition) (maxL := 1) (ret := (some .int)) (own := RX5) (by decide) rfl rfl (Nat.le_of_ble_eq_true rfl) ?_
  intro p e s m args below meth c ls Q H locs A F w hl hno hA hQ
  have hx := F.1.1
  have hb := F.1.2.1
  have hts := F.1.2.2.2.2
  have hl : lv_has ls 1 [(0, .ref x)] := hl
  refine lv_aload_n hx hb dX5_faultPosition_0 rfl (lv_at hl 0 rfl) ?_
  refine kget (fs := [.ref nw, .ref sn, .int (bI tk), .ref hs, .ref tx, .ref tr]) F w in_X5_faultPosition_X5 0 rfl rfl 5 (by decide) (by decide +kernel) rfl rfl dX5_faultPosition_1 ?_
  refine lv_aload_n hx hb dX5_faultPosition_4 rfl (lv_at hl 0 rfl) ?_
  refine kget (fs := [.ref nw, .ref sn, .int (bI tk), .ref hs, .ref tx, .ref tr]) F w in_X5_faultPosition_X5 0 rfl rfl 4 (by decide) (by decide +kernel) rfl rfl dX5_faultPosition_5 ?_
  refine lv_aload_n hx hb dX5_faultPosition_8 rfl (lv_at hl 0 rfl) ?_
  refine kget (fs := [.ref nw, .ref sn, .int (bI tk), .ref hs, .ref tx, .ref tr]) F w in_X5_faultPosition_X5 0 rfl rfl 0 (by decide) (by decide +kernel) rfl rfl dX5_faultPosition_9 ?_
  refine kcallv (wc := [cTr tr tw od os po re ca, cR tw ta tb τ, xI g ta 49 (zT τ), xI g tb 49 (zI τ), cO od vb n1 n2 nm en, cT tx ch L, xC g ch 60 T, cR nw na nb σ, xI g na 49 (zT σ), xI g nb 49 (zI σ)]) (wr := [cX x nw sn tk hs tx tr]) (wn := fun (u : Int32 × Nat × Nat × Nat × Nat) => [cX x nw sn tk hs tx tr, cR nw na nb σ, xI g na 49 (zT σ), xI g nb 49 (zI σ), cT tx ch L, xC g ch 60 T, cTr tr tw od (zOs T L σ) (zPo T L σ) (zRe T L σ) (zCa T L σ), cR tw ta tb (zSt T L σ), xI g ta 49 (zT (zSt T L σ)), xI g tb 49 (zI (zSt T L σ)), cO od u.1 u.2.1 u.2.2.1 u.2.2.2.1 u.2.2.2.2]) F w [6, 7, 8, 9, 10, 4, 5, 1, 2, 3] [0] [0, 8, 9, 10, 6, 7, 1, 2, 3, 4, 5] rfl rfl rfl (fun _ => rfl)
    (fun hp => va_runV (As := [.ref tx, .ref nw]) (rest := []) F.1 (kX4_run l g tr tw od os po re ca ta tb τ vb n1 n2 nm en tx ch L T nw na nb σ H.size hL) (cwV 2 hts gX5_faultPosition_X4_run rfl rfl rfl ⟨rfl, hd_X4_run⟩ ⟨Nat.le_of_ble_eq_true rfl, Nat.le_of_ble_eq_true rfl⟩) ⟨hp.1, va_recv F.2.2.2.1.1 w.1 (q0 := 6) (ci := 4) rfl rfl, hp.2⟩ rfl rfl hl.1 rfl (lv_room (Nat.le_of_ble_eq_true rfl)) dX5_faultPosition_12 ⟨Nat.le_of_ble_eq_true rfl, Nat.le_of_ble_eq_true rfl⟩)
    (fun u H locs h_2 w => ?_)
  try dsimp only at h_2
  obtain ⟨u_3, hu9⟩ : ∃ z, z = u := ⟨_, rfl⟩
  subst hu9
  have w : kW g A s [cX x nw sn tk hs tx tr, cR nw na nb σ, xI g na 49 (zT σ), xI g nb 49 (zI σ), cT tx ch L, xC g ch 60 T, cTr tr tw od (zOs T L σ) (zPo T L σ) (zRe T L σ) (zCa T L σ), cR tw ta tb (zSt T L σ), xI g ta 49 (zT (zSt T L σ)), xI g tb 49 (zI (zSt T L σ)), cO od u_3.1 u_3.2.1 u_3.2.2.1 u_3.2.2.2.1 u_3.2.2.2.2] H locs := w
  have hzl := zRe_le T L σ
  refine lv_aload_n hx hb dX5_faultPosition_15 rfl (lv_at hl 0 rfl) ?_
  refine kget (fs := [.ref nw, .ref sn, .int (bI tk), .ref hs, .ref tx, .ref tr]) F w in_X5_faultPosition_X5 0 rfl rfl 5 (by decide) (by decide +kernel) rfl rfl dX5_faultPosition_16 ?_
  refine kgetN (host := RX5) (fs := [.ref tw, .ref od, .int (nI (zOs T L σ)), .int (nI (zPo T L σ)), .int (nI (zRe T L σ)), .int (nI (zCa T L σ))]) F w in_X5_faultPosition_X4 6 rfl rfl 4 (by decide) (by decide +kernel) rfl rfl dX5_faultPosition_19 ?_
  refine lv_if_ne (tgt := 35) hx hb dX5_faultPosition_22 (by decide) (fun h_4 => ?_) (fun h_4 => ?_)
  · have h_4 : zRe T L σ ≠ 0 := (kc0_ne_t (by omega)).mp h_4
    exact absurd hz9 h_4
  · have h_4 : zRe T L σ = 0 := (kc0_ne_f (by omega)).mp h_4
    subst hA
    subst hQ
    exact kthrowN (nR := 0) (text := "the text has no fault") nse_0 nse_1 nse_2 nse_5 hnl F w hl.1 hno fit_1.2.2.1 fit_1.2.2.2 (by decide +kernel) (by decide +kernel) (by decide +kernel) (khat_NSE (fun w hw => hts w (hat_X5_faultPosition_NSE w hw))) ot_NSE dX5_faultPosition_25 dX5_faultPosition_28 dX5_faultPosition_29 dX5_faultPosition_31 dX5_faultPosition_34 (Nat.le_of_ble_eq_true rfl) (Nat.le_of_ble_eq_true rfl) (Nat.le_of_ble_eq_true rfl) (Nat.le_of_ble_eq_true rfl) (Nat.le_of_ble_eq_true rfl) u_3 [0, 1, 2, 3, 4, 5, 6, 7, 8, 9, 10] rfl rfl trivial (Nat.le_of_ble_eq_true rfl) (Nat.le_of_ble_eq_true rfl)
theorem hat_X5_faultReason_NSE : ∀ w ∈ (kat_NSE).filter goodWord, w ∈ wsX5_faultReason := by decide +kernel
abbrev rmX5_faultReason_N : Room := { frames := 6, cells := 1, slots := 6, locals := 134 }
set_option maxHeartbeats 4000000 in
set_option maxRecDepth 100000 in
theorem kX5_faultReason_N (l : Launch) (hnl : l.stackTraces = false) (g : GG) (x : Nat) (nw : Nat) (sn : Nat) (tk : Bool) (hs : Nat) (tx : Nat) (tr : Nat) (na : Nat) (nb : Nat) (σ : Sg) (ch : Nat) (L : Nat) (T : Nat → Int32) (tw : Nat) (od : Nat) (os : Nat) (po : Nat) (re : Nat) (ca : Nat) (ta : Nat) (tb : Nat) (τ : Sg) (vb : Int32) (n1 : Nat) (n2 : Nat) (nm : Nat) (en : Nat) (sz : Nat) (hL : L ≤ 60) (hz9 : zRe T L σ = 0) : vx_Met l yX5_faultReason wsX5_faultReason rmX5_faultReason_N (va_Pc [.ref x] (kPre g [cX x nw sn tk hs tx tr, cR nw na nb σ, xI g na 49 (zT σ), xI g nb 49 (zI σ), cT tx ch L, xC g ch 60 T, cTr tr tw od os po re ca, cR tw ta tb τ, xI g ta 49 (zT τ), xI g tb 49 (zI τ), cO od vb n1 n2 nm en] sz)) (va_Qi (fun (_ : Int32) (_ : Unit) => False) (kB g (va_A [cX x nw sn tk hs tx tr, cR nw na nb σ, xI g na 49 (zT σ), xI g nb 49 (zI σ), cT tx ch L, xC g ch 60 T, cTr tr tw od os po re ca, cR tw ta tb τ, xI g ta 49 (zT τ), xI g tb 49 (zI τ), cO od vb n1 n2 nm en] sz) (fun _ => [cX x nw sn tk hs tx tr, cR nw na nb σ, xI g na 49 (zT σ), xI g nb 49 (zI σ), cT tx ch L, xC g ch 60 T, cTr tr tw od os po re ca, cR tw ta tb τ, xI g ta 49 (zT τ), xI g tb 49 (zI τ), cO od vb n1 n2 nm en])) (va_A [cX x nw sn tk hs tx tr, cR nw na nb σ, xI g na 49 (zT σ), xI g nb 49 (zI σ), cT tx ch L, xC g ch 60 T, cTr tr tw od os po re ca, cR tw ta tb τ, xI g ta 49 (zT τ), xI g tb 49 (zI τ), cO od vb n1 n2 nm en] sz)) (vx_X (fun (_ : Int32 × Nat × Nat × Nat × Nat) => True) (fun E u t => E = eNSE ∧ kB g (va_A [cX x nw sn tk hs tx tr, cR nw na nb σ, xI g na 49 (zT σ), xI g nb 49 (zI σ), cT tx ch L, xC g ch 60 T, cTr tr tw od os po re ca, cR tw ta tb τ, xI g ta 49 (zT τ), xI g tb 49 (zI τ), cO od vb n1 n2 nm en] sz) (fun u => [cX x nw sn tk hs tx tr, cR nw na nb σ, xI g na 49 (zT σ), xI g nb 49 (zI σ), cT tx ch L, xC g ch 60 T, cTr tr tw od (zOs T L σ) (zPo T L σ) (zRe T L σ) (zCa T L σ), cR tw ta tb (zSt T L σ), xI g ta 49 (zT (zSt T L σ)), xI g tb 49 (zI (zSt T L σ)), cO od u.1 u.2.1 u.2.2.1 u.2.2.2.1 u.2.2.2.2]) u t) (va_A [cX x nw sn tk hs tx tr, cR nw na nb σ, xI g na 49 (zT σ), xI g nb 49 (zI σ), cT tx ch L, xC g ch 60 T, cTr tr tw od os po re ca, cR tw ta tb τ, xI g ta 49 (zT τ), xI g tb 49 (zI τ), cO od vb n1 n2 nm en] sz)) 1 6 (va_A [cX x nw sn tk hs tx tr, cR nw na nb σ, xI g na 49 (zT σ), xI g nb 49 (zI σ), cT tx ch L, xC g ch 60 T, cTr tr tw od os po re ca, cR tw ta tb τ, xI g ta 49 (zT τ), xI g tb 49 (zI τ), cO od vb n1 n2 nm en] sz) := by
  refine kMetX (cc := cX5_faultReason) (maxL := 1) (ret := (some .int)) (own := RX5) (by decide) rfl rfl (Nat.le_of_ble_eq_true rfl) ?_
  intro p e s m args below meth c ls Q H locs A F w hl hno hA hQ
  have hx := F.1.1
  have hb := F.1.2.1
  have hts := F.1.2.2.2.2
  have hl : lv_has ls 1 [(0, .ref x)] := hl
  refine lv_aload_n hx hb dX5_faultReason_0 rfl (lv_at hl 0 rfl) ?_
  refine kget (fs := [.ref nw, .ref sn, .int (bI tk), .ref hs, .ref tx, .ref tr]) F w in_X5_faultReason_X5 0 rfl rfl 5 (by decide) (by decide +kernel) rfl rfl dX5_faultReason_1 ?_
  refine lv_aload_n hx hb dX5_faultReason_4 rfl (lv_at hl 0 rfl) ?_
  refine kget (fs := [.ref nw, .ref sn, .int (bI tk), .ref hs, .ref tx, .ref tr]) F w in_X5_faultReason_X5 0 rfl rfl 4 (by decide) (by decide +kernel) rfl rfl dX5_faultReason_5 ?_
  refine lv_aload_n hx hb dX5_faultReason_8 rfl (lv_at hl 0 rfl) ?_
  refine kget (fs := [.ref nw, .ref sn, .int (bI tk), .ref hs, .ref tx, .ref tr]) F w in_X5_faultReason_X5 0 rfl rfl 0 (by decide) (by decide +kernel) rfl rfl dX5_faultReason_9 ?_
  refine kcallv (wc := [cTr tr tw od os po re ca, cR tw ta tb τ, xI g ta 49 (zT τ), xI g tb 49 (zI τ), cO od vb n1 n2 nm en, cT tx ch L, xC g ch 60 T, cR nw na nb σ, xI g na 49 (zT σ), xI g nb 49 (zI σ)]) (wr := [cX x nw sn tk hs tx tr]) (wn := fun (u : Int32 × Nat × Nat × Nat × Nat) => [cX x nw sn tk hs tx tr, cR nw na nb σ, xI g na 49 (zT σ), xI g nb 49 (zI σ), cT tx ch L, xC g ch 60 T, cTr tr tw od (zOs T L σ) (zPo T L σ) (zRe T L σ) (zCa T L σ), cR tw ta tb (zSt T L σ), xI g ta 49 (zT (zSt T L σ)), xI g tb 49 (zI (zSt T L σ)), cO od u.1 u.2.1 u.2.2.1 u.2.2.2.1 u.2.2.2.2]) F w [6, 7, 8, 9, 10, 4, 5, 1, 2, 3] [0] [0, 8, 9, 10, 6, 7, 1, 2, 3, 4, 5] rfl rfl rfl (fun _ => rfl)
    (fun hp => va_runV (As := [.ref tx, .ref nw]) (rest := []) F.1 (kX4_run l g tr tw od os po re ca ta tb τ vb n1 n2 nm en tx ch L T nw na nb σ H.size hL) (cwV 2 hts gX5_faultReason_X4_run rfl rfl rfl ⟨rfl, hd_X4_run⟩ ⟨Nat.le_of_ble_eq_true rfl, Nat.le_of_ble_eq_true rfl⟩) ⟨hp.1, va_recv F.2.2.2.1.1 w.1 (q0 := 6) (ci := 4) rfl rfl, hp.2⟩ rfl rfl hl.1 rfl (lv_room (Nat.le_of_ble_eq_true rfl)) dX5_faultReason_12 ⟨Nat.le_of_ble_eq_true rfl, Nat.le_of_ble_eq_true rfl⟩)
    (fun u H locs h_2 w => ?_)
  try dsimp only at h_2
  obtain ⟨u_3, hu9⟩ : ∃ z, z = u := ⟨_, rfl⟩
  subst hu9
  have w : kW g A s [cX x nw sn tk hs tx tr, cR nw na nb σ, xI g na 49 (zT σ), xI g nb 49 (zI σ), cT tx ch L, xC g ch 60 T, cTr tr tw od (zOs T L σ) (zPo T L σ) (zRe T L σ) (zCa T L σ), cR tw ta tb (zSt T L σ), xI g ta 49 (zT (zSt T L σ)), xI g tb 49 (zI (zSt T L σ)), cO od u_3.1 u_3.2.1 u_3.2.2.1 u_3.2.2.2.1 u_3.2.2.2.2] H locs := w
  have hzl := zRe_le T L σ
  refine lv_aload_n hx hb dX5_faultReason_15 rfl (lv_at hl 0 rfl) ?_
  refine kget (fs := [.ref nw, .ref sn, .int (bI tk), .ref hs, .ref tx, .ref tr]) F w in_X5_faultReason_X5 0 rfl rfl 5 (by decide) (by decide +kernel) rfl rfl dX5_faultReason_16 ?_
  refine kgetN (host := RX5) (fs := [.ref tw, .ref od, .int (nI (zOs T L σ)), .int (nI (zPo T L σ)), .int (nI (zRe T L σ)), .int (nI (zCa T L σ))]) F w in_X5_faultReason_X4 6 rfl rfl 4 (by decide) (by decide +kernel) rfl rfl dX5_faultReason_19 ?_
  refine lv_if_ne (tgt := 35) hx hb dX5_faultReason_22 (by decide) (fun h_4 => ?_) (fun h_4 => ?_)
  · have h_4 : zRe T L σ ≠ 0 := (kc0_ne_t (by omega)).mp h_4
    exact absurd hz9 h_4
  · have h_4 : zRe T L σ = 0 := (kc0_ne_f (by omega)).mp h_4
    subst hA
    subst hQ
    exact kthrowN (nR := 0) (text := "the text has no fault") nse_0 nse_1 nse_2 nse_5 hnl F w hl.1 hno fit_1.2.2.1 fit_1.2.2.2 (by decide +kernel) (by decide +kernel) (by decide +kernel) (khat_NSE (fun w hw => hts w (hat_X5_faultReason_NSE w hw))) ot_NSE dX5_faultReason_25 dX5_faultReason_28 dX5_faultReason_29 dX5_faultReason_31 dX5_faultReason_34 (Nat.le_of_ble_eq_true rfl) (Nat.le_of_ble_eq_true rfl) (Nat.le_of_ble_eq_true rfl) (Nat.le_of_ble_eq_true rfl) (Nat.le_of_ble_eq_true rfl) u_3 [0, 1, 2, 3, 4, 5, 6, 7, 8, 9, 10] rfl rfl trivial (Nat.le_of_ble_eq_true rfl) (Nat.le_of_ble_eq_true rfl)
theorem hat_X5_faultCause_NSE : ∀ w ∈ (kat_NSE).filter goodWord, w ∈ wsX5_faultCause := by decide +kernel
abbrev rmX5_faultCause_N : Room := { frames := 6, cells := 1, slots := 6, locals := 134 }
set_option maxHeartbeats 4000000 in
set_option maxRecDepth 100000 in
theorem kX5_faultCause_N (l : Launch) (hnl : l.stackTraces = false) (g : GG) (x : Nat) (nw : Nat) (sn : Nat) (tk : Bool) (hs : Nat) (tx : Nat) (tr : Nat) (na : Nat) (nb : Nat) (σ : Sg) (ch : Nat) (L : Nat) (T : Nat → Int32) (tw : Nat) (od : Nat) (os : Nat) (po : Nat) (re : Nat) (ca : Nat) (ta : Nat) (tb : Nat) (τ : Sg) (vb : Int32) (n1 : Nat) (n2 : Nat) (nm : Nat) (en : Nat) (sz : Nat) (hL : L ≤ 60) (hz9 : zRe T L σ = 0) : vx_Met l yX5_faultCause wsX5_faultCause rmX5_faultCause_N (va_Pc [.ref x] (kPre g [cX x nw sn tk hs tx tr, cR nw na nb σ, xI g na 49 (zT σ), xI g nb 49 (zI σ), cT tx ch L, xC g ch 60 T, cTr tr tw od os po re ca, cR tw ta tb τ, xI g ta 49 (zT τ), xI g tb 49 (zI τ), cO od vb n1 n2 nm en] sz)) (va_Qi (fun (_ : Int32) (_ : Unit) => False) (kB g (va_A [cX x nw sn tk hs tx tr, cR nw na nb σ, xI g na 49 (zT σ), xI g nb 49 (zI σ), cT tx ch L, xC g ch 60 T, cTr tr tw od os po re ca, cR tw ta tb τ, xI g ta 49 (zT τ), xI g tb 49 (zI τ), cO od vb n1 n2 nm en] sz) (fun _ => [cX x nw sn tk hs tx tr, cR nw na nb σ, xI g na 49 (zT σ), xI g nb 49 (zI σ), cT tx ch L, xC g ch 60 T, cTr tr tw od os po re ca, cR tw ta tb τ, xI g ta 49 (zT τ), xI g tb 49 (zI τ), cO od vb n1 n2 nm en])) (va_A [cX x nw sn tk hs tx tr, cR nw na nb σ, xI g na 49 (zT σ), xI g nb 49 (zI σ), cT tx ch L, xC g ch 60 T, cTr tr tw od os po re ca, cR tw ta tb τ, xI g ta 49 (zT τ), xI g tb 49 (zI τ), cO od vb n1 n2 nm en] sz)) (vx_X (fun (_ : Int32 × Nat × Nat × Nat × Nat) => True) (fun E u t => E = eNSE ∧ kB g (va_A [cX x nw sn tk hs tx tr, cR nw na nb σ, xI g na 49 (zT σ), xI g nb 49 (zI σ), cT tx ch L, xC g ch 60 T, cTr tr tw od os po re ca, cR tw ta tb τ, xI g ta 49 (zT τ), xI g tb 49 (zI τ), cO od vb n1 n2 nm en] sz) (fun u => [cX x nw sn tk hs tx tr, cR nw na nb σ, xI g na 49 (zT σ), xI g nb 49 (zI σ), cT tx ch L, xC g ch 60 T, cTr tr tw od (zOs T L σ) (zPo T L σ) (zRe T L σ) (zCa T L σ), cR tw ta tb (zSt T L σ), xI g ta 49 (zT (zSt T L σ)), xI g tb 49 (zI (zSt T L σ)), cO od u.1 u.2.1 u.2.2.1 u.2.2.2.1 u.2.2.2.2]) u t) (va_A [cX x nw sn tk hs tx tr, cR nw na nb σ, xI g na 49 (zT σ), xI g nb 49 (zI σ), cT tx ch L, xC g ch 60 T, cTr tr tw od os po re ca, cR tw ta tb τ, xI g ta 49 (zT τ), xI g tb 49 (zI τ), cO od vb n1 n2 nm en] sz)) 1 6 (va_A [cX x nw sn tk hs tx tr, cR nw na nb σ, xI g na 49 (zT σ), xI g nb 49 (zI σ), cT tx ch L, xC g ch 60 T, cTr tr tw od os po re ca, cR tw ta tb τ, xI g ta 49 (zT τ), xI g tb 49 (zI τ), cO od vb n1 n2 nm en] sz) := by
  refine kMetX (cc := cX5_faultCause) (maxL := 1) (ret := (some .int)) (own := RX5) (by decide) rfl rfl (Nat.le_of_ble_eq_true rfl) ?_
  intro p e s m args below meth c ls Q H locs A F w hl hno hA hQ
  have hx := F.1.1
  have hb := F.1.2.1
  have hts := F.1.2.2.2.2
  have hl : lv_has ls 1 [(0, .ref x)] := hl
  refine lv_aload_n hx hb dX5_faultCause_0 rfl (lv_at hl 0 rfl) ?_
  refine kget (fs := [.ref nw, .ref sn, .int (bI tk), .ref hs, .ref tx, .ref tr]) F w in_X5_faultCause_X5 0 rfl rfl 5 (by decide) (by decide +kernel) rfl rfl dX5_faultCause_1 ?_
  refine lv_aload_n hx hb dX5_faultCause_4 rfl (lv_at hl 0 rfl) ?_
  refine kget (fs := [.ref nw, .ref sn, .int (bI tk), .ref hs, .ref tx, .ref tr]) F w in_X5_faultCause_X5 0 rfl rfl 4 (by decide) (by decide +kernel) rfl rfl dX5_faultCause_5 ?_
  refine lv_aload_n hx hb dX5_faultCause_8 rfl (lv_at hl 0 rfl) ?_
  refine kget (fs := [.ref nw, .ref sn, .int (bI tk), .ref hs, .ref tx, .ref tr]) F w in_X5_faultCause_X5 0 rfl rfl 0 (by decide) (by decide +kernel) rfl rfl dX5_faultCause_9 ?_
  refine kcallv (wc := [cTr tr tw od os po re ca, cR tw ta tb τ, xI g ta 49 (zT τ), xI g tb 49 (zI τ), cO od vb n1 n2 nm en, cT tx ch L, xC g ch 60 T, cR nw na nb σ, xI g na 49 (zT σ), xI g nb 49 (zI σ)]) (wr := [cX x nw sn tk hs tx tr]) (wn := fun (u : Int32 × Nat × Nat × Nat × Nat) => [cX x nw sn tk hs tx tr, cR nw na nb σ, xI g na 49 (zT σ), xI g nb 49 (zI σ), cT tx ch L, xC g ch 60 T, cTr tr tw od (zOs T L σ) (zPo T L σ) (zRe T L σ) (zCa T L σ), cR tw ta tb (zSt T L σ), xI g ta 49 (zT (zSt T L σ)), xI g tb 49 (zI (zSt T L σ)), cO od u.1 u.2.1 u.2.2.1 u.2.2.2.1 u.2.2.2.2]) F w [6, 7, 8, 9, 10, 4, 5, 1, 2, 3] [0] [0, 8, 9, 10, 6, 7, 1, 2, 3, 4, 5] rfl rfl rfl (fun _ => rfl)
    (fun hp => va_runV (As := [.ref tx, .ref nw]) (rest := []) F.1 (kX4_run l g tr tw od os po re ca ta tb τ vb n1 n2 nm en tx ch L T nw na nb σ H.size hL) (cwV 2 hts gX5_faultCause_X4_run rfl rfl rfl ⟨rfl, hd_X4_run⟩ ⟨Nat.le_of_ble_eq_true rfl, Nat.le_of_ble_eq_true rfl⟩) ⟨hp.1, va_recv F.2.2.2.1.1 w.1 (q0 := 6) (ci := 4) rfl rfl, hp.2⟩ rfl rfl hl.1 rfl (lv_room (Nat.le_of_ble_eq_true rfl)) dX5_faultCause_12 ⟨Nat.le_of_ble_eq_true rfl, Nat.le_of_ble_eq_true rfl⟩)
    (fun u H locs h_2 w => ?_)
  try dsimp only at h_2
  obtain ⟨u_3, hu9⟩ : ∃ z, z = u := ⟨_, rfl⟩
  subst hu9
  have w : kW g A s [cX x nw sn tk hs tx tr, cR nw na nb σ, xI g na 49 (zT σ), xI g nb 49 (zI σ), cT tx ch L, xC g ch 60 T, cTr tr tw od (zOs T L σ) (zPo T L σ) (zRe T L σ) (zCa T L σ), cR tw ta tb (zSt T L σ), xI g ta 49 (zT (zSt T L σ)), xI g tb 49 (zI (zSt T L σ)), cO od u_3.1 u_3.2.1 u_3.2.2.1 u_3.2.2.2.1 u_3.2.2.2.2] H locs := w
  have hzl := zRe_le T L σ
  refine lv_aload_n hx hb dX5_faultCause_15 rfl (lv_at hl 0 rfl) ?_
  refine kget (fs := [.ref nw, .ref sn, .int (bI tk), .ref hs, .ref tx, .ref tr]) F w in_X5_faultCause_X5 0 rfl rfl 5 (by decide) (by decide +kernel) rfl rfl dX5_faultCause_16 ?_
  refine kgetN (host := RX5) (fs := [.ref tw, .ref od, .int (nI (zOs T L σ)), .int (nI (zPo T L σ)), .int (nI (zRe T L σ)), .int (nI (zCa T L σ))]) F w in_X5_faultCause_X4 6 rfl rfl 4 (by decide) (by decide +kernel) rfl rfl dX5_faultCause_19 ?_
  refine lv_if_ne (tgt := 35) hx hb dX5_faultCause_22 (by decide) (fun h_4 => ?_) (fun h_4 => ?_)
  · have h_4 : zRe T L σ ≠ 0 := (kc0_ne_t (by omega)).mp h_4
    exact absurd hz9 h_4
  · have h_4 : zRe T L σ = 0 := (kc0_ne_f (by omega)).mp h_4
    subst hA
    subst hQ
    exact kthrowN (nR := 0) (text := "the text has no fault") nse_0 nse_1 nse_2 nse_5 hnl F w hl.1 hno fit_1.2.2.1 fit_1.2.2.2 (by decide +kernel) (by decide +kernel) (by decide +kernel) (khat_NSE (fun w hw => hts w (hat_X5_faultCause_NSE w hw))) ot_NSE dX5_faultCause_25 dX5_faultCause_28 dX5_faultCause_29 dX5_faultCause_31 dX5_faultCause_34 (Nat.le_of_ble_eq_true rfl) (Nat.le_of_ble_eq_true rfl) (Nat.le_of_ble_eq_true rfl) (Nat.le_of_ble_eq_true rfl) (Nat.le_of_ble_eq_true rfl) u_3 [0, 1, 2, 3, 4, 5, 6, 7, 8, 9, 10] rfl rfl trivial (Nat.le_of_ble_eq_true rfl) (Nat.le_of_ble_eq_true rfl)
theorem hat_X5_play_ISE : ∀ w ∈ (at_ISE).filter goodWord, w ∈ wsX5_play := by decide +kernel
abbrev rmX5_play_S : Room := { frames := 6, cells := 1, slots := 6, locals := 134 }
set_option maxHeartbeats 4000000 in
set_option maxRecDepth 100000 in
theorem kX5_play_S (l : Launch) (hnl : l.stackTraces = false) (g : GG) (x : Nat) (nw : Nat) (sn : Nat) (tk : Bool) (hs : Nat) (tx : Nat) (tr : Nat) (na : Nat) (nb : Nat) (σ : Sg) (ch : Nat) (L : Nat) (T : Nat → Int32) (tw : Nat) (od : Nat) (os : Nat) (po : Nat) (re : Nat) (ca : Nat) (ta : Nat) (tb : Nat) (τ : Sg) (vb : Int32) (n1 : Nat) (n2 : Nat) (nm : Nat) (en : Nat) (sz : Nat) (hL : L ≤ 60) (hz9 : zRe T L σ ≠ 0) : vx_Met l yX5_play wsX5_play rmX5_play_S (va_Pc [.ref x] (kPre g [cX x nw sn tk hs tx tr, cR nw na nb σ, xI g na 49 (zT σ), xI g nb 49 (zI σ), cT tx ch L, xC g ch 60 T, cTr tr tw od os po re ca, cR tw ta tb τ, xI g ta 49 (zT τ), xI g tb 49 (zI τ), cO od vb n1 n2 nm en] sz)) (va_Qi (fun (_ : Int32) (_ : Unit) => False) (kB g (va_A [cX x nw sn tk hs tx tr, cR nw na nb σ, xI g na 49 (zT σ), xI g nb 49 (zI σ), cT tx ch L, xC g ch 60 T, cTr tr tw od os po re ca, cR tw ta tb τ, xI g ta 49 (zT τ), xI g tb 49 (zI τ), cO od vb n1 n2 nm en] sz) (fun _ => [cX x nw sn tk hs tx tr, cR nw na nb σ, xI g na 49 (zT σ), xI g nb 49 (zI σ), cT tx ch L, xC g ch 60 T, cTr tr tw od os po re ca, cR tw ta tb τ, xI g ta 49 (zT τ), xI g tb 49 (zI τ), cO od vb n1 n2 nm en])) (va_A [cX x nw sn tk hs tx tr, cR nw na nb σ, xI g na 49 (zT σ), xI g nb 49 (zI σ), cT tx ch L, xC g ch 60 T, cTr tr tw od os po re ca, cR tw ta tb τ, xI g ta 49 (zT τ), xI g tb 49 (zI τ), cO od vb n1 n2 nm en] sz)) (vx_X (fun (_ : Int32 × Nat × Nat × Nat × Nat) => True) (fun E u t => E = eISE ∧ kB g (va_A [cX x nw sn tk hs tx tr, cR nw na nb σ, xI g na 49 (zT σ), xI g nb 49 (zI σ), cT tx ch L, xC g ch 60 T, cTr tr tw od os po re ca, cR tw ta tb τ, xI g ta 49 (zT τ), xI g tb 49 (zI τ), cO od vb n1 n2 nm en] sz) (fun u => [cX x nw sn tk hs tx tr, cR nw na nb σ, xI g na 49 (zT σ), xI g nb 49 (zI σ), cT tx ch L, xC g ch 60 T, cTr tr tw od (zOs T L σ) (zPo T L σ) (zRe T L σ) (zCa T L σ), cR tw ta tb (zSt T L σ), xI g ta 49 (zT (zSt T L σ)), xI g tb 49 (zI (zSt T L σ)), cO od u.1 u.2.1 u.2.2.1 u.2.2.2.1 u.2.2.2.2]) u t) (va_A [cX x nw sn tk hs tx tr, cR nw na nb σ, xI g na 49 (zT σ), xI g nb 49 (zI σ), cT tx ch L, xC g ch 60 T, cTr tr tw od os po re ca, cR tw ta tb τ, xI g ta 49 (zT τ), xI g tb 49 (zI τ), cO od vb n1 n2 nm en] sz)) 1 6 (va_A [cX x nw sn tk hs tx tr, cR nw na nb σ, xI g na 49 (zT σ), xI g nb 49 (zI σ), cT tx ch L, xC g ch 60 T, cTr tr tw od os po re ca, cR tw ta tb τ, xI g ta 49 (zT τ), xI g tb 49 (zI τ), cO od vb n1 n2 nm en] sz) := by
  refine kMetX (cc := cX5_play) (maxL := 1) (ret := (some .int)) (own := RX5) (by decide) rfl rfl (Nat.le_of_ble_eq_true rfl) ?_
  intro p e s m args below meth c ls Q H locs A F w hl hno hA hQ
  have hx := F.1.1
  have hb := F.1.2.1
  have hts := F.1.2.2.2.2
  have hl : lv_has ls 1 [(0, .ref x)] := hl
  refine lv_aload_n hx hb dX5_play_0 rfl (lv_at hl 0 rfl) ?_
  refine kget (fs := [.ref nw, .ref sn, .int (bI tk), .ref hs, .ref tx, .ref tr]) F w in_X5_play_X5 0 rfl rfl 5 (by decide) (by decide +kernel) rfl rfl dX5_play_1 ?_
  refine lv_aload_n hx hb dX5_play_4 rfl (lv_at hl 0 rfl) ?_
  refine kget (fs := [.ref nw, .ref sn, .int (bI tk), .ref hs, .ref tx, .ref tr]) F w in_X5_play_X5 0 rfl rfl 4 (by decide) (by decide +kernel) rfl rfl dX5_play_5 ?_
  refine lv_aload_n hx hb dX5_play_8 rfl (lv_at hl 0 rfl) ?_
  refine kget (fs := [.ref nw, .ref sn, .int (bI tk), .ref hs, .ref tx, .ref tr]) F w in_X5_play_X5 0 rfl rfl 0 (by decide) (by decide +kernel) rfl rfl dX5_play_9 ?_
  refine kcallv (wc := [cTr tr tw od os po re ca, cR tw ta tb τ, xI g ta 49 (zT τ), xI g tb 49 (zI τ), cO od vb n1 n2 nm en, cT tx ch L, xC g ch 60 T, cR nw na nb σ, xI g na 49 (zT σ), xI g nb 49 (zI σ)]) (wr := [cX x nw sn tk hs tx tr]) (wn := fun (u : Int32 × Nat × Nat × Nat × Nat) => [cX x nw sn tk hs tx tr, cR nw na nb σ, xI g na 49 (zT σ), xI g nb 49 (zI σ), cT tx ch L, xC g ch 60 T, cTr tr tw od (zOs T L σ) (zPo T L σ) (zRe T L σ) (zCa T L σ), cR tw ta tb (zSt T L σ), xI g ta 49 (zT (zSt T L σ)), xI g tb 49 (zI (zSt T L σ)), cO od u.1 u.2.1 u.2.2.1 u.2.2.2.1 u.2.2.2.2]) F w [6, 7, 8, 9, 10, 4, 5, 1, 2, 3] [0] [0, 8, 9, 10, 6, 7, 1, 2, 3, 4, 5] rfl rfl rfl (fun _ => rfl)
    (fun hp => va_runV (As := [.ref tx, .ref nw]) (rest := []) F.1 (kX4_run l g tr tw od os po re ca ta tb τ vb n1 n2 nm en tx ch L T nw na nb σ H.size hL) (cwV 2 hts gX5_play_X4_run rfl rfl rfl ⟨rfl, hd_X4_run⟩ ⟨Nat.le_of_ble_eq_true rfl, Nat.le_of_ble_eq_true rfl⟩) ⟨hp.1, va_recv F.2.2.2.1.1 w.1 (q0 := 6) (ci := 4) rfl rfl, hp.2⟩ rfl rfl hl.1 rfl (lv_room (Nat.le_of_ble_eq_true rfl)) dX5_play_12 ⟨Nat.le_of_ble_eq_true rfl, Nat.le_of_ble_eq_true rfl⟩)
    (fun u H locs h_2 w => ?_)
  try dsimp only at h_2
  obtain ⟨u_3, hu9⟩ : ∃ z, z = u := ⟨_, rfl⟩
  subst hu9
  have w : kW g A s [cX x nw sn tk hs tx tr, cR nw na nb σ, xI g na 49 (zT σ), xI g nb 49 (zI σ), cT tx ch L, xC g ch 60 T, cTr tr tw od (zOs T L σ) (zPo T L σ) (zRe T L σ) (zCa T L σ), cR tw ta tb (zSt T L σ), xI g ta 49 (zT (zSt T L σ)), xI g tb 49 (zI (zSt T L σ)), cO od u_3.1 u_3.2.1 u_3.2.2.1 u_3.2.2.2.1 u_3.2.2.2.2] H locs := w
  have hzl := zRe_le T L σ
  refine lv_aload_n hx hb dX5_play_15 rfl (lv_at hl 0 rfl) ?_
  refine kget (fs := [.ref nw, .ref sn, .int (bI tk), .ref hs, .ref tx, .ref tr]) F w in_X5_play_X5 0 rfl rfl 5 (by decide) (by decide +kernel) rfl rfl dX5_play_16 ?_
  refine kgetN (host := RX5) (fs := [.ref tw, .ref od, .int (nI (zOs T L σ)), .int (nI (zPo T L σ)), .int (nI (zRe T L σ)), .int (nI (zCa T L σ))]) F w in_X5_play_X4 6 rfl rfl 4 (by decide) (by decide +kernel) rfl rfl dX5_play_19 ?_
  refine lv_if_eq (tgt := 35) hx hb dX5_play_22 (by decide) (fun h_4 => ?_) (fun h_4 => ?_)
  · have h_4 : zRe T L σ = 0 := (kc0_eq_t (by omega)).mp h_4
    exact absurd h_4 hz9
  · have h_4 : zRe T L σ ≠ 0 := (kc0_eq_f (by omega)).mp h_4
    subst hA
    subst hQ
    exact kthrow (nR := 0) (text := "the text has a fault") hnl F w hl.1 hno fit_1.2.1 fit_1.2.2.2 (by decide +kernel) (by decide +kernel) (by decide +kernel) (khat_ISE (fun w hw => hts w (hat_X5_play_ISE w hw))) ot_ISE dX5_play_25 dX5_play_28 dX5_play_29 dX5_play_31 dX5_play_34 (Nat.le_of_ble_eq_true rfl) (Nat.le_of_ble_eq_true rfl) (Nat.le_of_ble_eq_true rfl) (Nat.le_of_ble_eq_true rfl) (Nat.le_of_ble_eq_true rfl) u_3 [0, 1, 2, 3, 4, 5, 6, 7, 8, 9, 10] rfl rfl trivial (Nat.le_of_ble_eq_true rfl) (Nat.le_of_ble_eq_true rfl)
