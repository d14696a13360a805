/-! ===== reading: divisors, open doors, passes that would close all ===== -/
def dvP (d k : Nat) : Bool := decide (k ∣ d)
theorem dvP_t {d k : Nat} (h : d % k = 0) : dvP d k = true := decide_eq_true (Nat.dvd_of_mod_eq_zero h)
theorem dvP_f {d k : Nat} (h : d % k ≠ 0) : dvP d k = false := decide_eq_false fun hc => h (Nat.mod_eq_zero_of_dvd hc)
theorem zcnt_more {p : Nat → Bool} {a : Nat} : ∀ {n : Nat}, a ≤ n → (∀ d, a < d → d ≤ n → p d = false) → zcnt p n = zcnt p a
  | 0, h, _ => by have : a = 0 := by omega
                  subst this; rfl
  | n + 1, h, hf => by
    by_cases e : a = n + 1
    · subst e; rfl
    · rw [zcnt_f (hf (n + 1) (by omega) (Nat.le_refl _)), zcnt_more (by omega) (fun d h1 h2 => hf d h1 (by omega))]
theorem dvP_48 {d : Nat} (h1 : 1 ≤ d) (h2 : d ≤ 48) : zcnt (dvP d) 48 = zcnt (dvP d) d :=
  zcnt_more h2 fun k h3 _ => decide_eq_false fun hc => by have := Nat.le_of_dvd (by omega) hc; omega
def zBu (p : Nat → Bool) (n : Nat) : Int64 := zB (fun j => p j && decide (j ≤ n))
theorem zBu_0 {p : Nat → Bool} : zBu p 0 = 0 := by
  rw [← zB_0]
  refine zB_cong fun d h1 _ => ?_
  rw [show decide (d ≤ 0) = false from decide_eq_false (by omega), Bool.and_false]
theorem zBu_e {p : Nat → Bool} : zBu p 48 = zB p := zB_cong fun d _ h2 => by rw [decide_eq_true h2, Bool.and_true]
theorem zBu_f {p : Nat → Bool} {j : Nat} (h : p (j + 1) = false) : zBu p j ||| 0 = zBu p (j + 1) := by
  have e : zBu p j ||| 0 = zBu p j := zG_ext fun i _ => by rw [zG_or, ← zB_0, zG_B]; simp
  rw [e]
  refine zB_cong fun d _ _ => ?_
  by_cases hd : d = j + 1
  · subst hd; rw [h]; rfl
  · rw [show decide (d ≤ j + 1) = decide (d ≤ j) by simp only [decide_eq_decide]; omega]
theorem zBu_t {p : Nat → Bool} {j : Nat} (hj : j + 1 ≤ 48) (h : p (j + 1) = true) : zBu p j ||| zbit (j + 1) = zBu p (j + 1) := by
  refine zB_set (by omega) hj ?_ ?_
  · rw [h, decide_eq_true (Nat.le_refl _)]; rfl
  · intro d hd; rw [show decide (d ≤ j + 1) = decide (d ≤ j) by simp only [decide_eq_decide]; omega]
theorem zm_sbit (x : Int64) {d : Nat} (h : d < 64) : (x >>> ((nI d).toInt64 &&& 63)) &&& 1 = (if zG x d = true then 1 else 0) := by
  have e1 : (1 : Int64) = zbit 0 := by decide
  have e0 : zG (x >>> ((nI d).toInt64 &&& 63)) 0 = zG x d := by
    unfold zG
    rw [wb_c d h, Int64.toBitVec_shiftRight, wb_tb, wb_sm d h]
    unfold BitVec.sshiftRight'
    rw [BitVec.getLsbD_sshiftRight, BitVec.toNat_ofNat, Nat.mod_eq_of_lt (by omega)]
    simp [h]
  refine zG_ext fun j hj => ?_
  rw [zG_and]
  by_cases j0 : j = 0
  · subst j0
    rw [e0, e1, zG_bit 0 0 (by omega)]
    cases hz : zG x d
    · rw [if_neg (by decide)]; decide
    · rw [if_pos rfl, zG_bit 0 0 (by omega)]; rfl
  · have e2 : zG 1 j = false := by rw [e1, zG_bit 0 j hj]; exact decide_eq_false (fun hc => j0 hc.symm)
    have e3 : zG 0 j = false := by rw [← zB_0, zG_B]; simp
    rw [e2, Bool.and_false]
    cases hz : zG x d
    · rw [if_neg (by decide), e3]
    · rw [if_pos rfl, e2]
theorem zm_hasL1 {x : Int64} {d : Nat} (h : d < 64) (hc : lg_cmp ((x >>> ((nI d).toInt64 &&& 63)) &&& 1) 1 = 0) : zG x d = true := by
  rw [zm_sbit x h] at hc
  cases hz : zG x d
  · rw [hz] at hc; exact absurd hc (by decide)
  · rfl
theorem zm_hasL0 {x : Int64} {d : Nat} (h : d < 64) (hc : ¬ lg_cmp ((x >>> ((nI d).toInt64 &&& 63)) &&& 1) 1 = 0) : zG x d = false := by
  rw [zm_sbit x h] at hc
  cases hz : zG x d
  · rfl
  · rw [hz] at hc; exact absurd (by decide) hc
/-- going up the row: what is open, and which passes are taken, behind the pass j -/
def clO (p : Nat → Bool) : Nat → Nat → Bool
  | 0 => p
  | j + 1 => fun d => (clO p j d ^^ (clO p j (j + 1) && mulA (j + 1) d))
def clP (p : Nat → Bool) : Nat → Nat → Bool
  | 0 => fun _ => false
  | j + 1 => fun d => clP p j d || (decide (d = j + 1) && clO p j (j + 1))
theorem clO_at (p : Nat → Bool) (j d : Nat) : clO p (j + 1) d = (clO p j d ^^ (clO p j (j + 1) && mulA (j + 1) d)) := rfl
theorem clP_at (p : Nat → Bool) (j d : Nat) : clP p (j + 1) d = (clP p j d || (decide (d = j + 1) && clO p j (j + 1))) := rfl
theorem zG_0 (j : Nat) : zG 0 j = false := by rw [← zB_0, zG_B]; simp
theorem clO_f {p : Nat → Bool} {j : Nat} (h : clO p j (j + 1) = false) : zB (clO p j) ^^^ 0 = zB (clO p (j + 1)) := by
  have e : zB (clO p j) ^^^ 0 = zB (clO p j) := zG_ext fun i _ => by rw [zG_xor, zG_0, Bool.xor_false]
  rw [e]
  exact zB_cong fun d _ _ => by rw [clO_at, h, Bool.false_and, Bool.xor_false]
theorem clO_t {p : Nat → Bool} {j : Nat} (h : clO p j (j + 1) = true) : zB (clO p j) ^^^ zB (mulA (j + 1)) = zB (clO p (j + 1)) := by
  refine zG_ext fun i _ => ?_
  rw [zG_xor, zG_B, zG_B, zG_B, clO_at, h, Bool.true_and]
  cases decide (1 ≤ i) <;> cases decide (i ≤ 48) <;> simp
theorem clP_f {p : Nat → Bool} {j : Nat} (h : clO p j (j + 1) = false) : zB (clP p j) ||| 0 = zB (clP p (j + 1)) := by
  have e : zB (clP p j) ||| 0 = zB (clP p j) := zG_ext fun i _ => by rw [zG_or, zG_0, Bool.or_false]
  rw [e]
  exact zB_cong fun d _ _ => by rw [clP_at, h, Bool.and_false, Bool.or_false]
theorem clP_t {p : Nat → Bool} {j : Nat} (hj : j + 1 ≤ 48) (h : clO p j (j + 1) = true) : zB (clP p j) ||| zbit (j + 1) = zB (clP p (j + 1)) := by
  refine zB_set (by omega) hj ?_ ?_
  · rw [clP_at, h, Bool.and_true, decide_eq_true rfl, Bool.or_true]
  · intro d hd; rw [clP_at, decide_eq_false hd, Bool.false_and, Bool.or_false]
def shutP (σ : Sg) (d : Nat) : Bool := zF σ d && !zO σ d
/-! the best pass -/
def flipP (σ : Sg) (k j d : Nat) : Bool := (zO σ d ^^ (mulP k j d && !zL σ d))
def opF (σ : Sg) (k : Nat) : Nat := zcnt (fun d => (zO σ d ^^ turnP σ k d)) 48
theorem flipP_0 {σ : Sg} {k : Nat} (hk : 1 ≤ k) : zcnt (flipP σ k (0 + 1)) 48 = zcnt (zO σ) 48 := by
  refine zcnt_cong fun d h1 _ => ?_
  unfold flipP mulP
  cases hd : decide (k ∣ d)
  · rw [Bool.false_and, Bool.false_and, Bool.xor_false]
  · have h2 : k ≤ d := Nat.le_of_dvd h1 (of_decide_eq_true hd)
    have h3 : 1 ≤ d / k := (Nat.le_div_iff_mul_le hk).mpr (by omega)
    rw [show decide (d / k < 0 + 1) = false from decide_eq_false (by omega), Bool.and_false, Bool.false_and, Bool.xor_false]
theorem flipP_e {σ : Sg} {k : Nat} (hk : 1 ≤ k) : zcnt (flipP σ k (48 / k + 1)) 48 = opF σ k := by
  refine zcnt_cong fun d _ h2 => ?_
  unfold flipP turnP mulP mulA
  have h3 : d / k ≤ 48 / k := Nat.div_le_div_right h2
  rw [show decide (d / k < 48 / k + 1) = true from decide_eq_true (by omega), Bool.and_true]
theorem mulP_at {k j d : Nat} (hk : 1 ≤ k) : mulP k (j + 1) d = (mulP k j d || decide (d = j * k)) := by
  unfold mulP
  cases hdv : decide (k ∣ d)
  · have h1 : ¬ d = j * k := fun e => absurd (of_decide_eq_false hdv) (fun h => h (by rw [e]; exact Nat.dvd_mul_left k j))
    rw [decide_eq_false h1]; rfl
  · have h1 : d / k * k = d := Nat.div_mul_cancel (of_decide_eq_true hdv)
    have h2 : d = j * k ↔ d / k = j := ⟨fun e => by rw [e]; exact Nat.mul_div_cancel j hk, fun e => by rw [← e, h1]⟩
    rw [Bool.true_and, Bool.true_and, show decide (d = j * k) = decide (d / k = j) from by simp only [decide_eq_decide]; exact h2]
    by_cases e : d / k = j
    · rw [decide_eq_true e, decide_eq_true (by omega), Bool.or_true]
    · rw [decide_eq_false e, Bool.or_false, decide_eq_decide]; omega
theorem mulP_no {k j : Nat} (hk : 1 ≤ k) : mulP k j (j * k) = false := by
  unfold mulP
  rw [Nat.mul_div_cancel j hk, decide_eq_false (Nat.lt_irrefl j), Bool.and_false]
/-- one place turned -/
theorem zcnt_bump {p q : Nat → Bool} {a : Nat} (h1 : 1 ≤ a) (hp : p a = false) (hq : q a = true) (hn : ∀ d, d ≠ a → q d = p d) : ∀ n, a ≤ n → zcnt q n = zcnt p n + 1
  | 0, h => by omega
  | n + 1, h => by
    by_cases e : a = n + 1
    · rw [zcnt_t (by rw [← e]; exact hq), zcnt_f (p := p) (by rw [← e]; exact hp), zcnt_cong (fun d _ h3 => hn d (by omega))]
    · rw [zcnt, zcnt, zcnt_bump h1 hp hq hn n (by omega), hn (n + 1) (by omega)]; omega
section FLIP
variable {σ : Sg} {k j : Nat}
theorem flipP_l (hk : 1 ≤ k) (hj : j + 1 ≤ 48 / k) (hj1 : 1 ≤ (j + 1) * k) (h : (j + 1) * k ≤ 48) (hl : zL σ ((j + 1) * k) = true) : zcnt (flipP σ k (j + 1 + 1)) 48 = zcnt (flipP σ k (j + 1)) 48 := by
  refine zcnt_cong fun d _ _ => ?_
  unfold flipP
  rw [mulP_at hk]
  by_cases e : d = (j + 1) * k
  · subst e; rw [hl]; simp
  · rw [decide_eq_false e, Bool.or_false]
theorem flipP_c (hk : 1 ≤ k) (hj : j + 1 ≤ 48 / k) (hj1 : 1 ≤ (j + 1) * k) (h : (j + 1) * k ≤ 48) (hl : zL σ ((j + 1) * k) = false) (ho : zO σ ((j + 1) * k) = false) : nI (zcnt (flipP σ k (j + 1)) 48) + nI 1 = nI (zcnt (flipP σ k (j + 1 + 1)) 48) := by
  rw [nI_add, zcnt_bump (p := flipP σ k (j + 1)) (q := flipP σ k (j + 1 + 1)) hj1 ?_ ?_ ?_ 48 h]
  · unfold flipP; rw [mulP_no hk, ho]; rfl
  · unfold flipP; rw [mulP_at hk, mulP_no hk, ho, hl, decide_eq_true rfl]; rfl
  · intro d hd; unfold flipP; rw [mulP_at (j := j + 1) hk, decide_eq_false hd, Bool.or_false]
theorem flipP_o (hk : 1 ≤ k) (hj : j + 1 ≤ 48 / k) (hj1 : 1 ≤ (j + 1) * k) (h : (j + 1) * k ≤ 48) (hl : zL σ ((j + 1) * k) = false) (ho : zO σ ((j + 1) * k) = true) : nI (zcnt (flipP σ k (j + 1)) 48) + (-1) = nI (zcnt (flipP σ k (j + 1 + 1)) 48) := by
  rw [zcnt_bump (p := flipP σ k (j + 1 + 1)) (q := flipP σ k (j + 1)) hj1 ?_ ?_ ?_ 48 h, pk_m1]
  · unfold flipP; rw [mulP_at hk, mulP_no hk, ho, hl, decide_eq_true rfl]; rfl
  · unfold flipP; rw [mulP_no hk, ho]; rfl
  · intro d hd; unfold flipP; rw [mulP_at (j := j + 1) hk, decide_eq_false hd, Bool.or_false]
end FLIP
/-- the least of f 1 .. f n, below 49; and where it is found first (a, if nowhere) -/
def bstV (f : Nat → Nat) : Nat → Nat
  | 0 => 49
  | k + 1 => if f (k + 1) < bstV f k then f (k + 1) else bstV f k
def bstN (f : Nat → Nat) (a : Nat) : Nat → Nat
  | 0 => a
  | k + 1 => if f (k + 1) < bstV f k then k + 1 else bstN f a k
theorem bstV_t {f : Nat → Nat} {k : Nat} (h : f (k + 1) < bstV f k) : bstV f (k + 1) = f (k + 1) := if_pos h
theorem bstV_f {f : Nat → Nat} {k : Nat} (h : ¬ f (k + 1) < bstV f k) : bstV f (k + 1) = bstV f k := if_neg h
theorem bstN_t {f : Nat → Nat} {a k : Nat} (h : f (k + 1) < bstV f k) : bstN f a (k + 1) = k + 1 := if_pos h
theorem bstN_f {f : Nat → Nat} {a k : Nat} (h : ¬ f (k + 1) < bstV f k) : bstN f a (k + 1) = bstN f a k := if_neg h
theorem bstV_le (f : Nat → Nat) : ∀ k, bstV f k ≤ 49
  | 0 => Nat.le_refl _
  | k + 1 => by have := bstV_le f k; rw [bstV]; split <;> omega
theorem bstN_le (f : Nat → Nat) : ∀ k, bstN f 0 k ≤ k
  | 0 => Nat.le_refl _
  | k + 1 => by have := bstN_le f k; rw [bstN]; split <;> omega
/-- with a first number below 49 the start does not matter -/
theorem bstN_any {f : Nat → Nat} (h : f 1 < 49) (a b : Nat) : ∀ k, bstN f a (k + 1) = bstN f b (k + 1)
  | 0 => by rw [bstN_t h, bstN_t h]
  | k + 1 => by
    by_cases hc : f (k + 1 + 1) < bstV f (k + 1)
    · rw [bstN_t hc, bstN_t hc]
    · rw [bstN_f hc, bstN_f hc, bstN_any h a b k]
theorem opF_le (σ : Sg) (k : Nat) : opF σ k ≤ 48 := zcnt_le _ _
theorem in_X6_asks_X6 : ∀ w ∈ wsX60, w ∈ wsX6_asks := by decide +kernel
abbrev rmX6_asks_t : Room := { frames := 0, cells := 0, slots := 0, locals := 0 }
set_option maxHeartbeats 4000000 in
set_option maxRecDepth 100000 in
theorem kX6_asks_t (l : Launch) (g : GG) (μ : Nat → Nat) (iK : Bool) (kn : Nat) (ln : Nat) (th : Nat) (sp : Nat) (bg : Nat) (fm : Bool) (le : Int32) (fi : Nat) (se : Nat) (re : Nat) (ca : Nat) (sz : Nat)  : Met l yX6_asks wsX6_asks rmX6_asks_t (va_Pc [.ref (μ 0), .int (bI true)] (kPre g [cM μ iK kn ln th sp bg fm le fi se re ca] sz)) (va_Qi (fun (r : Int32) (u : Unit) => r = bI true) (kB g (va_A [cM μ iK kn ln th sp bg fm le fi se re ca] sz) (fun u => [cM μ iK kn ln 0 sp bg fm le fi se re ca])) (va_A [cM μ iK kn ln th sp bg fm le fi se re ca] sz)) 0 0 (va_A [cM μ iK kn ln th sp bg fm le fi se re ca] sz) := by
  refine kMet (cc := cX6_asks) (maxL := 2) (ret := (some .boolean)) (own := RX6) (by decide) rfl rfl (Nat.le_of_ble_eq_true rfl) ?_
  intro p e s m args below meth c ls Q H locs A F w hl hnm hA hQ
  have hx := F.1.1
  have hb := F.1.2.1
  have hts := F.1.2.2.2.2
  have hl : lv_has ls 2 [(0, .ref (μ 0)), (1, .int (bI true))] := hl
  refine lv_aload_n hx hb dX6_asks_0 rfl (lv_at hl 0 rfl) ?_
  refine lv_iload_n hx hb dX6_asks_1 rfl (lv_at hl 1 rfl) ?_
  refine lv_if_eq (tgt := 9) hx hb dX6_asks_2 (by decide) (fun h_1 => ?_) (fun h_1 => ?_)
  · have h_1 : true = false := bI_z.mp h_1
    exact absurd h_1 (by simp)
  · have h_1 : true = true := bI_o.mp h_1
    refine lv_iconst (v := nI 0) hx hb dX6_asks_5 (by decide) ?_
    refine lv_goto (tgt := 10) hx hb dX6_asks_6 (by decide) ?_
    refine kput (fs := [.ref (μ 1), .ref (μ 2), .ref (μ 3), .ref (μ 4), .int (bI iK), .ref (μ 5), .int (nI kn), .ref (μ 6), .int (nI ln), .int (nI th), .int (nI sp), .int (nI bg), .int (bI fm), .int le, .int (nI fi), .int (nI se), .int (nI re), .int (nI ca)]) F w in_X6_asks_X6 tyX6_ok nmX6 0 rfl rfl 9 (by decide) (by decide +kernel) rfl rfl (rfl) (rfl) (Nat.le_of_ble_eq_true rfl) (wn := [cM μ iK kn ln 0 sp bg fm le fi se re ca]) rfl dX6_asks_10 (fun H locs w => ?_)
    refine lv_iload_n hx hb dX6_asks_13 rfl (lv_at hl 1 rfl) ?_
    subst hA
    subst hQ
    exact kretz F w () [0] rfl rfl (rfl) (kz_n _) (Nat.le_of_ble_eq_true rfl) (Nat.le_of_ble_eq_true rfl) dX6_asks_14
abbrev rmX6_asks_f : Room := { frames := 0, cells := 0, slots := 0, locals := 0 }
set_option maxHeartbeats 4000000 in
set_option maxRecDepth 100000 in
theorem kX6_asks_f (l : Launch) (g : GG) (μ : Nat → Nat) (iK : Bool) (kn : Nat) (ln : Nat) (th : Nat) (sp : Nat) (bg : Nat) (fm : Bool) (le : Int32) (fi : Nat) (se : Nat) (re : Nat) (ca : Nat) (sz : Nat)  : Met l yX6_asks wsX6_asks rmX6_asks_f (va_Pc [.ref (μ 0), .int (bI false)] (kPre g [cM μ iK kn ln th sp bg fm le fi se re ca] sz)) (va_Qi (fun (r : Int32) (u : Unit) => r = bI false) (kB g (va_A [cM μ iK kn ln th sp bg fm le fi se re ca] sz) (fun u => [cM μ iK kn ln 1 sp bg fm le fi se re ca])) (va_A [cM μ iK kn ln th sp bg fm le fi se re ca] sz)) 0 0 (va_A [cM μ iK kn ln th sp bg fm le fi se re ca] sz) := by
  refine kMet (cc := cX6_asks) (maxL := 2) (ret := (some .boolean)) (own := RX6) (by decide) rfl rfl (Nat.le_of_ble_eq_true rfl) ?_
  intro p e s m args below meth c ls Q H locs A F w hl hnm hA hQ
  have hx := F.1.1
  have hb := F.1.2.1
  have hts := F.1.2.2.2.2
  have hl : lv_has ls 2 [(0, .ref (μ 0)), (1, .int (bI false))] := hl
  refine lv_aload_n hx hb dX6_asks_0 rfl (lv_at hl 0 rfl) ?_
  refine lv_iload_n hx hb dX6_asks_1 rfl (lv_at hl 1 rfl) ?_
  refine lv_if_eq (tgt := 9) hx hb dX6_asks_2 (by decide) (fun h_1 => ?_) (fun h_1 => ?_)
  · have h_1 : false = false := bI_z.mp h_1
    refine lv_iconst (v := nI 1) hx hb dX6_asks_9 (by decide) ?_
    refine kput (fs := [.ref (μ 1), .ref (μ 2), .ref (μ 3), .ref (μ 4), .int (bI iK), .ref (μ 5), .int (nI kn), .ref (μ 6), .int (nI ln), .int (nI th), .int (nI sp), .int (nI bg), .int (bI fm), .int le, .int (nI fi), .int (nI se), .int (nI re), .int (nI ca)]) F w in_X6_asks_X6 tyX6_ok nmX6 0 rfl rfl 9 (by decide) (by decide +kernel) rfl rfl (rfl) (rfl) (Nat.le_of_ble_eq_true rfl) (wn := [cM μ iK kn ln 1 sp bg fm le fi se re ca]) rfl dX6_asks_10 (fun H locs w => ?_)
    refine lv_iload_n hx hb dX6_asks_13 rfl (lv_at hl 1 rfl) ?_
    subst hA
    subst hQ
    exact kretz F w () [0] rfl rfl (rfl) (kz_n _) (Nat.le_of_ble_eq_true rfl) (Nat.le_of_ble_eq_true rfl) dX6_asks_14
  · have h_1 : false = true := bI_o.mp h_1
    exact absurd h_1 (by simp)
theorem hd_X6_asks : yX6_asks.cls ≠ "java/lang/invoke/MethodHandle" ∧ yX6_asks.cls ≠ "java/lang/invoke/VarHandle" ∧ (parseMethodDescriptor yX6_asks.desc).map (fun d => d.parameters.length) = some 1 := by decide +kernel
abbrev rmX6_told_k : Room := { frames := 2, cells := 0, slots := 0, locals := 42 }
set_option maxHeartbeats 4000000 in
set_option maxRecDepth 100000 in
theorem kX6_told_k (l : Launch) (g : GG) (μ : Nat → Nat) (iK : Bool) (kn : Nat) (ln : Nat) (th : Nat) (sp : Nat) (bg : Nat) (fm : Bool) (le : Int32) (fi : Nat) (se : Nat) (re : Nat) (ca : Nat) (f : Nat → Int32) (d : Nat) (v : Nat) (sz : Nat) (hd : 1 ≤ d ∧ d ≤ 48 ∧ v ≤ 240) : Met l yX6_told wsX6_told rmX6_told_k (va_Pc [.ref (μ 0), .int (nI d), .int (nI v)] (kPre g [cM μ iK kn ln th sp bg fm le fi se re ca, xI g (μ 1) 288 f] sz)) (va_Qi (fun (r : Int32) (u : Unit) => r = f (v + d - 1)) (kB g (va_A [cM μ iK kn ln th sp bg fm le fi se re ca, xI g (μ 1) 288 f] sz) (fun u => [cM μ iK kn ln 0 sp bg fm le fi se re ca, xI g (μ 1) 288 f])) (va_A [cM μ iK kn ln th sp bg fm le fi se re ca, xI g (μ 1) 288 f] sz)) 0 0 (va_A [cM μ iK kn ln th sp bg fm le fi se re ca, xI g (μ 1) 288 f] sz) := by
  refine kMet (cc := cX6_told) (maxL := 3) (ret := (some .int)) (own := RX6) (by decide) rfl rfl (Nat.le_of_ble_eq_true rfl) ?_
  intro p e s m args below meth c ls Q H locs A F w hl hnm hA hQ
  have hx := F.1.1
  have hb := F.1.2.1
  have hts := F.1.2.2.2.2
  have hl : lv_has ls 3 [(0, .ref (μ 0)), (1, .int (nI d)), (2, .int (nI v))] := hl
  refine lv_aload_n hx hb dX6_told_0 rfl (lv_at hl 0 rfl) ?_
  refine lv_iload_n hx hb dX6_told_1 rfl (lv_at hl 1 rfl) ?_
  refine kcalli (wc := []) (wr := [cM μ iK kn ln th sp bg fm le fi se re ca, xI g (μ 1) 288 f]) (wn := fun (u : Unit) => [cM μ iK kn ln th sp bg fm le fi se re ca, xI g (μ 1) 288 f]) F w [] [0, 1] [0, 1] rfl rfl rfl (fun _ => rfl)
    (fun hp => va_runS (As := [.int (nI d)]) (rest := [.ref (μ 0)]) F.1 (kX6_isDoor l g (nI d) H.size ) (va_cwS 1 hts gX6_told_X6_isDoor rfl rfl rfl hd_X6_isDoor ⟨Nat.le_of_ble_eq_true rfl, Nat.le_of_ble_eq_true rfl⟩) hp rfl rfl hl.1 rfl (lv_room (Nat.le_of_ble_eq_true rfl)) dX6_told_2 ⟨Nat.le_of_ble_eq_true rfl, Nat.le_of_ble_eq_true rfl⟩)
    (fun r_1 _ H locs h_2 w => ?_)
  subst h_2
  refine ktopi (y := bI true) (congrArg bI (door_t ⟨hd.1, hd.2.1⟩)) ?_
  refine kcalli (wc := [cM μ iK kn ln th sp bg fm le fi se re ca]) (wr := [xI g (μ 1) 288 f]) (wn := fun (u : Unit) => [cM μ iK kn ln 0 sp bg fm le fi se re ca, xI g (μ 1) 288 f]) F w [0] [1] [1, 0] rfl rfl rfl (fun _ => rfl)
    (fun hp => va_runV (As := [.int (bI true)]) (rest := []) F.1 (kX6_asks_t l g μ iK kn ln th sp bg fm le fi se re ca H.size ) (cwV 1 hts gX6_told_X6_asks rfl rfl rfl ⟨rfl, hd_X6_asks⟩ ⟨Nat.le_of_ble_eq_true rfl, Nat.le_of_ble_eq_true rfl⟩) ⟨hp.1, va_recv F.2.2.2.1.1 w.1 (q0 := 0) (ci := 6) rfl rfl, hp.2⟩ rfl rfl hl.1 rfl (lv_room (Nat.le_of_ble_eq_true rfl)) dX6_told_5 ⟨Nat.le_of_ble_eq_true rfl, Nat.le_of_ble_eq_true rfl⟩)
    (fun r_3 _ H locs h_4 w => ?_)
  subst h_4
  refine lv_if_eq (tgt := 20) hx hb dX6_told_8 (by decide) (fun h_5 => ?_) (fun h_5 => ?_)
  · have h_5 : true = false := bI_z.mp h_5
    exact absurd h_5 (by simp)
  · have h_5 : true = true := bI_o.mp h_5
    refine lv_aload_n hx hb dX6_told_11 rfl (lv_at hl 0 rfl) ?_
    refine lv_iload_n hx hb dX6_told_12 rfl (lv_at hl 1 rfl) ?_
    refine lv_iload_n hx hb dX6_told_13 rfl (lv_at hl 2 rfl) ?_
    refine kcalli (wc := [cM μ iK kn ln 0 sp bg fm le fi se re ca, xI g (μ 1) 288 f]) (wr := []) (wn := fun (u : Unit) => [cM μ iK kn ln 0 sp bg fm le fi se re ca, xI g (μ 1) 288 f]) F w [0, 1] [] [0, 1] rfl rfl rfl (fun _ => rfl)
      (fun hp => va_runV (As := [.int (nI d), .int (nI v)]) (rest := []) F.1 (kX6_of l g μ iK kn ln 0 sp bg fm le fi se re ca f d v H.size (by omega)) (cwV 2 hts gX6_told_X6_of rfl rfl rfl ⟨rfl, hd_X6_of⟩ ⟨Nat.le_of_ble_eq_true rfl, Nat.le_of_ble_eq_true rfl⟩) ⟨hp.1, va_recv F.2.2.2.1.1 w.1 (q0 := 0) (ci := 6) rfl rfl, hp.2⟩ rfl rfl hl.1 rfl (lv_room (Nat.le_of_ble_eq_true rfl)) dX6_told_14 ⟨Nat.le_of_ble_eq_true rfl, Nat.le_of_ble_eq_true rfl⟩)
      (fun r_6 _ H locs h_7 w => ?_)
    subst h_7
    refine lv_goto (tgt := 21) hx hb dX6_told_17 (by decide) ?_
    subst hA
    subst hQ
    exact kreti F w () [0, 1] rfl rfl (rfl) (Nat.le_of_ble_eq_true rfl) (Nat.le_of_ble_eq_true rfl) dX6_told_21
abbrev rmX6_told_A : Room := { frames := 2, cells := 0, slots := 0, locals := 42 }
set_option maxHeartbeats 4000000 in
set_option maxRecDepth 100000 in
theorem kX6_told_A (l : Launch) (g : GG) (μ : Nat → Nat) (iK : Bool) (kn : Nat) (ln : Nat) (th : Nat) (sp : Nat) (bg : Nat) (fm : Bool) (le : Int32) (fi : Nat) (se : Nat) (re : Nat) (ca : Nat) (n : Int32) (x : Int32) (sz : Nat) (hn : ¬ (1 ≤ n.toInt ∧ n.toInt ≤ 48)) : Met l yX6_told wsX6_told rmX6_told_A (va_Pc [.ref (μ 0), .int n, .int x] (kPre g [cM μ iK kn ln th sp bg fm le fi se re ca] sz)) (va_Qi (fun (r : Int32) (u : Unit) => r = nI 0) (kB g (va_A [cM μ iK kn ln th sp bg fm le fi se re ca] sz) (fun u => [cM μ iK kn ln 1 sp bg fm le fi se re ca])) (va_A [cM μ iK kn ln th sp bg fm le fi se re ca] sz)) 0 0 (va_A [cM μ iK kn ln th sp bg fm le fi se re ca] sz) := by
  refine kMet (cc := cX6_told) (maxL := 3) (ret := (some .int)) (own := RX6) (by decide) rfl rfl (Nat.le_of_ble_eq_true rfl) ?_
  intro p e s m args below meth c ls Q H locs A F w hl hnm hA hQ
  have hx := F.1.1
  have hb := F.1.2.1
  have hts := F.1.2.2.2.2
  have hl : lv_has ls 3 [(0, .ref (μ 0)), (1, .int n), (2, .int x)] := hl
  refine lv_aload_n hx hb dX6_told_0 rfl (lv_at hl 0 rfl) ?_
  refine lv_iload_n hx hb dX6_told_1 rfl (lv_at hl 1 rfl) ?_
  refine kcalli (wc := []) (wr := [cM μ iK kn ln th sp bg fm le fi se re ca]) (wn := fun (u : Unit) => [cM μ iK kn ln th sp bg fm le fi se re ca]) F w [] [0] [0] rfl rfl rfl (fun _ => rfl)
    (fun hp => va_runS (As := [.int n]) (rest := [.ref (μ 0)]) F.1 (kX6_isDoor l g n H.size ) (va_cwS 1 hts gX6_told_X6_isDoor rfl rfl rfl hd_X6_isDoor ⟨Nat.le_of_ble_eq_true rfl, Nat.le_of_ble_eq_true rfl⟩) hp rfl rfl hl.1 rfl (lv_room (Nat.le_of_ble_eq_true rfl)) dX6_told_2 ⟨Nat.le_of_ble_eq_true rfl, Nat.le_of_ble_eq_true rfl⟩)
    (fun r_1 _ H locs h_2 w => ?_)
  subst h_2
  refine ktopi (y := bI false) (congrArg bI (door_f hn)) ?_
  refine kcalli (wc := [cM μ iK kn ln th sp bg fm le fi se re ca]) (wr := []) (wn := fun (u : Unit) => [cM μ iK kn ln 1 sp bg fm le fi se re ca]) F w [0] [] [0] rfl rfl rfl (fun _ => rfl)
    (fun hp => va_runV (As := [.int (bI false)]) (rest := []) F.1 (kX6_asks_f l g μ iK kn ln th sp bg fm le fi se re ca H.size ) (cwV 1 hts gX6_told_X6_asks rfl rfl rfl ⟨rfl, hd_X6_asks⟩ ⟨Nat.le_of_ble_eq_true rfl, Nat.le_of_ble_eq_true rfl⟩) ⟨hp.1, va_recv F.2.2.2.1.1 w.1 (q0 := 0) (ci := 6) rfl rfl, hp.2⟩ rfl rfl hl.1 rfl (lv_room (Nat.le_of_ble_eq_true rfl)) dX6_told_5 ⟨Nat.le_of_ble_eq_true rfl, Nat.le_of_ble_eq_true rfl⟩)
    (fun r_3 _ H locs h_4 w => ?_)
  subst h_4
  refine lv_if_eq (tgt := 20) hx hb dX6_told_8 (by decide) (fun h_5 => ?_) (fun h_5 => ?_)
  · have h_5 : false = false := bI_z.mp h_5
    refine lv_iconst (v := nI 0) hx hb dX6_told_20 (by decide) ?_
    subst hA
    subst hQ
    exact kreti F w () [0] rfl rfl (rfl) (Nat.le_of_ble_eq_true rfl) (Nat.le_of_ble_eq_true rfl) dX6_told_21
  · have h_5 : false = true := bI_o.mp h_5
    exact absurd h_5 (by simp)
theorem hd_X6_told : yX6_told.cls ≠ "java/lang/invoke/MethodHandle" ∧ yX6_told.cls ≠ "java/lang/invoke/VarHandle" ∧ (parseMethodDescriptor yX6_told.desc).map (fun d => d.parameters.length) = some 2 := by decide +kernel
abbrev rmX6_isOpen_k : Room := { frames := 3, cells := 0, slots := 0, locals := 64 }
set_option maxHeartbeats 4000000 in
set_option maxRecDepth 100000 in
theorem kX6_isOpen_k (l : Launch) (g : GG) (μ : Nat → Nat) (iK : Bool) (kn : Nat) (ln : Nat) (th : Nat) (sp : Nat) (bg : Nat) (fm : Bool) (le : Int32) (fi : Nat) (se : Nat) (re : Nat) (ca : Nat) (σ : Sg) (d : Nat) (sz : Nat) (hd : 1 ≤ d ∧ d ≤ 48) : Met l yX6_isOpen wsX6_isOpen rmX6_isOpen_k (va_Pc [.ref (μ 0), .int (nI d)] (kPre g [cM μ iK kn ln th sp bg fm le fi se re ca, xI g (μ 1) 288 (enc σ)] sz)) (va_Qi (fun (r : Int32) (u : Unit) => r = bI (zO σ d)) (kB g (va_A [cM μ iK kn ln th sp bg fm le fi se re ca, xI g (μ 1) 288 (enc σ)] sz) (fun u => [cM μ iK kn ln 0 sp bg fm le fi se re ca, xI g (μ 1) 288 (enc σ)])) (va_A [cM μ iK kn ln th sp bg fm le fi se re ca, xI g (μ 1) 288 (enc σ)] sz)) 0 0 (va_A [cM μ iK kn ln th sp bg fm le fi se re ca, xI g (μ 1) 288 (enc σ)] sz) := by
  refine kMet (cc := cX6_isOpen) (maxL := 2) (ret := (some .boolean)) (own := RX6) (by decide) rfl rfl (Nat.le_of_ble_eq_true rfl) ?_
  intro p e s m args below meth c ls Q H locs A F w hl hnm hA hQ
  have hx := F.1.1
  have hb := F.1.2.1
  have hts := F.1.2.2.2.2
  have hl : lv_has ls 2 [(0, .ref (μ 0)), (1, .int (nI d))] := hl
  refine lv_aload_n hx hb dX6_isOpen_0 rfl (lv_at hl 0 rfl) ?_
  refine lv_iload_n hx hb dX6_isOpen_1 rfl (lv_at hl 1 rfl) ?_
  refine lv_iconst (v := nI 0) hx hb dX6_isOpen_2 (by decide) ?_
  refine kcalli (wc := [cM μ iK kn ln th sp bg fm le fi se re ca, xI g (μ 1) 288 (enc σ)]) (wr := []) (wn := fun (u : Unit) => [cM μ iK kn ln 0 sp bg fm le fi se re ca, xI g (μ 1) 288 (enc σ)]) F w [0, 1] [] [0, 1] rfl rfl rfl (fun _ => rfl)
    (fun hp => va_runV (As := [.int (nI d), .int (nI 0)]) (rest := []) F.1 (kX6_told_k l g μ iK kn ln th sp bg fm le fi se re ca (enc σ) d 0 H.size (⟨hd.1, hd.2, by omega⟩)) (cwV 2 hts gX6_isOpen_X6_told rfl rfl rfl ⟨rfl, hd_X6_told⟩ ⟨Nat.le_of_ble_eq_true rfl, Nat.le_of_ble_eq_true rfl⟩) ⟨hp.1, va_recv F.2.2.2.1.1 w.1 (q0 := 0) (ci := 6) rfl rfl, hp.2⟩ rfl rfl hl.1 rfl (lv_room (Nat.le_of_ble_eq_true rfl)) dX6_isOpen_3 ⟨Nat.le_of_ble_eq_true rfl, Nat.le_of_ble_eq_true rfl⟩)
    (fun r_1 _ H locs h_2 w => ?_)
  subst h_2
  refine ktopi (y := bI (zO σ d)) (enc_O hd.1 hd.2) ?_
  refine lv_iconst (v := nI 1) hx hb dX6_isOpen_6 (by decide) ?_
  refine lv_icmp_ne (tgt := 14) hx hb dX6_isOpen_7 (by decide) (fun h_3 => ?_) (fun h_3 => ?_)
  · have h_3 : (zO σ d) = false := bI_n1.mp h_3
    refine lv_iconst (v := nI 0) hx hb dX6_isOpen_14 (by decide) ?_
    subst hA
    subst hQ
    exact kretz F w () [0, 1] rfl rfl (by show nI 0 = bI ((zO σ d)); rw [h_3]; rfl) (by decide +kernel) (Nat.le_of_ble_eq_true rfl) (Nat.le_of_ble_eq_true rfl) dX6_isOpen_15
  · have h_3 : (zO σ d) = true := bI_1.mp h_3
    refine lv_iconst (v := nI 1) hx hb dX6_isOpen_10 (by decide) ?_
    refine lv_goto (tgt := 15) hx hb dX6_isOpen_11 (by decide) ?_
    subst hA
    subst hQ
    exact kretz F w () [0, 1] rfl rfl (by show nI 1 = bI ((zO σ d)); rw [h_3]; rfl) (by decide +kernel) (Nat.le_of_ble_eq_true rfl) (Nat.le_of_ble_eq_true rfl) dX6_isOpen_15
abbrev rmX6_isOpen_A : Room := { frames := 3, cells := 0, slots := 0, locals := 64 }
set_option maxHeartbeats 4000000 in
set_option maxRecDepth 100000 in
theorem kX6_isOpen_A (l : Launch) (g : GG) (μ : Nat → Nat) (iK : Bool) (kn : Nat) (ln : Nat) (th : Nat) (sp : Nat) (bg : Nat) (fm : Bool) (le : Int32) (fi : Nat) (se : Nat) (re : Nat) (ca : Nat) (n : Int32) (sz : Nat) (hn : ¬ (1 ≤ n.toInt ∧ n.toInt ≤ 48)) : Met l yX6_isOpen wsX6_isOpen rmX6_isOpen_A (va_Pc [.ref (μ 0), .int n] (kPre g [cM μ iK kn ln th sp bg fm le fi se re ca] sz)) (va_Qi (fun (r : Int32) (u : Unit) => r = nI 0) (kB g (va_A [cM μ iK kn ln th sp bg fm le fi se re ca] sz) (fun u => [cM μ iK kn ln 1 sp bg fm le fi se re ca])) (va_A [cM μ iK kn ln th sp bg fm le fi se re ca] sz)) 0 0 (va_A [cM μ iK kn ln th sp bg fm le fi se re ca] sz) := by
  refine kMet (cc := cX6_isOpen) (maxL := 2) (ret := (some .boolean)) (own := RX6) (by decide) rfl rfl (Nat.le_of_ble_eq_true rfl) ?_
  intro p e s m args below meth c ls Q H locs A F w hl hnm hA hQ
  have hx := F.1.1
  have hb := F.1.2.1
  have hts := F.1.2.2.2.2
  have hl : lv_has ls 2 [(0, .ref (μ 0)), (1, .int n)] := hl
  refine lv_aload_n hx hb dX6_isOpen_0 rfl (lv_at hl 0 rfl) ?_
  refine lv_iload_n hx hb dX6_isOpen_1 rfl (lv_at hl 1 rfl) ?_
  refine lv_iconst (v := nI 0) hx hb dX6_isOpen_2 (by decide) ?_
  refine kcalli (wc := [cM μ iK kn ln th sp bg fm le fi se re ca]) (wr := []) (wn := fun (u : Unit) => [cM μ iK kn ln 1 sp bg fm le fi se re ca]) F w [0] [] [0] rfl rfl rfl (fun _ => rfl)
    (fun hp => va_runV (As := [.int n, .int (nI 0)]) (rest := []) F.1 (kX6_told_A l g μ iK kn ln th sp bg fm le fi se re ca n (nI 0) H.size hn) (cwV 2 hts gX6_isOpen_X6_told rfl rfl rfl ⟨rfl, hd_X6_told⟩ ⟨Nat.le_of_ble_eq_true rfl, Nat.le_of_ble_eq_true rfl⟩) ⟨hp.1, va_recv F.2.2.2.1.1 w.1 (q0 := 0) (ci := 6) rfl rfl, hp.2⟩ rfl rfl hl.1 rfl (lv_room (Nat.le_of_ble_eq_true rfl)) dX6_isOpen_3 ⟨Nat.le_of_ble_eq_true rfl, Nat.le_of_ble_eq_true rfl⟩)
    (fun r_1 _ H locs h_2 w => ?_)
  subst h_2
  refine lv_iconst (v := nI 1) hx hb dX6_isOpen_6 (by decide) ?_
  refine lv_icmp_ne (tgt := 14) hx hb dX6_isOpen_7 (by decide) (fun h_3 => ?_) (fun h_3 => ?_)
  · have h_3 : 0 ≠ 1 := (kc_ne_t (by omega) (by omega)).mp h_3
    refine lv_iconst (v := nI 0) hx hb dX6_isOpen_14 (by decide) ?_
    subst hA
    subst hQ
    exact kretz F w () [0] rfl rfl (rfl) (by decide +kernel) (Nat.le_of_ble_eq_true rfl) (Nat.le_of_ble_eq_true rfl) dX6_isOpen_15
  · have h_3 : 0 = 1 := (kc_ne_f (by omega) (by omega)).mp h_3
    omega
abbrev rmX6_isLocked_k : Room := { frames := 3, cells := 0, slots := 0, locals := 64 }
set_option maxHeartbeats 4000000 in
set_option maxRecDepth 100000 in
theorem kX6_isLocked_k (l : Launch) (g : GG) (μ : Nat → Nat) (iK : Bool) (kn : Nat) (ln : Nat) (th : Nat) (sp : Nat) (bg : Nat) (fm : Bool) (le : Int32) (fi : Nat) (se : Nat) (re : Nat) (ca : Nat) (σ : Sg) (d : Nat) (sz : Nat) (hd : 1 ≤ d ∧ d ≤ 48) : Met l yX6_isLocked wsX6_isLocked rmX6_isLocked_k (va_Pc [.ref (μ 0), .int (nI d)] (kPre g [cM μ iK kn ln th sp bg fm le fi se re ca, xI g (μ 1) 288 (enc σ)] sz)) (va_Qi (fun (r : Int32) (u : Unit) => r = bI (zL σ d)) (kB g (va_A [cM μ iK kn ln th sp bg fm le fi se re ca, xI g (μ 1) 288 (enc σ)] sz) (fun u => [cM μ iK kn ln 0 sp bg fm le fi se re ca, xI g (μ 1) 288 (enc σ)])) (va_A [cM μ iK kn ln th sp bg fm le fi se re ca, xI g (μ 1) 288 (enc σ)] sz)) 0 0 (va_A [cM μ iK kn ln th sp bg fm le fi se re ca, xI g (μ 1) 288 (enc σ)] sz) := by
  refine kMet (cc := cX6_isLocked) (maxL := 2) (ret := (some .boolean)) (own := RX6) (by decide) rfl rfl (Nat.le_of_ble_eq_true rfl) ?_
  intro p e s m args below meth c ls Q H locs A F w hl hnm hA hQ
  have hx := F.1.1
  have hb := F.1.2.1
  have hts := F.1.2.2.2.2
  have hl : lv_has ls 2 [(0, .ref (μ 0)), (1, .int (nI d))] := hl
  refine lv_aload_n hx hb dX6_isLocked_0 rfl (lv_at hl 0 rfl) ?_
  refine lv_iload_n hx hb dX6_isLocked_1 rfl (lv_at hl 1 rfl) ?_
  refine lv_bipush (v := nI 48) hx hb dX6_isLocked_2 (by decide) ?_
  refine kcalli (wc := [cM μ iK kn ln th sp bg fm le fi se re ca, xI g (μ 1) 288 (enc σ)]) (wr := []) (wn := fun (u : Unit) => [cM μ iK kn ln 0 sp bg fm le fi se re ca, xI g (μ 1) 288 (enc σ)]) F w [0, 1] [] [0, 1] rfl rfl rfl (fun _ => rfl)
    (fun hp => va_runV (As := [.int (nI d), .int (nI 48)]) (rest := []) F.1 (kX6_told_k l g μ iK kn ln th sp bg fm le fi se re ca (enc σ) d 48 H.size (⟨hd.1, hd.2, by omega⟩)) (cwV 2 hts gX6_isLocked_X6_told rfl rfl rfl ⟨rfl, hd_X6_told⟩ ⟨Nat.le_of_ble_eq_true rfl, Nat.le_of_ble_eq_true rfl⟩) ⟨hp.1, va_recv F.2.2.2.1.1 w.1 (q0 := 0) (ci := 6) rfl rfl, hp.2⟩ rfl rfl hl.1 rfl (lv_room (Nat.le_of_ble_eq_true rfl)) dX6_isLocked_4 ⟨Nat.le_of_ble_eq_true rfl, Nat.le_of_ble_eq_true rfl⟩)
    (fun r_1 _ H locs h_2 w => ?_)
  subst h_2
  refine ktopi (y := bI (zL σ d)) (enc_L hd.1 hd.2) ?_
  refine lv_iconst (v := nI 1) hx hb dX6_isLocked_7 (by decide) ?_
  refine lv_icmp_ne (tgt := 15) hx hb dX6_isLocked_8 (by decide) (fun h_3 => ?_) (fun h_3 => ?_)
  · have h_3 : (zL σ d) = false := bI_n1.mp h_3
    refine lv_iconst (v := nI 0) hx hb dX6_isLocked_15 (by decide) ?_
    subst hA
    subst hQ
    exact kretz F w () [0, 1] rfl rfl (by show nI 0 = bI ((zL σ d)); rw [h_3]; rfl) (by decide +kernel) (Nat.le_of_ble_eq_true rfl) (Nat.le_of_ble_eq_true rfl) dX6_isLocked_16
  · have h_3 : (zL σ d) = true := bI_1.mp h_3
    refine lv_iconst (v := nI 1) hx hb dX6_isLocked_11 (by decide) ?_
    refine lv_goto (tgt := 16) hx hb dX6_isLocked_12 (by decide) ?_
    subst hA
    subst hQ
    exact kretz F w () [0, 1] rfl rfl (by show nI 1 = bI ((zL σ d)); rw [h_3]; rfl) (by decide +kernel) (Nat.le_of_ble_eq_true rfl) (Nat.le_of_ble_eq_true rfl) dX6_isLocked_16
abbrev rmX6_isLocked_A : Room := { frames := 3, cells := 0, slots := 0, locals := 64 }
set_option maxHeartbeats 4000000 in
set_option maxRecDepth 100000 in
theorem kX6_isLocked_A (l : Launch) (g : GG) (μ : Nat → Nat) (iK : Bool) (kn : Nat) (ln : Nat) (th : Nat) (sp : Nat) (bg : Nat) (fm : Bool) (le : Int32) (fi : Nat) (se : Nat) (re : Nat) (ca : Nat) (n : Int32) (sz : Nat) (hn : ¬ (1 ≤ n.toInt ∧ n.toInt ≤ 48)) : Met l yX6_isLocked wsX6_isLocked rmX6_isLocked_A (va_Pc [.ref (μ 0), .int n] (kPre g [cM μ iK kn ln th sp bg fm le fi se re ca] sz)) (va_Qi (fun (r : Int32) (u : Unit) => r = nI 0) (kB g (va_A [cM μ iK kn ln th sp bg fm le fi se re ca] sz) (fun u => [cM μ iK kn ln 1 sp bg fm le fi se re ca])) (va_A [cM μ iK kn ln th sp bg fm le fi se re ca] sz)) 0 0 (va_A [cM μ iK kn ln th sp bg fm le fi se re ca] sz) := by
  refine kMet (cc := cX6_isLocked) (maxL := 2) (ret := (some .boolean)) (own := RX6) (by decide) rfl rfl (Nat.le_of_ble_eq_true rfl) ?_
  intro p e s m args below meth c ls Q H locs A F w hl hnm hA hQ
  have hx := F.1.1
  have hb := F.1.2.1
  have hts := F.1.2.2.2.2
  have hl : lv_has ls 2 [(0, .ref (μ 0)), (1, .int n)] := hl
  refine lv_aload_n hx hb dX6_isLocked_0 rfl (lv_at hl 0 rfl) ?_
  refine lv_iload_n hx hb dX6_isLocked_1 rfl (lv_at hl 1 rfl) ?_
  refine lv_bipush (v := nI 48) hx hb dX6_isLocked_2 (by decide) ?_
  refine kcalli (wc := [cM μ iK kn ln th sp bg fm le fi se re ca]) (wr := []) (wn := fun (u : Unit) => [cM μ iK kn ln 1 sp bg fm le fi se re ca]) F w [0] [] [0] rfl rfl rfl (fun _ => rfl)
    (fun hp => va_runV (As := [.int n, .int (nI 48)]) (rest := []) F.1 (kX6_told_A l g μ iK kn ln th sp bg fm le fi se re ca n (nI 48) H.size hn) (cwV 2 hts gX6_isLocked_X6_told rfl rfl rfl ⟨rfl, hd_X6_told⟩ ⟨Nat.le_of_ble_eq_true rfl, Nat.le_of_ble_eq_true rfl⟩) ⟨hp.1, va_recv F.2.2.2.1.1 w.1 (q0 := 0) (ci := 6) rfl rfl, hp.2⟩ rfl rfl hl.1 rfl (lv_room (Nat.le_of_ble_eq_true rfl)) dX6_isLocked_4 ⟨Nat.le_of_ble_eq_true rfl, Nat.le_of_ble_eq_true rfl⟩)
    (fun r_1 _ H locs h_2 w => ?_)
  subst h_2
  refine lv_iconst (v := nI 1) hx hb dX6_isLocked_7 (by decide) ?_
  refine lv_icmp_ne (tgt := 15) hx hb dX6_isLocked_8 (by decide) (fun h_3 => ?_) (fun h_3 => ?_)
  · have h_3 : 0 ≠ 1 := (kc_ne_t (by omega) (by omega)).mp h_3
    refine lv_iconst (v := nI 0) hx hb dX6_isLocked_15 (by decide) ?_
    subst hA
    subst hQ
    exact kretz F w () [0] rfl rfl (rfl) (by decide +kernel) (Nat.le_of_ble_eq_true rfl) (Nat.le_of_ble_eq_true rfl) dX6_isLocked_16
  · have h_3 : 0 = 1 := (kc_ne_f (by omega) (by omega)).mp h_3
    omega
abbrev rmX6_turnsOf_k : Room := { frames := 3, cells := 0, slots := 0, locals := 64 }
set_option maxHeartbeats 4000000 in
set_option maxRecDepth 100000 in
theorem kX6_turnsOf_k (l : Launch) (g : GG) (μ : Nat → Nat) (iK : Bool) (kn : Nat) (ln : Nat) (th : Nat) (sp : Nat) (bg : Nat) (fm : Bool) (le : Int32) (fi : Nat) (se : Nat) (re : Nat) (ca : Nat) (σ : Sg) (d : Nat) (sz : Nat) (hd : 1 ≤ d ∧ d ≤ 48) : Met l yX6_turnsOf wsX6_turnsOf rmX6_turnsOf_k (va_Pc [.ref (μ 0), .int (nI d)] (kPre g [cM μ iK kn ln th sp bg fm le fi se re ca, xI g (μ 1) 288 (enc σ)] sz)) (va_Qi (fun (r : Int32) (u : Unit) => r = zT σ d) (kB g (va_A [cM μ iK kn ln th sp bg fm le fi se re ca, xI g (μ 1) 288 (enc σ)] sz) (fun u => [cM μ iK kn ln 0 sp bg fm le fi se re ca, xI g (μ 1) 288 (enc σ)])) (va_A [cM μ iK kn ln th sp bg fm le fi se re ca, xI g (μ 1) 288 (enc σ)] sz)) 0 0 (va_A [cM μ iK kn ln th sp bg fm le fi se re ca, xI g (μ 1) 288 (enc σ)] sz) := by
  refine kMet (cc := cX6_turnsOf) (maxL := 2) (ret := (some .int)) (own := RX6) (by decide) rfl rfl (Nat.le_of_ble_eq_true rfl) ?_
  intro p e s m args below meth c ls Q H locs A F w hl hnm hA hQ
  have hx := F.1.1
  have hb := F.1.2.1
  have hts := F.1.2.2.2.2
  have hl : lv_has ls 2 [(0, .ref (μ 0)), (1, .int (nI d))] := hl
  refine lv_aload_n hx hb dX6_turnsOf_0 rfl (lv_at hl 0 rfl) ?_
  refine lv_iload_n hx hb dX6_turnsOf_1 rfl (lv_at hl 1 rfl) ?_
  refine lv_bipush (v := nI 96) hx hb dX6_turnsOf_2 (by decide) ?_
  refine kcalli (wc := [cM μ iK kn ln th sp bg fm le fi se re ca, xI g (μ 1) 288 (enc σ)]) (wr := []) (wn := fun (u : Unit) => [cM μ iK kn ln 0 sp bg fm le fi se re ca, xI g (μ 1) 288 (enc σ)]) F w [0, 1] [] [0, 1] rfl rfl rfl (fun _ => rfl)
    (fun hp => va_runV (As := [.int (nI d), .int (nI 96)]) (rest := []) F.1 (kX6_told_k l g μ iK kn ln th sp bg fm le fi se re ca (enc σ) d 96 H.size (⟨hd.1, hd.2, by omega⟩)) (cwV 2 hts gX6_turnsOf_X6_told rfl rfl rfl ⟨rfl, hd_X6_told⟩ ⟨Nat.le_of_ble_eq_true rfl, Nat.le_of_ble_eq_true rfl⟩) ⟨hp.1, va_recv F.2.2.2.1.1 w.1 (q0 := 0) (ci := 6) rfl rfl, hp.2⟩ rfl rfl hl.1 rfl (lv_room (Nat.le_of_ble_eq_true rfl)) dX6_turnsOf_4 ⟨Nat.le_of_ble_eq_true rfl, Nat.le_of_ble_eq_true rfl⟩)
    (fun r_1 _ H locs h_2 w => ?_)
  subst h_2
  refine ktopi (y := zT σ d) (enc_T hd.1 hd.2) ?_
  subst hA
  subst hQ
  exact kreti F w () [0, 1] rfl rfl (rfl) (Nat.le_of_ble_eq_true rfl) (Nat.le_of_ble_eq_true rfl) dX6_turnsOf_7
abbrev rmX6_turnsOf_A : Room := { frames := 3, cells := 0, slots := 0, locals := 64 }
set_option maxHeartbeats 4000000 in
set_option maxRecDepth 100000 in
theorem kX6_turnsOf_A (l : Launch) (g : GG) (μ : Nat → Nat) (iK : Bool) (kn : Nat) (ln : Nat) (th : Nat) (sp : Nat) (bg : Nat) (fm : Bool) (le : Int32) (fi : Nat) (se : Nat) (re : Nat) (ca : Nat) (n : Int32) (sz : Nat) (hn : ¬ (1 ≤ n.toInt ∧ n.toInt ≤ 48)) : Met l yX6_turnsOf wsX6_turnsOf rmX6_turnsOf_A (va_Pc [.ref (μ 0), .int n] (kPre g [cM μ iK kn ln th sp bg fm le fi se re ca] sz)) (va_Qi (fun (r : Int32) (u : Unit) => r = nI 0) (kB g (va_A [cM μ iK kn ln th sp bg fm le fi se re ca] sz) (fun u => [cM μ iK kn ln 1 sp bg fm le fi se re ca])) (va_A [cM μ iK kn ln th sp bg fm le fi se re ca] sz)) 0 0 (va_A [cM μ iK kn ln th sp bg fm le fi se re ca] sz) := by
  refine kMet (cc := cX6_turnsOf) (maxL := 2) (ret := (some .int)) (own := RX6) (by decide) rfl rfl (Nat.le_of_ble_eq_true rfl) ?_
  intro p e s m args below meth c ls Q H locs A F w hl hnm hA hQ
  have hx := F.1.1
  have hb := F.1.2.1
  have hts := F.1.2.2.2.2
  have hl : lv_has ls 2 [(0, .ref (μ 0)), (1, .int n)] := hl
  refine lv_aload_n hx hb dX6_turnsOf_0 rfl (lv_at hl 0 rfl) ?_
  refine lv_iload_n hx hb dX6_turnsOf_1 rfl (lv_at hl 1 rfl) ?_
  refine lv_bipush (v := nI 96) hx hb dX6_turnsOf_2 (by decide) ?_
  refine kcalli (wc := [cM μ iK kn ln th sp bg fm le fi se re ca]) (wr := []) (wn := fun (u : Unit) => [cM μ iK kn ln 1 sp bg fm le fi se re ca]) F w [0] [] [0] rfl rfl rfl (fun _ => rfl)
    (fun hp => va_runV (As := [.int n, .int (nI 96)]) (rest := []) F.1 (kX6_told_A l g μ iK kn ln th sp bg fm le fi se re ca n (nI 96) H.size hn) (cwV 2 hts gX6_turnsOf_X6_told rfl rfl rfl ⟨rfl, hd_X6_told⟩ ⟨Nat.le_of_ble_eq_true rfl, Nat.le_of_ble_eq_true rfl⟩) ⟨hp.1, va_recv F.2.2.2.1.1 w.1 (q0 := 0) (ci := 6) rfl rfl, hp.2⟩ rfl rfl hl.1 rfl (lv_room (Nat.le_of_ble_eq_true rfl)) dX6_turnsOf_4 ⟨Nat.le_of_ble_eq_true rfl, Nat.le_of_ble_eq_true rfl⟩)
    (fun r_1 _ H locs h_2 w => ?_)
  subst h_2
  subst hA
  subst hQ
  exact kreti F w () [0] rfl rfl (rfl) (Nat.le_of_ble_eq_true rfl) (Nat.le_of_ble_eq_true rfl) dX6_turnsOf_7
abbrev rmX6_isSkipped_k : Room := { frames := 3, cells := 0, slots := 0, locals := 64 }
set_option maxHeartbeats 4000000 in
set_option maxRecDepth 100000 in
theorem kX6_isSkipped_k (l : Launch) (g : GG) (μ : Nat → Nat) (iK : Bool) (kn : Nat) (ln : Nat) (th : Nat) (sp : Nat) (bg : Nat) (fm : Bool) (le : Int32) (fi : Nat) (se : Nat) (re : Nat) (ca : Nat) (σ : Sg) (d : Nat) (sz : Nat) (hd : 1 ≤ d ∧ d ≤ 48) : Met l yX6_isSkipped wsX6_isSkipped rmX6_isSkipped_k (va_Pc [.ref (μ 0), .int (nI d)] (kPre g [cM μ iK kn ln th sp bg fm le fi se re ca, xI g (μ 1) 288 (enc σ)] sz)) (va_Qi (fun (r : Int32) (u : Unit) => r = bI (zS σ d)) (kB g (va_A [cM μ iK kn ln th sp bg fm le fi se re ca, xI g (μ 1) 288 (enc σ)] sz) (fun u => [cM μ iK kn ln 0 sp bg fm le fi se re ca, xI g (μ 1) 288 (enc σ)])) (va_A [cM μ iK kn ln th sp bg fm le fi se re ca, xI g (μ 1) 288 (enc σ)] sz)) 0 0 (va_A [cM μ iK kn ln th sp bg fm le fi se re ca, xI g (μ 1) 288 (enc σ)] sz) := by
  refine kMet (cc := cX6_isSkipped) (maxL := 2) (ret := (some .boolean)) (own := RX6) (by decide) rfl rfl (Nat.le_of_ble_eq_true rfl) ?_
  intro p e s m args below meth c ls Q H locs A F w hl hnm hA hQ
  have hx := F.1.1
  have hb := F.1.2.1
  have hts := F.1.2.2.2.2
  have hl : lv_has ls 2 [(0, .ref (μ 0)), (1, .int (nI d))] := hl
  refine lv_aload_n hx hb dX6_isSkipped_0 rfl (lv_at hl 0 rfl) ?_
  refine lv_iload_n hx hb dX6_isSkipped_1 rfl (lv_at hl 1 rfl) ?_
  refine lv_sipush (v := nI 144) hx hb dX6_isSkipped_2 (by decide) ?_
  refine kcalli (wc := [cM μ iK kn ln th sp bg fm le fi se re ca, xI g (μ 1) 288 (enc σ)]) (wr := []) (wn := fun (u : Unit) => [cM μ iK kn ln 0 sp bg fm le fi se re ca, xI g (μ 1) 288 (enc σ)]) F w [0, 1] [] [0, 1] rfl rfl rfl (fun _ => rfl)
    (fun hp => va_runV (As := [.int (nI d), .int (nI 144)]) (rest := []) F.1 (kX6_told_k l g μ iK kn ln th sp bg fm le fi se re ca (enc σ) d 144 H.size (⟨hd.1, hd.2, by omega⟩)) (cwV 2 hts gX6_isSkipped_X6_told rfl rfl rfl ⟨rfl, hd_X6_told⟩ ⟨Nat.le_of_ble_eq_true rfl, Nat.le_of_ble_eq_true rfl⟩) ⟨hp.1, va_recv F.2.2.2.1.1 w.1 (q0 := 0) (ci := 6) rfl rfl, hp.2⟩ rfl rfl hl.1 rfl (lv_room (Nat.le_of_ble_eq_true rfl)) dX6_isSkipped_5 ⟨Nat.le_of_ble_eq_true rfl, Nat.le_of_ble_eq_true rfl⟩)
    (fun r_1 _ H locs h_2 w => ?_)
  subst h_2
  refine ktopi (y := bI (zS σ d)) (enc_S hd.1 hd.2) ?_
  refine lv_iconst (v := nI 1) hx hb dX6_isSkipped_8 (by decide) ?_
  refine lv_icmp_ne (tgt := 16) hx hb dX6_isSkipped_9 (by decide) (fun h_3 => ?_) (fun h_3 => ?_)
  · have h_3 : (zS σ d) = false := bI_n1.mp h_3
    refine lv_iconst (v := nI 0) hx hb dX6_isSkipped_16 (by decide) ?_
    subst hA
    subst hQ
    exact kretz F w () [0, 1] rfl rfl (by show nI 0 = bI ((zS σ d)); rw [h_3]; rfl) (by decide +kernel) (Nat.le_of_ble_eq_true rfl) (Nat.le_of_ble_eq_true rfl) dX6_isSkipped_17
  · have h_3 : (zS σ d) = true := bI_1.mp h_3
    refine lv_iconst (v := nI 1) hx hb dX6_isSkipped_12 (by decide) ?_
    refine lv_goto (tgt := 17) hx hb dX6_isSkipped_13 (by decide) ?_
    subst hA
    subst hQ
    exact kretz F w () [0, 1] rfl rfl (by show nI 1 = bI ((zS σ d)); rw [h_3]; rfl) (by decide +kernel) (Nat.le_of_ble_eq_true rfl) (Nat.le_of_ble_eq_true rfl) dX6_isSkipped_17
abbrev rmX6_isSkipped_A : Room := { frames := 3, cells := 0, slots := 0, locals := 64 }
set_option maxHeartbeats 4000000 in
set_option maxRecDepth 100000 in
theorem kX6_isSkipped_A (l : Launch) (g : GG) (μ : Nat → Nat) (iK : Bool) (kn : Nat) (ln : Nat) (th : Nat) (sp : Nat) (bg : Nat) (fm : Bool) (le : Int32) (fi : Nat) (se : Nat) (re : Nat) (ca : Nat) (n : Int32) (sz : Nat) (hn : ¬ (1 ≤ n.toInt ∧ n.toInt ≤ 48)) : Met l yX6_isSkipped wsX6_isSkipped rmX6_isSkipped_A (va_Pc [.ref (μ 0), .int n] (kPre g [cM μ iK kn ln th sp bg fm le fi se re ca] sz)) (va_Qi (fun (r : Int32) (u : Unit) => r = nI 0) (kB g (va_A [cM μ iK kn ln th sp bg fm le fi se re ca] sz) (fun u => [cM μ iK kn ln 1 sp bg fm le fi se re ca])) (va_A [cM μ iK kn ln th sp bg fm le fi se re ca] sz)) 0 0 (va_A [cM μ iK kn ln th sp bg fm le fi se re ca] sz) := by
  refine kMet (cc := cX6_isSkipped) (maxL := 2) (ret := (some .boolean)) (own := RX6) (by decide) rfl rfl (Nat.le_of_ble_eq_true rfl) ?_
  intro p e s m args below meth c ls Q H locs A F w hl hnm hA hQ
  have hx := F.1.1
  have hb := F.1.2.1
  have hts := F.1.2.2.2.2
  have hl : lv_has ls 2 [(0, .ref (μ 0)), (1, .int n)] := hl
  refine lv_aload_n hx hb dX6_isSkipped_0 rfl (lv_at hl 0 rfl) ?_
  refine lv_iload_n hx hb dX6_isSkipped_1 rfl (lv_at hl 1 rfl) ?_
  refine lv_sipush (v := nI 144) hx hb dX6_isSkipped_2 (by decide) ?_
  refine kcalli (wc := [cM μ iK kn ln th sp bg fm le fi se re ca]) (wr := []) (wn := fun (u : Unit) => [cM μ iK kn ln 1 sp bg fm le fi se re ca]) F w [0] [] [0] rfl rfl rfl (fun _ => rfl)
    (fun hp => va_runV (As := [.int n, .int (nI 144)]) (rest := []) F.1 (kX6_told_A l g μ iK kn ln th sp bg fm le fi se re ca n (nI 144) H.size hn) (cwV 2 hts gX6_isSkipped_X6_told rfl rfl rfl ⟨rfl, hd_X6_told⟩ ⟨Nat.le_of_ble_eq_true rfl, Nat.le_of_ble_eq_true rfl⟩) ⟨hp.1, va_recv F.2.2.2.1.1 w.1 (q0 := 0) (ci := 6) rfl rfl, hp.2⟩ rfl rfl hl.1 rfl (lv_room (Nat.le_of_ble_eq_true rfl)) dX6_isSkipped_5 ⟨Nat.le_of_ble_eq_true rfl, Nat.le_of_ble_eq_true rfl⟩)
    (fun r_1 _ H locs h_2 w => ?_)
  subst h_2
  refine lv_iconst (v := nI 1) hx hb dX6_isSkipped_8 (by decide) ?_
  refine lv_icmp_ne (tgt := 16) hx hb dX6_isSkipped_9 (by decide) (fun h_3 => ?_) (fun h_3 => ?_)
  · have h_3 : 0 ≠ 1 := (kc_ne_t (by omega) (by omega)).mp h_3
    refine lv_iconst (v := nI 0) hx hb dX6_isSkipped_16 (by decide) ?_
    subst hA
    subst hQ
    exact kretz F w () [0] rfl rfl (rfl) (by decide +kernel) (Nat.le_of_ble_eq_true rfl) (Nat.le_of_ble_eq_true rfl) dX6_isSkipped_17
  · have h_3 : 0 = 1 := (kc_ne_f (by omega) (by omega)).mp h_3
    omega
abbrev rmX6_timesOf_k : Room := { frames := 3, cells := 0, slots := 0, locals := 64 }
set_option maxHeartbeats 4000000 in
set_option maxRecDepth 100000 in
theorem kX6_timesOf_k (l : Launch) (g : GG) (μ : Nat → Nat) (iK : Bool) (kn : Nat) (ln : Nat) (th : Nat) (sp : Nat) (bg : Nat) (fm : Bool) (le : Int32) (fi : Nat) (se : Nat) (re : Nat) (ca : Nat) (σ : Sg) (d : Nat) (sz : Nat) (hd : 1 ≤ d ∧ d ≤ 48) : Met l yX6_timesOf wsX6_timesOf rmX6_timesOf_k (va_Pc [.ref (μ 0), .int (nI d)] (kPre g [cM μ iK kn ln th sp bg fm le fi se re ca, xI g (μ 1) 288 (enc σ)] sz)) (va_Qi (fun (r : Int32) (u : Unit) => r = zI σ d) (kB g (va_A [cM μ iK kn ln th sp bg fm le fi se re ca, xI g (μ 1) 288 (enc σ)] sz) (fun u => [cM μ iK kn ln 0 sp bg fm le fi se re ca, xI g (μ 1) 288 (enc σ)])) (va_A [cM μ iK kn ln th sp bg fm le fi se re ca, xI g (μ 1) 288 (enc σ)] sz)) 0 0 (va_A [cM μ iK kn ln th sp bg fm le fi se re ca, xI g (μ 1) 288 (enc σ)] sz) := by
  refine kMet (cc := cX6_timesOf) (maxL := 2) (ret := (some .int)) (own := RX6) (by decide) rfl rfl (Nat.le_of_ble_eq_true rfl) ?_
  intro p e s m args below meth c ls Q H locs A F w hl hnm hA hQ
  have hx := F.1.1
  have hb := F.1.2.1
  have hts := F.1.2.2.2.2
  have hl : lv_has ls 2 [(0, .ref (μ 0)), (1, .int (nI d))] := hl
  refine lv_aload_n hx hb dX6_timesOf_0 rfl (lv_at hl 0 rfl) ?_
  refine lv_iload_n hx hb dX6_timesOf_1 rfl (lv_at hl 1 rfl) ?_
  refine lv_sipush (v := nI 192) hx hb dX6_timesOf_2 (by decide) ?_
  refine kcalli (wc := [cM μ iK kn ln th sp bg fm le fi se re ca, xI g (μ 1) 288 (enc σ)]) (wr := []) (wn := fun (u : Unit) => [cM μ iK kn ln 0 sp bg fm le fi se re ca, xI g (μ 1) 288 (enc σ)]) F w [0, 1] [] [0, 1] rfl rfl rfl (fun _ => rfl)
    (fun hp => va_runV (As := [.int (nI d), .int (nI 192)]) (rest := []) F.1 (kX6_told_k l g μ iK kn ln th sp bg fm le fi se re ca (enc σ) d 192 H.size (⟨hd.1, hd.2, by omega⟩)) (cwV 2 hts gX6_timesOf_X6_told rfl rfl rfl ⟨rfl, hd_X6_told⟩ ⟨Nat.le_of_ble_eq_true rfl, Nat.le_of_ble_eq_true rfl⟩) ⟨hp.1, va_recv F.2.2.2.1.1 w.1 (q0 := 0) (ci := 6) rfl rfl, hp.2⟩ rfl rfl hl.1 rfl (lv_room (Nat.le_of_ble_eq_true rfl)) dX6_timesOf_5 ⟨Nat.le_of_ble_eq_true rfl, Nat.le_of_ble_eq_true rfl⟩)
    (fun r_1 _ H locs h_2 w => ?_)
  subst h_2
  refine ktopi (y := zI σ d) (enc_I hd.1 hd.2) ?_
  subst hA
  subst hQ
  exact kreti F w () [0, 1] rfl rfl (rfl) (Nat.le_of_ble_eq_true rfl) (Nat.le_of_ble_eq_true rfl) dX6_timesOf_8
abbrev rmX6_timesOf_A : Room := { frames := 3, cells := 0, slots := 0, locals := 64 }
set_option maxHeartbeats 4000000 in
set_option maxRecDepth 100000 in
theorem kX6_timesOf_A (l : Launch) (g : GG) (μ : Nat → Nat) (iK : Bool) (kn : Nat) (ln : Nat) (th : Nat) (sp : Nat) (bg : Nat) (fm : Bool) (le : Int32) (fi : Nat) (se : Nat) (re : Nat) (ca : Nat) (n : Int32) (sz : Nat) (hn : ¬ (1 ≤ n.toInt ∧ n.toInt ≤ 48)) : Met l yX6_timesOf wsX6_timesOf rmX6_timesOf_A (va_Pc [.ref (μ 0), .int n] (kPre g [cM μ iK kn ln th sp bg fm le fi se re ca] sz)) (va_Qi (fun (r : Int32) (u : Unit) => r = nI 0) (kB g (va_A [cM μ iK kn ln th sp bg fm le fi se re ca] sz) (fun u => [cM μ iK kn ln 1 sp bg fm le fi se re ca])) (va_A [cM μ iK kn ln th sp bg fm le fi se re ca] sz)) 0 0 (va_A [cM μ iK kn ln th sp bg fm le fi se re ca] sz) := by
  refine kMet (cc := cX6_timesOf) (maxL := 2) (ret := (some .int)) (own := RX6) (by decide) rfl rfl (Nat.le_of_ble_eq_true rfl) ?_
  intro p e s m args below meth c ls Q H locs A F w hl hnm hA hQ
  have hx := F.1.1
  have hb := F.1.2.1
  have hts := F.1.2.2.2.2
  have hl : lv_has ls 2 [(0, .ref (μ 0)), (1, .int n)] := hl
  refine lv_aload_n hx hb dX6_timesOf_0 rfl (lv_at hl 0 rfl) ?_
  refine lv_iload_n hx hb dX6_timesOf_1 rfl (lv_at hl 1 rfl) ?_
  refine lv_sipush (v := nI 192) hx hb dX6_timesOf_2 (by decide) ?_
  refine kcalli (wc := [cM μ iK kn ln th sp bg fm le fi se re ca]) (wr := []) (wn := fun (u : Unit) => [cM μ iK kn ln 1 sp bg fm le fi se re ca]) F w [0] [] [0] rfl rfl rfl (fun _ => rfl)
    (fun hp => va_runV (As := [.int n, .int (nI 192)]) (rest := []) F.1 (kX6_told_A l g μ iK kn ln th sp bg fm le fi se re ca n (nI 192) H.size hn) (cwV 2 hts gX6_timesOf_X6_told rfl rfl rfl ⟨rfl, hd_X6_told⟩ ⟨Nat.le_of_ble_eq_true rfl, Nat.le_of_ble_eq_true rfl⟩) ⟨hp.1, va_recv F.2.2.2.1.1 w.1 (q0 := 0) (ci := 6) rfl rfl, hp.2⟩ rfl rfl hl.1 rfl (lv_room (Nat.le_of_ble_eq_true rfl)) dX6_timesOf_5 ⟨Nat.le_of_ble_eq_true rfl, Nat.le_of_ble_eq_true rfl⟩)
    (fun r_1 _ H locs h_2 w => ?_)
  subst h_2
  subst hA
  subst hQ
  exact kreti F w () [0] rfl rfl (rfl) (Nat.le_of_ble_eq_true rfl) (Nat.le_of_ble_eq_true rfl) dX6_timesOf_8
abbrev rmX6_divisorsOf_A : Room := { frames := 2, cells := 0, slots := 0, locals := 42 }
set_option maxHeartbeats 4000000 in
set_option maxRecDepth 100000 in
theorem kX6_divisorsOf_A (l : Launch) (g : GG) (μ : Nat → Nat) (iK : Bool) (kn : Nat) (ln : Nat) (th : Nat) (sp : Nat) (bg : Nat) (fm : Bool) (le : Int32) (fi : Nat) (se : Nat) (re : Nat) (ca : Nat) (n : Int32) (sz : Nat) (hn : ¬ (1 ≤ n.toInt ∧ n.toInt ≤ 48)) : Met l yX6_divisorsOf wsX6_divisorsOf rmX6_divisorsOf_A (va_Pc [.ref (μ 0), .int n] (kPre g [cM μ iK kn ln th sp bg fm le fi se re ca] sz)) (va_Qi (fun (r : Int32) (u : Unit) => r = nI 0) (kB g (va_A [cM μ iK kn ln th sp bg fm le fi se re ca] sz) (fun u => [cM μ iK kn ln 1 sp bg fm le fi se re ca])) (va_A [cM μ iK kn ln th sp bg fm le fi se re ca] sz)) 0 0 (va_A [cM μ iK kn ln th sp bg fm le fi se re ca] sz) := by
  refine kMet (cc := cX6_divisorsOf) (maxL := 4) (ret := (some .int)) (own := RX6) (by decide) rfl rfl (Nat.le_of_ble_eq_true rfl) ?_
  intro p e s m args below meth c ls Q H locs A F w hl hnm hA hQ
  have hx := F.1.1
  have hb := F.1.2.1
  have hts := F.1.2.2.2.2
  have hl : lv_has ls 4 [(0, .ref (μ 0)), (1, .int n)] := hl
  refine lv_aload_n hx hb dX6_divisorsOf_0 rfl (lv_at hl 0 rfl) ?_
  refine lv_iload_n hx hb dX6_divisorsOf_1 rfl (lv_at hl 1 rfl) ?_
  refine kcalli (wc := []) (wr := [cM μ iK kn ln th sp bg fm le fi se re ca]) (wn := fun (u : Unit) => [cM μ iK kn ln th sp bg fm le fi se re ca]) F w [] [0] [0] rfl rfl rfl (fun _ => rfl)
    (fun hp => va_runS (As := [.int n]) (rest := [.ref (μ 0)]) F.1 (kX6_isDoor l g n H.size ) (va_cwS 1 hts gX6_divisorsOf_X6_isDoor rfl rfl rfl hd_X6_isDoor ⟨Nat.le_of_ble_eq_true rfl, Nat.le_of_ble_eq_true rfl⟩) hp rfl rfl hl.1 rfl (lv_room (Nat.le_of_ble_eq_true rfl)) dX6_divisorsOf_2 ⟨Nat.le_of_ble_eq_true rfl, Nat.le_of_ble_eq_true rfl⟩)
    (fun r_1 _ H locs h_2 w => ?_)
  subst h_2
  refine ktopi (y := bI false) (congrArg bI (door_f hn)) ?_
  refine kcalli (wc := [cM μ iK kn ln th sp bg fm le fi se re ca]) (wr := []) (wn := fun (u : Unit) => [cM μ iK kn ln 1 sp bg fm le fi se re ca]) F w [0] [] [0] rfl rfl rfl (fun _ => rfl)
    (fun hp => va_runV (As := [.int (bI false)]) (rest := []) F.1 (kX6_asks_f l g μ iK kn ln th sp bg fm le fi se re ca H.size ) (cwV 1 hts gX6_divisorsOf_X6_asks rfl rfl rfl ⟨rfl, hd_X6_asks⟩ ⟨Nat.le_of_ble_eq_true rfl, Nat.le_of_ble_eq_true rfl⟩) ⟨hp.1, va_recv F.2.2.2.1.1 w.1 (q0 := 0) (ci := 6) rfl rfl, hp.2⟩ rfl rfl hl.1 rfl (lv_room (Nat.le_of_ble_eq_true rfl)) dX6_divisorsOf_5 ⟨Nat.le_of_ble_eq_true rfl, Nat.le_of_ble_eq_true rfl⟩)
    (fun r_3 _ H locs h_4 w => ?_)
  subst h_4
  refine lv_if_ne (tgt := 13) hx hb dX6_divisorsOf_8 (by decide) (fun h_5 => ?_) (fun h_5 => ?_)
  · have h_5 : false = true := bI_o.mp h_5
    exact absurd h_5 (by simp)
  · have h_5 : false = false := bI_z.mp h_5
    refine lv_iconst (v := nI 0) hx hb dX6_divisorsOf_11 (by decide) ?_
    subst hA
    subst hQ
    exact kreti F w () [0] rfl rfl (rfl) (Nat.le_of_ble_eq_true rfl) (Nat.le_of_ble_eq_true rfl) dX6_divisorsOf_12
abbrev rmX6_nextOpen_A : Room := { frames := 2, cells := 0, slots := 0, locals := 42 }
set_option maxHeartbeats 4000000 in
set_option maxRecDepth 100000 in
theorem kX6_nextOpen_A (l : Launch) (g : GG) (μ : Nat → Nat) (iK : Bool) (kn : Nat) (ln : Nat) (th : Nat) (sp : Nat) (bg : Nat) (fm : Bool) (le : Int32) (fi : Nat) (se : Nat) (re : Nat) (ca : Nat) (n : Int32) (sz : Nat) (hn : ¬ (1 ≤ n.toInt ∧ n.toInt ≤ 48)) : Met l yX6_nextOpen wsX6_nextOpen rmX6_nextOpen_A (va_Pc [.ref (μ 0), .int n] (kPre g [cM μ iK kn ln th sp bg fm le fi se re ca] sz)) (va_Qi (fun (r : Int32) (u : Unit) => r = nI 0) (kB g (va_A [cM μ iK kn ln th sp bg fm le fi se re ca] sz) (fun u => [cM μ iK kn ln 1 sp bg fm le fi se re ca])) (va_A [cM μ iK kn ln th sp bg fm le fi se re ca] sz)) 0 0 (va_A [cM μ iK kn ln th sp bg fm le fi se re ca] sz) := by
  refine kMet (cc := cX6_nextOpen) (maxL := 3) (ret := (some .int)) (own := RX6) (by decide) rfl rfl (Nat.le_of_ble_eq_true rfl) ?_
  intro p e s m args below meth c ls Q H locs A F w hl hnm hA hQ
  have hx := F.1.1
  have hb := F.1.2.1
  have hts := F.1.2.2.2.2
  have hl : lv_has ls 3 [(0, .ref (μ 0)), (1, .int n)] := hl
  refine lv_aload_n hx hb dX6_nextOpen_0 rfl (lv_at hl 0 rfl) ?_
  refine lv_iload_n hx hb dX6_nextOpen_1 rfl (lv_at hl 1 rfl) ?_
  refine kcalli (wc := []) (wr := [cM μ iK kn ln th sp bg fm le fi se re ca]) (wn := fun (u : Unit) => [cM μ iK kn ln th sp bg fm le fi se re ca]) F w [] [0] [0] rfl rfl rfl (fun _ => rfl)
    (fun hp => va_runS (As := [.int n]) (rest := [.ref (μ 0)]) F.1 (kX6_isDoor l g n H.size ) (va_cwS 1 hts gX6_nextOpen_X6_isDoor rfl rfl rfl hd_X6_isDoor ⟨Nat.le_of_ble_eq_true rfl, Nat.le_of_ble_eq_true rfl⟩) hp rfl rfl hl.1 rfl (lv_room (Nat.le_of_ble_eq_true rfl)) dX6_nextOpen_2 ⟨Nat.le_of_ble_eq_true rfl, Nat.le_of_ble_eq_true rfl⟩)
    (fun r_1 _ H locs h_2 w => ?_)
  subst h_2
  refine ktopi (y := bI false) (congrArg bI (door_f hn)) ?_
  refine kcalli (wc := [cM μ iK kn ln th sp bg fm le fi se re ca]) (wr := []) (wn := fun (u : Unit) => [cM μ iK kn ln 1 sp bg fm le fi se re ca]) F w [0] [] [0] rfl rfl rfl (fun _ => rfl)
    (fun hp => va_runV (As := [.int (bI false)]) (rest := []) F.1 (kX6_asks_f l g μ iK kn ln th sp bg fm le fi se re ca H.size ) (cwV 1 hts gX6_nextOpen_X6_asks rfl rfl rfl ⟨rfl, hd_X6_asks⟩ ⟨Nat.le_of_ble_eq_true rfl, Nat.le_of_ble_eq_true rfl⟩) ⟨hp.1, va_recv F.2.2.2.1.1 w.1 (q0 := 0) (ci := 6) rfl rfl, hp.2⟩ rfl rfl hl.1 rfl (lv_room (Nat.le_of_ble_eq_true rfl)) dX6_nextOpen_5 ⟨Nat.le_of_ble_eq_true rfl, Nat.le_of_ble_eq_true rfl⟩)
    (fun r_3 _ H locs h_4 w => ?_)
  subst h_4
  refine lv_if_ne (tgt := 13) hx hb dX6_nextOpen_8 (by decide) (fun h_5 => ?_) (fun h_5 => ?_)
  · have h_5 : false = true := bI_o.mp h_5
    exact absurd h_5 (by simp)
  · have h_5 : false = false := bI_z.mp h_5
    refine lv_iconst (v := nI 0) hx hb dX6_nextOpen_11 (by decide) ?_
    subst hA
    subst hQ
    exact kreti F w () [0] rfl rfl (rfl) (Nat.le_of_ble_eq_true rfl) (Nat.le_of_ble_eq_true rfl) dX6_nextOpen_12
abbrev rmX6_thingAt_A : Room := { frames := 2, cells := 0, slots := 0, locals := 42 }
set_option maxHeartbeats 4000000 in
set_option maxRecDepth 100000 in
theorem kX6_thingAt_A (l : Launch) (g : GG) (μ : Nat → Nat) (iK : Bool) (kn : Nat) (ln : Nat) (th : Nat) (sp : Nat) (bg : Nat) (fm : Bool) (le : Int32) (fi : Nat) (se : Nat) (re : Nat) (ca : Nat) (n : Int32) (sz : Nat) (hn : ¬ (1 ≤ n.toInt ∧ n.toInt ≤ 48)) : Met l yX6_thingAt wsX6_thingAt rmX6_thingAt_A (va_Pc [.ref (μ 0), .int n] (kPre g [cM μ iK kn ln th sp bg fm le fi se re ca] sz)) (va_Qi (fun (r : Int32) (u : Unit) => r = nI 0) (kB g (va_A [cM μ iK kn ln th sp bg fm le fi se re ca] sz) (fun u => [cM μ iK kn ln 1 sp bg fm le fi se re ca])) (va_A [cM μ iK kn ln th sp bg fm le fi se re ca] sz)) 0 0 (va_A [cM μ iK kn ln th sp bg fm le fi se re ca] sz) := by
  refine kMet (cc := cX6_thingAt) (maxL := 2) (ret := (some .int)) (own := RX6) (by decide) rfl rfl (Nat.le_of_ble_eq_true rfl) ?_
  intro p e s m args below meth c ls Q H locs A F w hl hnm hA hQ
  have hx := F.1.1
  have hb := F.1.2.1
  have hts := F.1.2.2.2.2
  have hl : lv_has ls 2 [(0, .ref (μ 0)), (1, .int n)] := hl
  refine lv_aload_n hx hb dX6_thingAt_0 rfl (lv_at hl 0 rfl) ?_
  refine lv_iload_n hx hb dX6_thingAt_1 rfl (lv_at hl 1 rfl) ?_
  refine kcalli (wc := []) (wr := [cM μ iK kn ln th sp bg fm le fi se re ca]) (wn := fun (u : Unit) => [cM μ iK kn ln th sp bg fm le fi se re ca]) F w [] [0] [0] rfl rfl rfl (fun _ => rfl)
    (fun hp => va_runS (As := [.int n]) (rest := [.ref (μ 0)]) F.1 (kX6_isDoor l g n H.size ) (va_cwS 1 hts gX6_thingAt_X6_isDoor rfl rfl rfl hd_X6_isDoor ⟨Nat.le_of_ble_eq_true rfl, Nat.le_of_ble_eq_true rfl⟩) hp rfl rfl hl.1 rfl (lv_room (Nat.le_of_ble_eq_true rfl)) dX6_thingAt_2 ⟨Nat.le_of_ble_eq_true rfl, Nat.le_of_ble_eq_true rfl⟩)
    (fun r_1 _ H locs h_2 w => ?_)
  subst h_2
  refine ktopi (y := bI false) (congrArg bI (door_f hn)) ?_
  refine kcalli (wc := [cM μ iK kn ln th sp bg fm le fi se re ca]) (wr := []) (wn := fun (u : Unit) => [cM μ iK kn ln 1 sp bg fm le fi se re ca]) F w [0] [] [0] rfl rfl rfl (fun _ => rfl)
    (fun hp => va_runV (As := [.int (bI false)]) (rest := []) F.1 (kX6_asks_f l g μ iK kn ln th sp bg fm le fi se re ca H.size ) (cwV 1 hts gX6_thingAt_X6_asks rfl rfl rfl ⟨rfl, hd_X6_asks⟩ ⟨Nat.le_of_ble_eq_true rfl, Nat.le_of_ble_eq_true rfl⟩) ⟨hp.1, va_recv F.2.2.2.1.1 w.1 (q0 := 0) (ci := 6) rfl rfl, hp.2⟩ rfl rfl hl.1 rfl (lv_room (Nat.le_of_ble_eq_true rfl)) dX6_thingAt_5 ⟨Nat.le_of_ble_eq_true rfl, Nat.le_of_ble_eq_true rfl⟩)
    (fun r_3 _ H locs h_4 w => ?_)
  subst h_4
  refine lv_if_ne (tgt := 13) hx hb dX6_thingAt_8 (by decide) (fun h_5 => ?_) (fun h_5 => ?_)
  · have h_5 : false = true := bI_o.mp h_5
    exact absurd h_5 (by simp)
  · have h_5 : false = false := bI_z.mp h_5
    refine lv_iconst (v := nI 0) hx hb dX6_thingAt_11 (by decide) ?_
    subst hA
    subst hQ
    exact kreti F w () [0] rfl rfl (rfl) (Nat.le_of_ble_eq_true rfl) (Nat.le_of_ble_eq_true rfl) dX6_thingAt_12
abbrev rmX6_divisorsOf_k : Room := { frames := 2, cells := 0, slots := 0, locals := 42 }
set_option maxHeartbeats 4000000 in
set_option maxRecDepth 100000 in
theorem kX6_divisorsOf_k (l : Launch) (g : GG) (μ : Nat → Nat) (iK : Bool) (kn : Nat) (ln : Nat) (th : Nat) (sp : Nat) (bg : Nat) (fm : Bool) (le : Int32) (fi : Nat) (se : Nat) (re : Nat) (ca : Nat) (d : Nat) (sz : Nat) (hd : 1 ≤ d ∧ d ≤ 48) : Met l yX6_divisorsOf wsX6_divisorsOf rmX6_divisorsOf_k (va_Pc [.ref (μ 0), .int (nI d)] (kPre g [cM μ iK kn ln th sp bg fm le fi se re ca] sz)) (va_Qi (fun (r : Int32) (u : Unit) => r = nI (zcnt (dvP d) 48)) (kB g (va_A [cM μ iK kn ln th sp bg fm le fi se re ca] sz) (fun u => [cM μ iK kn ln 0 sp bg fm le fi se re ca])) (va_A [cM μ iK kn ln th sp bg fm le fi se re ca] sz)) 0 0 (va_A [cM μ iK kn ln th sp bg fm le fi se re ca] sz) := by
  refine kMet (cc := cX6_divisorsOf) (maxL := 4) (ret := (some .int)) (own := RX6) (by decide) rfl rfl (Nat.le_of_ble_eq_true rfl) ?_
  intro p e s m args below meth c ls Q H locs A F w hl hnm hA hQ
  have hx := F.1.1
  have hb := F.1.2.1
  have hts := F.1.2.2.2.2
  have hl : lv_has ls 4 [(0, .ref (μ 0)), (1, .int (nI d))] := hl
  refine lv_aload_n hx hb dX6_divisorsOf_0 rfl (lv_at hl 0 rfl) ?_
  refine lv_iload_n hx hb dX6_divisorsOf_1 rfl (lv_at hl 1 rfl) ?_
  refine kcalli (wc := []) (wr := [cM μ iK kn ln th sp bg fm le fi se re ca]) (wn := fun (u : Unit) => [cM μ iK kn ln th sp bg fm le fi se re ca]) F w [] [0] [0] rfl rfl rfl (fun _ => rfl)
    (fun hp => va_runS (As := [.int (nI d)]) (rest := [.ref (μ 0)]) F.1 (kX6_isDoor l g (nI d) H.size ) (va_cwS 1 hts gX6_divisorsOf_X6_isDoor rfl rfl rfl hd_X6_isDoor ⟨Nat.le_of_ble_eq_true rfl, Nat.le_of_ble_eq_true rfl⟩) hp rfl rfl hl.1 rfl (lv_room (Nat.le_of_ble_eq_true rfl)) dX6_divisorsOf_2 ⟨Nat.le_of_ble_eq_true rfl, Nat.le_of_ble_eq_true rfl⟩)
    (fun r_1 _ H locs h_2 w => ?_)
  subst h_2
  refine ktopi (y := bI true) (congrArg bI (door_t hd)) ?_
  refine kcalli (wc := [cM μ iK kn ln th sp bg fm le fi se re ca]) (wr := []) (wn := fun (u : Unit) => [cM μ iK kn ln 0 sp bg fm le fi se re ca]) F w [0] [] [0] rfl rfl rfl (fun _ => rfl)
    (fun hp => va_runV (As := [.int (bI true)]) (rest := []) F.1 (kX6_asks_t l g μ iK kn ln th sp bg fm le fi se re ca H.size ) (cwV 1 hts gX6_divisorsOf_X6_asks rfl rfl rfl ⟨rfl, hd_X6_asks⟩ ⟨Nat.le_of_ble_eq_true rfl, Nat.le_of_ble_eq_true rfl⟩) ⟨hp.1, va_recv F.2.2.2.1.1 w.1 (q0 := 0) (ci := 6) rfl rfl, hp.2⟩ rfl rfl hl.1 rfl (lv_room (Nat.le_of_ble_eq_true rfl)) dX6_divisorsOf_5 ⟨Nat.le_of_ble_eq_true rfl, Nat.le_of_ble_eq_true rfl⟩)
    (fun r_3 _ H locs h_4 w => ?_)
  subst h_4
  refine lv_if_ne (tgt := 13) hx hb dX6_divisorsOf_8 (by decide) (fun h_5 => ?_) (fun h_5 => ?_)
  · have h_5 : true = true := bI_o.mp h_5
    refine lv_iconst (v := nI 0) hx hb dX6_divisorsOf_13 (by decide) ?_
    refine ktopi (y := nI (zcnt (dvP d) 0)) (rfl) ?_
    refine lv_istore_n (lv' := [(2, .int (nI (zcnt (dvP d) 0))), (0, .ref (μ 0)), (1, .int (nI d))]) hx hb dX6_divisorsOf_14 rfl hl (by decide) rfl (fun ls hl => ?_)
    refine lv_iconst (v := nI 1) hx hb dX6_divisorsOf_15 (by decide) ?_
    refine ktopi (y := nI (0 + 1)) (rfl) ?_
    refine lv_istore_n (lv' := [(3, .int (nI (0 + 1))), (2, .int (nI (zcnt (dvP d) 0))), (0, .ref (μ 0)), (1, .int (nI d))]) hx hb dX6_divisorsOf_16 rfl hl (by decide) rfl (fun ls hl => ?_)
    have LP_6 : ∀ (fu : Nat) (j : Nat) (h1 : j ≤ d) (H : Heap) (locs : List Loc) (ls : Array Slot), 50 - j < fu → kW g A s [cM μ iK kn ln 0 sp bg fm le fi se re ca] H locs → lv_has ls 4 [(3, .int (nI (j + 1))), (2, .int (nI (zcnt (dvP d) j))), (0, .ref (μ 0)), (1, .int (nI d))] → W p l e rmX6_divisorsOf_k s m args below meth c H locs 0 0 Q (F0 m 17 ls []) := by
      intro fu
      induction fu with
      | zero => intro j h1 H locs ls hlt; omega
      | succ fu ih_6 =>
        intro j h1 H locs ls hlt w hl
        refine lv_iload_n hx hb dX6_divisorsOf_17 rfl (lv_at hl 0 rfl) ?_
        refine lv_iload_n hx hb dX6_divisorsOf_18 rfl (lv_at hl 3 rfl) ?_
        refine lv_icmp_gt (tgt := 42) hx hb dX6_divisorsOf_19 (by decide) (fun h_7 => ?_) (fun h_7 => ?_)
        · have h_7 : j + 1 > d := (kc_gt_t (by omega) (by omega)).mp h_7
          have e_8 : d = j := by omega
          subst e_8
          refine lv_iload_n hx hb dX6_divisorsOf_42 rfl (lv_at hl 1 rfl) ?_
          refine ktopi (y := nI (zcnt (dvP d) 48)) (by rw [dvP_48 hd.1 hd.2]) ?_
          subst hA
          subst hQ
          exact kreti F w () [0] rfl rfl (rfl) (Nat.le_of_ble_eq_true rfl) (Nat.le_of_ble_eq_true rfl) dX6_divisorsOf_43
        · have h_7 : j + 1 ≤ d := (kc_gt_f (by omega) (by omega)).mp h_7
          have hlt : d % (j + 1) < j + 1 := Nat.mod_lt _ (by omega)
          refine lv_iload_n hx hb dX6_divisorsOf_22 rfl (lv_at hl 1 rfl) ?_
          refine lv_iload_n hx hb dX6_divisorsOf_23 rfl (lv_at hl 3 rfl) ?_
          refine lv_iload_n hx hb dX6_divisorsOf_24 rfl (lv_at hl 0 rfl) ?_
          refine lv_irem hx hb dX6_divisorsOf_25 ((kc0_eq_f (by omega)).mpr (by omega)) ?_
          refine ktopi (y := nI (d % (j + 1))) (pk_rem (a := d) (d := j + 1) (by omega) (by omega) (by omega)) ?_
          refine lv_if_ne (tgt := 33) hx hb dX6_divisorsOf_26 (by decide) (fun h_9 => ?_) (fun h_9 => ?_)
          · have h_9 : d % (j + 1) ≠ 0 := (kc0_ne_t (by omega)).mp h_9
            have hk9 : dvP d (j + 1) = false := dvP_f h_9
            refine lv_iconst (v := nI 0) hx hb dX6_divisorsOf_33 (by decide) ?_
            refine lv_iadd hx hb dX6_divisorsOf_34 ?_
            refine ktopi (y := nI (zcnt (dvP d) j + 0)) (nI_add (zcnt (dvP d) j) 0) ?_
            refine ktopi (y := nI (zcnt (dvP d) (j + 1))) (by rw [zcnt_f hk9, Nat.add_zero]) ?_
            refine lv_istore_n (lv' := [(2, .int (nI (zcnt (dvP d) (j + 1)))), (3, .int (nI (j + 1))), (0, .ref (μ 0)), (1, .int (nI d))]) hx hb dX6_divisorsOf_35 rfl hl (by decide) rfl (fun ls hl => ?_)
            refine lv_iinc (v := nI (j + 1 + 1)) (lv' := [(3, .int (nI (j + 1 + 1))), (2, .int (nI (zcnt (dvP d) (j + 1)))), (0, .ref (μ 0)), (1, .int (nI d))]) hx hb dX6_divisorsOf_36 hl (k := 1) rfl (nI_add (j + 1) 1) (by decide) rfl (fun ls hl => ?_)
            refine lv_goto (tgt := 17) hx hb dX6_divisorsOf_39 (by decide) ?_
            exact ih_6 (j + 1) (by omega) _ _ _ (by omega) (kW.perm w [0] rfl rfl) (lv_sub hl [0, 1, 2, 3] rfl)
          · have h_9 : d % (j + 1) = 0 := (kc0_ne_f (by omega)).mp h_9
            have hk9 : dvP d (j + 1) = true := dvP_t h_9
            refine lv_iconst (v := nI 1) hx hb dX6_divisorsOf_29 (by decide) ?_
            refine lv_goto (tgt := 34) hx hb dX6_divisorsOf_30 (by decide) ?_
            refine lv_iadd hx hb dX6_divisorsOf_34 ?_
            refine ktopi (y := nI (zcnt (dvP d) j + 1)) (nI_add (zcnt (dvP d) j) 1) ?_
            refine ktopi (y := nI (zcnt (dvP d) (j + 1))) (by rw [zcnt_t hk9]) ?_
            refine lv_istore_n (lv' := [(2, .int (nI (zcnt (dvP d) (j + 1)))), (3, .int (nI (j + 1))), (0, .ref (μ 0)), (1, .int (nI d))]) hx hb dX6_divisorsOf_35 rfl hl (by decide) rfl (fun ls hl => ?_)
            refine lv_iinc (v := nI (j + 1 + 1)) (lv' := [(3, .int (nI (j + 1 + 1))), (2, .int (nI (zcnt (dvP d) (j + 1)))), (0, .ref (μ 0)), (1, .int (nI d))]) hx hb dX6_divisorsOf_36 hl (k := 1) rfl (nI_add (j + 1) 1) (by decide) rfl (fun ls hl => ?_)
            refine lv_goto (tgt := 17) hx hb dX6_divisorsOf_39 (by decide) ?_
            exact ih_6 (j + 1) (by omega) _ _ _ (by omega) (kW.perm w [0] rfl rfl) (lv_sub hl [0, 1, 2, 3] rfl)
    exact LP_6 _ 0 (by omega) _ _ _ (Nat.lt_succ_self _) (kW.perm w [0] rfl rfl) (lv_sub hl [0, 1, 2, 3] rfl)
  · have h_5 : true = false := bI_z.mp h_5
    exact absurd h_5 (by simp)
theorem in_X6_allOpen_X6 : ∀ w ∈ wsX60, w ∈ wsX6_allOpen := by decide +kernel
abbrev rmX6_allOpen : Room := { frames := 2, cells := 0, slots := 0, locals := 45 }
set_option maxHeartbeats 4000000 in
set_option maxRecDepth 100000 in
theorem kX6_allOpen (l : Launch) (g : GG) (μ : Nat → Nat) (iK : Bool) (kn : Nat) (ln : Nat) (th : Nat) (sp : Nat) (bg : Nat) (fm : Bool) (le : Int32) (fi : Nat) (se : Nat) (re : Nat) (ca : Nat) (σ : Sg) (sz : Nat)  : Met l yX6_allOpen wsX6_allOpen rmX6_allOpen (va_Pc [.ref (μ 0)] (kPre g [cM μ iK kn ln th sp bg fm le fi se re ca, xI g (μ 1) 288 (enc σ)] sz)) (va_Qi (fun (r : Int32) (u : Unit) => r = nI (zcnt (zO σ) 48)) (kB g (va_A [cM μ iK kn ln th sp bg fm le fi se re ca, xI g (μ 1) 288 (enc σ)] sz) (fun u => [cM μ iK kn ln 0 sp bg fm le fi se re ca, xI g (μ 1) 288 (enc σ)])) (va_A [cM μ iK kn ln th sp bg fm le fi se re ca, xI g (μ 1) 288 (enc σ)] sz)) 0 0 (va_A [cM μ iK kn ln th sp bg fm le fi se re ca, xI g (μ 1) 288 (enc σ)] sz) := by
  refine kMet (cc := cX6_allOpen) (maxL := 1) (ret := (some .int)) (own := RX6) (by decide) rfl rfl (Nat.le_of_ble_eq_true rfl) ?_
  intro p e s m args below meth c ls Q H locs A F w hl hnm hA hQ
  have hx := F.1.1
  have hb := F.1.2.1
  have hts := F.1.2.2.2.2
  have hl : lv_has ls 1 [(0, .ref (μ 0))] := hl
  refine lv_aload_n hx hb dX6_allOpen_0 rfl (lv_at hl 0 rfl) ?_
  refine lv_iconst (v := nI 0) hx hb dX6_allOpen_1 (by decide) ?_
  refine kput (fs := [.ref (μ 1), .ref (μ 2), .ref (μ 3), .ref (μ 4), .int (bI iK), .ref (μ 5), .int (nI kn), .ref (μ 6), .int (nI ln), .int (nI th), .int (nI sp), .int (nI bg), .int (bI fm), .int le, .int (nI fi), .int (nI se), .int (nI re), .int (nI ca)]) F w in_X6_allOpen_X6 tyX6_ok nmX6 0 rfl rfl 9 (by decide) (by decide +kernel) rfl rfl (rfl) (rfl) (Nat.le_of_ble_eq_true rfl) (wn := [cM μ iK kn ln 0 sp bg fm le fi se re ca, xI g (μ 1) 288 (enc σ)]) rfl dX6_allOpen_2 (fun H locs w => ?_)
  refine lv_aload_n hx hb dX6_allOpen_5 rfl (lv_at hl 0 rfl) ?_
  refine lv_iconst (v := nI 0) hx hb dX6_allOpen_6 (by decide) ?_
  refine kcalli (wc := [cM μ iK kn ln 0 sp bg fm le fi se re ca, xI g (μ 1) 288 (enc σ)]) (wr := []) (wn := fun (u : Unit) => [cM μ iK kn ln 0 sp bg fm le fi se re ca, xI g (μ 1) 288 (enc σ)]) F w [0, 1] [] [0, 1] rfl rfl rfl (fun _ => rfl)
    (fun hp => va_runV (As := [.int (nI 0)]) (rest := []) F.1 (kX6_sum l g μ iK kn ln 0 sp bg fm le fi se re ca (enc σ) 0 H.size (by omega)) (cwV 1 hts gX6_allOpen_X6_sum rfl rfl rfl ⟨rfl, hd_X6_sum⟩ ⟨Nat.le_of_ble_eq_true rfl, Nat.le_of_ble_eq_true rfl⟩) ⟨hp.1, va_recv F.2.2.2.1.1 w.1 (q0 := 0) (ci := 6) rfl rfl, hp.2⟩ rfl rfl hl.1 rfl (lv_room (Nat.le_of_ble_eq_true rfl)) dX6_allOpen_7 ⟨Nat.le_of_ble_eq_true rfl, Nat.le_of_ble_eq_true rfl⟩)
    (fun r_1 _ H locs h_2 w => ?_)
  subst h_2
  refine ktopi (y := nI (zcnt (zO σ) 48)) (sumZ_O _ 48 (Nat.le_refl _)) ?_
  subst hA
  subst hQ
  exact kreti F w () [0, 1] rfl rfl (rfl) (Nat.le_of_ble_eq_true rfl) (Nat.le_of_ble_eq_true rfl) dX6_allOpen_10
theorem hd_X6_allOpen : yX6_allOpen.cls ≠ "java/lang/invoke/MethodHandle" ∧ yX6_allOpen.cls ≠ "java/lang/invoke/VarHandle" ∧ (parseMethodDescriptor yX6_allOpen.desc).map (fun d => d.parameters.length) = some 0 := by decide +kernel
abbrev rmX6_openDoors : Room := { frames := 3, cells := 0, slots := 0, locals := 65 }
set_option maxHeartbeats 4000000 in
set_option maxRecDepth 100000 in
theorem kX6_openDoors (l : Launch) (g : GG) (μ : Nat → Nat) (iK : Bool) (kn : Nat) (ln : Nat) (th : Nat) (sp : Nat) (bg : Nat) (fm : Bool) (le : Int32) (fi : Nat) (se : Nat) (re : Nat) (ca : Nat) (σ : Sg) (sz : Nat)  : Met l yX6_openDoors wsX6_openDoors rmX6_openDoors (va_Pc [.ref (μ 0)] (kPre g [cM μ iK kn ln th sp bg fm le fi se re ca, xI g (μ 1) 288 (enc σ)] sz)) (va_Qi (fun (r : Int32) (u : Unit) => r = nI (zcnt (zO σ) 48)) (kB g (va_A [cM μ iK kn ln th sp bg fm le fi se re ca, xI g (μ 1) 288 (enc σ)] sz) (fun u => [cM μ iK kn ln 0 sp bg fm le fi se re ca, xI g (μ 1) 288 (enc σ)])) (va_A [cM μ iK kn ln th sp bg fm le fi se re ca, xI g (μ 1) 288 (enc σ)] sz)) 0 0 (va_A [cM μ iK kn ln th sp bg fm le fi se re ca, xI g (μ 1) 288 (enc σ)] sz) := by
  refine kMet (cc := cX6_openDoors) (maxL := 1) (ret := (some .int)) (own := RX6) (by decide) rfl rfl (Nat.le_of_ble_eq_true rfl) ?_
  intro p e s m args below meth c ls Q H locs A F w hl hnm hA hQ
  have hx := F.1.1
  have hb := F.1.2.1
  have hts := F.1.2.2.2.2
  have hl : lv_has ls 1 [(0, .ref (μ 0))] := hl
  refine lv_aload_n hx hb dX6_openDoors_0 rfl (lv_at hl 0 rfl) ?_
  refine kcalli (wc := [cM μ iK kn ln th sp bg fm le fi se re ca, xI g (μ 1) 288 (enc σ)]) (wr := []) (wn := fun (u : Unit) => [cM μ iK kn ln 0 sp bg fm le fi se re ca, xI g (μ 1) 288 (enc σ)]) F w [0, 1] [] [0, 1] rfl rfl rfl (fun _ => rfl)
    (fun hp => va_runV (As := []) (rest := []) F.1 (kX6_allOpen l g μ iK kn ln th sp bg fm le fi se re ca σ H.size ) (cwV 0 hts gX6_openDoors_X6_allOpen rfl rfl rfl ⟨rfl, hd_X6_allOpen⟩ ⟨Nat.le_of_ble_eq_true rfl, Nat.le_of_ble_eq_true rfl⟩) ⟨hp.1, va_recv F.2.2.2.1.1 w.1 (q0 := 0) (ci := 6) rfl rfl, hp.2⟩ rfl rfl hl.1 rfl (lv_room (Nat.le_of_ble_eq_true rfl)) dX6_openDoors_1 ⟨Nat.le_of_ble_eq_true rfl, Nat.le_of_ble_eq_true rfl⟩)
    (fun r_1 _ H locs h_2 w => ?_)
  subst h_2
  subst hA
  subst hQ
  exact kreti F w () [0, 1] rfl rfl (rfl) (Nat.le_of_ble_eq_true rfl) (Nat.le_of_ble_eq_true rfl) dX6_openDoors_4
abbrev rmX6_openByTurns : Room := { frames := 3, cells := 0, slots := 0, locals := 65 }
set_option maxHeartbeats 4000000 in
set_option maxRecDepth 100000 in
theorem kX6_openByTurns (l : Launch) (g : GG) (μ : Nat → Nat) (iK : Bool) (kn : Nat) (ln : Nat) (th : Nat) (sp : Nat) (bg : Nat) (fm : Bool) (le : Int32) (fi : Nat) (se : Nat) (re : Nat) (ca : Nat) (σ : Sg) (sz : Nat)  : Met l yX6_openByTurns wsX6_openByTurns rmX6_openByTurns (va_Pc [.ref (μ 0)] (kPre g [cM μ iK kn ln th sp bg fm le fi se re ca, xI g (μ 1) 288 (enc σ)] sz)) (va_Qi (fun (r : Int32) (u : Unit) => r = nI (zcnt (zO σ) 48)) (kB g (va_A [cM μ iK kn ln th sp bg fm le fi se re ca, xI g (μ 1) 288 (enc σ)] sz) (fun u => [cM μ iK kn ln 0 sp bg fm le fi se re ca, xI g (μ 1) 288 (enc σ)])) (va_A [cM μ iK kn ln th sp bg fm le fi se re ca, xI g (μ 1) 288 (enc σ)] sz)) 0 0 (va_A [cM μ iK kn ln th sp bg fm le fi se re ca, xI g (μ 1) 288 (enc σ)] sz) := by
  refine kMet (cc := cX6_openByTurns) (maxL := 1) (ret := (some .int)) (own := RX6) (by decide) rfl rfl (Nat.le_of_ble_eq_true rfl) ?_
  intro p e s m args below meth c ls Q H locs A F w hl hnm hA hQ
  have hx := F.1.1
  have hb := F.1.2.1
  have hts := F.1.2.2.2.2
  have hl : lv_has ls 1 [(0, .ref (μ 0))] := hl
  refine lv_aload_n hx hb dX6_openByTurns_0 rfl (lv_at hl 0 rfl) ?_
  refine kcalli (wc := [cM μ iK kn ln th sp bg fm le fi se re ca, xI g (μ 1) 288 (enc σ)]) (wr := []) (wn := fun (u : Unit) => [cM μ iK kn ln 0 sp bg fm le fi se re ca, xI g (μ 1) 288 (enc σ)]) F w [0, 1] [] [0, 1] rfl rfl rfl (fun _ => rfl)
    (fun hp => va_runV (As := []) (rest := []) F.1 (kX6_allOpen l g μ iK kn ln th sp bg fm le fi se re ca σ H.size ) (cwV 0 hts gX6_openByTurns_X6_allOpen rfl rfl rfl ⟨rfl, hd_X6_allOpen⟩ ⟨Nat.le_of_ble_eq_true rfl, Nat.le_of_ble_eq_true rfl⟩) ⟨hp.1, va_recv F.2.2.2.1.1 w.1 (q0 := 0) (ci := 6) rfl rfl, hp.2⟩ rfl rfl hl.1 rfl (lv_room (Nat.le_of_ble_eq_true rfl)) dX6_openByTurns_1 ⟨Nat.le_of_ble_eq_true rfl, Nat.le_of_ble_eq_true rfl⟩)
    (fun r_1 _ H locs h_2 w => ?_)
  subst h_2
  subst hA
  subst hQ
  exact kreti F w () [0, 1] rfl rfl (rfl) (Nat.le_of_ble_eq_true rfl) (Nat.le_of_ble_eq_true rfl) dX6_openByTurns_4
abbrev rmX6_opened : Room := { frames := 1, cells := 0, slots := 0, locals := 22 }
set_option maxHeartbeats 4000000 in
set_option maxRecDepth 100000 in
theorem kX6_opened (l : Launch) (g : GG) (μ : Nat → Nat) (iK : Bool) (kn : Nat) (ln : Nat) (th : Nat) (sp : Nat) (bg : Nat) (fm : Bool) (le : Int32) (fi : Nat) (se : Nat) (re : Nat) (ca : Nat) (σ : Sg) (sz : Nat)  : Met l yX6_opened wsX6_opened rmX6_opened (va_Pc [.ref (μ 0)] (kPre g [cM μ iK kn ln th sp bg fm le fi se re ca, xI g (μ 1) 288 (enc σ)] sz)) (va_Ql (fun (r : Int64) (u : Unit) => r = zB (zO σ)) (kB g (va_A [cM μ iK kn ln th sp bg fm le fi se re ca, xI g (μ 1) 288 (enc σ)] sz) (fun u => [cM μ iK kn ln th sp bg fm le fi se re ca, xI g (μ 1) 288 (enc σ)])) (va_A [cM μ iK kn ln th sp bg fm le fi se re ca, xI g (μ 1) 288 (enc σ)] sz)) 0 0 (va_A [cM μ iK kn ln th sp bg fm le fi se re ca, xI g (μ 1) 288 (enc σ)] sz) := by
  refine kMet (cc := cX6_opened) (maxL := 4) (ret := (some .long)) (own := RX6) (by decide) rfl rfl (Nat.le_of_ble_eq_true rfl) ?_
  intro p e s m args below meth c ls Q H locs A F w hl hnm hA hQ
  have hx := F.1.1
  have hb := F.1.2.1
  have hts := F.1.2.2.2.2
  have hl : lv_has ls 4 [(0, .ref (μ 0))] := hl
  refine lv_lconst (v := 0) hx hb dX6_opened_0 (by decide) ?_
  refine ktopl (y := zBu (zO σ) 0) (zBu_0.symm) ?_
  refine lv_lstore_n (lv' := [(1, .long (zBu (zO σ) 0)), (0, .ref (μ 0))]) hx hb dX6_opened_1 rfl hl (by decide) rfl (fun ls hl => ?_)
  refine lv_iconst (v := nI 1) hx hb dX6_opened_2 (by decide) ?_
  refine ktopi (y := nI (0 + 1)) (rfl) ?_
  refine lv_istore_n (lv' := [(3, .int (nI (0 + 1))), (1, .long (zBu (zO σ) 0)), (0, .ref (μ 0))]) hx hb dX6_opened_3 rfl hl (by decide) rfl (fun ls hl => ?_)
  have LP_1 : ∀ (fu : Nat) (j : Nat) (h1 : j ≤ 48) (H : Heap) (locs : List Loc) (ls : Array Slot), 50 - j < fu → kW g A s [cM μ iK kn ln th sp bg fm le fi se re ca, xI g (μ 1) 288 (enc σ)] H locs → lv_has ls 4 [(3, .int (nI (j + 1))), (1, .long (zBu (zO σ) j)), (0, .ref (μ 0))] → W p l e rmX6_opened s m args below meth c H locs 0 0 Q (F0 m 4 ls []) := by
    intro fu
    induction fu with
    | zero => intro j h1 H locs ls hlt; omega
    | succ fu ih_1 =>
      intro j h1 H locs ls hlt w hl
      refine lv_iload_n hx hb dX6_opened_4 rfl (lv_at hl 0 rfl) ?_
      refine lv_bipush (v := nI 48) hx hb dX6_opened_5 (by decide) ?_
      refine lv_icmp_gt (tgt := 36) hx hb dX6_opened_7 (by decide) (fun h_2 => ?_) (fun h_2 => ?_)
      · have h_2 : j + 1 > 48 := (kc_gt_t (by omega) (by omega)).mp h_2
        have e_3 : j = 48 := by omega
        subst e_3
        refine lv_lload_n hx hb dX6_opened_36 rfl (lv_at hl 1 rfl) ?_
        refine ktopl (y := zB (zO σ)) (zBu_e) ?_
        subst hA
        subst hQ
        exact kretl F w () [0, 1] rfl rfl (rfl) (Nat.le_of_ble_eq_true rfl) (Nat.le_of_ble_eq_true rfl) dX6_opened_37
      · have h_2 : j + 1 ≤ 48 := (kc_gt_f (by omega) (by omega)).mp h_2
        refine lv_lload_n hx hb dX6_opened_10 rfl (lv_at hl 1 rfl) ?_
        refine lv_aload_n hx hb dX6_opened_11 rfl (lv_at hl 2 rfl) ?_
        refine lv_iload_n hx hb dX6_opened_12 rfl (lv_at hl 0 rfl) ?_
        refine lv_iconst (v := nI 0) hx hb dX6_opened_13 (by decide) ?_
        refine kcalli (wc := [cM μ iK kn ln th sp bg fm le fi se re ca, xI g (μ 1) 288 (enc σ)]) (wr := []) (wn := fun (u : Unit) => [cM μ iK kn ln th sp bg fm le fi se re ca, xI g (μ 1) 288 (enc σ)]) F w [0, 1] [] [0, 1] rfl rfl rfl (fun _ => rfl)
          (fun hp => va_runV (As := [.int (nI (j + 1)), .int (nI 0)]) (rest := [.long (zBu (zO σ) j)]) F.1 (kX6_of l g μ iK kn ln th sp bg fm le fi se re ca (enc σ) (j + 1) 0 H.size (by omega)) (cwV 2 hts gX6_opened_X6_of rfl rfl rfl ⟨rfl, hd_X6_of⟩ ⟨Nat.le_of_ble_eq_true rfl, Nat.le_of_ble_eq_true rfl⟩) ⟨hp.1, va_recv F.2.2.2.1.1 w.1 (q0 := 0) (ci := 6) rfl rfl, hp.2⟩ rfl rfl hl.1 rfl (lv_room (Nat.le_of_ble_eq_true rfl)) dX6_opened_14 ⟨Nat.le_of_ble_eq_true rfl, Nat.le_of_ble_eq_true rfl⟩)
          (fun r_4 _ H locs h_5 w => ?_)
        subst h_5
        refine ktopi (y := bI (zO σ (j + 1))) (enc_O (by omega) (by omega)) ?_
        refine lv_iconst (v := nI 1) hx hb dX6_opened_17 (by decide) ?_
        refine lv_icmp_ne (tgt := 27) hx hb dX6_opened_18 (by decide) (fun h_6 => ?_) (fun h_6 => ?_)
        · have h_6 : (zO σ (j + 1)) = false := bI_n1.mp h_6
          refine lv_lconst (v := 0) hx hb dX6_opened_27 (by decide) ?_
          refine lv_lor hx hb dX6_opened_28 ?_
          refine ktopl (y := zBu (zO σ) (j + 1)) (zBu_f h_6) ?_
          refine lv_lstore_n (lv' := [(1, .long (zBu (zO σ) (j + 1))), (3, .int (nI (j + 1))), (0, .ref (μ 0))]) hx hb dX6_opened_29 rfl hl (by decide) rfl (fun ls hl => ?_)
          refine lv_iinc (v := nI (j + 1 + 1)) (lv' := [(3, .int (nI (j + 1 + 1))), (1, .long (zBu (zO σ) (j + 1))), (0, .ref (μ 0))]) hx hb dX6_opened_30 hl (k := 1) rfl (nI_add (j + 1) 1) (by decide) rfl (fun ls hl => ?_)
          refine lv_goto (tgt := 4) hx hb dX6_opened_33 (by decide) ?_
          exact ih_1 (j + 1) (by omega) _ _ _ (by omega) (kW.perm w [0, 1] rfl rfl) (lv_sub hl [0, 1, 2] rfl)
        · have h_6 : (zO σ (j + 1)) = true := bI_1.mp h_6
          refine lv_lconst (v := 1) hx hb dX6_opened_21 (by decide) ?_
          refine lv_iload_n hx hb dX6_opened_22 rfl (lv_at hl 0 rfl) ?_
          refine lv_lshl hx hb dX6_opened_23 rfl ?_
          refine ktopl (y := zbit (j + 1)) (zm_bit (by omega)) ?_
          refine lv_goto (tgt := 28) hx hb dX6_opened_24 (by decide) ?_
          refine lv_lor hx hb dX6_opened_28 ?_
          refine ktopl (y := zBu (zO σ) (j + 1)) (zBu_t (by omega) h_6) ?_
          refine lv_lstore_n (lv' := [(1, .long (zBu (zO σ) (j + 1))), (3, .int (nI (j + 1))), (0, .ref (μ 0))]) hx hb dX6_opened_29 rfl hl (by decide) rfl (fun ls hl => ?_)
          refine lv_iinc (v := nI (j + 1 + 1)) (lv' := [(3, .int (nI (j + 1 + 1))), (1, .long (zBu (zO σ) (j + 1))), (0, .ref (μ 0))]) hx hb dX6_opened_30 hl (k := 1) rfl (nI_add (j + 1) 1) (by decide) rfl (fun ls hl => ?_)
          refine lv_goto (tgt := 4) hx hb dX6_opened_33 (by decide) ?_
          exact ih_1 (j + 1) (by omega) _ _ _ (by omega) (kW.perm w [0, 1] rfl rfl) (lv_sub hl [0, 1, 2] rfl)
  exact LP_1 _ 0 (by omega) _ _ _ (Nat.lt_succ_self _) (kW.perm w [0, 1] rfl rfl) (lv_sub hl [0, 1, 2] rfl)
theorem in_X6_openSet_X6 : ∀ w ∈ wsX60, w ∈ wsX6_openSet := by decide +kernel
theorem hd_X6_opened : yX6_opened.cls ≠ "java/lang/invoke/MethodHandle" ∧ yX6_opened.cls ≠ "java/lang/invoke/VarHandle" ∧ (parseMethodDescriptor yX6_opened.desc).map (fun d => d.parameters.length) = some 0 := by decide +kernel
abbrev rmX6_openSet : Room := { frames := 2, cells := 0, slots := 0, locals := 45 }
set_option maxHeartbeats 4000000 in
set_option maxRecDepth 100000 in
theorem kX6_openSet (l : Launch) (g : GG) (μ : Nat → Nat) (iK : Bool) (kn : Nat) (ln : Nat) (th : Nat) (sp : Nat) (bg : Nat) (fm : Bool) (le : Int32) (fi : Nat) (se : Nat) (re : Nat) (ca : Nat) (σ : Sg) (sz : Nat)  : Met l yX6_openSet wsX6_openSet rmX6_openSet (va_Pc [.ref (μ 0)] (kPre g [cM μ iK kn ln th sp bg fm le fi se re ca, xI g (μ 1) 288 (enc σ)] sz)) (va_Ql (fun (r : Int64) (u : Unit) => r = zB (zO σ)) (kB g (va_A [cM μ iK kn ln th sp bg fm le fi se re ca, xI g (μ 1) 288 (enc σ)] sz) (fun u => [cM μ iK kn ln 0 sp bg fm le fi se re ca, xI g (μ 1) 288 (enc σ)])) (va_A [cM μ iK kn ln th sp bg fm le fi se re ca, xI g (μ 1) 288 (enc σ)] sz)) 0 0 (va_A [cM μ iK kn ln th sp bg fm le fi se re ca, xI g (μ 1) 288 (enc σ)] sz) := by
  refine kMet (cc := cX6_openSet) (maxL := 1) (ret := (some .long)) (own := RX6) (by decide) rfl rfl (Nat.le_of_ble_eq_true rfl) ?_
  intro p e s m args below meth c ls Q H locs A F w hl hnm hA hQ
  have hx := F.1.1
  have hb := F.1.2.1
  have hts := F.1.2.2.2.2
  have hl : lv_has ls 1 [(0, .ref (μ 0))] := hl
  refine lv_aload_n hx hb dX6_openSet_0 rfl (lv_at hl 0 rfl) ?_
  refine lv_iconst (v := nI 0) hx hb dX6_openSet_1 (by decide) ?_
  refine kput (fs := [.ref (μ 1), .ref (μ 2), .ref (μ 3), .ref (μ 4), .int (bI iK), .ref (μ 5), .int (nI kn), .ref (μ 6), .int (nI ln), .int (nI th), .int (nI sp), .int (nI bg), .int (bI fm), .int le, .int (nI fi), .int (nI se), .int (nI re), .int (nI ca)]) F w in_X6_openSet_X6 tyX6_ok nmX6 0 rfl rfl 9 (by decide) (by decide +kernel) rfl rfl (rfl) (rfl) (Nat.le_of_ble_eq_true rfl) (wn := [cM μ iK kn ln 0 sp bg fm le fi se re ca, xI g (μ 1) 288 (enc σ)]) rfl dX6_openSet_2 (fun H locs w => ?_)
  refine lv_aload_n hx hb dX6_openSet_5 rfl (lv_at hl 0 rfl) ?_
  refine kcalll (wc := [cM μ iK kn ln 0 sp bg fm le fi se re ca, xI g (μ 1) 288 (enc σ)]) (wr := []) (wn := fun (u : Unit) => [cM μ iK kn ln 0 sp bg fm le fi se re ca, xI g (μ 1) 288 (enc σ)]) F w [0, 1] [] [0, 1] rfl rfl rfl (fun _ => rfl)
    (fun hp => va_runV (As := []) (rest := []) F.1 (kX6_opened l g μ iK kn ln 0 sp bg fm le fi se re ca σ H.size ) (cwV 0 hts gX6_openSet_X6_opened rfl rfl rfl ⟨rfl, hd_X6_opened⟩ ⟨Nat.le_of_ble_eq_true rfl, Nat.le_of_ble_eq_true rfl⟩) ⟨hp.1, va_recv F.2.2.2.1.1 w.1 (q0 := 0) (ci := 6) rfl rfl, hp.2⟩ rfl rfl hl.1 rfl (lv_room (Nat.le_of_ble_eq_true rfl)) dX6_openSet_6 ⟨Nat.le_of_ble_eq_true rfl, Nat.le_of_ble_eq_true rfl⟩)
    (fun r_1 _ H locs h_2 w => ?_)
  subst h_2
  subst hA
  subst hQ
  exact kretl F w () [0, 1] rfl rfl (rfl) (Nat.le_of_ble_eq_true rfl) (Nat.le_of_ble_eq_true rfl) dX6_openSet_9
abbrev rmX6_nextOpen_k : Room := { frames := 2, cells := 0, slots := 0, locals := 42 }
set_option maxHeartbeats 4000000 in
set_option maxRecDepth 100000 in
theorem kX6_nextOpen_k (l : Launch) (g : GG) (μ : Nat → Nat) (iK : Bool) (kn : Nat) (ln : Nat) (th : Nat) (sp : Nat) (bg : Nat) (fm : Bool) (le : Int32) (fi : Nat) (se : Nat) (re : Nat) (ca : Nat) (σ : Sg) (d : Nat) (q : Nat) (sz : Nat) (hd : 1 ≤ d ∧ d ≤ 48) (he : d ≤ q ∧ q ≤ 48) (he2 : ∀ j, d ≤ j → j < q → zO σ j = false) (hz9 : zO σ q = true) : Met l yX6_nextOpen wsX6_nextOpen rmX6_nextOpen_k (va_Pc [.ref (μ 0), .int (nI d)] (kPre g [cM μ iK kn ln th sp bg fm le fi se re ca, xI g (μ 1) 288 (enc σ)] sz)) (va_Qi (fun (r : Int32) (u : Unit) => r = nI q) (kB g (va_A [cM μ iK kn ln th sp bg fm le fi se re ca, xI g (μ 1) 288 (enc σ)] sz) (fun u => [cM μ iK kn ln 0 sp bg fm le fi se re ca, xI g (μ 1) 288 (enc σ)])) (va_A [cM μ iK kn ln th sp bg fm le fi se re ca, xI g (μ 1) 288 (enc σ)] sz)) 0 0 (va_A [cM μ iK kn ln th sp bg fm le fi se re ca, xI g (μ 1) 288 (enc σ)] sz) := by
  refine kMet (cc := cX6_nextOpen) (maxL := 3) (ret := (some .int)) (own := RX6) (by decide) rfl rfl (Nat.le_of_ble_eq_true rfl) ?_
  intro p e s m args below meth c ls Q H locs A F w hl hnm hA hQ
  have hx := F.1.1
  have hb := F.1.2.1
  have hts := F.1.2.2.2.2
  have hl : lv_has ls 3 [(0, .ref (μ 0)), (1, .int (nI d))] := hl
  refine lv_aload_n hx hb dX6_nextOpen_0 rfl (lv_at hl 0 rfl) ?_
  refine lv_iload_n hx hb dX6_nextOpen_1 rfl (lv_at hl 1 rfl) ?_
  refine kcalli (wc := []) (wr := [cM μ iK kn ln th sp bg fm le fi se re ca, xI g (μ 1) 288 (enc σ)]) (wn := fun (u : Unit) => [cM μ iK kn ln th sp bg fm le fi se re ca, xI g (μ 1) 288 (enc σ)]) F w [] [0, 1] [0, 1] rfl rfl rfl (fun _ => rfl)
    (fun hp => va_runS (As := [.int (nI d)]) (rest := [.ref (μ 0)]) F.1 (kX6_isDoor l g (nI d) H.size ) (va_cwS 1 hts gX6_nextOpen_X6_isDoor rfl rfl rfl hd_X6_isDoor ⟨Nat.le_of_ble_eq_true rfl, Nat.le_of_ble_eq_true rfl⟩) hp rfl rfl hl.1 rfl (lv_room (Nat.le_of_ble_eq_true rfl)) dX6_nextOpen_2 ⟨Nat.le_of_ble_eq_true rfl, Nat.le_of_ble_eq_true rfl⟩)
    (fun r_1 _ H locs h_2 w => ?_)
  subst h_2
  refine ktopi (y := bI true) (congrArg bI (door_t hd)) ?_
  refine kcalli (wc := [cM μ iK kn ln th sp bg fm le fi se re ca]) (wr := [xI g (μ 1) 288 (enc σ)]) (wn := fun (u : Unit) => [cM μ iK kn ln 0 sp bg fm le fi se re ca, xI g (μ 1) 288 (enc σ)]) F w [0] [1] [1, 0] rfl rfl rfl (fun _ => rfl)
    (fun hp => va_runV (As := [.int (bI true)]) (rest := []) F.1 (kX6_asks_t l g μ iK kn ln th sp bg fm le fi se re ca H.size ) (cwV 1 hts gX6_nextOpen_X6_asks rfl rfl rfl ⟨rfl, hd_X6_asks⟩ ⟨Nat.le_of_ble_eq_true rfl, Nat.le_of_ble_eq_true rfl⟩) ⟨hp.1, va_recv F.2.2.2.1.1 w.1 (q0 := 0) (ci := 6) rfl rfl, hp.2⟩ rfl rfl hl.1 rfl (lv_room (Nat.le_of_ble_eq_true rfl)) dX6_nextOpen_5 ⟨Nat.le_of_ble_eq_true rfl, Nat.le_of_ble_eq_true rfl⟩)
    (fun r_3 _ H locs h_4 w => ?_)
  subst h_4
  refine lv_if_ne (tgt := 13) hx hb dX6_nextOpen_8 (by decide) (fun h_5 => ?_) (fun h_5 => ?_)
  · have h_5 : true = true := bI_o.mp h_5
    refine lv_iload_n hx hb dX6_nextOpen_13 rfl (lv_at hl 1 rfl) ?_
    refine lv_istore_n (lv' := [(2, .int (nI d)), (0, .ref (μ 0)), (1, .int (nI d))]) hx hb dX6_nextOpen_14 rfl hl (by decide) rfl (fun ls hl => ?_)
    have LP_6 : ∀ (fu : Nat) (i : Nat) (h1 : d ≤ i) (h2 : i ≤ q) (H : Heap) (locs : List Loc) (ls : Array Slot), 60 - i < fu → kW g A s [cM μ iK kn ln 0 sp bg fm le fi se re ca, xI g (μ 1) 288 (enc σ)] H locs → lv_has ls 3 [(2, .int (nI i)), (0, .ref (μ 0)), (1, .int (nI d))] → W p l e rmX6_nextOpen_k s m args below meth c H locs 0 0 Q (F0 m 15 ls []) := by
      intro fu
      induction fu with
      | zero => intro i h1 h2 H locs ls hlt; omega
      | succ fu ih_6 =>
        intro i h1 h2 H locs ls hlt w hl
        refine lv_iload_n hx hb dX6_nextOpen_15 rfl (lv_at hl 0 rfl) ?_
        refine lv_bipush (v := nI 48) hx hb dX6_nextOpen_16 (by decide) ?_
        refine lv_icmp_gt (tgt := 36) hx hb dX6_nextOpen_18 (by decide) (fun h_7 => ?_) (fun h_7 => ?_)
        · have h_7 : i > 48 := (kc_gt_t (by omega) (by omega)).mp h_7
          omega
        · have h_7 : i ≤ 48 := (kc_gt_f (by omega) (by omega)).mp h_7
          refine lv_aload_n hx hb dX6_nextOpen_21 rfl (lv_at hl 1 rfl) ?_
          refine lv_iload_n hx hb dX6_nextOpen_22 rfl (lv_at hl 0 rfl) ?_
          refine lv_iconst (v := nI 0) hx hb dX6_nextOpen_23 (by decide) ?_
          refine kcalli (wc := [cM μ iK kn ln 0 sp bg fm le fi se re ca, xI g (μ 1) 288 (enc σ)]) (wr := []) (wn := fun (u : Unit) => [cM μ iK kn ln 0 sp bg fm le fi se re ca, xI g (μ 1) 288 (enc σ)]) F w [0, 1] [] [0, 1] rfl rfl rfl (fun _ => rfl)
            (fun hp => va_runV (As := [.int (nI i), .int (nI 0)]) (rest := []) F.1 (kX6_of l g μ iK kn ln 0 sp bg fm le fi se re ca (enc σ) i 0 H.size (by omega)) (cwV 2 hts gX6_nextOpen_X6_of rfl rfl rfl ⟨rfl, hd_X6_of⟩ ⟨Nat.le_of_ble_eq_true rfl, Nat.le_of_ble_eq_true rfl⟩) ⟨hp.1, va_recv F.2.2.2.1.1 w.1 (q0 := 0) (ci := 6) rfl rfl, hp.2⟩ rfl rfl hl.1 rfl (lv_room (Nat.le_of_ble_eq_true rfl)) dX6_nextOpen_24 ⟨Nat.le_of_ble_eq_true rfl, Nat.le_of_ble_eq_true rfl⟩)
            (fun r_8 _ H locs h_9 w => ?_)
          subst h_9
          refine ktopi (y := bI (zO σ i)) (enc_O (by omega) (by omega)) ?_
          refine lv_if_ne (tgt := 36) hx hb dX6_nextOpen_27 (by decide) (fun h_10 => ?_) (fun h_10 => ?_)
          · have h_10 : (zO σ i) = true := bI_o.mp h_10
            have hie : i = q := by
              by_cases hc : i < q
              · exact absurd (he2 i h1 hc) (by rw [h_10]; decide)
              · omega
            rw [hie] at hl
            refine lv_iload_n hx hb dX6_nextOpen_36 rfl (lv_at hl 0 rfl) ?_
            refine lv_bipush (v := nI 48) hx hb dX6_nextOpen_37 (by decide) ?_
            refine lv_icmp_gt (tgt := 46) hx hb dX6_nextOpen_39 (by decide) (fun h_11 => ?_) (fun h_11 => ?_)
            · have h_11 : q > 48 := (kc_gt_t (by omega) (by omega)).mp h_11
              omega
            · have h_11 : q ≤ 48 := (kc_gt_f (by omega) (by omega)).mp h_11
              refine lv_iload_n hx hb dX6_nextOpen_42 rfl (lv_at hl 0 rfl) ?_
              refine lv_goto (tgt := 51) hx hb dX6_nextOpen_43 (by decide) ?_
              subst hA
              subst hQ
              exact kreti F w () [0, 1] rfl rfl (rfl) (Nat.le_of_ble_eq_true rfl) (Nat.le_of_ble_eq_true rfl) dX6_nextOpen_51
          · have h_10 : (zO σ i) = false := bI_z.mp h_10
            have hie : i ≠ q := fun hc => by subst hc; rw [hz9] at h_10; cases h_10
            refine lv_iinc (v := nI (i + 1)) (lv' := [(2, .int (nI (i + 1))), (0, .ref (μ 0)), (1, .int (nI d))]) hx hb dX6_nextOpen_30 hl (k := 0) rfl (nI_add i 1) (by decide) rfl (fun ls hl => ?_)
            refine lv_goto (tgt := 15) hx hb dX6_nextOpen_33 (by decide) ?_
            exact ih_6 (i + 1) (by omega) (by omega) _ _ _ (by omega) (kW.perm w [0, 1] rfl rfl) (lv_sub hl [0, 1, 2] rfl)
    exact LP_6 _ d (Nat.le_refl _) (by omega) _ _ _ (Nat.lt_succ_self _) (kW.perm w [0, 1] rfl rfl) (lv_sub hl [0, 1, 2] rfl)
  · have h_5 : true = false := bI_z.mp h_5
    exact absurd h_5 (by simp)
abbrev rmX6_nextOpen_N : Room := { frames := 2, cells := 0, slots := 0, locals := 42 }
set_option maxHeartbeats 4000000 in
set_option maxRecDepth 100000 in
theorem kX6_nextOpen_N (l : Launch) (g : GG) (μ : Nat → Nat) (iK : Bool) (kn : Nat) (ln : Nat) (th : Nat) (sp : Nat) (bg : Nat) (fm : Bool) (le : Int32) (fi : Nat) (se : Nat) (re : Nat) (ca : Nat) (σ : Sg) (d : Nat) (q : Nat) (sz : Nat) (hd : 1 ≤ d ∧ d ≤ 48) (he : q = 49) (he2 : ∀ j, d ≤ j → j < q → zO σ j = false) : Met l yX6_nextOpen wsX6_nextOpen rmX6_nextOpen_N (va_Pc [.ref (μ 0), .int (nI d)] (kPre g [cM μ iK kn ln th sp bg fm le fi se re ca, xI g (μ 1) 288 (enc σ)] sz)) (va_Qi (fun (r : Int32) (u : Unit) => r = nI 0) (kB g (va_A [cM μ iK kn ln th sp bg fm le fi se re ca, xI g (μ 1) 288 (enc σ)] sz) (fun u => [cM μ iK kn ln 2 sp bg fm le fi se re ca, xI g (μ 1) 288 (enc σ)])) (va_A [cM μ iK kn ln th sp bg fm le fi se re ca, xI g (μ 1) 288 (enc σ)] sz)) 0 0 (va_A [cM μ iK kn ln th sp bg fm le fi se re ca, xI g (μ 1) 288 (enc σ)] sz) := by
  refine kMet (cc := cX6_nextOpen) (maxL := 3) (ret := (some .int)) (own := RX6) (by decide) rfl rfl (Nat.le_of_ble_eq_true rfl) ?_
  intro p e s m args below meth c ls Q H locs A F w hl hnm hA hQ
  have hx := F.1.1
  have hb := F.1.2.1
  have hts := F.1.2.2.2.2
  have hl : lv_has ls 3 [(0, .ref (μ 0)), (1, .int (nI d))] := hl
  refine lv_aload_n hx hb dX6_nextOpen_0 rfl (lv_at hl 0 rfl) ?_
  refine lv_iload_n hx hb dX6_nextOpen_1 rfl (lv_at hl 1 rfl) ?_
  refine kcalli (wc := []) (wr := [cM μ iK kn ln th sp bg fm le fi se re ca, xI g (μ 1) 288 (enc σ)]) (wn := fun (u : Unit) => [cM μ iK kn ln th sp bg fm le fi se re ca, xI g (μ 1) 288 (enc σ)]) F w [] [0, 1] [0, 1] rfl rfl rfl (fun _ => rfl)
    (fun hp => va_runS (As := [.int (nI d)]) (rest := [.ref (μ 0)]) F.1 (kX6_isDoor l g (nI d) H.size ) (va_cwS 1 hts gX6_nextOpen_X6_isDoor rfl rfl rfl hd_X6_isDoor ⟨Nat.le_of_ble_eq_true rfl, Nat.le_of_ble_eq_true rfl⟩) hp rfl rfl hl.1 rfl (lv_room (Nat.le_of_ble_eq_true rfl)) dX6_nextOpen_2 ⟨Nat.le_of_ble_eq_true rfl, Nat.le_of_ble_eq_true rfl⟩)
    (fun r_1 _ H locs h_2 w => ?_)
  subst h_2
  refine ktopi (y := bI true) (congrArg bI (door_t hd)) ?_
  refine kcalli (wc := [cM μ iK kn ln th sp bg fm le fi se re ca]) (wr := [xI g (μ 1) 288 (enc σ)]) (wn := fun (u : Unit) => [cM μ iK kn ln 0 sp bg fm le fi se re ca, xI g (μ 1) 288 (enc σ)]) F w [0] [1] [1, 0] rfl rfl rfl (fun _ => rfl)
    (fun hp => va_runV (As := [.int (bI true)]) (rest := []) F.1 (kX6_asks_t l g μ iK kn ln th sp bg fm le fi se re ca H.size ) (cwV 1 hts gX6_nextOpen_X6_asks rfl rfl rfl ⟨rfl, hd_X6_asks⟩ ⟨Nat.le_of_ble_eq_true rfl, Nat.le_of_ble_eq_true rfl⟩) ⟨hp.1, va_recv F.2.2.2.1.1 w.1 (q0 := 0) (ci := 6) rfl rfl, hp.2⟩ rfl rfl hl.1 rfl (lv_room (Nat.le_of_ble_eq_true rfl)) dX6_nextOpen_5 ⟨Nat.le_of_ble_eq_true rfl, Nat.le_of_ble_eq_true rfl⟩)
    (fun r_3 _ H locs h_4 w => ?_)
  subst h_4
  refine lv_if_ne (tgt := 13) hx hb dX6_nextOpen_8 (by decide) (fun h_5 => ?_) (fun h_5 => ?_)
  · have h_5 : true = true := bI_o.mp h_5
    refine lv_iload_n hx hb dX6_nextOpen_13 rfl (lv_at hl 1 rfl) ?_
    refine lv_istore_n (lv' := [(2, .int (nI d)), (0, .ref (μ 0)), (1, .int (nI d))]) hx hb dX6_nextOpen_14 rfl hl (by decide) rfl (fun ls hl => ?_)
    have LP_6 : ∀ (fu : Nat) (i : Nat) (h1 : d ≤ i) (h2 : i ≤ q) (H : Heap) (locs : List Loc) (ls : Array Slot), 60 - i < fu → kW g A s [cM μ iK kn ln 0 sp bg fm le fi se re ca, xI g (μ 1) 288 (enc σ)] H locs → lv_has ls 3 [(2, .int (nI i)), (0, .ref (μ 0)), (1, .int (nI d))] → W p l e rmX6_nextOpen_N s m args below meth c H locs 0 0 Q (F0 m 15 ls []) := by
      intro fu
      induction fu with
      | zero => intro i h1 h2 H locs ls hlt; omega
      | succ fu ih_6 =>
        intro i h1 h2 H locs ls hlt w hl
        refine lv_iload_n hx hb dX6_nextOpen_15 rfl (lv_at hl 0 rfl) ?_
        refine lv_bipush (v := nI 48) hx hb dX6_nextOpen_16 (by decide) ?_
        refine lv_icmp_gt (tgt := 36) hx hb dX6_nextOpen_18 (by decide) (fun h_7 => ?_) (fun h_7 => ?_)
        · have h_7 : i > 48 := (kc_gt_t (by omega) (by omega)).mp h_7
          refine lv_iload_n hx hb dX6_nextOpen_36 rfl (lv_at hl 0 rfl) ?_
          refine lv_bipush (v := nI 48) hx hb dX6_nextOpen_37 (by decide) ?_
          refine lv_icmp_gt (tgt := 46) hx hb dX6_nextOpen_39 (by decide) (fun h_8 => ?_) (fun h_8 => ?_)
          · have h_8 : i > 48 := (kc_gt_t (by omega) (by omega)).mp h_8
            refine lv_aload_n hx hb dX6_nextOpen_46 rfl (lv_at hl 1 rfl) ?_
            refine lv_iconst (v := nI 2) hx hb dX6_nextOpen_47 (by decide) ?_
            refine kcalli (wc := [cM μ iK kn ln 0 sp bg fm le fi se re ca]) (wr := [xI g (μ 1) 288 (enc σ)]) (wn := fun (u : Unit) => [cM μ iK kn ln 2 sp bg fm le fi se re ca, xI g (μ 1) 288 (enc σ)]) F w [0] [1] [1, 0] rfl rfl rfl (fun _ => rfl)
              (fun hp => va_runV (As := [.int (nI 2)]) (rest := []) F.1 (kX6_fails l g μ iK kn ln 0 sp bg fm le fi se re ca 2 H.size ) (cwV 1 hts gX6_nextOpen_X6_fails rfl rfl rfl ⟨rfl, hd_X6_fails⟩ ⟨Nat.le_of_ble_eq_true rfl, Nat.le_of_ble_eq_true rfl⟩) ⟨hp.1, va_recv F.2.2.2.1.1 w.1 (q0 := 0) (ci := 6) rfl rfl, hp.2⟩ rfl rfl hl.1 rfl (lv_room (Nat.le_of_ble_eq_true rfl)) dX6_nextOpen_48 ⟨Nat.le_of_ble_eq_true rfl, Nat.le_of_ble_eq_true rfl⟩)
              (fun r_9 _ H locs h_10 w => ?_)
            subst h_10
            subst hA
            subst hQ
            exact kreti F w () [0, 1] rfl rfl (rfl) (Nat.le_of_ble_eq_true rfl) (Nat.le_of_ble_eq_true rfl) dX6_nextOpen_51
          · have h_8 : i ≤ 48 := (kc_gt_f (by omega) (by omega)).mp h_8
            omega
        · have h_7 : i ≤ 48 := (kc_gt_f (by omega) (by omega)).mp h_7
          refine lv_aload_n hx hb dX6_nextOpen_21 rfl (lv_at hl 1 rfl) ?_
          refine lv_iload_n hx hb dX6_nextOpen_22 rfl (lv_at hl 0 rfl) ?_
          refine lv_iconst (v := nI 0) hx hb dX6_nextOpen_23 (by decide) ?_
          refine kcalli (wc := [cM μ iK kn ln 0 sp bg fm le fi se re ca, xI g (μ 1) 288 (enc σ)]) (wr := []) (wn := fun (u : Unit) => [cM μ iK kn ln 0 sp bg fm le fi se re ca, xI g (μ 1) 288 (enc σ)]) F w [0, 1] [] [0, 1] rfl rfl rfl (fun _ => rfl)
            (fun hp => va_runV (As := [.int (nI i), .int (nI 0)]) (rest := []) F.1 (kX6_of l g μ iK kn ln 0 sp bg fm le fi se re ca (enc σ) i 0 H.size (by omega)) (cwV 2 hts gX6_nextOpen_X6_of rfl rfl rfl ⟨rfl, hd_X6_of⟩ ⟨Nat.le_of_ble_eq_true rfl, Nat.le_of_ble_eq_true rfl⟩) ⟨hp.1, va_recv F.2.2.2.1.1 w.1 (q0 := 0) (ci := 6) rfl rfl, hp.2⟩ rfl rfl hl.1 rfl (lv_room (Nat.le_of_ble_eq_true rfl)) dX6_nextOpen_24 ⟨Nat.le_of_ble_eq_true rfl, Nat.le_of_ble_eq_true rfl⟩)
            (fun r_11 _ H locs h_12 w => ?_)
          subst h_12
          refine ktopi (y := bI (zO σ i)) (enc_O (by omega) (by omega)) ?_
          refine lv_if_ne (tgt := 36) hx hb dX6_nextOpen_27 (by decide) (fun h_13 => ?_) (fun h_13 => ?_)
          · have h_13 : (zO σ i) = true := bI_o.mp h_13
            exact absurd (he2 i h1 (by omega)) (by rw [h_13]; decide)
          · have h_13 : (zO σ i) = false := bI_z.mp h_13
            refine lv_iinc (v := nI (i + 1)) (lv' := [(2, .int (nI (i + 1))), (0, .ref (μ 0)), (1, .int (nI d))]) hx hb dX6_nextOpen_30 hl (k := 0) rfl (nI_add i 1) (by decide) rfl (fun ls hl => ?_)
            refine lv_goto (tgt := 15) hx hb dX6_nextOpen_33 (by decide) ?_
            exact ih_6 (i + 1) (by omega) (by omega) _ _ _ (by omega) (kW.perm w [0, 1] rfl rfl) (lv_sub hl [0, 1, 2] rfl)
    exact LP_6 _ d (Nat.le_refl _) (by omega) _ _ _ (Nat.lt_succ_self _) (kW.perm w [0, 1] rfl rfl) (lv_sub hl [0, 1, 2] rfl)
  · have h_5 : true = false := bI_z.mp h_5
    exact absurd h_5 (by simp)
abbrev rmX6_multiples : Room := { frames := 0, cells := 0, slots := 0, locals := 0 }
set_option maxHeartbeats 4000000 in
set_option maxRecDepth 100000 in
theorem kX6_multiples (l : Launch) (g : GG) (k : Nat) (sz : Nat) (hk : 1 ≤ k ∧ k ≤ 48) : Met l yX6_multiples wsX6_multiples rmX6_multiples (va_Pc [.int (nI k)] (kPre g [] sz)) (va_Ql (fun (r : Int64) (u : Unit) => r = zB (mulA k)) (kB g (va_A [] sz) (fun u => [])) (va_A [] sz)) 0 0 (va_A [] sz) := by
  refine kMet (cc := cX6_multiples) (maxL := 4) (ret := (some .long)) (own := RX6) (by decide) rfl rfl (Nat.le_of_ble_eq_true rfl) ?_
  intro p e s m args below meth c ls Q H locs A F w hl hnm hA hQ
  have hx := F.1.1
  have hb := F.1.2.1
  have hts := F.1.2.2.2.2
  have hl : lv_has ls 4 [(0, .int (nI k))] := hl
  refine lv_lconst (v := 0) hx hb dX6_multiples_0 (by decide) ?_
  refine ktopl (y := zB (mulP k (0 + 1))) ((mulP_1 hk.1).symm) ?_
  refine lv_lstore_n (lv' := [(1, .long (zB (mulP k (0 + 1)))), (0, .int (nI k))]) hx hb dX6_multiples_1 rfl hl (by decide) rfl (fun ls hl => ?_)
  refine lv_iload_n hx hb dX6_multiples_2 rfl (lv_at hl 1 rfl) ?_
  refine ktopi (y := nI ((0 + 1) * k)) (by rw [Nat.zero_add, Nat.one_mul]) ?_
  refine lv_istore_n (lv' := [(3, .int (nI ((0 + 1) * k))), (1, .long (zB (mulP k (0 + 1)))), (0, .int (nI k))]) hx hb dX6_multiples_3 rfl hl (by decide) rfl (fun ls hl => ?_)
  have hq : 48 / k ≤ 48 := Nat.div_le_self _ _
  have LP_1 : ∀ (fu : Nat) (j : Nat) (h1 : j ≤ 48 / k) (H : Heap) (locs : List Loc) (ls : Array Slot), 50 - j < fu → kW g A s [] H locs → lv_has ls 4 [(3, .int (nI ((j + 1) * k))), (1, .long (zB (mulP k (j + 1)))), (0, .int (nI k))] → W p l e rmX6_multiples s m args below meth c H locs 0 0 Q (F0 m 4 ls []) := by
    intro fu
    induction fu with
    | zero => intro j h1 H locs ls hlt; omega
    | succ fu ih_1 =>
      intro j h1 H locs ls hlt w hl
      have hb1 : (j + 1) * k ≤ 49 * 48 := Nat.mul_le_mul (by omega) hk.2
      refine lv_iload_n hx hb dX6_multiples_4 rfl (lv_at hl 0 rfl) ?_
      refine lv_bipush (v := nI 48) hx hb dX6_multiples_5 (by decide) ?_
      refine lv_icmp_gt (tgt := 23) hx hb dX6_multiples_7 (by decide) (fun h_2 => ?_) (fun h_2 => ?_)
      · have h_2 : (j + 1) * k > 48 := (kc_gt_t (by omega) (by omega)).mp h_2
        have hj : ¬ j + 1 ≤ 48 / k := fun hc => by have := mul_in hk.1 hc; omega
        have e_3 : j = 48 / k := by omega
        subst e_3
        refine lv_lload_n hx hb dX6_multiples_23 rfl (lv_at hl 1 rfl) ?_
        refine ktopl (y := zB (mulA k)) (mulP_end hk.1) ?_
        subst hA
        subst hQ
        exact kretl F w () [] rfl rfl (rfl) (Nat.le_of_ble_eq_true rfl) (Nat.le_of_ble_eq_true rfl) dX6_multiples_24
      · have h_2 : (j + 1) * k ≤ 48 := (kc_gt_f (by omega) (by omega)).mp h_2
        have hj : j + 1 ≤ 48 / k := (Nat.le_div_iff_mul_le hk.1).mpr h_2
        refine lv_lload_n hx hb dX6_multiples_10 rfl (lv_at hl 1 rfl) ?_
        refine lv_lconst (v := 1) hx hb dX6_multiples_11 (by decide) ?_
        refine lv_iload_n hx hb dX6_multiples_12 rfl (lv_at hl 0 rfl) ?_
        refine lv_lshl hx hb dX6_multiples_13 rfl ?_
        refine ktopl (y := zbit ((j + 1) * k)) (zm_bit (by omega)) ?_
        refine lv_lor hx hb dX6_multiples_14 ?_
        refine ktopl (y := zB (mulP k (j + 1 + 1))) (mulP_s hk.1 (by omega) h_2) ?_
        refine lv_lstore_n (lv' := [(1, .long (zB (mulP k (j + 1 + 1)))), (3, .int (nI ((j + 1) * k))), (0, .int (nI k))]) hx hb dX6_multiples_15 rfl hl (by decide) rfl (fun ls hl => ?_)
        refine lv_iload_n hx hb dX6_multiples_16 rfl (lv_at hl 1 rfl) ?_
        refine lv_iload_n hx hb dX6_multiples_17 rfl (lv_at hl 2 rfl) ?_
        refine lv_iadd hx hb dX6_multiples_18 ?_
        refine ktopi (y := nI ((j + 1) * k + k)) (nI_add ((j + 1) * k) k) ?_
        refine ktopi (y := nI ((j + 1 + 1) * k)) (congrArg nI (Nat.succ_mul (j + 1) k).symm) ?_
        refine lv_istore_n (lv' := [(3, .int (nI ((j + 1 + 1) * k))), (1, .long (zB (mulP k (j + 1 + 1)))), (0, .int (nI k))]) hx hb dX6_multiples_19 rfl hl (by decide) rfl (fun ls hl => ?_)
        refine lv_goto (tgt := 4) hx hb dX6_multiples_20 (by decide) ?_
        exact ih_1 (j + 1) (by omega) _ _ _ (by omega) (kW.perm w [] rfl rfl) (lv_sub hl [0, 1, 2] rfl)
  exact LP_1 _ 0 (Nat.zero_le _) _ _ _ (Nat.lt_succ_self _) (kW.perm w [] rfl rfl) (lv_sub hl [0, 1, 2] rfl)
theorem in_X6_closing_X6 : ∀ w ∈ wsX60, w ∈ wsX6_closing := by decide +kernel
theorem hd_X6_multiples : yX6_multiples.cls ≠ "java/lang/invoke/MethodHandle" ∧ yX6_multiples.cls ≠ "java/lang/invoke/VarHandle" ∧ (parseMethodDescriptor yX6_multiples.desc).map (fun d => d.parameters.length) = some 1 := by decide +kernel
abbrev rmX6_closing : Room := { frames := 2, cells := 0, slots := 0, locals := 45 }
set_option maxHeartbeats 4000000 in
set_option maxRecDepth 100000 in
theorem kX6_closing (l : Launch) (g : GG) (μ : Nat → Nat) (iK : Bool) (kn : Nat) (ln : Nat) (th : Nat) (sp : Nat) (bg : Nat) (fm : Bool) (le : Int32) (fi : Nat) (se : Nat) (re : Nat) (ca : Nat) (σ : Sg) (sz : Nat)  : Met l yX6_closing wsX6_closing rmX6_closing (va_Pc [.ref (μ 0)] (kPre g [cM μ iK kn ln th sp bg fm le fi se re ca, xI g (μ 1) 288 (enc σ)] sz)) (va_Ql (fun (r : Int64) (u : Unit) => r = zB (clP (zO σ) 48)) (kB g (va_A [cM μ iK kn ln th sp bg fm le fi se re ca, xI g (μ 1) 288 (enc σ)] sz) (fun u => [cM μ iK kn ln 0 sp bg fm le fi se re ca, xI g (μ 1) 288 (enc σ)])) (va_A [cM μ iK kn ln th sp bg fm le fi se re ca, xI g (μ 1) 288 (enc σ)] sz)) 0 0 (va_A [cM μ iK kn ln th sp bg fm le fi se re ca, xI g (μ 1) 288 (enc σ)] sz) := by
  refine kMet (cc := cX6_closing) (maxL := 7) (ret := (some .long)) (own := RX6) (by decide) rfl rfl (Nat.le_of_ble_eq_true rfl) ?_
  intro p e s m args below meth c ls Q H locs A F w hl hnm hA hQ
  have hx := F.1.1
  have hb := F.1.2.1
  have hts := F.1.2.2.2.2
  have hl : lv_has ls 7 [(0, .ref (μ 0))] := hl
  refine lv_aload_n hx hb dX6_closing_0 rfl (lv_at hl 0 rfl) ?_
  refine lv_iconst (v := nI 0) hx hb dX6_closing_1 (by decide) ?_
  refine kput (fs := [.ref (μ 1), .ref (μ 2), .ref (μ 3), .ref (μ 4), .int (bI iK), .ref (μ 5), .int (nI kn), .ref (μ 6), .int (nI ln), .int (nI th), .int (nI sp), .int (nI bg), .int (bI fm), .int le, .int (nI fi), .int (nI se), .int (nI re), .int (nI ca)]) F w in_X6_closing_X6 tyX6_ok nmX6 0 rfl rfl 9 (by decide) (by decide +kernel) rfl rfl (rfl) (rfl) (Nat.le_of_ble_eq_true rfl) (wn := [cM μ iK kn ln 0 sp bg fm le fi se re ca, xI g (μ 1) 288 (enc σ)]) rfl dX6_closing_2 (fun H locs w => ?_)
  refine lv_aload_n hx hb dX6_closing_5 rfl (lv_at hl 0 rfl) ?_
  refine kcalll (wc := [cM μ iK kn ln 0 sp bg fm le fi se re ca, xI g (μ 1) 288 (enc σ)]) (wr := []) (wn := fun (u : Unit) => [cM μ iK kn ln 0 sp bg fm le fi se re ca, xI g (μ 1) 288 (enc σ)]) F w [0, 1] [] [0, 1] rfl rfl rfl (fun _ => rfl)
    (fun hp => va_runV (As := []) (rest := []) F.1 (kX6_opened l g μ iK kn ln 0 sp bg fm le fi se re ca σ H.size ) (cwV 0 hts gX6_closing_X6_opened rfl rfl rfl ⟨rfl, hd_X6_opened⟩ ⟨Nat.le_of_ble_eq_true rfl, Nat.le_of_ble_eq_true rfl⟩) ⟨hp.1, va_recv F.2.2.2.1.1 w.1 (q0 := 0) (ci := 6) rfl rfl, hp.2⟩ rfl rfl hl.1 rfl (lv_room (Nat.le_of_ble_eq_true rfl)) dX6_closing_6 ⟨Nat.le_of_ble_eq_true rfl, Nat.le_of_ble_eq_true rfl⟩)
    (fun r_1 _ H locs h_2 w => ?_)
  subst h_2
  refine ktopl (y := zB (clO (zO σ) 0)) (rfl) ?_
  refine lv_lstore_n (lv' := [(1, .long (zB (clO (zO σ) 0))), (0, .ref (μ 0))]) hx hb dX6_closing_9 rfl hl (by decide) rfl (fun ls hl => ?_)
  refine lv_lconst (v := 0) hx hb dX6_closing_10 (by decide) ?_
  refine ktopl (y := zB (clP (zO σ) 0)) (zB_0.symm) ?_
  refine lv_lstore_n (lv' := [(3, .long (zB (clP (zO σ) 0))), (1, .long (zB (clO (zO σ) 0))), (0, .ref (μ 0))]) hx hb dX6_closing_11 rfl hl (by decide) rfl (fun ls hl => ?_)
  refine lv_iconst (v := nI 1) hx hb dX6_closing_12 (by decide) ?_
  refine ktopi (y := nI (0 + 1)) (rfl) ?_
  refine lv_istore (lv' := [(5, .int (nI (0 + 1))), (3, .long (zB (clP (zO σ) 0))), (1, .long (zB (clO (zO σ) 0))), (0, .ref (μ 0))]) hx hb dX6_closing_13 hl (by decide) rfl (fun ls hl => ?_)
  have LP_3 : ∀ (fu : Nat) (j : Nat) (h1 : j ≤ 48) (H : Heap) (locs : List Loc) (ls : Array Slot), 50 - j < fu → kW g A s [cM μ iK kn ln 0 sp bg fm le fi se re ca, xI g (μ 1) 288 (enc σ)] H locs → lv_has ls 7 [(5, .int (nI (j + 1))), (3, .long (zB (clP (zO σ) j))), (1, .long (zB (clO (zO σ) j))), (0, .ref (μ 0))] → W p l e rmX6_closing s m args below meth c H locs 0 0 Q (F0 m 15 ls []) := by
    intro fu
    induction fu with
    | zero => intro j h1 H locs ls hlt; omega
    | succ fu ih_3 =>
      intro j h1 H locs ls hlt w hl
      refine lv_iload hx hb dX6_closing_15 (lv_at hl 0 rfl) ?_
      refine lv_bipush (v := nI 48) hx hb dX6_closing_17 (by decide) ?_
      refine lv_icmp_gt (tgt := 79) hx hb dX6_closing_19 (by decide) (fun h_4 => ?_) (fun h_4 => ?_)
      · have h_4 : j + 1 > 48 := (kc_gt_t (by omega) (by omega)).mp h_4
        have e_5 : j = 48 := by omega
        subst e_5
        refine lv_lload_n hx hb dX6_closing_79 rfl (lv_at hl 1 rfl) ?_
        subst hA
        subst hQ
        exact kretl F w () [0, 1] rfl rfl (rfl) (Nat.le_of_ble_eq_true rfl) (Nat.le_of_ble_eq_true rfl) dX6_closing_80
      · have h_4 : j + 1 ≤ 48 := (kc_gt_f (by omega) (by omega)).mp h_4
        refine lv_lload_n hx hb dX6_closing_22 rfl (lv_at hl 2 rfl) ?_
        refine lv_iload hx hb dX6_closing_23 (lv_at hl 0 rfl) ?_
        refine lv_lshr hx hb dX6_closing_25 rfl ?_
        refine lv_lconst (v := 1) hx hb dX6_closing_26 (by decide) ?_
        refine lv_land hx hb dX6_closing_27 ?_
        refine lv_lconst (v := 1) hx hb dX6_closing_28 (by decide) ?_
        refine W.lcmp hx hb dX6_closing_29 ?_
        refine lv_if_ne (tgt := 37) hx hb dX6_closing_30 (by decide) (fun h_6 => ?_) (fun h_6 => ?_)
        · have hz : clO (zO σ) j (j + 1) = false := by have := zm_hasL0 (by omega) h_6; rwa [zG_in (by omega) (by omega)] at this
          refine lv_iconst (v := nI 0) hx hb dX6_closing_37 (by decide) ?_
          refine lv_istore (lv' := [(6, .int (nI 0)), (5, .int (nI (j + 1))), (3, .long (zB (clP (zO σ) j))), (1, .long (zB (clO (zO σ) j))), (0, .ref (μ 0))]) hx hb dX6_closing_38 hl (by decide) rfl (fun ls hl => ?_)
          refine lv_lload_n hx hb dX6_closing_40 rfl (lv_at hl 2 rfl) ?_
          refine lv_iload hx hb dX6_closing_41 (lv_at hl 0 rfl) ?_
          refine lv_if_eq (tgt := 53) hx hb dX6_closing_43 (by decide) (fun h_7 => ?_) (fun h_7 => ?_)
          · have h_7 : 0 = 0 := (kc0_eq_t (by omega)).mp h_7
            refine lv_lconst (v := 0) hx hb dX6_closing_53 (by decide) ?_
            refine lv_lor hx hb dX6_closing_54 ?_
            refine ktopl (y := zB (clP (zO σ) (j + 1))) (clP_f hz) ?_
            refine lv_lstore_n (lv' := [(3, .long (zB (clP (zO σ) (j + 1)))), (6, .int (nI 0)), (5, .int (nI (j + 1))), (1, .long (zB (clO (zO σ) j))), (0, .ref (μ 0))]) hx hb dX6_closing_55 rfl hl (by decide) rfl (fun ls hl => ?_)
            refine lv_lload_n hx hb dX6_closing_56 rfl (lv_at hl 3 rfl) ?_
            refine lv_iload hx hb dX6_closing_57 (lv_at hl 1 rfl) ?_
            refine lv_if_eq (tgt := 70) hx hb dX6_closing_59 (by decide) (fun h_8 => ?_) (fun h_8 => ?_)
            · have h_8 : 0 = 0 := (kc0_eq_t (by omega)).mp h_8
              refine lv_lconst (v := 0) hx hb dX6_closing_70 (by decide) ?_
              refine lv_lxor hx hb dX6_closing_71 ?_
              refine ktopl (y := zB (clO (zO σ) (j + 1))) (clO_f hz) ?_
              refine lv_lstore_n (lv' := [(1, .long (zB (clO (zO σ) (j + 1)))), (3, .long (zB (clP (zO σ) (j + 1)))), (6, .int (nI 0)), (5, .int (nI (j + 1))), (0, .ref (μ 0))]) hx hb dX6_closing_72 rfl hl (by decide) rfl (fun ls hl => ?_)
              refine lv_iinc (v := nI (j + 1 + 1)) (lv' := [(5, .int (nI (j + 1 + 1))), (1, .long (zB (clO (zO σ) (j + 1)))), (3, .long (zB (clP (zO σ) (j + 1)))), (6, .int (nI 0)), (0, .ref (μ 0))]) hx hb dX6_closing_73 hl (k := 3) rfl (nI_add (j + 1) 1) (by decide) rfl (fun ls hl => ?_)
              refine lv_goto (tgt := 15) hx hb dX6_closing_76 (by decide) ?_
              exact ih_3 (j + 1) (by omega) _ _ _ (by omega) (kW.perm w [0, 1] rfl rfl) (lv_sub hl [0, 2, 1, 4] rfl)
            · have h_8 : 0 ≠ 0 := (kc0_eq_f (by omega)).mp h_8
              omega
          · have h_7 : 0 ≠ 0 := (kc0_eq_f (by omega)).mp h_7
            omega
        · have hz : clO (zO σ) j (j + 1) = true := by have := zm_hasL1 (by omega) h_6; rwa [zG_in (by omega) (by omega)] at this
          refine lv_iconst (v := nI 1) hx hb dX6_closing_33 (by decide) ?_
          refine lv_goto (tgt := 38) hx hb dX6_closing_34 (by decide) ?_
          refine lv_istore (lv' := [(6, .int (nI 1)), (5, .int (nI (j + 1))), (3, .long (zB (clP (zO σ) j))), (1, .long (zB (clO (zO σ) j))), (0, .ref (μ 0))]) hx hb dX6_closing_38 hl (by decide) rfl (fun ls hl => ?_)
          refine lv_lload_n hx hb dX6_closing_40 rfl (lv_at hl 2 rfl) ?_
          refine lv_iload hx hb dX6_closing_41 (lv_at hl 0 rfl) ?_
          refine lv_if_eq (tgt := 53) hx hb dX6_closing_43 (by decide) (fun h_9 => ?_) (fun h_9 => ?_)
          · have h_9 : 1 = 0 := (kc0_eq_t (by omega)).mp h_9
            omega
          · have h_9 : 1 ≠ 0 := (kc0_eq_f (by omega)).mp h_9
            refine lv_lconst (v := 1) hx hb dX6_closing_46 (by decide) ?_
            refine lv_iload hx hb dX6_closing_47 (lv_at hl 1 rfl) ?_
            refine lv_lshl hx hb dX6_closing_49 rfl ?_
            refine ktopl (y := zbit (j + 1)) (zm_bit (by omega)) ?_
            refine lv_goto (tgt := 54) hx hb dX6_closing_50 (by decide) ?_
            refine lv_lor hx hb dX6_closing_54 ?_
            refine ktopl (y := zB (clP (zO σ) (j + 1))) (clP_t (by omega) hz) ?_
            refine lv_lstore_n (lv' := [(3, .long (zB (clP (zO σ) (j + 1)))), (6, .int (nI 1)), (5, .int (nI (j + 1))), (1, .long (zB (clO (zO σ) j))), (0, .ref (μ 0))]) hx hb dX6_closing_55 rfl hl (by decide) rfl (fun ls hl => ?_)
            refine lv_lload_n hx hb dX6_closing_56 rfl (lv_at hl 3 rfl) ?_
            refine lv_iload hx hb dX6_closing_57 (lv_at hl 1 rfl) ?_
            refine lv_if_eq (tgt := 70) hx hb dX6_closing_59 (by decide) (fun h_10 => ?_) (fun h_10 => ?_)
            · have h_10 : 1 = 0 := (kc0_eq_t (by omega)).mp h_10
              omega
            · have h_10 : 1 ≠ 0 := (kc0_eq_f (by omega)).mp h_10
              refine lv_iload hx hb dX6_closing_62 (lv_at hl 2 rfl) ?_
              refine kcalll (wc := []) (wr := [cM μ iK kn ln 0 sp bg fm le fi se re ca, xI g (μ 1) 288 (enc σ)]) (wn := fun (u : Unit) => [cM μ iK kn ln 0 sp bg fm le fi se re ca, xI g (μ 1) 288 (enc σ)]) F w [] [0, 1] [0, 1] rfl rfl rfl (fun _ => rfl)
                (fun hp => va_runS (As := [.int (nI (j + 1))]) (rest := [.long (zB (clO (zO σ) j))]) F.1 (kX6_multiples l g (j + 1) H.size (by omega)) (va_cwS 1 hts gX6_closing_X6_multiples rfl rfl rfl hd_X6_multiples ⟨Nat.le_of_ble_eq_true rfl, Nat.le_of_ble_eq_true rfl⟩) hp rfl rfl hl.1 rfl (lv_room (Nat.le_of_ble_eq_true rfl)) dX6_closing_64 ⟨Nat.le_of_ble_eq_true rfl, Nat.le_of_ble_eq_true rfl⟩)
                (fun r_11 _ H locs h_12 w => ?_)
              subst h_12
              refine lv_goto (tgt := 71) hx hb dX6_closing_67 (by decide) ?_
              refine lv_lxor hx hb dX6_closing_71 ?_
              refine ktopl (y := zB (clO (zO σ) (j + 1))) (clO_t hz) ?_
              refine lv_lstore_n (lv' := [(1, .long (zB (clO (zO σ) (j + 1)))), (3, .long (zB (clP (zO σ) (j + 1)))), (6, .int (nI 1)), (5, .int (nI (j + 1))), (0, .ref (μ 0))]) hx hb dX6_closing_72 rfl hl (by decide) rfl (fun ls hl => ?_)
              refine lv_iinc (v := nI (j + 1 + 1)) (lv' := [(5, .int (nI (j + 1 + 1))), (1, .long (zB (clO (zO σ) (j + 1)))), (3, .long (zB (clP (zO σ) (j + 1)))), (6, .int (nI 1)), (0, .ref (μ 0))]) hx hb dX6_closing_73 hl (k := 3) rfl (nI_add (j + 1) 1) (by decide) rfl (fun ls hl => ?_)
              refine lv_goto (tgt := 15) hx hb dX6_closing_76 (by decide) ?_
              exact ih_3 (j + 1) (by omega) _ _ _ (by omega) (kW.perm w [0, 1] rfl rfl) (lv_sub hl [0, 2, 1, 4] rfl)
  exact LP_3 _ 0 (by omega) _ _ _ (Nat.lt_succ_self _) (kW.perm w [0, 1] rfl rfl) (lv_sub hl [0, 1, 2, 3] rfl)
theorem hd_X6_closing : yX6_closing.cls ≠ "java/lang/invoke/MethodHandle" ∧ yX6_closing.cls ≠ "java/lang/invoke/VarHandle" ∧ (parseMethodDescriptor yX6_closing.desc).map (fun d => d.parameters.length) = some 0 := by decide +kernel
abbrev rmX6_closingPasses : Room := { frames := 3, cells := 0, slots := 0, locals := 71 }
set_option maxHeartbeats 4000000 in
set_option maxRecDepth 100000 in
theorem kX6_closingPasses (l : Launch) (g : GG) (μ : Nat → Nat) (iK : Bool) (kn : Nat) (ln : Nat) (th : Nat) (sp : Nat) (bg : Nat) (fm : Bool) (le : Int32) (fi : Nat) (se : Nat) (re : Nat) (ca : Nat) (σ : Sg) (sz : Nat)  : Met l yX6_closingPasses wsX6_closingPasses rmX6_closingPasses (va_Pc [.ref (μ 0)] (kPre g [cM μ iK kn ln th sp bg fm le fi se re ca, xI g (μ 1) 288 (enc σ)] sz)) (va_Ql (fun (r : Int64) (u : Unit) => r = zB (clP (zO σ) 48)) (kB g (va_A [cM μ iK kn ln th sp bg fm le fi se re ca, xI g (μ 1) 288 (enc σ)] sz) (fun u => [cM μ iK kn ln 0 sp bg fm le fi se re ca, xI g (μ 1) 288 (enc σ)])) (va_A [cM μ iK kn ln th sp bg fm le fi se re ca, xI g (μ 1) 288 (enc σ)] sz)) 0 0 (va_A [cM μ iK kn ln th sp bg fm le fi se re ca, xI g (μ 1) 288 (enc σ)] sz) := by
  refine kMet (cc := cX6_closingPasses) (maxL := 1) (ret := (some .long)) (own := RX6) (by decide) rfl rfl (Nat.le_of_ble_eq_true rfl) ?_
  intro p e s m args below meth c ls Q H locs A F w hl hnm hA hQ
  have hx := F.1.1
  have hb := F.1.2.1
  have hts := F.1.2.2.2.2
  have hl : lv_has ls 1 [(0, .ref (μ 0))] := hl
  refine lv_aload_n hx hb dX6_closingPasses_0 rfl (lv_at hl 0 rfl) ?_
  refine kcalll (wc := [cM μ iK kn ln th sp bg fm le fi se re ca, xI g (μ 1) 288 (enc σ)]) (wr := []) (wn := fun (u : Unit) => [cM μ iK kn ln 0 sp bg fm le fi se re ca, xI g (μ 1) 288 (enc σ)]) F w [0, 1] [] [0, 1] rfl rfl rfl (fun _ => rfl)
    (fun hp => va_runV (As := []) (rest := []) F.1 (kX6_closing l g μ iK kn ln th sp bg fm le fi se re ca σ H.size ) (cwV 0 hts gX6_closingPasses_X6_closing rfl rfl rfl ⟨rfl, hd_X6_closing⟩ ⟨Nat.le_of_ble_eq_true rfl, Nat.le_of_ble_eq_true rfl⟩) ⟨hp.1, va_recv F.2.2.2.1.1 w.1 (q0 := 0) (ci := 6) rfl rfl, hp.2⟩ rfl rfl hl.1 rfl (lv_room (Nat.le_of_ble_eq_true rfl)) dX6_closingPasses_1 ⟨Nat.le_of_ble_eq_true rfl, Nat.le_of_ble_eq_true rfl⟩)
    (fun r_1 _ H locs h_2 w => ?_)
  subst h_2
  subst hA
  subst hQ
  exact kretl F w () [0, 1] rfl rfl (rfl) (Nat.le_of_ble_eq_true rfl) (Nat.le_of_ble_eq_true rfl) dX6_closingPasses_4
abbrev rmX6_closingByDivisors : Room := { frames := 3, cells := 0, slots := 0, locals := 71 }
set_option maxHeartbeats 4000000 in
set_option maxRecDepth 100000 in
theorem kX6_closingByDivisors (l : Launch) (g : GG) (μ : Nat → Nat) (iK : Bool) (kn : Nat) (ln : Nat) (th : Nat) (sp : Nat) (bg : Nat) (fm : Bool) (le : Int32) (fi : Nat) (se : Nat) (re : Nat) (ca : Nat) (σ : Sg) (sz : Nat)  : Met l yX6_closingByDivisors wsX6_closingByDivisors rmX6_closingByDivisors (va_Pc [.ref (μ 0)] (kPre g [cM μ iK kn ln th sp bg fm le fi se re ca, xI g (μ 1) 288 (enc σ)] sz)) (va_Ql (fun (r : Int64) (u : Unit) => r = zB (clP (zO σ) 48)) (kB g (va_A [cM μ iK kn ln th sp bg fm le fi se re ca, xI g (μ 1) 288 (enc σ)] sz) (fun u => [cM μ iK kn ln 0 sp bg fm le fi se re ca, xI g (μ 1) 288 (enc σ)])) (va_A [cM μ iK kn ln th sp bg fm le fi se re ca, xI g (μ 1) 288 (enc σ)] sz)) 0 0 (va_A [cM μ iK kn ln th sp bg fm le fi se re ca, xI g (μ 1) 288 (enc σ)] sz) := by
  refine kMet (cc := cX6_closingByDivisors) (maxL := 1) (ret := (some .long)) (own := RX6) (by decide) rfl rfl (Nat.le_of_ble_eq_true rfl) ?_
  intro p e s m args below meth c ls Q H locs A F w hl hnm hA hQ
  have hx := F.1.1
  have hb := F.1.2.1
  have hts := F.1.2.2.2.2
  have hl : lv_has ls 1 [(0, .ref (μ 0))] := hl
  refine lv_aload_n hx hb dX6_closingByDivisors_0 rfl (lv_at hl 0 rfl) ?_
  refine kcalll (wc := [cM μ iK kn ln th sp bg fm le fi se re ca, xI g (μ 1) 288 (enc σ)]) (wr := []) (wn := fun (u : Unit) => [cM μ iK kn ln 0 sp bg fm le fi se re ca, xI g (μ 1) 288 (enc σ)]) F w [0, 1] [] [0, 1] rfl rfl rfl (fun _ => rfl)
    (fun hp => va_runV (As := []) (rest := []) F.1 (kX6_closing l g μ iK kn ln th sp bg fm le fi se re ca σ H.size ) (cwV 0 hts gX6_closingByDivisors_X6_closing rfl rfl rfl ⟨rfl, hd_X6_closing⟩ ⟨Nat.le_of_ble_eq_true rfl, Nat.le_of_ble_eq_true rfl⟩) ⟨hp.1, va_recv F.2.2.2.1.1 w.1 (q0 := 0) (ci := 6) rfl rfl, hp.2⟩ rfl rfl hl.1 rfl (lv_room (Nat.le_of_ble_eq_true rfl)) dX6_closingByDivisors_1 ⟨Nat.le_of_ble_eq_true rfl, Nat.le_of_ble_eq_true rfl⟩)
    (fun r_1 _ H locs h_2 w => ?_)
  subst h_2
  subst hA
  subst hQ
  exact kretl F w () [0, 1] rfl rfl (rfl) (Nat.le_of_ble_eq_true rfl) (Nat.le_of_ble_eq_true rfl) dX6_closingByDivisors_4
abbrev rmX6_passesToClose : Room := { frames := 3, cells := 0, slots := 0, locals := 71 }
set_option maxHeartbeats 4000000 in
set_option maxRecDepth 100000 in
theorem kX6_passesToClose (l : Launch) (g : GG) (μ : Nat → Nat) (iK : Bool) (kn : Nat) (ln : Nat) (th : Nat) (sp : Nat) (bg : Nat) (fm : Bool) (le : Int32) (fi : Nat) (se : Nat) (re : Nat) (ca : Nat) (σ : Sg) (sz : Nat)  : Met l yX6_passesToClose wsX6_passesToClose rmX6_passesToClose (va_Pc [.ref (μ 0)] (kPre g [cM μ iK kn ln th sp bg fm le fi se re ca, xI g (μ 1) 288 (enc σ)] sz)) (va_Qi (fun (r : Int32) (u : Unit) => r = nI (zcnt (clP (zO σ) 48) 48)) (kB g (va_A [cM μ iK kn ln th sp bg fm le fi se re ca, xI g (μ 1) 288 (enc σ)] sz) (fun u => [cM μ iK kn ln 0 sp bg fm le fi se re ca, xI g (μ 1) 288 (enc σ)])) (va_A [cM μ iK kn ln th sp bg fm le fi se re ca, xI g (μ 1) 288 (enc σ)] sz)) 0 0 (va_A [cM μ iK kn ln th sp bg fm le fi se re ca, xI g (μ 1) 288 (enc σ)] sz) := by
  refine kMet (cc := cX6_passesToClose) (maxL := 5) (ret := (some .int)) (own := RX6) (by decide) rfl rfl (Nat.le_of_ble_eq_true rfl) ?_
  intro p e s m args below meth c ls Q H locs A F w hl hnm hA hQ
  have hx := F.1.1
  have hb := F.1.2.1
  have hts := F.1.2.2.2.2
  have hl : lv_has ls 5 [(0, .ref (μ 0))] := hl
  refine lv_aload_n hx hb dX6_passesToClose_0 rfl (lv_at hl 0 rfl) ?_
  refine kcalll (wc := [cM μ iK kn ln th sp bg fm le fi se re ca, xI g (μ 1) 288 (enc σ)]) (wr := []) (wn := fun (u : Unit) => [cM μ iK kn ln 0 sp bg fm le fi se re ca, xI g (μ 1) 288 (enc σ)]) F w [0, 1] [] [0, 1] rfl rfl rfl (fun _ => rfl)
    (fun hp => va_runV (As := []) (rest := []) F.1 (kX6_closing l g μ iK kn ln th sp bg fm le fi se re ca σ H.size ) (cwV 0 hts gX6_passesToClose_X6_closing rfl rfl rfl ⟨rfl, hd_X6_closing⟩ ⟨Nat.le_of_ble_eq_true rfl, Nat.le_of_ble_eq_true rfl⟩) ⟨hp.1, va_recv F.2.2.2.1.1 w.1 (q0 := 0) (ci := 6) rfl rfl, hp.2⟩ rfl rfl hl.1 rfl (lv_room (Nat.le_of_ble_eq_true rfl)) dX6_passesToClose_1 ⟨Nat.le_of_ble_eq_true rfl, Nat.le_of_ble_eq_true rfl⟩)
    (fun r_1 _ H locs h_2 w => ?_)
  subst h_2
  refine lv_lstore_n (lv' := [(1, .long (zB (clP (zO σ) 48))), (0, .ref (μ 0))]) hx hb dX6_passesToClose_4 rfl hl (by decide) rfl (fun ls hl => ?_)
  refine lv_iconst (v := nI 0) hx hb dX6_passesToClose_5 (by decide) ?_
  refine ktopi (y := nI (zcnt (clP (zO σ) 48) 0)) (rfl) ?_
  refine lv_istore_n (lv' := [(3, .int (nI (zcnt (clP (zO σ) 48) 0))), (1, .long (zB (clP (zO σ) 48))), (0, .ref (μ 0))]) hx hb dX6_passesToClose_6 rfl hl (by decide) rfl (fun ls hl => ?_)
  refine lv_iconst (v := nI 1) hx hb dX6_passesToClose_7 (by decide) ?_
  refine ktopi (y := nI (0 + 1)) (rfl) ?_
  refine lv_istore (lv' := [(4, .int (nI (0 + 1))), (3, .int (nI (zcnt (clP (zO σ) 48) 0))), (1, .long (zB (clP (zO σ) 48))), (0, .ref (μ 0))]) hx hb dX6_passesToClose_8 hl (by decide) rfl (fun ls hl => ?_)
  have LP_3 : ∀ (fu : Nat) (j : Nat) (h1 : j ≤ 48) (H : Heap) (locs : List Loc) (ls : Array Slot), 50 - j < fu → kW g A s [cM μ iK kn ln 0 sp bg fm le fi se re ca, xI g (μ 1) 288 (enc σ)] H locs → lv_has ls 5 [(4, .int (nI (j + 1))), (3, .int (nI (zcnt (clP (zO σ) 48) j))), (1, .long (zB (clP (zO σ) 48))), (0, .ref (μ 0))] → W p l e rmX6_passesToClose s m args below meth c H locs 0 0 Q (F0 m 10 ls []) := by
    intro fu
    induction fu with
    | zero => intro j h1 H locs ls hlt; omega
    | succ fu ih_3 =>
      intro j h1 H locs ls hlt w hl
      refine lv_iload hx hb dX6_passesToClose_10 (lv_at hl 0 rfl) ?_
      refine lv_bipush (v := nI 48) hx hb dX6_passesToClose_12 (by decide) ?_
      refine lv_icmp_gt (tgt := 42) hx hb dX6_passesToClose_14 (by decide) (fun h_4 => ?_) (fun h_4 => ?_)
      · have h_4 : j + 1 > 48 := (kc_gt_t (by omega) (by omega)).mp h_4
        have e_5 : j = 48 := by omega
        subst e_5
        refine lv_iload_n hx hb dX6_passesToClose_42 rfl (lv_at hl 1 rfl) ?_
        subst hA
        subst hQ
        exact kreti F w () [0, 1] rfl rfl (rfl) (Nat.le_of_ble_eq_true rfl) (Nat.le_of_ble_eq_true rfl) dX6_passesToClose_43
      · have h_4 : j + 1 ≤ 48 := (kc_gt_f (by omega) (by omega)).mp h_4
        refine lv_iload_n hx hb dX6_passesToClose_17 rfl (lv_at hl 1 rfl) ?_
        refine lv_lload_n hx hb dX6_passesToClose_18 rfl (lv_at hl 2 rfl) ?_
        refine lv_iload hx hb dX6_passesToClose_19 (lv_at hl 0 rfl) ?_
        refine lv_lshr hx hb dX6_passesToClose_21 rfl ?_
        refine lv_lconst (v := 1) hx hb dX6_passesToClose_22 (by decide) ?_
        refine lv_land hx hb dX6_passesToClose_23 ?_
        refine lv_lconst (v := 1) hx hb dX6_passesToClose_24 (by decide) ?_
        refine W.lcmp hx hb dX6_passesToClose_25 ?_
        refine lv_if_ne (tgt := 33) hx hb dX6_passesToClose_26 (by decide) (fun h_6 => ?_) (fun h_6 => ?_)
        · have hz : clP (zO σ) 48 (j + 1) = false := by have := zm_hasL0 (by omega) h_6; rwa [zG_in (by omega) (by omega)] at this
          refine lv_iconst (v := nI 0) hx hb dX6_passesToClose_33 (by decide) ?_
          refine lv_iadd hx hb dX6_passesToClose_34 ?_
          refine ktopi (y := nI (zcnt (clP (zO σ) 48) j + 0)) (nI_add (zcnt (clP (zO σ) 48) j) 0) ?_
          refine ktopi (y := nI (zcnt (clP (zO σ) 48) (j + 1))) (by rw [zcnt_f hz, Nat.add_zero]) ?_
          refine lv_istore_n (lv' := [(3, .int (nI (zcnt (clP (zO σ) 48) (j + 1)))), (4, .int (nI (j + 1))), (1, .long (zB (clP (zO σ) 48))), (0, .ref (μ 0))]) hx hb dX6_passesToClose_35 rfl hl (by decide) rfl (fun ls hl => ?_)
          refine lv_iinc (v := nI (j + 1 + 1)) (lv' := [(4, .int (nI (j + 1 + 1))), (3, .int (nI (zcnt (clP (zO σ) 48) (j + 1)))), (1, .long (zB (clP (zO σ) 48))), (0, .ref (μ 0))]) hx hb dX6_passesToClose_36 hl (k := 1) rfl (nI_add (j + 1) 1) (by decide) rfl (fun ls hl => ?_)
          refine lv_goto (tgt := 10) hx hb dX6_passesToClose_39 (by decide) ?_
          exact ih_3 (j + 1) (by omega) _ _ _ (by omega) (kW.perm w [0, 1] rfl rfl) (lv_sub hl [0, 1, 2, 3] rfl)
        · have hz : clP (zO σ) 48 (j + 1) = true := by have := zm_hasL1 (by omega) h_6; rwa [zG_in (by omega) (by omega)] at this
          refine lv_iconst (v := nI 1) hx hb dX6_passesToClose_29 (by decide) ?_
          refine lv_goto (tgt := 34) hx hb dX6_passesToClose_30 (by decide) ?_
          refine lv_iadd hx hb dX6_passesToClose_34 ?_
          refine ktopi (y := nI (zcnt (clP (zO σ) 48) j + 1)) (nI_add (zcnt (clP (zO σ) 48) j) 1) ?_
          refine ktopi (y := nI (zcnt (clP (zO σ) 48) (j + 1))) (by rw [zcnt_t hz]) ?_
          refine lv_istore_n (lv' := [(3, .int (nI (zcnt (clP (zO σ) 48) (j + 1)))), (4, .int (nI (j + 1))), (1, .long (zB (clP (zO σ) 48))), (0, .ref (μ 0))]) hx hb dX6_passesToClose_35 rfl hl (by decide) rfl (fun ls hl => ?_)
          refine lv_iinc (v := nI (j + 1 + 1)) (lv' := [(4, .int (nI (j + 1 + 1))), (3, .int (nI (zcnt (clP (zO σ) 48) (j + 1)))), (1, .long (zB (clP (zO σ) 48))), (0, .ref (μ 0))]) hx hb dX6_passesToClose_36 hl (k := 1) rfl (nI_add (j + 1) 1) (by decide) rfl (fun ls hl => ?_)
          refine lv_goto (tgt := 10) hx hb dX6_passesToClose_39 (by decide) ?_
          exact ih_3 (j + 1) (by omega) _ _ _ (by omega) (kW.perm w [0, 1] rfl rfl) (lv_sub hl [0, 1, 2, 3] rfl)
  exact LP_3 _ 0 (by omega) _ _ _ (Nat.lt_succ_self _) (kW.perm w [0, 1] rfl rfl) (lv_sub hl [0, 1, 2, 3] rfl)
abbrev rmX6_wouldBeOpen_A : Room := { frames := 2, cells := 0, slots := 0, locals := 42 }
set_option maxHeartbeats 4000000 in
set_option maxRecDepth 100000 in
theorem kX6_wouldBeOpen_A (l : Launch) (g : GG) (μ : Nat → Nat) (iK : Bool) (kn : Nat) (ln : Nat) (th : Nat) (sp : Nat) (bg : Nat) (fm : Bool) (le : Int32) (fi : Nat) (se : Nat) (re : Nat) (ca : Nat) (n : Int32) (t : Int32) (sz : Nat) (hn : ¬ (1 ≤ n.toInt ∧ n.toInt ≤ t.toInt ∧ t.toInt ≤ 48)) : Met l yX6_wouldBeOpen wsX6_wouldBeOpen rmX6_wouldBeOpen_A (va_Pc [.ref (μ 0), .int n, .int t] (kPre g [cM μ iK kn ln th sp bg fm le fi se re ca] sz)) (va_Qi (fun (r : Int32) (u : Unit) => r = nI 0) (kB g (va_A [cM μ iK kn ln th sp bg fm le fi se re ca] sz) (fun u => [cM μ iK kn ln 1 sp bg fm le fi se re ca])) (va_A [cM μ iK kn ln th sp bg fm le fi se re ca] sz)) 0 0 (va_A [cM μ iK kn ln th sp bg fm le fi se re ca] sz) := by
  refine kMet (cc := cX6_wouldBeOpen) (maxL := 4) (ret := (some .int)) (own := RX6) (by decide) rfl rfl (Nat.le_of_ble_eq_true rfl) ?_
  intro p e s m args below meth c ls Q H locs A F w hl hnm hA hQ
  have hx := F.1.1
  have hb := F.1.2.1
  have hts := F.1.2.2.2.2
  have hl : lv_has ls 4 [(0, .ref (μ 0)), (1, .int n), (2, .int t)] := hl
  refine lv_aload_n hx hb dX6_wouldBeOpen_0 rfl (lv_at hl 0 rfl) ?_
  refine lv_iload_n hx hb dX6_wouldBeOpen_1 rfl (lv_at hl 1 rfl) ?_
  refine kcalli (wc := []) (wr := [cM μ iK kn ln th sp bg fm le fi se re ca]) (wn := fun (u : Unit) => [cM μ iK kn ln th sp bg fm le fi se re ca]) F w [] [0] [0] rfl rfl rfl (fun _ => rfl)
    (fun hp => va_runS (As := [.int n]) (rest := [.ref (μ 0)]) F.1 (kX6_isDoor l g n H.size ) (va_cwS 1 hts gX6_wouldBeOpen_X6_isDoor rfl rfl rfl hd_X6_isDoor ⟨Nat.le_of_ble_eq_true rfl, Nat.le_of_ble_eq_true rfl⟩) hp rfl rfl hl.1 rfl (lv_room (Nat.le_of_ble_eq_true rfl)) dX6_wouldBeOpen_2 ⟨Nat.le_of_ble_eq_true rfl, Nat.le_of_ble_eq_true rfl⟩)
    (fun r_1 _ H locs h_2 w => ?_)
  subst h_2
  refine lv_if_eq (tgt := 22) hx hb dX6_wouldBeOpen_5 (by decide) (fun h_3 => ?_) (fun h_3 => ?_)
  · have h_3 : (decide (1 ≤ n.toInt ∧ n.toInt ≤ 48)) = false := bI_z.mp h_3
    refine lv_iconst (v := nI 0) hx hb dX6_wouldBeOpen_22 (by decide) ?_
    refine ktopi (y := bI false) (by decide) ?_
    refine kcalli (wc := [cM μ iK kn ln th sp bg fm le fi se re ca]) (wr := []) (wn := fun (u : Unit) => [cM μ iK kn ln 1 sp bg fm le fi se re ca]) F w [0] [] [0] rfl rfl rfl (fun _ => rfl)
      (fun hp => va_runV (As := [.int (bI false)]) (rest := []) F.1 (kX6_asks_f l g μ iK kn ln th sp bg fm le fi se re ca H.size ) (cwV 1 hts gX6_wouldBeOpen_X6_asks rfl rfl rfl ⟨rfl, hd_X6_asks⟩ ⟨Nat.le_of_ble_eq_true rfl, Nat.le_of_ble_eq_true rfl⟩) ⟨hp.1, va_recv F.2.2.2.1.1 w.1 (q0 := 0) (ci := 6) rfl rfl, hp.2⟩ rfl rfl hl.1 rfl (lv_room (Nat.le_of_ble_eq_true rfl)) dX6_wouldBeOpen_23 ⟨Nat.le_of_ble_eq_true rfl, Nat.le_of_ble_eq_true rfl⟩)
      (fun r_4 _ H locs h_5 w => ?_)
    subst h_5
    refine lv_if_ne (tgt := 31) hx hb dX6_wouldBeOpen_26 (by decide) (fun h_6 => ?_) (fun h_6 => ?_)
    · have h_6 : false = true := bI_o.mp h_6
      exact absurd h_6 (by simp)
    · have h_6 : false = false := bI_z.mp h_6
      refine lv_iconst (v := nI 0) hx hb dX6_wouldBeOpen_29 (by decide) ?_
      subst hA
      subst hQ
      exact kreti F w () [0] rfl rfl (rfl) (Nat.le_of_ble_eq_true rfl) (Nat.le_of_ble_eq_true rfl) dX6_wouldBeOpen_30
  · have h_3 : (decide (1 ≤ n.toInt ∧ n.toInt ≤ 48)) = true := bI_o.mp h_3
    refine lv_iload_n hx hb dX6_wouldBeOpen_8 rfl (lv_at hl 2 rfl) ?_
    refine lv_iload_n hx hb dX6_wouldBeOpen_9 rfl (lv_at hl 1 rfl) ?_
    refine lv_bipush (v := nI 48) hx hb dX6_wouldBeOpen_10 (by decide) ?_
    refine kcalli (wc := []) (wr := [cM μ iK kn ln th sp bg fm le fi se re ca]) (wn := fun (u : Unit) => [cM μ iK kn ln th sp bg fm le fi se re ca]) F w [] [0] [0] rfl rfl rfl (fun _ => rfl)
      (fun hp => va_runS (As := [.int t, .int n, .int (nI 48)]) (rest := [.ref (μ 0)]) F.1 (kX6_in l g t n (nI 48) H.size ) (va_cwS 3 hts gX6_wouldBeOpen_X6_in rfl rfl rfl hd_X6_in ⟨Nat.le_of_ble_eq_true rfl, Nat.le_of_ble_eq_true rfl⟩) hp rfl rfl hl.1 rfl (lv_room (Nat.le_of_ble_eq_true rfl)) dX6_wouldBeOpen_12 ⟨Nat.le_of_ble_eq_true rfl, Nat.le_of_ble_eq_true rfl⟩)
      (fun r_7 _ H locs h_8 w => ?_)
    subst h_8
    refine ktopi (y := bI false) (congrArg bI (in_f hn h_3)) ?_
    refine lv_if_eq (tgt := 22) hx hb dX6_wouldBeOpen_15 (by decide) (fun h_9 => ?_) (fun h_9 => ?_)
    · have h_9 : false = false := bI_z.mp h_9
      refine lv_iconst (v := nI 0) hx hb dX6_wouldBeOpen_22 (by decide) ?_
      refine ktopi (y := bI false) (by decide) ?_
      refine kcalli (wc := [cM μ iK kn ln th sp bg fm le fi se re ca]) (wr := []) (wn := fun (u : Unit) => [cM μ iK kn ln 1 sp bg fm le fi se re ca]) F w [0] [] [0] rfl rfl rfl (fun _ => rfl)
        (fun hp => va_runV (As := [.int (bI false)]) (rest := []) F.1 (kX6_asks_f l g μ iK kn ln th sp bg fm le fi se re ca H.size ) (cwV 1 hts gX6_wouldBeOpen_X6_asks rfl rfl rfl ⟨rfl, hd_X6_asks⟩ ⟨Nat.le_of_ble_eq_true rfl, Nat.le_of_ble_eq_true rfl⟩) ⟨hp.1, va_recv F.2.2.2.1.1 w.1 (q0 := 0) (ci := 6) rfl rfl, hp.2⟩ rfl rfl hl.1 rfl (lv_room (Nat.le_of_ble_eq_true rfl)) dX6_wouldBeOpen_23 ⟨Nat.le_of_ble_eq_true rfl, Nat.le_of_ble_eq_true rfl⟩)
        (fun r_10 _ H locs h_11 w => ?_)
      subst h_11
      refine lv_if_ne (tgt := 31) hx hb dX6_wouldBeOpen_26 (by decide) (fun h_12 => ?_) (fun h_12 => ?_)
      · have h_12 : false = true := bI_o.mp h_12
        exact absurd h_12 (by simp)
      · have h_12 : false = false := bI_z.mp h_12
        refine lv_iconst (v := nI 0) hx hb dX6_wouldBeOpen_29 (by decide) ?_
        subst hA
        subst hQ
        exact kreti F w () [0] rfl rfl (rfl) (Nat.le_of_ble_eq_true rfl) (Nat.le_of_ble_eq_true rfl) dX6_wouldBeOpen_30
    · have h_9 : false = true := bI_o.mp h_9
      exact absurd h_9 (by simp)
theorem in_X6_wouldBeOpen_X6 : ∀ w ∈ wsX60, w ∈ wsX6_wouldBeOpen := by decide +kernel
abbrev rmX6_wouldBeOpen_k : Room := { frames := 4, cells := 0, slots := 0, locals := 90 }
set_option maxHeartbeats 4000000 in
set_option maxRecDepth 100000 in
theorem kX6_wouldBeOpen_k (l : Launch) (g : GG) (μ : Nat → Nat) (iK : Bool) (kn : Nat) (ln : Nat) (th : Nat) (sp : Nat) (bg : Nat) (fm : Bool) (le : Int32) (fi : Nat) (se : Nat) (re : Nat) (ca : Nat) (σ : Sg) (D : Nat → Int32) (n : Nat) (t : Nat) (sz : Nat) (hn : 1 ≤ n ∧ n ≤ t ∧ t ≤ 48) : Met l yX6_wouldBeOpen wsX6_wouldBeOpen rmX6_wouldBeOpen_k (va_Pc [.ref (μ 0), .int (nI n), .int (nI t)] (kPre g [cM μ iK kn ln th sp bg fm le fi se re ca, xI g (μ 1) 288 (enc σ), xI g (μ 3) 288 D] sz)) (va_Qi (fun (r : Int32) (u : Unit) => r = nI (zcnt (zO (rowN n (t + 1 - n) σ)) 48)) (kB g (va_A [cM μ iK kn ln th sp bg fm le fi se re ca, xI g (μ 1) 288 (enc σ), xI g (μ 3) 288 D] sz) (fun u => [cM μ iK kn ln 0 sp bg fm le fi se re ca, xI g (μ 1) 288 (enc σ), xI g (μ 3) 288 (enc σ)])) (va_A [cM μ iK kn ln th sp bg fm le fi se re ca, xI g (μ 1) 288 (enc σ), xI g (μ 3) 288 D] sz)) 0 0 (va_A [cM μ iK kn ln th sp bg fm le fi se re ca, xI g (μ 1) 288 (enc σ), xI g (μ 3) 288 D] sz) := by
  refine kMet (cc := cX6_wouldBeOpen) (maxL := 4) (ret := (some .int)) (own := RX6) (by decide) rfl rfl (Nat.le_of_ble_eq_true rfl) ?_
  intro p e s m args below meth c ls Q H locs A F w hl hnm hA hQ
  have hx := F.1.1
  have hb := F.1.2.1
  have hts := F.1.2.2.2.2
  have hl : lv_has ls 4 [(0, .ref (μ 0)), (1, .int (nI n)), (2, .int (nI t))] := hl
  refine lv_aload_n hx hb dX6_wouldBeOpen_0 rfl (lv_at hl 0 rfl) ?_
  refine lv_iload_n hx hb dX6_wouldBeOpen_1 rfl (lv_at hl 1 rfl) ?_
  refine kcalli (wc := []) (wr := [cM μ iK kn ln th sp bg fm le fi se re ca, xI g (μ 1) 288 (enc σ), xI g (μ 3) 288 D]) (wn := fun (u : Unit) => [cM μ iK kn ln th sp bg fm le fi se re ca, xI g (μ 1) 288 (enc σ), xI g (μ 3) 288 D]) F w [] [0, 1, 2] [0, 1, 2] rfl rfl rfl (fun _ => rfl)
    (fun hp => va_runS (As := [.int (nI n)]) (rest := [.ref (μ 0)]) F.1 (kX6_isDoor l g (nI n) H.size ) (va_cwS 1 hts gX6_wouldBeOpen_X6_isDoor rfl rfl rfl hd_X6_isDoor ⟨Nat.le_of_ble_eq_true rfl, Nat.le_of_ble_eq_true rfl⟩) hp rfl rfl hl.1 rfl (lv_room (Nat.le_of_ble_eq_true rfl)) dX6_wouldBeOpen_2 ⟨Nat.le_of_ble_eq_true rfl, Nat.le_of_ble_eq_true rfl⟩)
    (fun r_1 _ H locs h_2 w => ?_)
  subst h_2
  refine ktopi (y := bI true) (congrArg bI (door_t ⟨hn.1, by omega⟩)) ?_
  refine lv_if_eq (tgt := 22) hx hb dX6_wouldBeOpen_5 (by decide) (fun h_3 => ?_) (fun h_3 => ?_)
  · have h_3 : true = false := bI_z.mp h_3
    exact absurd h_3 (by simp)
  · have h_3 : true = true := bI_o.mp h_3
    refine lv_iload_n hx hb dX6_wouldBeOpen_8 rfl (lv_at hl 2 rfl) ?_
    refine lv_iload_n hx hb dX6_wouldBeOpen_9 rfl (lv_at hl 1 rfl) ?_
    refine lv_bipush (v := nI 48) hx hb dX6_wouldBeOpen_10 (by decide) ?_
    refine kcalli (wc := []) (wr := [cM μ iK kn ln th sp bg fm le fi se re ca, xI g (μ 1) 288 (enc σ), xI g (μ 3) 288 D]) (wn := fun (u : Unit) => [cM μ iK kn ln th sp bg fm le fi se re ca, xI g (μ 1) 288 (enc σ), xI g (μ 3) 288 D]) F w [] [0, 1, 2] [0, 1, 2] rfl rfl rfl (fun _ => rfl)
      (fun hp => va_runS (As := [.int (nI t), .int (nI n), .int (nI 48)]) (rest := [.ref (μ 0)]) F.1 (kX6_in l g (nI t) (nI n) (nI 48) H.size ) (va_cwS 3 hts gX6_wouldBeOpen_X6_in rfl rfl rfl hd_X6_in ⟨Nat.le_of_ble_eq_true rfl, Nat.le_of_ble_eq_true rfl⟩) hp rfl rfl hl.1 rfl (lv_room (Nat.le_of_ble_eq_true rfl)) dX6_wouldBeOpen_12 ⟨Nat.le_of_ble_eq_true rfl, Nat.le_of_ble_eq_true rfl⟩)
      (fun r_4 _ H locs h_5 w => ?_)
    subst h_5
    refine ktopi (y := bI true) (congrArg bI (in_t hn.2.1 hn.2.2 (by omega))) ?_
    refine lv_if_eq (tgt := 22) hx hb dX6_wouldBeOpen_15 (by decide) (fun h_6 => ?_) (fun h_6 => ?_)
    · have h_6 : true = false := bI_z.mp h_6
      exact absurd h_6 (by simp)
    · have h_6 : true = true := bI_o.mp h_6
      refine lv_iconst (v := nI 1) hx hb dX6_wouldBeOpen_18 (by decide) ?_
      refine lv_goto (tgt := 23) hx hb dX6_wouldBeOpen_19 (by decide) ?_
      refine ktopi (y := bI true) (by decide) ?_
      refine kcalli (wc := [cM μ iK kn ln th sp bg fm le fi se re ca]) (wr := [xI g (μ 1) 288 (enc σ), xI g (μ 3) 288 D]) (wn := fun (u : Unit) => [cM μ iK kn ln 0 sp bg fm le fi se re ca, xI g (μ 1) 288 (enc σ), xI g (μ 3) 288 D]) F w [0] [1, 2] [2, 0, 1] rfl rfl rfl (fun _ => rfl)
        (fun hp => va_runV (As := [.int (bI true)]) (rest := []) F.1 (kX6_asks_t l g μ iK kn ln th sp bg fm le fi se re ca H.size ) (cwV 1 hts gX6_wouldBeOpen_X6_asks rfl rfl rfl ⟨rfl, hd_X6_asks⟩ ⟨Nat.le_of_ble_eq_true rfl, Nat.le_of_ble_eq_true rfl⟩) ⟨hp.1, va_recv F.2.2.2.1.1 w.1 (q0 := 0) (ci := 6) rfl rfl, hp.2⟩ rfl rfl hl.1 rfl (lv_room (Nat.le_of_ble_eq_true rfl)) dX6_wouldBeOpen_23 ⟨Nat.le_of_ble_eq_true rfl, Nat.le_of_ble_eq_true rfl⟩)
        (fun r_7 _ H locs h_8 w => ?_)
      subst h_8
      refine lv_if_ne (tgt := 31) hx hb dX6_wouldBeOpen_26 (by decide) (fun h_9 => ?_) (fun h_9 => ?_)
      · have h_9 : true = true := bI_o.mp h_9
        refine lv_aload_n hx hb dX6_wouldBeOpen_31 rfl (lv_at hl 0 rfl) ?_
        refine kget (fs := [.ref (μ 1), .ref (μ 2), .ref (μ 3), .ref (μ 4), .int (bI iK), .ref (μ 5), .int (nI kn), .ref (μ 6), .int (nI ln), .int (nI 0), .int (nI sp), .int (nI bg), .int (bI fm), .int le, .int (nI fi), .int (nI se), .int (nI re), .int (nI ca)]) F w in_X6_wouldBeOpen_X6 0 rfl rfl 0 (by decide) (by decide +kernel) rfl rfl dX6_wouldBeOpen_32 ?_
        refine lv_iconst (v := nI 0) hx hb dX6_wouldBeOpen_35 (by decide) ?_
        refine lv_aload_n hx hb dX6_wouldBeOpen_36 rfl (lv_at hl 0 rfl) ?_
        refine kget (fs := [.ref (μ 1), .ref (μ 2), .ref (μ 3), .ref (μ 4), .int (bI iK), .ref (μ 5), .int (nI kn), .ref (μ 6), .int (nI ln), .int (nI 0), .int (nI sp), .int (nI bg), .int (bI fm), .int le, .int (nI fi), .int (nI se), .int (nI re), .int (nI ca)]) F w in_X6_wouldBeOpen_X6 0 rfl rfl 2 (by decide) (by decide +kernel) rfl rfl dX6_wouldBeOpen_37 ?_
        refine lv_iconst (v := nI 0) hx hb dX6_wouldBeOpen_40 (by decide) ?_
        refine kcallv (wc := [xI g (μ 1) 288 (enc σ), xI g (μ 3) 288 D]) (wr := [cM μ iK kn ln 0 sp bg fm le fi se re ca]) (wn := fun (u : Unit) => [cM μ iK kn ln 0 sp bg fm le fi se re ca, xI g (μ 1) 288 (enc σ), xI g (μ 3) 288 (cpyU (enc σ) 0 D 0 288)]) F w [1, 2] [0] [0, 1, 2] rfl rfl rfl (fun _ => rfl)
          (fun hp => va_runS (As := [.ref (μ 1), .int (nI 0), .ref (μ 3), .int (nI 0)]) (rest := []) F.1 (kX6_copies l g (μ 1) 288 (enc σ) 0 (μ 3) 288 D 0 H.size (by omega) (by omega)) (va_cwS 4 hts gX6_wouldBeOpen_X6_copies rfl rfl rfl hd_X6_copies ⟨Nat.le_of_ble_eq_true rfl, Nat.le_of_ble_eq_true rfl⟩) hp rfl rfl hl.1 rfl (lv_room (Nat.le_of_ble_eq_true rfl)) dX6_wouldBeOpen_41 ⟨Nat.le_of_ble_eq_true rfl, Nat.le_of_ble_eq_true rfl⟩)
          (fun _ H locs h_11 w => ?_)
        have w : kW g A s [cM μ iK kn ln 0 sp bg fm le fi se re ca, xI g (μ 1) 288 (enc σ), xI g (μ 3) 288 (enc σ)] H locs := kW.arr w 2 rfl (fun j hj => by rw [cpyU_in (by omega) (by omega)]; congr 1; omega) rfl
        refine lv_aload_n hx hb dX6_wouldBeOpen_44 rfl (lv_at hl 0 rfl) ?_
        refine lv_iload_n hx hb dX6_wouldBeOpen_45 rfl (lv_at hl 1 rfl) ?_
        refine lv_iload_n hx hb dX6_wouldBeOpen_46 rfl (lv_at hl 2 rfl) ?_
        refine kcalli (wc := [cM μ iK kn ln 0 sp bg fm le fi se re ca, xI g (μ 1) 288 (enc σ)]) (wr := [xI g (μ 3) 288 (enc σ)]) (wn := fun (u : Unit) => [cM μ iK kn ln 0 sp bg fm le fi se re ca, xI g (μ 1) 288 (enc (rowN n (t + 1 - n) σ)), xI g (μ 3) 288 (enc σ)]) F w [0, 1] [2] [1, 2, 0] rfl rfl rfl (fun _ => rfl)
          (fun hp => va_runV (As := [.int (nI n), .int (nI t)]) (rest := []) F.1 (kX6_passesRow l g μ iK kn ln 0 sp bg fm le fi se re ca σ n t H.size (by omega)) (cwV 2 hts gX6_wouldBeOpen_X6_passesRow rfl rfl rfl ⟨rfl, hd_X6_passesRow⟩ ⟨Nat.le_of_ble_eq_true rfl, Nat.le_of_ble_eq_true rfl⟩) ⟨hp.1, va_recv F.2.2.2.1.1 w.1 (q0 := 0) (ci := 6) rfl rfl, hp.2⟩ rfl rfl hl.1 rfl (lv_room (Nat.le_of_ble_eq_true rfl)) dX6_wouldBeOpen_47 ⟨Nat.le_of_ble_eq_true rfl, Nat.le_of_ble_eq_true rfl⟩)
          (fun r_12 _ H locs h_13 w => ?_)
        subst h_13
        refine lv_pop hx hb dX6_wouldBeOpen_50 rfl ?_
        refine lv_aload_n hx hb dX6_wouldBeOpen_51 rfl (lv_at hl 0 rfl) ?_
        refine lv_iconst (v := nI 0) hx hb dX6_wouldBeOpen_52 (by decide) ?_
        refine kcalli (wc := [cM μ iK kn ln 0 sp bg fm le fi se re ca, xI g (μ 1) 288 (enc (rowN n (t + 1 - n) σ))]) (wr := [xI g (μ 3) 288 (enc σ)]) (wn := fun (u : Unit) => [cM μ iK kn ln 0 sp bg fm le fi se re ca, xI g (μ 1) 288 (enc (rowN n (t + 1 - n) σ)), xI g (μ 3) 288 (enc σ)]) F w [0, 1] [2] [1, 2, 0] rfl rfl rfl (fun _ => rfl)
          (fun hp => va_runV (As := [.int (nI 0)]) (rest := []) F.1 (kX6_sum l g μ iK kn ln 0 sp bg fm le fi se re ca (enc (rowN n (t + 1 - n) σ)) 0 H.size (by omega)) (cwV 1 hts gX6_wouldBeOpen_X6_sum rfl rfl rfl ⟨rfl, hd_X6_sum⟩ ⟨Nat.le_of_ble_eq_true rfl, Nat.le_of_ble_eq_true rfl⟩) ⟨hp.1, va_recv F.2.2.2.1.1 w.1 (q0 := 0) (ci := 6) rfl rfl, hp.2⟩ rfl rfl hl.1 rfl (lv_room (Nat.le_of_ble_eq_true rfl)) dX6_wouldBeOpen_53 ⟨Nat.le_of_ble_eq_true rfl, Nat.le_of_ble_eq_true rfl⟩)
          (fun r_14 _ H locs h_15 w => ?_)
        subst h_15
        refine ktopi (y := nI (zcnt (zO (rowN n (t + 1 - n) σ)) 48)) (sumZ_O _ 48 (Nat.le_refl _)) ?_
        refine lv_istore_n (lv' := [(3, .int (nI (zcnt (zO (rowN n (t + 1 - n) σ)) 48))), (0, .ref (μ 0)), (1, .int (nI n)), (2, .int (nI t))]) hx hb dX6_wouldBeOpen_56 rfl hl (by decide) rfl (fun ls hl => ?_)
        refine lv_aload_n hx hb dX6_wouldBeOpen_57 rfl (lv_at hl 1 rfl) ?_
        refine kget (fs := [.ref (μ 1), .ref (μ 2), .ref (μ 3), .ref (μ 4), .int (bI iK), .ref (μ 5), .int (nI kn), .ref (μ 6), .int (nI ln), .int (nI 0), .int (nI sp), .int (nI bg), .int (bI fm), .int le, .int (nI fi), .int (nI se), .int (nI re), .int (nI ca)]) F w in_X6_wouldBeOpen_X6 0 rfl rfl 2 (by decide) (by decide +kernel) rfl rfl dX6_wouldBeOpen_58 ?_
        refine lv_iconst (v := nI 0) hx hb dX6_wouldBeOpen_61 (by decide) ?_
        refine lv_aload_n hx hb dX6_wouldBeOpen_62 rfl (lv_at hl 1 rfl) ?_
        refine kget (fs := [.ref (μ 1), .ref (μ 2), .ref (μ 3), .ref (μ 4), .int (bI iK), .ref (μ 5), .int (nI kn), .ref (μ 6), .int (nI ln), .int (nI 0), .int (nI sp), .int (nI bg), .int (bI fm), .int le, .int (nI fi), .int (nI se), .int (nI re), .int (nI ca)]) F w in_X6_wouldBeOpen_X6 0 rfl rfl 0 (by decide) (by decide +kernel) rfl rfl dX6_wouldBeOpen_63 ?_
        refine lv_iconst (v := nI 0) hx hb dX6_wouldBeOpen_66 (by decide) ?_
        refine kcallv (wc := [xI g (μ 3) 288 (enc σ), xI g (μ 1) 288 (enc (rowN n (t + 1 - n) σ))]) (wr := [cM μ iK kn ln 0 sp bg fm le fi se re ca]) (wn := fun (u : Unit) => [cM μ iK kn ln 0 sp bg fm le fi se re ca, xI g (μ 1) 288 (cpyU (enc σ) 0 (enc (rowN n (t + 1 - n) σ)) 0 288), xI g (μ 3) 288 (enc σ)]) F w [2, 1] [0] [0, 2, 1] rfl rfl rfl (fun _ => rfl)
          (fun hp => va_runS (As := [.ref (μ 3), .int (nI 0), .ref (μ 1), .int (nI 0)]) (rest := []) F.1 (kX6_copies l g (μ 3) 288 (enc σ) 0 (μ 1) 288 (enc (rowN n (t + 1 - n) σ)) 0 H.size (by omega) (by omega)) (va_cwS 4 hts gX6_wouldBeOpen_X6_copies rfl rfl rfl hd_X6_copies ⟨Nat.le_of_ble_eq_true rfl, Nat.le_of_ble_eq_true rfl⟩) hp rfl rfl hl.1 rfl (lv_room (Nat.le_of_ble_eq_true rfl)) dX6_wouldBeOpen_67 ⟨Nat.le_of_ble_eq_true rfl, Nat.le_of_ble_eq_true rfl⟩)
          (fun _ H locs h_17 w => ?_)
        have w : kW g A s [cM μ iK kn ln 0 sp bg fm le fi se re ca, xI g (μ 1) 288 (enc σ), xI g (μ 3) 288 (enc σ)] H locs := kW.arr w 1 rfl (fun j hj => by rw [cpyU_in (by omega) (by omega)]; congr 1; omega) rfl
        refine lv_iload_n hx hb dX6_wouldBeOpen_70 rfl (lv_at hl 0 rfl) ?_
        subst hA
        subst hQ
        exact kreti F w () [0, 1, 2] rfl rfl (rfl) (Nat.le_of_ble_eq_true rfl) (Nat.le_of_ble_eq_true rfl) dX6_wouldBeOpen_71
      · have h_9 : true = false := bI_z.mp h_9
        exact absurd h_9 (by simp)
abbrev rmX6_whyNot_A : Room := { frames := 2, cells := 0, slots := 0, locals := 42 }
set_option maxHeartbeats 4000000 in
set_option maxRecDepth 100000 in
theorem kX6_whyNot_A (l : Launch) (g : GG) (μ : Nat → Nat) (iK : Bool) (kn : Nat) (ln : Nat) (th : Nat) (sp : Nat) (bg : Nat) (fm : Bool) (le : Int32) (fi : Nat) (se : Nat) (re : Nat) (ca : Nat) (n : Int32) (k : Int32) (sz : Nat) (hn : ¬ ((1 ≤ n.toInt ∧ n.toInt ≤ 48) ∧ (k = 0 ∨ k = 1))) : Met l yX6_whyNot wsX6_whyNot rmX6_whyNot_A (va_Pc [.ref (μ 0), .int n, .int k] (kPre g [cM μ iK kn ln th sp bg fm le fi se re ca] sz)) (va_Qi (fun (r : Int32) (u : Unit) => r = nI 0) (kB g (va_A [cM μ iK kn ln th sp bg fm le fi se re ca] sz) (fun u => [cM μ iK kn ln 1 sp bg fm le fi se re ca])) (va_A [cM μ iK kn ln th sp bg fm le fi se re ca] sz)) 0 0 (va_A [cM μ iK kn ln th sp bg fm le fi se re ca] sz) := by
  refine kMet (cc := cX6_whyNot) (maxL := 3) (ret := (some .int)) (own := RX6) (by decide) rfl rfl (Nat.le_of_ble_eq_true rfl) ?_
  intro p e s m args below meth c ls Q H locs A F w hl hnm hA hQ
  have hx := F.1.1
  have hb := F.1.2.1
  have hts := F.1.2.2.2.2
  have hl : lv_has ls 3 [(0, .ref (μ 0)), (1, .int n), (2, .int k)] := hl
  refine lv_aload_n hx hb dX6_whyNot_0 rfl (lv_at hl 0 rfl) ?_
  refine lv_iload_n hx hb dX6_whyNot_1 rfl (lv_at hl 1 rfl) ?_
  refine kcalli (wc := []) (wr := [cM μ iK kn ln th sp bg fm le fi se re ca]) (wn := fun (u : Unit) => [cM μ iK kn ln th sp bg fm le fi se re ca]) F w [] [0] [0] rfl rfl rfl (fun _ => rfl)
    (fun hp => va_runS (As := [.int n]) (rest := [.ref (μ 0)]) F.1 (kX6_isDoor l g n H.size ) (va_cwS 1 hts gX6_whyNot_X6_isDoor rfl rfl rfl hd_X6_isDoor ⟨Nat.le_of_ble_eq_true rfl, Nat.le_of_ble_eq_true rfl⟩) hp rfl rfl hl.1 rfl (lv_room (Nat.le_of_ble_eq_true rfl)) dX6_whyNot_2 ⟨Nat.le_of_ble_eq_true rfl, Nat.le_of_ble_eq_true rfl⟩)
    (fun r_1 _ H locs h_2 w => ?_)
  subst h_2
  refine lv_if_eq (tgt := 19) hx hb dX6_whyNot_5 (by decide) (fun h_3 => ?_) (fun h_3 => ?_)
  · have h_3 : (decide (1 ≤ n.toInt ∧ n.toInt ≤ 48)) = false := bI_z.mp h_3
    refine lv_iconst (v := nI 0) hx hb dX6_whyNot_19 (by decide) ?_
    refine ktopi (y := bI false) (by decide) ?_
    refine kcalli (wc := [cM μ iK kn ln th sp bg fm le fi se re ca]) (wr := []) (wn := fun (u : Unit) => [cM μ iK kn ln 1 sp bg fm le fi se re ca]) F w [0] [] [0] rfl rfl rfl (fun _ => rfl)
      (fun hp => va_runV (As := [.int (bI false)]) (rest := []) F.1 (kX6_asks_f l g μ iK kn ln th sp bg fm le fi se re ca H.size ) (cwV 1 hts gX6_whyNot_X6_asks rfl rfl rfl ⟨rfl, hd_X6_asks⟩ ⟨Nat.le_of_ble_eq_true rfl, Nat.le_of_ble_eq_true rfl⟩) ⟨hp.1, va_recv F.2.2.2.1.1 w.1 (q0 := 0) (ci := 6) rfl rfl, hp.2⟩ rfl rfl hl.1 rfl (lv_room (Nat.le_of_ble_eq_true rfl)) dX6_whyNot_20 ⟨Nat.le_of_ble_eq_true rfl, Nat.le_of_ble_eq_true rfl⟩)
      (fun r_4 _ H locs h_5 w => ?_)
    subst h_5
    refine lv_if_eq (tgt := 35) hx hb dX6_whyNot_23 (by decide) (fun h_6 => ?_) (fun h_6 => ?_)
    · have h_6 : false = false := bI_z.mp h_6
      refine lv_iconst (v := nI 0) hx hb dX6_whyNot_35 (by decide) ?_
      subst hA
      subst hQ
      exact kreti F w () [0] rfl rfl (rfl) (Nat.le_of_ble_eq_true rfl) (Nat.le_of_ble_eq_true rfl) dX6_whyNot_36
    · have h_6 : false = true := bI_o.mp h_6
      exact absurd h_6 (by simp)
  · have h_3 : (decide (1 ≤ n.toInt ∧ n.toInt ≤ 48)) = true := bI_o.mp h_3
    refine lv_iload_n hx hb dX6_whyNot_8 rfl (lv_at hl 2 rfl) ?_
    refine kcalli (wc := []) (wr := [cM μ iK kn ln th sp bg fm le fi se re ca]) (wn := fun (u : Unit) => [cM μ iK kn ln th sp bg fm le fi se re ca]) F w [] [0] [0] rfl rfl rfl (fun _ => rfl)
      (fun hp => va_runS (As := [.int k]) (rest := [.ref (μ 0)]) F.1 (kX6_isKind l g k H.size ) (va_cwS 1 hts gX6_whyNot_X6_isKind rfl rfl rfl hd_X6_isKind ⟨Nat.le_of_ble_eq_true rfl, Nat.le_of_ble_eq_true rfl⟩) hp rfl rfl hl.1 rfl (lv_room (Nat.le_of_ble_eq_true rfl)) dX6_whyNot_9 ⟨Nat.le_of_ble_eq_true rfl, Nat.le_of_ble_eq_true rfl⟩)
      (fun r_7 _ H locs h_8 w => ?_)
    subst h_8
    refine ktopi (y := bI false) (congrArg bI (kind_o hn h_3)) ?_
    refine lv_if_eq (tgt := 19) hx hb dX6_whyNot_12 (by decide) (fun h_9 => ?_) (fun h_9 => ?_)
    · have h_9 : false = false := bI_z.mp h_9
      refine lv_iconst (v := nI 0) hx hb dX6_whyNot_19 (by decide) ?_
      refine ktopi (y := bI false) (by decide) ?_
      refine kcalli (wc := [cM μ iK kn ln th sp bg fm le fi se re ca]) (wr := []) (wn := fun (u : Unit) => [cM μ iK kn ln 1 sp bg fm le fi se re ca]) F w [0] [] [0] rfl rfl rfl (fun _ => rfl)
        (fun hp => va_runV (As := [.int (bI false)]) (rest := []) F.1 (kX6_asks_f l g μ iK kn ln th sp bg fm le fi se re ca H.size ) (cwV 1 hts gX6_whyNot_X6_asks rfl rfl rfl ⟨rfl, hd_X6_asks⟩ ⟨Nat.le_of_ble_eq_true rfl, Nat.le_of_ble_eq_true rfl⟩) ⟨hp.1, va_recv F.2.2.2.1.1 w.1 (q0 := 0) (ci := 6) rfl rfl, hp.2⟩ rfl rfl hl.1 rfl (lv_room (Nat.le_of_ble_eq_true rfl)) dX6_whyNot_20 ⟨Nat.le_of_ble_eq_true rfl, Nat.le_of_ble_eq_true rfl⟩)
        (fun r_10 _ H locs h_11 w => ?_)
      subst h_11
      refine lv_if_eq (tgt := 35) hx hb dX6_whyNot_23 (by decide) (fun h_12 => ?_) (fun h_12 => ?_)
      · have h_12 : false = false := bI_z.mp h_12
        refine lv_iconst (v := nI 0) hx hb dX6_whyNot_35 (by decide) ?_
        subst hA
        subst hQ
        exact kreti F w () [0] rfl rfl (rfl) (Nat.le_of_ble_eq_true rfl) (Nat.le_of_ble_eq_true rfl) dX6_whyNot_36
      · have h_12 : false = true := bI_o.mp h_12
        exact absurd h_12 (by simp)
    · have h_9 : false = true := bI_o.mp h_9
      exact absurd h_9 (by simp)
abbrev rmX6_whyNot_k : Room := { frames := 2, cells := 0, slots := 0, locals := 45 }
set_option maxHeartbeats 4000000 in
set_option maxRecDepth 100000 in
theorem kX6_whyNot_k (l : Launch) (g : GG) (μ : Nat → Nat) (iK : Bool) (kn : Nat) (ln : Nat) (th : Nat) (sp : Nat) (bg : Nat) (fm : Bool) (le : Int32) (fi : Nat) (se : Nat) (re : Nat) (ca : Nat) (σ : Sg) (d : Nat) (kd : Bool) (sz : Nat) (hd : 1 ≤ d ∧ d ≤ 48) : Met l yX6_whyNot wsX6_whyNot rmX6_whyNot_k (va_Pc [.ref (μ 0), .int (nI d), .int (bI kd)] (kPre g [cM μ iK kn ln th sp bg fm le fi se re ca, xI g (μ 1) 288 (enc σ)] sz)) (va_Qi (fun (r : Int32) (u : Unit) => r = nI (reasZ σ d kd)) (kB g (va_A [cM μ iK kn ln th sp bg fm le fi se re ca, xI g (μ 1) 288 (enc σ)] sz) (fun u => [cM μ iK kn ln 0 sp bg fm le fi se re ca, xI g (μ 1) 288 (enc σ)])) (va_A [cM μ iK kn ln th sp bg fm le fi se re ca, xI g (μ 1) 288 (enc σ)] sz)) 0 0 (va_A [cM μ iK kn ln th sp bg fm le fi se re ca, xI g (μ 1) 288 (enc σ)] sz) := by
  refine kMet (cc := cX6_whyNot) (maxL := 3) (ret := (some .int)) (own := RX6) (by decide) rfl rfl (Nat.le_of_ble_eq_true rfl) ?_
  intro p e s m args below meth c ls Q H locs A F w hl hnm hA hQ
  have hx := F.1.1
  have hb := F.1.2.1
  have hts := F.1.2.2.2.2
  have hl : lv_has ls 3 [(0, .ref (μ 0)), (1, .int (nI d)), (2, .int (bI kd))] := hl
  refine lv_aload_n hx hb dX6_whyNot_0 rfl (lv_at hl 0 rfl) ?_
  refine lv_iload_n hx hb dX6_whyNot_1 rfl (lv_at hl 1 rfl) ?_
  refine kcalli (wc := []) (wr := [cM μ iK kn ln th sp bg fm le fi se re ca, xI g (μ 1) 288 (enc σ)]) (wn := fun (u : Unit) => [cM μ iK kn ln th sp bg fm le fi se re ca, xI g (μ 1) 288 (enc σ)]) F w [] [0, 1] [0, 1] rfl rfl rfl (fun _ => rfl)
    (fun hp => va_runS (As := [.int (nI d)]) (rest := [.ref (μ 0)]) F.1 (kX6_isDoor l g (nI d) H.size ) (va_cwS 1 hts gX6_whyNot_X6_isDoor rfl rfl rfl hd_X6_isDoor ⟨Nat.le_of_ble_eq_true rfl, Nat.le_of_ble_eq_true rfl⟩) hp rfl rfl hl.1 rfl (lv_room (Nat.le_of_ble_eq_true rfl)) dX6_whyNot_2 ⟨Nat.le_of_ble_eq_true rfl, Nat.le_of_ble_eq_true rfl⟩)
    (fun r_1 _ H locs h_2 w => ?_)
  subst h_2
  refine ktopi (y := bI true) (congrArg bI (door_t hd)) ?_
  refine lv_if_eq (tgt := 19) hx hb dX6_whyNot_5 (by decide) (fun h_3 => ?_) (fun h_3 => ?_)
  · have h_3 : true = false := bI_z.mp h_3
    exact absurd h_3 (by simp)
  · have h_3 : true = true := bI_o.mp h_3
    refine lv_iload_n hx hb dX6_whyNot_8 rfl (lv_at hl 2 rfl) ?_
    refine kcalli (wc := []) (wr := [cM μ iK kn ln th sp bg fm le fi se re ca, xI g (μ 1) 288 (enc σ)]) (wn := fun (u : Unit) => [cM μ iK kn ln th sp bg fm le fi se re ca, xI g (μ 1) 288 (enc σ)]) F w [] [0, 1] [0, 1] rfl rfl rfl (fun _ => rfl)
      (fun hp => va_runS (As := [.int (bI kd)]) (rest := [.ref (μ 0)]) F.1 (kX6_isKind l g (bI kd) H.size ) (va_cwS 1 hts gX6_whyNot_X6_isKind rfl rfl rfl hd_X6_isKind ⟨Nat.le_of_ble_eq_true rfl, Nat.le_of_ble_eq_true rfl⟩) hp rfl rfl hl.1 rfl (lv_room (Nat.le_of_ble_eq_true rfl)) dX6_whyNot_9 ⟨Nat.le_of_ble_eq_true rfl, Nat.le_of_ble_eq_true rfl⟩)
      (fun r_4 _ H locs h_5 w => ?_)
    subst h_5
    refine ktopi (y := bI true) (congrArg bI (kind_b kd)) ?_
    refine lv_if_eq (tgt := 19) hx hb dX6_whyNot_12 (by decide) (fun h_6 => ?_) (fun h_6 => ?_)
    · have h_6 : true = false := bI_z.mp h_6
      exact absurd h_6 (by simp)
    · have h_6 : true = true := bI_o.mp h_6
      refine lv_iconst (v := nI 1) hx hb dX6_whyNot_15 (by decide) ?_
      refine lv_goto (tgt := 20) hx hb dX6_whyNot_16 (by decide) ?_
      refine ktopi (y := bI true) (by decide) ?_
      refine kcalli (wc := [cM μ iK kn ln th sp bg fm le fi se re ca]) (wr := [xI g (μ 1) 288 (enc σ)]) (wn := fun (u : Unit) => [cM μ iK kn ln 0 sp bg fm le fi se re ca, xI g (μ 1) 288 (enc σ)]) F w [0] [1] [1, 0] rfl rfl rfl (fun _ => rfl)
        (fun hp => va_runV (As := [.int (bI true)]) (rest := []) F.1 (kX6_asks_t l g μ iK kn ln th sp bg fm le fi se re ca H.size ) (cwV 1 hts gX6_whyNot_X6_asks rfl rfl rfl ⟨rfl, hd_X6_asks⟩ ⟨Nat.le_of_ble_eq_true rfl, Nat.le_of_ble_eq_true rfl⟩) ⟨hp.1, va_recv F.2.2.2.1.1 w.1 (q0 := 0) (ci := 6) rfl rfl, hp.2⟩ rfl rfl hl.1 rfl (lv_room (Nat.le_of_ble_eq_true rfl)) dX6_whyNot_20 ⟨Nat.le_of_ble_eq_true rfl, Nat.le_of_ble_eq_true rfl⟩)
        (fun r_7 _ H locs h_8 w => ?_)
      subst h_8
      refine lv_if_eq (tgt := 35) hx hb dX6_whyNot_23 (by decide) (fun h_9 => ?_) (fun h_9 => ?_)
      · have h_9 : true = false := bI_z.mp h_9
        exact absurd h_9 (by simp)
      · have h_9 : true = true := bI_o.mp h_9
        refine lv_aload_n hx hb dX6_whyNot_26 rfl (lv_at hl 0 rfl) ?_
        refine lv_iload_n hx hb dX6_whyNot_27 rfl (lv_at hl 1 rfl) ?_
        refine lv_iload_n hx hb dX6_whyNot_28 rfl (lv_at hl 2 rfl) ?_
        refine kcalli (wc := [cM μ iK kn ln 0 sp bg fm le fi se re ca, xI g (μ 1) 288 (enc σ)]) (wr := []) (wn := fun (u : Unit) => [cM μ iK kn ln 0 sp bg fm le fi se re ca, xI g (μ 1) 288 (enc σ)]) F w [0, 1] [] [0, 1] rfl rfl rfl (fun _ => rfl)
          (fun hp => va_runV (As := [.int (nI d), .int (bI kd)]) (rest := []) F.1 (kX6_reason l g μ iK kn ln 0 sp bg fm le fi se re ca σ d kd H.size (by omega)) (cwV 2 hts gX6_whyNot_X6_reason rfl rfl rfl ⟨rfl, hd_X6_reason⟩ ⟨Nat.le_of_ble_eq_true rfl, Nat.le_of_ble_eq_true rfl⟩) ⟨hp.1, va_recv F.2.2.2.1.1 w.1 (q0 := 0) (ci := 6) rfl rfl, hp.2⟩ rfl rfl hl.1 rfl (lv_room (Nat.le_of_ble_eq_true rfl)) dX6_whyNot_29 ⟨Nat.le_of_ble_eq_true rfl, Nat.le_of_ble_eq_true rfl⟩)
          (fun r_10 _ H locs h_11 w => ?_)
        subst h_11
        refine lv_goto (tgt := 36) hx hb dX6_whyNot_32 (by decide) ?_
        subst hA
        subst hQ
        exact kreti F w () [0, 1] rfl rfl (rfl) (Nat.le_of_ble_eq_true rfl) (Nat.le_of_ble_eq_true rfl) dX6_whyNot_36
abbrev rmX6_thingAt_k : Room := { frames := 2, cells := 0, slots := 0, locals := 42 }
set_option maxHeartbeats 4000000 in
set_option maxRecDepth 100000 in
theorem kX6_thingAt_k (l : Launch) (g : GG) (μ : Nat → Nat) (iK : Bool) (kn : Nat) (ln : Nat) (th : Nat) (sp : Nat) (bg : Nat) (fm : Bool) (le : Int32) (fi : Nat) (se : Nat) (re : Nat) (ca : Nat) (σ : Sg) (d : Nat) (sz : Nat) (hd : 1 ≤ d ∧ d ≤ 48) (hf9 : zF σ d = true) : Met l yX6_thingAt wsX6_thingAt rmX6_thingAt_k (va_Pc [.ref (μ 0), .int (nI d)] (kPre g [cM μ iK kn ln th sp bg fm le fi se re ca, xI g (μ 1) 288 (enc σ)] sz)) (va_Qi (fun (r : Int32) (u : Unit) => r = bI (zH σ d)) (kB g (va_A [cM μ iK kn ln th sp bg fm le fi se re ca, xI g (μ 1) 288 (enc σ)] sz) (fun u => [cM μ iK kn ln 0 sp bg fm le fi se re ca, xI g (μ 1) 288 (enc σ)])) (va_A [cM μ iK kn ln th sp bg fm le fi se re ca, xI g (μ 1) 288 (enc σ)] sz)) 0 0 (va_A [cM μ iK kn ln th sp bg fm le fi se re ca, xI g (μ 1) 288 (enc σ)] sz) := by
  refine kMet (cc := cX6_thingAt) (maxL := 2) (ret := (some .int)) (own := RX6) (by decide) rfl rfl (Nat.le_of_ble_eq_true rfl) ?_
  intro p e s m args below meth c ls Q H locs A F w hl hnm hA hQ
  have hx := F.1.1
  have hb := F.1.2.1
  have hts := F.1.2.2.2.2
  have hl : lv_has ls 2 [(0, .ref (μ 0)), (1, .int (nI d))] := hl
  refine lv_aload_n hx hb dX6_thingAt_0 rfl (lv_at hl 0 rfl) ?_
  refine lv_iload_n hx hb dX6_thingAt_1 rfl (lv_at hl 1 rfl) ?_
  refine kcalli (wc := []) (wr := [cM μ iK kn ln th sp bg fm le fi se re ca, xI g (μ 1) 288 (enc σ)]) (wn := fun (u : Unit) => [cM μ iK kn ln th sp bg fm le fi se re ca, xI g (μ 1) 288 (enc σ)]) F w [] [0, 1] [0, 1] rfl rfl rfl (fun _ => rfl)
    (fun hp => va_runS (As := [.int (nI d)]) (rest := [.ref (μ 0)]) F.1 (kX6_isDoor l g (nI d) H.size ) (va_cwS 1 hts gX6_thingAt_X6_isDoor rfl rfl rfl hd_X6_isDoor ⟨Nat.le_of_ble_eq_true rfl, Nat.le_of_ble_eq_true rfl⟩) hp rfl rfl hl.1 rfl (lv_room (Nat.le_of_ble_eq_true rfl)) dX6_thingAt_2 ⟨Nat.le_of_ble_eq_true rfl, Nat.le_of_ble_eq_true rfl⟩)
    (fun r_1 _ H locs h_2 w => ?_)
  subst h_2
  refine ktopi (y := bI true) (congrArg bI (door_t hd)) ?_
  refine kcalli (wc := [cM μ iK kn ln th sp bg fm le fi se re ca]) (wr := [xI g (μ 1) 288 (enc σ)]) (wn := fun (u : Unit) => [cM μ iK kn ln 0 sp bg fm le fi se re ca, xI g (μ 1) 288 (enc σ)]) F w [0] [1] [1, 0] rfl rfl rfl (fun _ => rfl)
    (fun hp => va_runV (As := [.int (bI true)]) (rest := []) F.1 (kX6_asks_t l g μ iK kn ln th sp bg fm le fi se re ca H.size ) (cwV 1 hts gX6_thingAt_X6_asks rfl rfl rfl ⟨rfl, hd_X6_asks⟩ ⟨Nat.le_of_ble_eq_true rfl, Nat.le_of_ble_eq_true rfl⟩) ⟨hp.1, va_recv F.2.2.2.1.1 w.1 (q0 := 0) (ci := 6) rfl rfl, hp.2⟩ rfl rfl hl.1 rfl (lv_room (Nat.le_of_ble_eq_true rfl)) dX6_thingAt_5 ⟨Nat.le_of_ble_eq_true rfl, Nat.le_of_ble_eq_true rfl⟩)
    (fun r_3 _ H locs h_4 w => ?_)
  subst h_4
  refine lv_if_ne (tgt := 13) hx hb dX6_thingAt_8 (by decide) (fun h_5 => ?_) (fun h_5 => ?_)
  · have h_5 : true = true := bI_o.mp h_5
    refine lv_aload_n hx hb dX6_thingAt_13 rfl (lv_at hl 0 rfl) ?_
    refine lv_iload_n hx hb dX6_thingAt_14 rfl (lv_at hl 1 rfl) ?_
    refine lv_sipush (v := nI 240) hx hb dX6_thingAt_15 (by decide) ?_
    refine kcalli (wc := [cM μ iK kn ln 0 sp bg fm le fi se re ca, xI g (μ 1) 288 (enc σ)]) (wr := []) (wn := fun (u : Unit) => [cM μ iK kn ln 0 sp bg fm le fi se re ca, xI g (μ 1) 288 (enc σ)]) F w [0, 1] [] [0, 1] rfl rfl rfl (fun _ => rfl)
      (fun hp => va_runV (As := [.int (nI d), .int (nI 240)]) (rest := []) F.1 (kX6_of l g μ iK kn ln 0 sp bg fm le fi se re ca (enc σ) d 240 H.size (by omega)) (cwV 2 hts gX6_thingAt_X6_of rfl rfl rfl ⟨rfl, hd_X6_of⟩ ⟨Nat.le_of_ble_eq_true rfl, Nat.le_of_ble_eq_true rfl⟩) ⟨hp.1, va_recv F.2.2.2.1.1 w.1 (q0 := 0) (ci := 6) rfl rfl, hp.2⟩ rfl rfl hl.1 rfl (lv_room (Nat.le_of_ble_eq_true rfl)) dX6_thingAt_18 ⟨Nat.le_of_ble_eq_true rfl, Nat.le_of_ble_eq_true rfl⟩)
      (fun r_6 _ H locs h_7 w => ?_)
    subst h_7
    refine ktopi (y := thZ σ d) (enc_H hd.1 hd.2) ?_
    refine lv_if_le (tgt := 37) hx hb dX6_thingAt_21 (by decide) (fun h_8 => ?_) (fun h_8 => ?_)
    · exact absurd (th_zero h_8) (by rw [hf9]; decide)
    · refine lv_aload_n hx hb dX6_thingAt_24 rfl (lv_at hl 0 rfl) ?_
      refine lv_iload_n hx hb dX6_thingAt_25 rfl (lv_at hl 1 rfl) ?_
      refine lv_sipush (v := nI 240) hx hb dX6_thingAt_26 (by decide) ?_
      refine kcalli (wc := [cM μ iK kn ln 0 sp bg fm le fi se re ca, xI g (μ 1) 288 (enc σ)]) (wr := []) (wn := fun (u : Unit) => [cM μ iK kn ln 0 sp bg fm le fi se re ca, xI g (μ 1) 288 (enc σ)]) F w [0, 1] [] [0, 1] rfl rfl rfl (fun _ => rfl)
        (fun hp => va_runV (As := [.int (nI d), .int (nI 240)]) (rest := []) F.1 (kX6_of l g μ iK kn ln 0 sp bg fm le fi se re ca (enc σ) d 240 H.size (by omega)) (cwV 2 hts gX6_thingAt_X6_of rfl rfl rfl ⟨rfl, hd_X6_of⟩ ⟨Nat.le_of_ble_eq_true rfl, Nat.le_of_ble_eq_true rfl⟩) ⟨hp.1, va_recv F.2.2.2.1.1 w.1 (q0 := 0) (ci := 6) rfl rfl, hp.2⟩ rfl rfl hl.1 rfl (lv_room (Nat.le_of_ble_eq_true rfl)) dX6_thingAt_29 ⟨Nat.le_of_ble_eq_true rfl, Nat.le_of_ble_eq_true rfl⟩)
        (fun r_9 _ H locs h_10 w => ?_)
      subst h_10
      refine lv_iconst (v := nI 1) hx hb dX6_thingAt_32 (by decide) ?_
      refine lv_isub hx hb dX6_thingAt_33 ?_
      refine ktopi (y := bI (zH σ d)) (by have := thM_p hf9; unfold thM at this; rw [enc_H hd.1 hd.2]; exact this) ?_
      refine lv_goto (tgt := 42) hx hb dX6_thingAt_34 (by decide) ?_
      subst hA
      subst hQ
      exact kreti F w () [0, 1] rfl rfl (rfl) (Nat.le_of_ble_eq_true rfl) (Nat.le_of_ble_eq_true rfl) dX6_thingAt_42
  · have h_5 : true = false := bI_z.mp h_5
    exact absurd h_5 (by simp)
abbrev rmX6_thingAt_N : Room := { frames := 2, cells := 0, slots := 0, locals := 42 }
set_option maxHeartbeats 4000000 in
set_option maxRecDepth 100000 in
theorem kX6_thingAt_N (l : Launch) (g : GG) (μ : Nat → Nat) (iK : Bool) (kn : Nat) (ln : Nat) (th : Nat) (sp : Nat) (bg : Nat) (fm : Bool) (le : Int32) (fi : Nat) (se : Nat) (re : Nat) (ca : Nat) (σ : Sg) (d : Nat) (sz : Nat) (hd : 1 ≤ d ∧ d ≤ 48) (hf9 : zF σ d = false) : Met l yX6_thingAt wsX6_thingAt rmX6_thingAt_N (va_Pc [.ref (μ 0), .int (nI d)] (kPre g [cM μ iK kn ln th sp bg fm le fi se re ca, xI g (μ 1) 288 (enc σ)] sz)) (va_Qi (fun (r : Int32) (u : Unit) => r = nI 0) (kB g (va_A [cM μ iK kn ln th sp bg fm le fi se re ca, xI g (μ 1) 288 (enc σ)] sz) (fun u => [cM μ iK kn ln 2 sp bg fm le fi se re ca, xI g (μ 1) 288 (enc σ)])) (va_A [cM μ iK kn ln th sp bg fm le fi se re ca, xI g (μ 1) 288 (enc σ)] sz)) 0 0 (va_A [cM μ iK kn ln th sp bg fm le fi se re ca, xI g (μ 1) 288 (enc σ)] sz) := by
  refine kMet (cc := cX6_thingAt) (maxL := 2) (ret := (some .int)) (own := RX6) (by decide) rfl rfl (Nat.le_of_ble_eq_true rfl) ?_
  intro p e s m args below meth c ls Q H locs A F w hl hnm hA hQ
  have hx := F.1.1
  have hb := F.1.2.1
  have hts := F.1.2.2.2.2
  have hl : lv_has ls 2 [(0, .ref (μ 0)), (1, .int (nI d))] := hl
  refine lv_aload_n hx hb dX6_thingAt_0 rfl (lv_at hl 0 rfl) ?_
  refine lv_iload_n hx hb dX6_thingAt_1 rfl (lv_at hl 1 rfl) ?_
  refine kcalli (wc := []) (wr := [cM μ iK kn ln th sp bg fm le fi se re ca, xI g (μ 1) 288 (enc σ)]) (wn := fun (u : Unit) => [cM μ iK kn ln th sp bg fm le fi se re ca, xI g (μ 1) 288 (enc σ)]) F w [] [0, 1] [0, 1] rfl rfl rfl (fun _ => rfl)
    (fun hp => va_runS (As := [.int (nI d)]) (rest := [.ref (μ 0)]) F.1 (kX6_isDoor l g (nI d) H.size ) (va_cwS 1 hts gX6_thingAt_X6_isDoor rfl rfl rfl hd_X6_isDoor ⟨Nat.le_of_ble_eq_true rfl, Nat.le_of_ble_eq_true rfl⟩) hp rfl rfl hl.1 rfl (lv_room (Nat.le_of_ble_eq_true rfl)) dX6_thingAt_2 ⟨Nat.le_of_ble_eq_true rfl, Nat.le_of_ble_eq_true rfl⟩)
    (fun r_1 _ H locs h_2 w => ?_)
  subst h_2
  refine ktopi (y := bI true) (congrArg bI (door_t hd)) ?_
  refine kcalli (wc := [cM μ iK kn ln th sp bg fm le fi se re ca]) (wr := [xI g (μ 1) 288 (enc σ)]) (wn := fun (u : Unit) => [cM μ iK kn ln 0 sp bg fm le fi se re ca, xI g (μ 1) 288 (enc σ)]) F w [0] [1] [1, 0] rfl rfl rfl (fun _ => rfl)
    (fun hp => va_runV (As := [.int (bI true)]) (rest := []) F.1 (kX6_asks_t l g μ iK kn ln th sp bg fm le fi se re ca H.size ) (cwV 1 hts gX6_thingAt_X6_asks rfl rfl rfl ⟨rfl, hd_X6_asks⟩ ⟨Nat.le_of_ble_eq_true rfl, Nat.le_of_ble_eq_true rfl⟩) ⟨hp.1, va_recv F.2.2.2.1.1 w.1 (q0 := 0) (ci := 6) rfl rfl, hp.2⟩ rfl rfl hl.1 rfl (lv_room (Nat.le_of_ble_eq_true rfl)) dX6_thingAt_5 ⟨Nat.le_of_ble_eq_true rfl, Nat.le_of_ble_eq_true rfl⟩)
    (fun r_3 _ H locs h_4 w => ?_)
  subst h_4
  refine lv_if_ne (tgt := 13) hx hb dX6_thingAt_8 (by decide) (fun h_5 => ?_) (fun h_5 => ?_)
  · have h_5 : true = true := bI_o.mp h_5
    refine lv_aload_n hx hb dX6_thingAt_13 rfl (lv_at hl 0 rfl) ?_
    refine lv_iload_n hx hb dX6_thingAt_14 rfl (lv_at hl 1 rfl) ?_
    refine lv_sipush (v := nI 240) hx hb dX6_thingAt_15 (by decide) ?_
    refine kcalli (wc := [cM μ iK kn ln 0 sp bg fm le fi se re ca, xI g (μ 1) 288 (enc σ)]) (wr := []) (wn := fun (u : Unit) => [cM μ iK kn ln 0 sp bg fm le fi se re ca, xI g (μ 1) 288 (enc σ)]) F w [0, 1] [] [0, 1] rfl rfl rfl (fun _ => rfl)
      (fun hp => va_runV (As := [.int (nI d), .int (nI 240)]) (rest := []) F.1 (kX6_of l g μ iK kn ln 0 sp bg fm le fi se re ca (enc σ) d 240 H.size (by omega)) (cwV 2 hts gX6_thingAt_X6_of rfl rfl rfl ⟨rfl, hd_X6_of⟩ ⟨Nat.le_of_ble_eq_true rfl, Nat.le_of_ble_eq_true rfl⟩) ⟨hp.1, va_recv F.2.2.2.1.1 w.1 (q0 := 0) (ci := 6) rfl rfl, hp.2⟩ rfl rfl hl.1 rfl (lv_room (Nat.le_of_ble_eq_true rfl)) dX6_thingAt_18 ⟨Nat.le_of_ble_eq_true rfl, Nat.le_of_ble_eq_true rfl⟩)
      (fun r_6 _ H locs h_7 w => ?_)
    subst h_7
    refine ktopi (y := thZ σ d) (enc_H hd.1 hd.2) ?_
    refine lv_if_le (tgt := 37) hx hb dX6_thingAt_21 (by decide) (fun h_8 => ?_) (fun h_8 => ?_)
    · refine lv_aload_n hx hb dX6_thingAt_37 rfl (lv_at hl 0 rfl) ?_
      refine lv_iconst (v := nI 2) hx hb dX6_thingAt_38 (by decide) ?_
      refine kcalli (wc := [cM μ iK kn ln 0 sp bg fm le fi se re ca]) (wr := [xI g (μ 1) 288 (enc σ)]) (wn := fun (u : Unit) => [cM μ iK kn ln 2 sp bg fm le fi se re ca, xI g (μ 1) 288 (enc σ)]) F w [0] [1] [1, 0] rfl rfl rfl (fun _ => rfl)
        (fun hp => va_runV (As := [.int (nI 2)]) (rest := []) F.1 (kX6_fails l g μ iK kn ln 0 sp bg fm le fi se re ca 2 H.size ) (cwV 1 hts gX6_thingAt_X6_fails rfl rfl rfl ⟨rfl, hd_X6_fails⟩ ⟨Nat.le_of_ble_eq_true rfl, Nat.le_of_ble_eq_true rfl⟩) ⟨hp.1, va_recv F.2.2.2.1.1 w.1 (q0 := 0) (ci := 6) rfl rfl, hp.2⟩ rfl rfl hl.1 rfl (lv_room (Nat.le_of_ble_eq_true rfl)) dX6_thingAt_39 ⟨Nat.le_of_ble_eq_true rfl, Nat.le_of_ble_eq_true rfl⟩)
        (fun r_9 _ H locs h_10 w => ?_)
      subst h_10
      subst hA
      subst hQ
      exact kreti F w () [0, 1] rfl rfl (rfl) (Nat.le_of_ble_eq_true rfl) (Nat.le_of_ble_eq_true rfl) dX6_thingAt_42
    · exact absurd (th_pos h_8) (by rw [hf9]; decide)
  · have h_5 : true = false := bI_z.mp h_5
    exact absurd h_5 (by simp)
abbrev rmX6_thingsOf_A : Room := { frames := 1, cells := 0, slots := 0, locals := 21 }
set_option maxHeartbeats 4000000 in
set_option maxRecDepth 100000 in
theorem kX6_thingsOf_A (l : Launch) (g : GG) (μ : Nat → Nat) (iK : Bool) (kn : Nat) (ln : Nat) (th : Nat) (sp : Nat) (bg : Nat) (fm : Bool) (le : Int32) (fi : Nat) (se : Nat) (re : Nat) (ca : Nat) (k : Int32) (sz : Nat) (hk9 : ¬ (k = 0 ∨ k = 1)) : Met l yX6_thingsOf wsX6_thingsOf rmX6_thingsOf_A (va_Pc [.ref (μ 0), .int k] (kPre g [cM μ iK kn ln th sp bg fm le fi se re ca] sz)) (va_Qi (fun (r : Int32) (u : Unit) => r = nI 0) (kB g (va_A [cM μ iK kn ln th sp bg fm le fi se re ca] sz) (fun u => [cM μ iK kn ln 1 sp bg fm le fi se re ca])) (va_A [cM μ iK kn ln th sp bg fm le fi se re ca] sz)) 0 0 (va_A [cM μ iK kn ln th sp bg fm le fi se re ca] sz) := by
  refine kMet (cc := cX6_thingsOf) (maxL := 2) (ret := (some .int)) (own := RX6) (by decide) rfl rfl (Nat.le_of_ble_eq_true rfl) ?_
  intro p e s m args below meth c ls Q H locs A F w hl hnm hA hQ
  have hx := F.1.1
  have hb := F.1.2.1
  have hts := F.1.2.2.2.2
  have hl : lv_has ls 2 [(0, .ref (μ 0)), (1, .int k)] := hl
  refine lv_aload_n hx hb dX6_thingsOf_0 rfl (lv_at hl 0 rfl) ?_
  refine lv_iload_n hx hb dX6_thingsOf_1 rfl (lv_at hl 1 rfl) ?_
  refine kcalli (wc := []) (wr := [cM μ iK kn ln th sp bg fm le fi se re ca]) (wn := fun (u : Unit) => [cM μ iK kn ln th sp bg fm le fi se re ca]) F w [] [0] [0] rfl rfl rfl (fun _ => rfl)
    (fun hp => va_runS (As := [.int k]) (rest := [.ref (μ 0)]) F.1 (kX6_isKind l g k H.size ) (va_cwS 1 hts gX6_thingsOf_X6_isKind rfl rfl rfl hd_X6_isKind ⟨Nat.le_of_ble_eq_true rfl, Nat.le_of_ble_eq_true rfl⟩) hp rfl rfl hl.1 rfl (lv_room (Nat.le_of_ble_eq_true rfl)) dX6_thingsOf_2 ⟨Nat.le_of_ble_eq_true rfl, Nat.le_of_ble_eq_true rfl⟩)
    (fun r_1 _ H locs h_2 w => ?_)
  subst h_2
  refine ktopi (y := bI false) (congrArg bI (decide_eq_false hk9)) ?_
  refine kcalli (wc := [cM μ iK kn ln th sp bg fm le fi se re ca]) (wr := []) (wn := fun (u : Unit) => [cM μ iK kn ln 1 sp bg fm le fi se re ca]) F w [0] [] [0] rfl rfl rfl (fun _ => rfl)
    (fun hp => va_runV (As := [.int (bI false)]) (rest := []) F.1 (kX6_asks_f l g μ iK kn ln th sp bg fm le fi se re ca H.size ) (cwV 1 hts gX6_thingsOf_X6_asks rfl rfl rfl ⟨rfl, hd_X6_asks⟩ ⟨Nat.le_of_ble_eq_true rfl, Nat.le_of_ble_eq_true rfl⟩) ⟨hp.1, va_recv F.2.2.2.1.1 w.1 (q0 := 0) (ci := 6) rfl rfl, hp.2⟩ rfl rfl hl.1 rfl (lv_room (Nat.le_of_ble_eq_true rfl)) dX6_thingsOf_5 ⟨Nat.le_of_ble_eq_true rfl, Nat.le_of_ble_eq_true rfl⟩)
    (fun r_3 _ H locs h_4 w => ?_)
  subst h_4
  refine lv_if_eq (tgt := 19) hx hb dX6_thingsOf_8 (by decide) (fun h_5 => ?_) (fun h_5 => ?_)
  · have h_5 : false = false := bI_z.mp h_5
    refine lv_iconst (v := nI 0) hx hb dX6_thingsOf_19 (by decide) ?_
    subst hA
    subst hQ
    exact kreti F w () [0] rfl rfl (rfl) (Nat.le_of_ble_eq_true rfl) (Nat.le_of_ble_eq_true rfl) dX6_thingsOf_20
  · have h_5 : false = true := bI_o.mp h_5
    exact absurd h_5 (by simp)
abbrev rmX6_thingsOf_k : Room := { frames := 2, cells := 0, slots := 0, locals := 45 }
set_option maxHeartbeats 4000000 in
set_option maxRecDepth 100000 in
theorem kX6_thingsOf_k (l : Launch) (g : GG) (μ : Nat → Nat) (iK : Bool) (kn : Nat) (ln : Nat) (th : Nat) (sp : Nat) (bg : Nat) (fm : Bool) (le : Int32) (fi : Nat) (se : Nat) (re : Nat) (ca : Nat) (σ : Sg) (kd : Bool) (sz : Nat)  : Met l yX6_thingsOf wsX6_thingsOf rmX6_thingsOf_k (va_Pc [.ref (μ 0), .int (bI kd)] (kPre g [cM μ iK kn ln th sp bg fm le fi se re ca, xI g (μ 1) 288 (enc σ)] sz)) (va_Qi (fun (r : Int32) (u : Unit) => r = nI (zcnt (kindP σ kd) 48)) (kB g (va_A [cM μ iK kn ln th sp bg fm le fi se re ca, xI g (μ 1) 288 (enc σ)] sz) (fun u => [cM μ iK kn ln 0 sp bg fm le fi se re ca, xI g (μ 1) 288 (enc σ)])) (va_A [cM μ iK kn ln th sp bg fm le fi se re ca, xI g (μ 1) 288 (enc σ)] sz)) 0 0 (va_A [cM μ iK kn ln th sp bg fm le fi se re ca, xI g (μ 1) 288 (enc σ)] sz) := by
  refine kMet (cc := cX6_thingsOf) (maxL := 2) (ret := (some .int)) (own := RX6) (by decide) rfl rfl (Nat.le_of_ble_eq_true rfl) ?_
  intro p e s m args below meth c ls Q H locs A F w hl hnm hA hQ
  have hx := F.1.1
  have hb := F.1.2.1
  have hts := F.1.2.2.2.2
  have hl : lv_has ls 2 [(0, .ref (μ 0)), (1, .int (bI kd))] := hl
  refine lv_aload_n hx hb dX6_thingsOf_0 rfl (lv_at hl 0 rfl) ?_
  refine lv_iload_n hx hb dX6_thingsOf_1 rfl (lv_at hl 1 rfl) ?_
  refine kcalli (wc := []) (wr := [cM μ iK kn ln th sp bg fm le fi se re ca, xI g (μ 1) 288 (enc σ)]) (wn := fun (u : Unit) => [cM μ iK kn ln th sp bg fm le fi se re ca, xI g (μ 1) 288 (enc σ)]) F w [] [0, 1] [0, 1] rfl rfl rfl (fun _ => rfl)
    (fun hp => va_runS (As := [.int (bI kd)]) (rest := [.ref (μ 0)]) F.1 (kX6_isKind l g (bI kd) H.size ) (va_cwS 1 hts gX6_thingsOf_X6_isKind rfl rfl rfl hd_X6_isKind ⟨Nat.le_of_ble_eq_true rfl, Nat.le_of_ble_eq_true rfl⟩) hp rfl rfl hl.1 rfl (lv_room (Nat.le_of_ble_eq_true rfl)) dX6_thingsOf_2 ⟨Nat.le_of_ble_eq_true rfl, Nat.le_of_ble_eq_true rfl⟩)
    (fun r_1 _ H locs h_2 w => ?_)
  subst h_2
  refine ktopi (y := bI true) (congrArg bI (kind_b kd)) ?_
  refine kcalli (wc := [cM μ iK kn ln th sp bg fm le fi se re ca]) (wr := [xI g (μ 1) 288 (enc σ)]) (wn := fun (u : Unit) => [cM μ iK kn ln 0 sp bg fm le fi se re ca, xI g (μ 1) 288 (enc σ)]) F w [0] [1] [1, 0] rfl rfl rfl (fun _ => rfl)
    (fun hp => va_runV (As := [.int (bI true)]) (rest := []) F.1 (kX6_asks_t l g μ iK kn ln th sp bg fm le fi se re ca H.size ) (cwV 1 hts gX6_thingsOf_X6_asks rfl rfl rfl ⟨rfl, hd_X6_asks⟩ ⟨Nat.le_of_ble_eq_true rfl, Nat.le_of_ble_eq_true rfl⟩) ⟨hp.1, va_recv F.2.2.2.1.1 w.1 (q0 := 0) (ci := 6) rfl rfl, hp.2⟩ rfl rfl hl.1 rfl (lv_room (Nat.le_of_ble_eq_true rfl)) dX6_thingsOf_5 ⟨Nat.le_of_ble_eq_true rfl, Nat.le_of_ble_eq_true rfl⟩)
    (fun r_3 _ H locs h_4 w => ?_)
  subst h_4
  refine lv_if_eq (tgt := 19) hx hb dX6_thingsOf_8 (by decide) (fun h_5 => ?_) (fun h_5 => ?_)
  · have h_5 : true = false := bI_z.mp h_5
    exact absurd h_5 (by simp)
  · have h_5 : true = true := bI_o.mp h_5
    refine lv_aload_n hx hb dX6_thingsOf_11 rfl (lv_at hl 0 rfl) ?_
    refine lv_iload_n hx hb dX6_thingsOf_12 rfl (lv_at hl 1 rfl) ?_
    refine kcalli (wc := [cM μ iK kn ln 0 sp bg fm le fi se re ca, xI g (μ 1) 288 (enc σ)]) (wr := []) (wn := fun (u : Unit) => [cM μ iK kn ln 0 sp bg fm le fi se re ca, xI g (μ 1) 288 (enc σ)]) F w [0, 1] [] [0, 1] rfl rfl rfl (fun _ => rfl)
      (fun hp => va_runV (As := [.int (bI kd)]) (rest := []) F.1 (kX6_things l g μ iK kn ln 0 sp bg fm le fi se re ca σ kd H.size ) (cwV 1 hts gX6_thingsOf_X6_things rfl rfl rfl ⟨rfl, hd_X6_things⟩ ⟨Nat.le_of_ble_eq_true rfl, Nat.le_of_ble_eq_true rfl⟩) ⟨hp.1, va_recv F.2.2.2.1.1 w.1 (q0 := 0) (ci := 6) rfl rfl, hp.2⟩ rfl rfl hl.1 rfl (lv_room (Nat.le_of_ble_eq_true rfl)) dX6_thingsOf_13 ⟨Nat.le_of_ble_eq_true rfl, Nat.le_of_ble_eq_true rfl⟩)
      (fun r_6 _ H locs h_7 w => ?_)
    subst h_7
    refine lv_goto (tgt := 20) hx hb dX6_thingsOf_16 (by decide) ?_
    subst hA
    subst hQ
    exact kreti F w () [0, 1] rfl rfl (rfl) (Nat.le_of_ble_eq_true rfl) (Nat.le_of_ble_eq_true rfl) dX6_thingsOf_20
theorem in_X6_shutAway_X6 : ∀ w ∈ wsX60, w ∈ wsX6_shutAway := by decide +kernel
abbrev rmX6_shutAway : Room := { frames := 1, cells := 0, slots := 0, locals := 22 }
set_option maxHeartbeats 4000000 in
set_option maxRecDepth 100000 in
theorem kX6_shutAway (l : Launch) (g : GG) (μ : Nat → Nat) (iK : Bool) (kn : Nat) (ln : Nat) (th : Nat) (sp : Nat) (bg : Nat) (fm : Bool) (le : Int32) (fi : Nat) (se : Nat) (re : Nat) (ca : Nat) (σ : Sg) (sz : Nat)  : Met l yX6_shutAway wsX6_shutAway rmX6_shutAway (va_Pc [.ref (μ 0)] (kPre g [cM μ iK kn ln th sp bg fm le fi se re ca, xI g (μ 1) 288 (enc σ)] sz)) (va_Qi (fun (r : Int32) (u : Unit) => r = nI (zcnt (shutP σ) 48)) (kB g (va_A [cM μ iK kn ln th sp bg fm le fi se re ca, xI g (μ 1) 288 (enc σ)] sz) (fun u => [cM μ iK kn ln 0 sp bg fm le fi se re ca, xI g (μ 1) 288 (enc σ)])) (va_A [cM μ iK kn ln th sp bg fm le fi se re ca, xI g (μ 1) 288 (enc σ)] sz)) 0 0 (va_A [cM μ iK kn ln th sp bg fm le fi se re ca, xI g (μ 1) 288 (enc σ)] sz) := by
  refine kMet (cc := cX6_shutAway) (maxL := 3) (ret := (some .int)) (own := RX6) (by decide) rfl rfl (Nat.le_of_ble_eq_true rfl) ?_
  intro p e s m args below meth c ls Q H locs A F w hl hnm hA hQ
  have hx := F.1.1
  have hb := F.1.2.1
  have hts := F.1.2.2.2.2
  have hl : lv_has ls 3 [(0, .ref (μ 0))] := hl
  refine lv_aload_n hx hb dX6_shutAway_0 rfl (lv_at hl 0 rfl) ?_
  refine lv_iconst (v := nI 0) hx hb dX6_shutAway_1 (by decide) ?_
  refine kput (fs := [.ref (μ 1), .ref (μ 2), .ref (μ 3), .ref (μ 4), .int (bI iK), .ref (μ 5), .int (nI kn), .ref (μ 6), .int (nI ln), .int (nI th), .int (nI sp), .int (nI bg), .int (bI fm), .int le, .int (nI fi), .int (nI se), .int (nI re), .int (nI ca)]) F w in_X6_shutAway_X6 tyX6_ok nmX6 0 rfl rfl 9 (by decide) (by decide +kernel) rfl rfl (rfl) (rfl) (Nat.le_of_ble_eq_true rfl) (wn := [cM μ iK kn ln 0 sp bg fm le fi se re ca, xI g (μ 1) 288 (enc σ)]) rfl dX6_shutAway_2 (fun H locs w => ?_)
  refine lv_iconst (v := nI 0) hx hb dX6_shutAway_5 (by decide) ?_
  refine ktopi (y := nI (zcnt (shutP σ) 0)) (rfl) ?_
  refine lv_istore_n (lv' := [(1, .int (nI (zcnt (shutP σ) 0))), (0, .ref (μ 0))]) hx hb dX6_shutAway_6 rfl hl (by decide) rfl (fun ls hl => ?_)
  refine lv_iconst (v := nI 1) hx hb dX6_shutAway_7 (by decide) ?_
  refine ktopi (y := nI (0 + 1)) (rfl) ?_
  refine lv_istore_n (lv' := [(2, .int (nI (0 + 1))), (1, .int (nI (zcnt (shutP σ) 0))), (0, .ref (μ 0))]) hx hb dX6_shutAway_8 rfl hl (by decide) rfl (fun ls hl => ?_)
  have LP_1 : ∀ (fu : Nat) (j : Nat) (h1 : j ≤ 48) (H : Heap) (locs : List Loc) (ls : Array Slot), 50 - j < fu → kW g A s [cM μ iK kn ln 0 sp bg fm le fi se re ca, xI g (μ 1) 288 (enc σ)] H locs → lv_has ls 3 [(2, .int (nI (j + 1))), (1, .int (nI (zcnt (shutP σ) j))), (0, .ref (μ 0))] → W p l e rmX6_shutAway s m args below meth c H locs 0 0 Q (F0 m 9 ls []) := by
    intro fu
    induction fu with
    | zero => intro j h1 H locs ls hlt; omega
    | succ fu ih_1 =>
      intro j h1 H locs ls hlt w hl
      refine lv_iload_n hx hb dX6_shutAway_9 rfl (lv_at hl 0 rfl) ?_
      refine lv_bipush (v := nI 48) hx hb dX6_shutAway_10 (by decide) ?_
      refine lv_icmp_gt (tgt := 49) hx hb dX6_shutAway_12 (by decide) (fun h_2 => ?_) (fun h_2 => ?_)
      · have h_2 : j + 1 > 48 := (kc_gt_t (by omega) (by omega)).mp h_2
        have e_3 : j = 48 := by omega
        subst e_3
        refine lv_iload_n hx hb dX6_shutAway_49 rfl (lv_at hl 1 rfl) ?_
        subst hA
        subst hQ
        exact kreti F w () [0, 1] rfl rfl (rfl) (Nat.le_of_ble_eq_true rfl) (Nat.le_of_ble_eq_true rfl) dX6_shutAway_50
      · have h_2 : j + 1 ≤ 48 := (kc_gt_f (by omega) (by omega)).mp h_2
        refine lv_iload_n hx hb dX6_shutAway_15 rfl (lv_at hl 1 rfl) ?_
        refine lv_aload_n hx hb dX6_shutAway_16 rfl (lv_at hl 2 rfl) ?_
        refine lv_iload_n hx hb dX6_shutAway_17 rfl (lv_at hl 0 rfl) ?_
        refine lv_sipush (v := nI 240) hx hb dX6_shutAway_18 (by decide) ?_
        refine kcalli (wc := [cM μ iK kn ln 0 sp bg fm le fi se re ca, xI g (μ 1) 288 (enc σ)]) (wr := []) (wn := fun (u : Unit) => [cM μ iK kn ln 0 sp bg fm le fi se re ca, xI g (μ 1) 288 (enc σ)]) F w [0, 1] [] [0, 1] rfl rfl rfl (fun _ => rfl)
          (fun hp => va_runV (As := [.int (nI (j + 1)), .int (nI 240)]) (rest := [.int (nI (zcnt (shutP σ) j))]) F.1 (kX6_of l g μ iK kn ln 0 sp bg fm le fi se re ca (enc σ) (j + 1) 240 H.size (by omega)) (cwV 2 hts gX6_shutAway_X6_of rfl rfl rfl ⟨rfl, hd_X6_of⟩ ⟨Nat.le_of_ble_eq_true rfl, Nat.le_of_ble_eq_true rfl⟩) ⟨hp.1, va_recv F.2.2.2.1.1 w.1 (q0 := 0) (ci := 6) rfl rfl, hp.2⟩ rfl rfl hl.1 rfl (lv_room (Nat.le_of_ble_eq_true rfl)) dX6_shutAway_21 ⟨Nat.le_of_ble_eq_true rfl, Nat.le_of_ble_eq_true rfl⟩)
          (fun r_4 _ H locs h_5 w => ?_)
        subst h_5
        refine ktopi (y := thZ σ (j + 1)) (enc_H (by omega) (by omega)) ?_
        refine lv_if_le (tgt := 40) hx hb dX6_shutAway_24 (by decide) (fun h_6 => ?_) (fun h_6 => ?_)
        · have hz : shutP σ (j + 1) = false := by unfold shutP; rw [th_zero h_6]; rfl
          refine lv_iconst (v := nI 0) hx hb dX6_shutAway_40 (by decide) ?_
          refine lv_iadd hx hb dX6_shutAway_41 ?_
          refine ktopi (y := nI (zcnt (shutP σ) j + 0)) (nI_add (zcnt (shutP σ) j) 0) ?_
          refine ktopi (y := nI (zcnt (shutP σ) (j + 1))) (by rw [zcnt_f hz, Nat.add_zero]) ?_
          refine lv_istore_n (lv' := [(1, .int (nI (zcnt (shutP σ) (j + 1)))), (2, .int (nI (j + 1))), (0, .ref (μ 0))]) hx hb dX6_shutAway_42 rfl hl (by decide) rfl (fun ls hl => ?_)
          refine lv_iinc (v := nI (j + 1 + 1)) (lv' := [(2, .int (nI (j + 1 + 1))), (1, .int (nI (zcnt (shutP σ) (j + 1)))), (0, .ref (μ 0))]) hx hb dX6_shutAway_43 hl (k := 1) rfl (nI_add (j + 1) 1) (by decide) rfl (fun ls hl => ?_)
          refine lv_goto (tgt := 9) hx hb dX6_shutAway_46 (by decide) ?_
          exact ih_1 (j + 1) (by omega) _ _ _ (by omega) (kW.perm w [0, 1] rfl rfl) (lv_sub hl [0, 1, 2] rfl)
        · refine lv_aload_n hx hb dX6_shutAway_27 rfl (lv_at hl 2 rfl) ?_
          refine lv_iload_n hx hb dX6_shutAway_28 rfl (lv_at hl 0 rfl) ?_
          refine lv_iconst (v := nI 0) hx hb dX6_shutAway_29 (by decide) ?_
          refine kcalli (wc := [cM μ iK kn ln 0 sp bg fm le fi se re ca, xI g (μ 1) 288 (enc σ)]) (wr := []) (wn := fun (u : Unit) => [cM μ iK kn ln 0 sp bg fm le fi se re ca, xI g (μ 1) 288 (enc σ)]) F w [0, 1] [] [0, 1] rfl rfl rfl (fun _ => rfl)
            (fun hp => va_runV (As := [.int (nI (j + 1)), .int (nI 0)]) (rest := [.int (nI (zcnt (shutP σ) j))]) F.1 (kX6_of l g μ iK kn ln 0 sp bg fm le fi se re ca (enc σ) (j + 1) 0 H.size (by omega)) (cwV 2 hts gX6_shutAway_X6_of rfl rfl rfl ⟨rfl, hd_X6_of⟩ ⟨Nat.le_of_ble_eq_true rfl, Nat.le_of_ble_eq_true rfl⟩) ⟨hp.1, va_recv F.2.2.2.1.1 w.1 (q0 := 0) (ci := 6) rfl rfl, hp.2⟩ rfl rfl hl.1 rfl (lv_room (Nat.le_of_ble_eq_true rfl)) dX6_shutAway_30 ⟨Nat.le_of_ble_eq_true rfl, Nat.le_of_ble_eq_true rfl⟩)
            (fun r_7 _ H locs h_8 w => ?_)
          subst h_8
          refine ktopi (y := bI (zO σ (j + 1))) (enc_O (by omega) (by omega)) ?_
          refine lv_if_ne (tgt := 40) hx hb dX6_shutAway_33 (by decide) (fun h_9 => ?_) (fun h_9 => ?_)
          · have h_9 : (zO σ (j + 1)) = true := bI_o.mp h_9
            have hz : shutP σ (j + 1) = false := by unfold shutP; rw [th_pos h_6, h_9]; rfl
            refine lv_iconst (v := nI 0) hx hb dX6_shutAway_40 (by decide) ?_
            refine lv_iadd hx hb dX6_shutAway_41 ?_
            refine ktopi (y := nI (zcnt (shutP σ) j + 0)) (nI_add (zcnt (shutP σ) j) 0) ?_
            refine ktopi (y := nI (zcnt (shutP σ) (j + 1))) (by rw [zcnt_f hz, Nat.add_zero]) ?_
            refine lv_istore_n (lv' := [(1, .int (nI (zcnt (shutP σ) (j + 1)))), (2, .int (nI (j + 1))), (0, .ref (μ 0))]) hx hb dX6_shutAway_42 rfl hl (by decide) rfl (fun ls hl => ?_)
            refine lv_iinc (v := nI (j + 1 + 1)) (lv' := [(2, .int (nI (j + 1 + 1))), (1, .int (nI (zcnt (shutP σ) (j + 1)))), (0, .ref (μ 0))]) hx hb dX6_shutAway_43 hl (k := 1) rfl (nI_add (j + 1) 1) (by decide) rfl (fun ls hl => ?_)
            refine lv_goto (tgt := 9) hx hb dX6_shutAway_46 (by decide) ?_
            exact ih_1 (j + 1) (by omega) _ _ _ (by omega) (kW.perm w [0, 1] rfl rfl) (lv_sub hl [0, 1, 2] rfl)
          · have h_9 : (zO σ (j + 1)) = false := bI_z.mp h_9
            have hz : shutP σ (j + 1) = true := by unfold shutP; rw [th_pos h_6, h_9]; rfl
            refine lv_iconst (v := nI 1) hx hb dX6_shutAway_36 (by decide) ?_
            refine lv_goto (tgt := 41) hx hb dX6_shutAway_37 (by decide) ?_
            refine lv_iadd hx hb dX6_shutAway_41 ?_
            refine ktopi (y := nI (zcnt (shutP σ) j + 1)) (nI_add (zcnt (shutP σ) j) 1) ?_
            refine ktopi (y := nI (zcnt (shutP σ) (j + 1))) (by rw [zcnt_t hz]) ?_
            refine lv_istore_n (lv' := [(1, .int (nI (zcnt (shutP σ) (j + 1)))), (2, .int (nI (j + 1))), (0, .ref (μ 0))]) hx hb dX6_shutAway_42 rfl hl (by decide) rfl (fun ls hl => ?_)
            refine lv_iinc (v := nI (j + 1 + 1)) (lv' := [(2, .int (nI (j + 1 + 1))), (1, .int (nI (zcnt (shutP σ) (j + 1)))), (0, .ref (μ 0))]) hx hb dX6_shutAway_43 hl (k := 1) rfl (nI_add (j + 1) 1) (by decide) rfl (fun ls hl => ?_)
            refine lv_goto (tgt := 9) hx hb dX6_shutAway_46 (by decide) ?_
            exact ih_1 (j + 1) (by omega) _ _ _ (by omega) (kW.perm w [0, 1] rfl rfl) (lv_sub hl [0, 1, 2] rfl)
  exact LP_1 _ 0 (by omega) _ _ _ (Nat.lt_succ_self _) (kW.perm w [0, 1] rfl rfl) (lv_sub hl [0, 1, 2] rfl)
theorem in_X6_turnsInAll_X6 : ∀ w ∈ wsX60, w ∈ wsX6_turnsInAll := by decide +kernel
abbrev rmX6_turnsInAll : Room := { frames := 2, cells := 0, slots := 0, locals := 45 }
set_option maxHeartbeats 4000000 in
set_option maxRecDepth 100000 in
theorem kX6_turnsInAll (l : Launch) (g : GG) (μ : Nat → Nat) (iK : Bool) (kn : Nat) (ln : Nat) (th : Nat) (sp : Nat) (bg : Nat) (fm : Bool) (le : Int32) (fi : Nat) (se : Nat) (re : Nat) (ca : Nat) (σ : Sg) (sz : Nat)  : Met l yX6_turnsInAll wsX6_turnsInAll rmX6_turnsInAll (va_Pc [.ref (μ 0)] (kPre g [cM μ iK kn ln th sp bg fm le fi se re ca, xI g (μ 1) 288 (enc σ)] sz)) (va_Qi (fun (r : Int32) (u : Unit) => r = sumZ (enc σ) 96 48) (kB g (va_A [cM μ iK kn ln th sp bg fm le fi se re ca, xI g (μ 1) 288 (enc σ)] sz) (fun u => [cM μ iK kn ln 0 sp bg fm le fi se re ca, xI g (μ 1) 288 (enc σ)])) (va_A [cM μ iK kn ln th sp bg fm le fi se re ca, xI g (μ 1) 288 (enc σ)] sz)) 0 0 (va_A [cM μ iK kn ln th sp bg fm le fi se re ca, xI g (μ 1) 288 (enc σ)] sz) := by
  refine kMet (cc := cX6_turnsInAll) (maxL := 1) (ret := (some .int)) (own := RX6) (by decide) rfl rfl (Nat.le_of_ble_eq_true rfl) ?_
  intro p e s m args below meth c ls Q H locs A F w hl hnm hA hQ
  have hx := F.1.1
  have hb := F.1.2.1
  have hts := F.1.2.2.2.2
  have hl : lv_has ls 1 [(0, .ref (μ 0))] := hl
  refine lv_aload_n hx hb dX6_turnsInAll_0 rfl (lv_at hl 0 rfl) ?_
  refine lv_iconst (v := nI 0) hx hb dX6_turnsInAll_1 (by decide) ?_
  refine kput (fs := [.ref (μ 1), .ref (μ 2), .ref (μ 3), .ref (μ 4), .int (bI iK), .ref (μ 5), .int (nI kn), .ref (μ 6), .int (nI ln), .int (nI th), .int (nI sp), .int (nI bg), .int (bI fm), .int le, .int (nI fi), .int (nI se), .int (nI re), .int (nI ca)]) F w in_X6_turnsInAll_X6 tyX6_ok nmX6 0 rfl rfl 9 (by decide) (by decide +kernel) rfl rfl (rfl) (rfl) (Nat.le_of_ble_eq_true rfl) (wn := [cM μ iK kn ln 0 sp bg fm le fi se re ca, xI g (μ 1) 288 (enc σ)]) rfl dX6_turnsInAll_2 (fun H locs w => ?_)
  refine lv_aload_n hx hb dX6_turnsInAll_5 rfl (lv_at hl 0 rfl) ?_
  refine lv_bipush (v := nI 96) hx hb dX6_turnsInAll_6 (by decide) ?_
  refine kcalli (wc := [cM μ iK kn ln 0 sp bg fm le fi se re ca, xI g (μ 1) 288 (enc σ)]) (wr := []) (wn := fun (u : Unit) => [cM μ iK kn ln 0 sp bg fm le fi se re ca, xI g (μ 1) 288 (enc σ)]) F w [0, 1] [] [0, 1] rfl rfl rfl (fun _ => rfl)
    (fun hp => va_runV (As := [.int (nI 96)]) (rest := []) F.1 (kX6_sum l g μ iK kn ln 0 sp bg fm le fi se re ca (enc σ) 96 H.size (by omega)) (cwV 1 hts gX6_turnsInAll_X6_sum rfl rfl rfl ⟨rfl, hd_X6_sum⟩ ⟨Nat.le_of_ble_eq_true rfl, Nat.le_of_ble_eq_true rfl⟩) ⟨hp.1, va_recv F.2.2.2.1.1 w.1 (q0 := 0) (ci := 6) rfl rfl, hp.2⟩ rfl rfl hl.1 rfl (lv_room (Nat.le_of_ble_eq_true rfl)) dX6_turnsInAll_8 ⟨Nat.le_of_ble_eq_true rfl, Nat.le_of_ble_eq_true rfl⟩)
    (fun r_1 _ H locs h_2 w => ?_)
  subst h_2
  subst hA
  subst hQ
  exact kreti F w () [0, 1] rfl rfl (rfl) (Nat.le_of_ble_eq_true rfl) (Nat.le_of_ble_eq_true rfl) dX6_turnsInAll_11
theorem in_X6_states_X6 : ∀ w ∈ wsX60, w ∈ wsX6_states := by decide +kernel
abbrev rmX6_states : Room := { frames := 0, cells := 0, slots := 0, locals := 0 }
set_option maxHeartbeats 4000000 in
set_option maxRecDepth 100000 in
theorem kX6_states (l : Launch) (g : GG) (μ : Nat → Nat) (iK : Bool) (kn : Nat) (ln : Nat) (th : Nat) (sp : Nat) (bg : Nat) (fm : Bool) (le : Int32) (fi : Nat) (se : Nat) (re : Nat) (ca : Nat) (sz : Nat)  : Met l yX6_states wsX6_states rmX6_states (va_Pc [.ref (μ 0)] (kPre g [cM μ iK kn ln th sp bg fm le fi se re ca] sz)) (va_Qi (fun (r : Int32) (u : Unit) => r = nI kn) (kB g (va_A [cM μ iK kn ln th sp bg fm le fi se re ca] sz) (fun u => [cM μ iK kn ln 0 sp bg fm le fi se re ca])) (va_A [cM μ iK kn ln th sp bg fm le fi se re ca] sz)) 0 0 (va_A [cM μ iK kn ln th sp bg fm le fi se re ca] sz) := by
  refine kMet (cc := cX6_states) (maxL := 1) (ret := (some .int)) (own := RX6) (by decide) rfl rfl (Nat.le_of_ble_eq_true rfl) ?_
  intro p e s m args below meth c ls Q H locs A F w hl hnm hA hQ
  have hx := F.1.1
  have hb := F.1.2.1
  have hts := F.1.2.2.2.2
  have hl : lv_has ls 1 [(0, .ref (μ 0))] := hl
  refine lv_aload_n hx hb dX6_states_0 rfl (lv_at hl 0 rfl) ?_
  refine lv_iconst (v := nI 0) hx hb dX6_states_1 (by decide) ?_
  refine kput (fs := [.ref (μ 1), .ref (μ 2), .ref (μ 3), .ref (μ 4), .int (bI iK), .ref (μ 5), .int (nI kn), .ref (μ 6), .int (nI ln), .int (nI th), .int (nI sp), .int (nI bg), .int (bI fm), .int le, .int (nI fi), .int (nI se), .int (nI re), .int (nI ca)]) F w in_X6_states_X6 tyX6_ok nmX6 0 rfl rfl 9 (by decide) (by decide +kernel) rfl rfl (rfl) (rfl) (Nat.le_of_ble_eq_true rfl) (wn := [cM μ iK kn ln 0 sp bg fm le fi se re ca]) rfl dX6_states_2 (fun H locs w => ?_)
  refine lv_aload_n hx hb dX6_states_5 rfl (lv_at hl 0 rfl) ?_
  refine kget (fs := [.ref (μ 1), .ref (μ 2), .ref (μ 3), .ref (μ 4), .int (bI iK), .ref (μ 5), .int (nI kn), .ref (μ 6), .int (nI ln), .int (nI 0), .int (nI sp), .int (nI bg), .int (bI fm), .int le, .int (nI fi), .int (nI se), .int (nI re), .int (nI ca)]) F w in_X6_states_X6 0 rfl rfl 6 (by decide) (by decide +kernel) rfl rfl dX6_states_6 ?_
  subst hA
  subst hQ
  exact kreti F w () [0] rfl rfl (rfl) (Nat.le_of_ble_eq_true rfl) (Nat.le_of_ble_eq_true rfl) dX6_states_9
theorem in_X6_clearText_X6 : ∀ w ∈ wsX60, w ∈ wsX6_clearText := by decide +kernel
abbrev rmX6_clearText : Room := { frames := 0, cells := 0, slots := 0, locals := 0 }
set_option maxHeartbeats 4000000 in
set_option maxRecDepth 100000 in
theorem kX6_clearText (l : Launch) (g : GG) (μ : Nat → Nat) (iK : Bool) (kn : Nat) (ln : Nat) (th : Nat) (sp : Nat) (bg : Nat) (fm : Bool) (le : Int32) (fi : Nat) (se : Nat) (re : Nat) (ca : Nat) (sz : Nat)  : Met l yX6_clearText wsX6_clearText rmX6_clearText (va_Pc [.ref (μ 0)] (kPre g [cM μ iK kn ln th sp bg fm le fi se re ca] sz)) (va_Qi (fun (r : Int32) (u : Unit) => r = nI ln) (kB g (va_A [cM μ iK kn ln th sp bg fm le fi se re ca] sz) (fun u => [cM μ iK kn 0 0 sp bg fm le fi se re ca])) (va_A [cM μ iK kn ln th sp bg fm le fi se re ca] sz)) 0 0 (va_A [cM μ iK kn ln th sp bg fm le fi se re ca] sz) := by
  refine kMet (cc := cX6_clearText) (maxL := 2) (ret := (some .int)) (own := RX6) (by decide) rfl rfl (Nat.le_of_ble_eq_true rfl) ?_
  intro p e s m args below meth c ls Q H locs A F w hl hnm hA hQ
  have hx := F.1.1
  have hb := F.1.2.1
  have hts := F.1.2.2.2.2
  have hl : lv_has ls 2 [(0, .ref (μ 0))] := hl
  refine lv_aload_n hx hb dX6_clearText_0 rfl (lv_at hl 0 rfl) ?_
  refine lv_iconst (v := nI 0) hx hb dX6_clearText_1 (by decide) ?_
  refine kput (fs := [.ref (μ 1), .ref (μ 2), .ref (μ 3), .ref (μ 4), .int (bI iK), .ref (μ 5), .int (nI kn), .ref (μ 6), .int (nI ln), .int (nI th), .int (nI sp), .int (nI bg), .int (bI fm), .int le, .int (nI fi), .int (nI se), .int (nI re), .int (nI ca)]) F w in_X6_clearText_X6 tyX6_ok nmX6 0 rfl rfl 9 (by decide) (by decide +kernel) rfl rfl (rfl) (rfl) (Nat.le_of_ble_eq_true rfl) (wn := [cM μ iK kn ln 0 sp bg fm le fi se re ca]) rfl dX6_clearText_2 (fun H locs w => ?_)
  refine lv_aload_n hx hb dX6_clearText_5 rfl (lv_at hl 0 rfl) ?_
  refine kget (fs := [.ref (μ 1), .ref (μ 2), .ref (μ 3), .ref (μ 4), .int (bI iK), .ref (μ 5), .int (nI kn), .ref (μ 6), .int (nI ln), .int (nI 0), .int (nI sp), .int (nI bg), .int (bI fm), .int le, .int (nI fi), .int (nI se), .int (nI re), .int (nI ca)]) F w in_X6_clearText_X6 0 rfl rfl 8 (by decide) (by decide +kernel) rfl rfl dX6_clearText_6 ?_
  refine lv_istore_n (lv' := [(1, .int (nI ln)), (0, .ref (μ 0))]) hx hb dX6_clearText_9 rfl hl (by decide) rfl (fun ls hl => ?_)
  refine lv_aload_n hx hb dX6_clearText_10 rfl (lv_at hl 1 rfl) ?_
  refine lv_iconst (v := nI 0) hx hb dX6_clearText_11 (by decide) ?_
  refine kput (fs := [.ref (μ 1), .ref (μ 2), .ref (μ 3), .ref (μ 4), .int (bI iK), .ref (μ 5), .int (nI kn), .ref (μ 6), .int (nI ln), .int (nI 0), .int (nI sp), .int (nI bg), .int (bI fm), .int le, .int (nI fi), .int (nI se), .int (nI re), .int (nI ca)]) F w in_X6_clearText_X6 tyX6_ok nmX6 0 rfl rfl 8 (by decide) (by decide +kernel) rfl rfl (rfl) (rfl) (Nat.le_of_ble_eq_true rfl) (wn := [cM μ iK kn 0 0 sp bg fm le fi se re ca]) rfl dX6_clearText_12 (fun H locs w => ?_)
  refine lv_iload_n hx hb dX6_clearText_15 rfl (lv_at hl 0 rfl) ?_
  subst hA
  subst hQ
  exact kreti F w () [0] rfl rfl (rfl) (Nat.le_of_ble_eq_true rfl) (Nat.le_of_ble_eq_true rfl) dX6_clearText_16
theorem in_X6_bestPass_X6 : ∀ w ∈ wsX60, w ∈ wsX6_bestPass := by decide +kernel
abbrev rmX6_bestPass : Room := { frames := 2, cells := 0, slots := 0, locals := 45 }
set_option maxHeartbeats 4000000 in
set_option maxRecDepth 100000 in
theorem kX6_bestPass (l : Launch) (g : GG) (μ : Nat → Nat) (iK : Bool) (kn : Nat) (ln : Nat) (th : Nat) (sp : Nat) (bg : Nat) (fm : Bool) (le : Int32) (fi : Nat) (se : Nat) (re : Nat) (ca : Nat) (σ : Sg) (sz : Nat)  : Met l yX6_bestPass wsX6_bestPass rmX6_bestPass (va_Pc [.ref (μ 0)] (kPre g [cM μ iK kn ln th sp bg fm le fi se re ca, xI g (μ 1) 288 (enc σ)] sz)) (va_Qi (fun (r : Int32) (u : Unit) => r = nI (bstN (opF σ) 0 48)) (kB g (va_A [cM μ iK kn ln th sp bg fm le fi se re ca, xI g (μ 1) 288 (enc σ)] sz) (fun u => [cM μ iK kn ln 0 sp bg fm le fi se re ca, xI g (μ 1) 288 (enc σ)])) (va_A [cM μ iK kn ln th sp bg fm le fi se re ca, xI g (μ 1) 288 (enc σ)] sz)) 0 0 (va_A [cM μ iK kn ln th sp bg fm le fi se re ca, xI g (μ 1) 288 (enc σ)] sz) := by
  refine kMet (cc := cX6_bestPass) (maxL := 6) (ret := (some .int)) (own := RX6) (by decide) rfl rfl (Nat.le_of_ble_eq_true rfl) ?_
  intro p e s m args below meth c ls Q H locs A F w hl hnm hA hQ
  have hx := F.1.1
  have hb := F.1.2.1
  have hts := F.1.2.2.2.2
  have hl : lv_has ls 6 [(0, .ref (μ 0))] := hl
  refine lv_aload_n hx hb dX6_bestPass_0 rfl (lv_at hl 0 rfl) ?_
  refine lv_iconst (v := nI 0) hx hb dX6_bestPass_1 (by decide) ?_
  refine kput (fs := [.ref (μ 1), .ref (μ 2), .ref (μ 3), .ref (μ 4), .int (bI iK), .ref (μ 5), .int (nI kn), .ref (μ 6), .int (nI ln), .int (nI th), .int (nI sp), .int (nI bg), .int (bI fm), .int le, .int (nI fi), .int (nI se), .int (nI re), .int (nI ca)]) F w in_X6_bestPass_X6 tyX6_ok nmX6 0 rfl rfl 9 (by decide) (by decide +kernel) rfl rfl (rfl) (rfl) (Nat.le_of_ble_eq_true rfl) (wn := [cM μ iK kn ln 0 sp bg fm le fi se re ca, xI g (μ 1) 288 (enc σ)]) rfl dX6_bestPass_2 (fun H locs w => ?_)
  refine lv_iconst (v := nI 0) hx hb dX6_bestPass_5 (by decide) ?_
  refine ktopi (y := nI (bstN (opF σ) 0 0)) (rfl) ?_
  refine lv_istore_n (lv' := [(1, .int (nI (bstN (opF σ) 0 0))), (0, .ref (μ 0))]) hx hb dX6_bestPass_6 rfl hl (by decide) rfl (fun ls hl => ?_)
  refine lv_bipush (v := nI 49) hx hb dX6_bestPass_7 (by decide) ?_
  refine ktopi (y := nI (bstV (opF σ) 0)) (rfl) ?_
  refine lv_istore_n (lv' := [(2, .int (nI (bstV (opF σ) 0))), (1, .int (nI (bstN (opF σ) 0 0))), (0, .ref (μ 0))]) hx hb dX6_bestPass_9 rfl hl (by decide) rfl (fun ls hl => ?_)
  refine lv_iconst (v := nI 1) hx hb dX6_bestPass_10 (by decide) ?_
  refine ktopi (y := nI (0 + 1)) (rfl) ?_
  refine lv_istore_n (lv' := [(3, .int (nI (0 + 1))), (2, .int (nI (bstV (opF σ) 0))), (1, .int (nI (bstN (opF σ) 0 0))), (0, .ref (μ 0))]) hx hb dX6_bestPass_11 rfl hl (by decide) rfl (fun ls hl => ?_)
  have LP_1 : ∀ (fu : Nat) (k : Nat) (h1 : k ≤ 48) (H : Heap) (locs : List Loc) (ls : Array Slot), 50 - k < fu → kW g A s [cM μ iK kn ln 0 sp bg fm le fi se re ca, xI g (μ 1) 288 (enc σ)] H locs → lv_has ls 6 [(3, .int (nI (k + 1))), (2, .int (nI (bstV (opF σ) k))), (1, .int (nI (bstN (opF σ) 0 k))), (0, .ref (μ 0))] → W p l e rmX6_bestPass s m args below meth c H locs 0 0 Q (F0 m 12 ls []) := by
    intro fu
    induction fu with
    | zero => intro k h1 H locs ls hlt; omega
    | succ fu ih_1 =>
      intro k h1 H locs ls hlt w hl
      refine lv_iload_n hx hb dX6_bestPass_12 rfl (lv_at hl 0 rfl) ?_
      refine lv_bipush (v := nI 48) hx hb dX6_bestPass_13 (by decide) ?_
      refine lv_icmp_gt (tgt := 112) hx hb dX6_bestPass_15 (by decide) (fun h_2 => ?_) (fun h_2 => ?_)
      · have h_2 : k + 1 > 48 := (kc_gt_t (by omega) (by omega)).mp h_2
        have e_3 : k = 48 := by omega
        subst e_3
        refine lv_iload_n hx hb dX6_bestPass_112 rfl (lv_at hl 2 rfl) ?_
        subst hA
        subst hQ
        exact kreti F w () [0, 1] rfl rfl (rfl) (Nat.le_of_ble_eq_true rfl) (Nat.le_of_ble_eq_true rfl) dX6_bestPass_113
      · have h_2 : k + 1 ≤ 48 := (kc_gt_f (by omega) (by omega)).mp h_2
        have hk : 1 ≤ k + 1 ∧ k + 1 ≤ 48 := ⟨by omega, by omega⟩
        refine lv_aload_n hx hb dX6_bestPass_18 rfl (lv_at hl 3 rfl) ?_
        refine lv_iconst (v := nI 0) hx hb dX6_bestPass_19 (by decide) ?_
        refine kcalli (wc := [cM μ iK kn ln 0 sp bg fm le fi se re ca, xI g (μ 1) 288 (enc σ)]) (wr := []) (wn := fun (u : Unit) => [cM μ iK kn ln 0 sp bg fm le fi se re ca, xI g (μ 1) 288 (enc σ)]) F w [0, 1] [] [0, 1] rfl rfl rfl (fun _ => rfl)
          (fun hp => va_runV (As := [.int (nI 0)]) (rest := []) F.1 (kX6_sum l g μ iK kn ln 0 sp bg fm le fi se re ca (enc σ) 0 H.size (by omega)) (cwV 1 hts gX6_bestPass_X6_sum rfl rfl rfl ⟨rfl, hd_X6_sum⟩ ⟨Nat.le_of_ble_eq_true rfl, Nat.le_of_ble_eq_true rfl⟩) ⟨hp.1, va_recv F.2.2.2.1.1 w.1 (q0 := 0) (ci := 6) rfl rfl, hp.2⟩ rfl rfl hl.1 rfl (lv_room (Nat.le_of_ble_eq_true rfl)) dX6_bestPass_20 ⟨Nat.le_of_ble_eq_true rfl, Nat.le_of_ble_eq_true rfl⟩)
          (fun r_4 _ H locs h_5 w => ?_)
        subst h_5
        refine ktopi (y := nI (zcnt (flipP σ (k + 1) (0 + 1)) 48)) (by rw [sumZ_O _ 48 (Nat.le_refl _), flipP_0 hk.1]) ?_
        refine lv_istore (lv' := [(4, .int (nI (zcnt (flipP σ (k + 1) (0 + 1)) 48))), (3, .int (nI (k + 1))), (2, .int (nI (bstV (opF σ) k))), (1, .int (nI (bstN (opF σ) 0 k))), (0, .ref (μ 0))]) hx hb dX6_bestPass_23 hl (by decide) rfl (fun ls hl => ?_)
        refine lv_iload_n hx hb dX6_bestPass_25 rfl (lv_at hl 1 rfl) ?_
        refine ktopi (y := nI ((0 + 1) * (k + 1))) (by rw [Nat.zero_add, Nat.one_mul]) ?_
        refine lv_istore (lv' := [(5, .int (nI ((0 + 1) * (k + 1)))), (4, .int (nI (zcnt (flipP σ (k + 1) (0 + 1)) 48))), (3, .int (nI (k + 1))), (2, .int (nI (bstV (opF σ) k))), (1, .int (nI (bstN (opF σ) 0 k))), (0, .ref (μ 0))]) hx hb dX6_bestPass_26 hl (by decide) rfl (fun ls hl => ?_)
        have hq : 48 / (k + 1) ≤ 48 := Nat.div_le_self _ _
        have LP_6 : ∀ (fu : Nat) (j : Nat) (h2 : j ≤ 48 / (k + 1)) (H : Heap) (locs : List Loc) (ls : Array Slot), 50 - j < fu → kW g A s [cM μ iK kn ln 0 sp bg fm le fi se re ca, xI g (μ 1) 288 (enc σ)] H locs → lv_has ls 6 [(5, .int (nI ((j + 1) * (k + 1)))), (4, .int (nI (zcnt (flipP σ (k + 1) (j + 1)) 48))), (3, .int (nI (k + 1))), (2, .int (nI (bstV (opF σ) k))), (1, .int (nI (bstN (opF σ) 0 k))), (0, .ref (μ 0))] → W p l e rmX6_bestPass s m args below meth c H locs 0 0 Q (F0 m 28 ls []) := by
          intro fu
          induction fu with
          | zero => intro j h2 H locs ls hlt; omega
          | succ fu ih_6 =>
            intro j h2 H locs ls hlt w hl
            have hb1 : (j + 1) * (k + 1) ≤ 49 * 48 := Nat.mul_le_mul (by omega) hk.2
            have hcl := zcnt_le (flipP σ (k + 1) (j + 1)) 48
            have hvl := bstV_le (opF σ) k
            have hnl := bstN_le (opF σ) k
            refine lv_iload hx hb dX6_bestPass_28 (lv_at hl 0 rfl) ?_
            refine lv_bipush (v := nI 48) hx hb dX6_bestPass_30 (by decide) ?_
            refine lv_icmp_gt (tgt := 81) hx hb dX6_bestPass_32 (by decide) (fun h_7 => ?_) (fun h_7 => ?_)
            · have h_7 : (j + 1) * (k + 1) > 48 := (kc_gt_t (by omega) (by omega)).mp h_7
              have hj : ¬ j + 1 ≤ 48 / (k + 1) := fun hc => by have := mul_in hk.1 hc; omega
              have e_8 : j = 48 / (k + 1) := by omega
              subst e_8
              rw [show zcnt (flipP σ (k + 1) (48 / (k + 1) + 1)) 48 = opF σ (k + 1) from flipP_e hk.1] at hl hcl
              refine lv_iload hx hb dX6_bestPass_81 (lv_at hl 1 rfl) ?_
              refine lv_iload_n hx hb dX6_bestPass_83 rfl (lv_at hl 3 rfl) ?_
              refine lv_icmp_ge (tgt := 91) hx hb dX6_bestPass_84 (by decide) (fun h_9 => ?_) (fun h_9 => ?_)
              · have h_9 : opF σ (k + 1) ≥ bstV (opF σ) k := (kc_ge_t (by omega) (by omega)).mp h_9
                refine lv_iload_n hx hb dX6_bestPass_91 rfl (lv_at hl 4 rfl) ?_
                refine ktopi (y := nI (bstN (opF σ) 0 (k + 1))) (by rw [bstN_f (by omega)]) ?_
                refine lv_istore_n (lv' := [(1, .int (nI (bstN (opF σ) 0 (k + 1)))), (5, .int (nI (((48 / (k + 1)) + 1) * (k + 1)))), (4, .int (nI (opF σ (k + 1)))), (3, .int (nI (k + 1))), (2, .int (nI (bstV (opF σ) k))), (0, .ref (μ 0))]) hx hb dX6_bestPass_92 rfl hl (by decide) rfl (fun ls hl => ?_)
                refine lv_iload hx hb dX6_bestPass_93 (lv_at hl 2 rfl) ?_
                refine lv_iload_n hx hb dX6_bestPass_95 rfl (lv_at hl 4 rfl) ?_
                refine lv_icmp_ge (tgt := 104) hx hb dX6_bestPass_96 (by decide) (fun h_10 => ?_) (fun h_10 => ?_)
                · have h_10 : opF σ (k + 1) ≥ bstV (opF σ) k := (kc_ge_t (by omega) (by omega)).mp h_10
                  refine lv_iload_n hx hb dX6_bestPass_104 rfl (lv_at hl 4 rfl) ?_
                  refine ktopi (y := nI (bstV (opF σ) (k + 1))) (by rw [bstV_f (by omega)]) ?_
                  refine lv_istore_n (lv' := [(2, .int (nI (bstV (opF σ) (k + 1)))), (1, .int (nI (bstN (opF σ) 0 (k + 1)))), (5, .int (nI (((48 / (k + 1)) + 1) * (k + 1)))), (4, .int (nI (opF σ (k + 1)))), (3, .int (nI (k + 1))), (0, .ref (μ 0))]) hx hb dX6_bestPass_105 rfl hl (by decide) rfl (fun ls hl => ?_)
                  refine lv_iinc (v := nI (k + 1 + 1)) (lv' := [(3, .int (nI (k + 1 + 1))), (2, .int (nI (bstV (opF σ) (k + 1)))), (1, .int (nI (bstN (opF σ) 0 (k + 1)))), (5, .int (nI (((48 / (k + 1)) + 1) * (k + 1)))), (4, .int (nI (opF σ (k + 1)))), (0, .ref (μ 0))]) hx hb dX6_bestPass_106 hl (k := 4) rfl (nI_add (k + 1) 1) (by decide) rfl (fun ls hl => ?_)
                  refine lv_goto (tgt := 12) hx hb dX6_bestPass_109 (by decide) ?_
                  exact ih_1 (k + 1) (by omega) _ _ _ (by omega) (kW.perm w [0, 1] rfl rfl) (lv_sub hl [0, 1, 2, 5] rfl)
                · have h_10 : opF σ (k + 1) < bstV (opF σ) k := (kc_ge_f (by omega) (by omega)).mp h_10
                  omega
              · have h_9 : opF σ (k + 1) < bstV (opF σ) k := (kc_ge_f (by omega) (by omega)).mp h_9
                refine lv_iload_n hx hb dX6_bestPass_87 rfl (lv_at hl 2 rfl) ?_
                refine lv_goto (tgt := 92) hx hb dX6_bestPass_88 (by decide) ?_
                refine ktopi (y := nI (bstN (opF σ) 0 (k + 1))) (by rw [bstN_t h_9]) ?_
                refine lv_istore_n (lv' := [(1, .int (nI (bstN (opF σ) 0 (k + 1)))), (5, .int (nI (((48 / (k + 1)) + 1) * (k + 1)))), (4, .int (nI (opF σ (k + 1)))), (3, .int (nI (k + 1))), (2, .int (nI (bstV (opF σ) k))), (0, .ref (μ 0))]) hx hb dX6_bestPass_92 rfl hl (by decide) rfl (fun ls hl => ?_)
                refine lv_iload hx hb dX6_bestPass_93 (lv_at hl 2 rfl) ?_
                refine lv_iload_n hx hb dX6_bestPass_95 rfl (lv_at hl 4 rfl) ?_
                refine lv_icmp_ge (tgt := 104) hx hb dX6_bestPass_96 (by decide) (fun h_11 => ?_) (fun h_11 => ?_)
                · have h_11 : opF σ (k + 1) ≥ bstV (opF σ) k := (kc_ge_t (by omega) (by omega)).mp h_11
                  omega
                · have h_11 : opF σ (k + 1) < bstV (opF σ) k := (kc_ge_f (by omega) (by omega)).mp h_11
                  refine lv_iload hx hb dX6_bestPass_99 (lv_at hl 2 rfl) ?_
                  refine lv_goto (tgt := 105) hx hb dX6_bestPass_101 (by decide) ?_
                  refine ktopi (y := nI (bstV (opF σ) (k + 1))) (by rw [bstV_t h_9]) ?_
                  refine lv_istore_n (lv' := [(2, .int (nI (bstV (opF σ) (k + 1)))), (1, .int (nI (bstN (opF σ) 0 (k + 1)))), (5, .int (nI (((48 / (k + 1)) + 1) * (k + 1)))), (4, .int (nI (opF σ (k + 1)))), (3, .int (nI (k + 1))), (0, .ref (μ 0))]) hx hb dX6_bestPass_105 rfl hl (by decide) rfl (fun ls hl => ?_)
                  refine lv_iinc (v := nI (k + 1 + 1)) (lv' := [(3, .int (nI (k + 1 + 1))), (2, .int (nI (bstV (opF σ) (k + 1)))), (1, .int (nI (bstN (opF σ) 0 (k + 1)))), (5, .int (nI (((48 / (k + 1)) + 1) * (k + 1)))), (4, .int (nI (opF σ (k + 1)))), (0, .ref (μ 0))]) hx hb dX6_bestPass_106 hl (k := 4) rfl (nI_add (k + 1) 1) (by decide) rfl (fun ls hl => ?_)
                  refine lv_goto (tgt := 12) hx hb dX6_bestPass_109 (by decide) ?_
                  exact ih_1 (k + 1) (by omega) _ _ _ (by omega) (kW.perm w [0, 1] rfl rfl) (lv_sub hl [0, 1, 2, 5] rfl)
            · have h_7 : (j + 1) * (k + 1) ≤ 48 := (kc_gt_f (by omega) (by omega)).mp h_7
              have hj : j + 1 ≤ 48 / (k + 1) := (Nat.le_div_iff_mul_le hk.1).mpr h_7
              have hj1 : 1 ≤ (j + 1) * (k + 1) := Nat.mul_pos (by omega) hk.1
              refine lv_iload hx hb dX6_bestPass_35 (lv_at hl 1 rfl) ?_
              refine lv_aload_n hx hb dX6_bestPass_37 rfl (lv_at hl 5 rfl) ?_
              refine lv_iload hx hb dX6_bestPass_38 (lv_at hl 0 rfl) ?_
              refine lv_bipush (v := nI 48) hx hb dX6_bestPass_40 (by decide) ?_
              refine kcalli (wc := [cM μ iK kn ln 0 sp bg fm le fi se re ca, xI g (μ 1) 288 (enc σ)]) (wr := []) (wn := fun (u : Unit) => [cM μ iK kn ln 0 sp bg fm le fi se re ca, xI g (μ 1) 288 (enc σ)]) F w [0, 1] [] [0, 1] rfl rfl rfl (fun _ => rfl)
                (fun hp => va_runV (As := [.int (nI ((j + 1) * (k + 1))), .int (nI 48)]) (rest := [.int (nI (zcnt (flipP σ (k + 1) (j + 1)) 48))]) F.1 (kX6_of l g μ iK kn ln 0 sp bg fm le fi se re ca (enc σ) ((j + 1) * (k + 1)) 48 H.size (⟨hj1, h_7, by omega⟩)) (cwV 2 hts gX6_bestPass_X6_of rfl rfl rfl ⟨rfl, hd_X6_of⟩ ⟨Nat.le_of_ble_eq_true rfl, Nat.le_of_ble_eq_true rfl⟩) ⟨hp.1, va_recv F.2.2.2.1.1 w.1 (q0 := 0) (ci := 6) rfl rfl, hp.2⟩ rfl rfl hl.1 rfl (lv_room (Nat.le_of_ble_eq_true rfl)) dX6_bestPass_42 ⟨Nat.le_of_ble_eq_true rfl, Nat.le_of_ble_eq_true rfl⟩)
                (fun r_12 _ H locs h_13 w => ?_)
              subst h_13
              refine ktopi (y := bI (zL σ ((j + 1) * (k + 1)))) (enc_L hj1 h_7) ?_
              refine lv_iconst (v := nI 1) hx hb dX6_bestPass_45 (by decide) ?_
              refine lv_icmp_ne (tgt := 53) hx hb dX6_bestPass_46 (by decide) (fun h_14 => ?_) (fun h_14 => ?_)
              · have h_14 : (zL σ ((j + 1) * (k + 1))) = false := bI_n1.mp h_14
                refine lv_aload_n hx hb dX6_bestPass_53 rfl (lv_at hl 5 rfl) ?_
                refine lv_iload hx hb dX6_bestPass_54 (lv_at hl 0 rfl) ?_
                refine lv_iconst (v := nI 0) hx hb dX6_bestPass_56 (by decide) ?_
                refine kcalli (wc := [cM μ iK kn ln 0 sp bg fm le fi se re ca, xI g (μ 1) 288 (enc σ)]) (wr := []) (wn := fun (u : Unit) => [cM μ iK kn ln 0 sp bg fm le fi se re ca, xI g (μ 1) 288 (enc σ)]) F w [0, 1] [] [0, 1] rfl rfl rfl (fun _ => rfl)
                  (fun hp => va_runV (As := [.int (nI ((j + 1) * (k + 1))), .int (nI 0)]) (rest := [.int (nI (zcnt (flipP σ (k + 1) (j + 1)) 48))]) F.1 (kX6_of l g μ iK kn ln 0 sp bg fm le fi se re ca (enc σ) ((j + 1) * (k + 1)) 0 H.size (⟨hj1, h_7, by omega⟩)) (cwV 2 hts gX6_bestPass_X6_of rfl rfl rfl ⟨rfl, hd_X6_of⟩ ⟨Nat.le_of_ble_eq_true rfl, Nat.le_of_ble_eq_true rfl⟩) ⟨hp.1, va_recv F.2.2.2.1.1 w.1 (q0 := 0) (ci := 6) rfl rfl, hp.2⟩ rfl rfl hl.1 rfl (lv_room (Nat.le_of_ble_eq_true rfl)) dX6_bestPass_57 ⟨Nat.le_of_ble_eq_true rfl, Nat.le_of_ble_eq_true rfl⟩)
                  (fun r_15 _ H locs h_16 w => ?_)
                subst h_16
                refine ktopi (y := bI (zO σ ((j + 1) * (k + 1)))) (enc_O hj1 h_7) ?_
                refine lv_iconst (v := nI 1) hx hb dX6_bestPass_60 (by decide) ?_
                refine lv_icmp_ne (tgt := 68) hx hb dX6_bestPass_61 (by decide) (fun h_17 => ?_) (fun h_17 => ?_)
                · have h_17 : (zO σ ((j + 1) * (k + 1))) = false := bI_n1.mp h_17
                  refine lv_iconst (v := nI 1) hx hb dX6_bestPass_68 (by decide) ?_
                  refine lv_iadd hx hb dX6_bestPass_69 ?_
                  refine ktopi (y := nI (zcnt (flipP σ (k + 1) (j + 1 + 1)) 48)) (flipP_c hk.1 hj hj1 h_7 h_14 h_17) ?_
                  refine lv_istore (lv' := [(4, .int (nI (zcnt (flipP σ (k + 1) (j + 1 + 1)) 48))), (5, .int (nI ((j + 1) * (k + 1)))), (3, .int (nI (k + 1))), (2, .int (nI (bstV (opF σ) k))), (1, .int (nI (bstN (opF σ) 0 k))), (0, .ref (μ 0))]) hx hb dX6_bestPass_70 hl (by decide) rfl (fun ls hl => ?_)
                  refine lv_iload hx hb dX6_bestPass_72 (lv_at hl 1 rfl) ?_
                  refine lv_iload_n hx hb dX6_bestPass_74 rfl (lv_at hl 2 rfl) ?_
                  refine lv_iadd hx hb dX6_bestPass_75 ?_
                  refine ktopi (y := nI ((j + 1) * (k + 1) + k + 1)) (nI_add ((j + 1) * (k + 1)) (k + 1)) ?_
                  refine ktopi (y := nI ((j + 1 + 1) * (k + 1))) (congrArg nI (Nat.succ_mul (j + 1) (k + 1)).symm) ?_
                  refine lv_istore (lv' := [(5, .int (nI ((j + 1 + 1) * (k + 1)))), (4, .int (nI (zcnt (flipP σ (k + 1) (j + 1 + 1)) 48))), (3, .int (nI (k + 1))), (2, .int (nI (bstV (opF σ) k))), (1, .int (nI (bstN (opF σ) 0 k))), (0, .ref (μ 0))]) hx hb dX6_bestPass_76 hl (by decide) rfl (fun ls hl => ?_)
                  refine lv_goto (tgt := 28) hx hb dX6_bestPass_78 (by decide) ?_
                  exact ih_6 (j + 1) (by omega) _ _ _ (by omega) (kW.perm w [0, 1] rfl rfl) (lv_sub hl [0, 1, 2, 3, 4, 5] rfl)
                · have h_17 : (zO σ ((j + 1) * (k + 1))) = true := bI_1.mp h_17
                  refine lv_iconst (v := (-1)) hx hb dX6_bestPass_64 (by decide) ?_
                  refine lv_goto (tgt := 69) hx hb dX6_bestPass_65 (by decide) ?_
                  refine lv_iadd hx hb dX6_bestPass_69 ?_
                  refine ktopi (y := nI (zcnt (flipP σ (k + 1) (j + 1 + 1)) 48)) (flipP_o hk.1 hj hj1 h_7 h_14 h_17) ?_
                  refine lv_istore (lv' := [(4, .int (nI (zcnt (flipP σ (k + 1) (j + 1 + 1)) 48))), (5, .int (nI ((j + 1) * (k + 1)))), (3, .int (nI (k + 1))), (2, .int (nI (bstV (opF σ) k))), (1, .int (nI (bstN (opF σ) 0 k))), (0, .ref (μ 0))]) hx hb dX6_bestPass_70 hl (by decide) rfl (fun ls hl => ?_)
                  refine lv_iload hx hb dX6_bestPass_72 (lv_at hl 1 rfl) ?_
                  refine lv_iload_n hx hb dX6_bestPass_74 rfl (lv_at hl 2 rfl) ?_
                  refine lv_iadd hx hb dX6_bestPass_75 ?_
                  refine ktopi (y := nI ((j + 1) * (k + 1) + k + 1)) (nI_add ((j + 1) * (k + 1)) (k + 1)) ?_
                  refine ktopi (y := nI ((j + 1 + 1) * (k + 1))) (congrArg nI (Nat.succ_mul (j + 1) (k + 1)).symm) ?_
                  refine lv_istore (lv' := [(5, .int (nI ((j + 1 + 1) * (k + 1)))), (4, .int (nI (zcnt (flipP σ (k + 1) (j + 1 + 1)) 48))), (3, .int (nI (k + 1))), (2, .int (nI (bstV (opF σ) k))), (1, .int (nI (bstN (opF σ) 0 k))), (0, .ref (μ 0))]) hx hb dX6_bestPass_76 hl (by decide) rfl (fun ls hl => ?_)
                  refine lv_goto (tgt := 28) hx hb dX6_bestPass_78 (by decide) ?_
                  exact ih_6 (j + 1) (by omega) _ _ _ (by omega) (kW.perm w [0, 1] rfl rfl) (lv_sub hl [0, 1, 2, 3, 4, 5] rfl)
              · have h_14 : (zL σ ((j + 1) * (k + 1))) = true := bI_1.mp h_14
                refine lv_iconst (v := nI 0) hx hb dX6_bestPass_49 (by decide) ?_
                refine lv_goto (tgt := 69) hx hb dX6_bestPass_50 (by decide) ?_
                refine lv_iadd hx hb dX6_bestPass_69 ?_
                refine ktopi (y := nI (zcnt (flipP σ (k + 1) (j + 1 + 1)) 48)) (by rw [flipP_l hk.1 hj hj1 h_7 h_14]; show nI _ + nI 0 = _; rw [nI_add, Nat.add_zero]) ?_
                refine lv_istore (lv' := [(4, .int (nI (zcnt (flipP σ (k + 1) (j + 1 + 1)) 48))), (5, .int (nI ((j + 1) * (k + 1)))), (3, .int (nI (k + 1))), (2, .int (nI (bstV (opF σ) k))), (1, .int (nI (bstN (opF σ) 0 k))), (0, .ref (μ 0))]) hx hb dX6_bestPass_70 hl (by decide) rfl (fun ls hl => ?_)
                refine lv_iload hx hb dX6_bestPass_72 (lv_at hl 1 rfl) ?_
                refine lv_iload_n hx hb dX6_bestPass_74 rfl (lv_at hl 2 rfl) ?_
                refine lv_iadd hx hb dX6_bestPass_75 ?_
                refine ktopi (y := nI ((j + 1) * (k + 1) + k + 1)) (nI_add ((j + 1) * (k + 1)) (k + 1)) ?_
                refine ktopi (y := nI ((j + 1 + 1) * (k + 1))) (congrArg nI (Nat.succ_mul (j + 1) (k + 1)).symm) ?_
                refine lv_istore (lv' := [(5, .int (nI ((j + 1 + 1) * (k + 1)))), (4, .int (nI (zcnt (flipP σ (k + 1) (j + 1 + 1)) 48))), (3, .int (nI (k + 1))), (2, .int (nI (bstV (opF σ) k))), (1, .int (nI (bstN (opF σ) 0 k))), (0, .ref (μ 0))]) hx hb dX6_bestPass_76 hl (by decide) rfl (fun ls hl => ?_)
                refine lv_goto (tgt := 28) hx hb dX6_bestPass_78 (by decide) ?_
                exact ih_6 (j + 1) (by omega) _ _ _ (by omega) (kW.perm w [0, 1] rfl rfl) (lv_sub hl [0, 1, 2, 3, 4, 5] rfl)
        exact LP_6 _ 0 (Nat.zero_le _) _ _ _ (Nat.lt_succ_self _) (kW.perm w [0, 1] rfl rfl) (lv_sub hl [0, 1, 2, 3, 4, 5] rfl)
  exact LP_1 _ 0 (by omega) _ _ _ (Nat.lt_succ_self _) (kW.perm w [0, 1] rfl rfl) (lv_sub hl [0, 1, 2, 3] rfl)
