/-! ===== bits counted ===== -/
def pc1 (x : Int64) : Int64 := x - ((x.toUInt64 >>> ((nI 1).toInt64.toUInt64 &&& Int64.toUInt64 63)).toInt64 &&& 6148914691236517205)
def pc2 (x : Int64) : Int64 := (x &&& 3689348814741910323) + ((x.toUInt64 >>> ((nI 2).toInt64.toUInt64 &&& Int64.toUInt64 63)).toInt64 &&& 3689348814741910323)
def pc3 (x : Int64) : Int64 := (x + (x.toUInt64 >>> ((nI 4).toInt64.toUInt64 &&& Int64.toUInt64 63)).toInt64) &&& 1085102592571150095
def pc4 (x : Int64) : Int64 := x + (x.toUInt64 >>> ((nI 8).toInt64.toUInt64 &&& Int64.toUInt64 63)).toInt64
def pc5 (x : Int64) : Int64 := x + (x.toUInt64 >>> ((nI 16).toInt64.toUInt64 &&& Int64.toUInt64 63)).toInt64
def pc6 (x : Int64) : Int64 := x + (x.toUInt64 >>> ((nI 32).toInt64.toUInt64 &&& Int64.toUInt64 63)).toInt64
def zpop (x : Int64) : Int32 := (pc6 (pc5 (pc4 (pc3 (pc2 (pc1 x)))))).toInt32 &&& nI 127
/-! bits counted by halves (the machine's way) -/
def sp_e : List Nat → Nat
  | [] => 0
  | b :: t => b + 256 * sp_e t
def sp_m (c : Nat) : List Nat → Nat
  | [] => 0
  | _ :: t => c + 256 * sp_m c t
def sp_b (m : Nat) : List Nat → Prop
  | [] => True
  | b :: t => b < m ∧ sp_b m t
theorem sp_and {a c : Nat} (u v : Nat) (ha : a < 256) (hc : c < 256) : (a + 256 * u) &&& (c + 256 * v) = (a &&& c) + 256 * (u &&& v) := by
  have h1 := Nat.and_mod_two_pow (a := a + 256 * u) (b := c + 256 * v) (n := 8)
  have h2 := Nat.and_div_two_pow (a := a + 256 * u) (b := c + 256 * v) (n := 8)
  have e1 : (a + 256 * u) % 2 ^ 8 = a := by omega
  have e2 : (c + 256 * v) % 2 ^ 8 = c := by omega
  have e3 : (a + 256 * u) / 2 ^ 8 = u := by omega
  have e4 : (c + 256 * v) / 2 ^ 8 = v := by omega
  rw [e1, e2] at h1
  rw [e3, e4] at h2
  rw [← h1, ← h2]
  omega
def sp_1 (b : Nat) : Nat := b - (b / 2 &&& 85)
def sp_2 (b : Nat) : Nat := (b &&& 51) + (b / 4 &&& 51)
def sp_3 (b : Nat) : Nat := (b + b / 16) &&& 15
theorem sp_d1 : ∀ b, b < 256 → ∀ t, t < 2 → ((b / 2 + 128 * t) &&& 85) = (b / 2 &&& 85) := by decide +kernel
theorem sp_d2 : ∀ b, b < 256 → ∀ t, t < 4 → ((b / 4 + 64 * t) &&& 51) = (b / 4 &&& 51) := by decide +kernel
theorem sp_d3 : ∀ b, b < 256 → ∀ t, t < 5 → b / 16 < 5 → b % 16 < 5 → ((b + (b / 16 + 16 * t)) &&& 15) = ((b + b / 16) &&& 15) := by decide +kernel
theorem sp_l1 : ∀ bs, sp_b 256 bs → sp_e bs - ((sp_e bs / 2) &&& sp_m 85 bs) = sp_e (bs.map sp_1)
  | [], _ => rfl
  | b :: t, h => by
    have ih := sp_l1 t h.2
    have hb := h.1
    show (b + 256 * sp_e t) - (((b + 256 * sp_e t) / 2) &&& (85 + 256 * sp_m 85 t)) = sp_1 b + 256 * sp_e (t.map sp_1)
    have e1 : (b + 256 * sp_e t) / 2 = (b / 2 + 128 * (sp_e t % 2)) + 256 * (sp_e t / 2) := by omega
    have h2 : (b / 2 &&& 85) ≤ b / 2 := Nat.and_le_left
    have h3 : (sp_e t / 2 &&& sp_m 85 t) ≤ sp_e t / 2 := Nat.and_le_left
    rw [e1, sp_and _ _ (by omega) (by omega), sp_d1 b hb _ (by omega), ← ih]
    unfold sp_1
    omega
theorem sp_l2 : ∀ bs, sp_b 256 bs → (sp_e bs &&& sp_m 51 bs) + ((sp_e bs / 4) &&& sp_m 51 bs) = sp_e (bs.map sp_2)
  | [], _ => rfl
  | b :: t, h => by
    have ih := sp_l2 t h.2
    have hb := h.1
    show ((b + 256 * sp_e t) &&& (51 + 256 * sp_m 51 t)) + (((b + 256 * sp_e t) / 4) &&& (51 + 256 * sp_m 51 t)) = sp_2 b + 256 * sp_e (t.map sp_2)
    have e1 : (b + 256 * sp_e t) / 4 = (b / 4 + 64 * (sp_e t % 4)) + 256 * (sp_e t / 4) := by omega
    rw [e1, sp_and _ _ hb (by omega), sp_and _ _ (by omega) (by omega), sp_d2 b hb _ (by omega), ← ih]
    unfold sp_2
    omega
def sp_q : List Nat → Prop
  | [] => True
  | b :: t => (b < 256 ∧ b / 16 < 5 ∧ b % 16 < 5) ∧ sp_q t
theorem sp_q16 : ∀ bs, sp_q bs → sp_e bs % 16 < 5
  | [], _ => by decide
  | b :: t, h => by
    have h1 := h.1
    show (b + 256 * sp_e t) % 16 < 5
    omega
theorem sp_l3 : ∀ bs, sp_q bs → (sp_e bs + sp_e bs / 16) &&& sp_m 15 bs = sp_e (bs.map sp_3)
  | [], _ => rfl
  | b :: t, h => by
    have ih := sp_l3 t h.2
    have hb := h.1
    have hq := sp_q16 t h.2
    show ((b + 256 * sp_e t) + (b + 256 * sp_e t) / 16) &&& (15 + 256 * sp_m 15 t) = sp_3 b + 256 * sp_e (t.map sp_3)
    have e1 : (b + 256 * sp_e t) + (b + 256 * sp_e t) / 16 = (b + (b / 16 + 16 * (sp_e t % 16))) + 256 * (sp_e t + sp_e t / 16) := by omega
    rw [e1, sp_and _ _ (by omega) (by omega), sp_d3 b hb.1 _ hq hb.2.1 hb.2.2, ← ih]
    rfl
theorem sp_r1 : ∀ b, b < 256 → sp_1 b < 256 := by decide +kernel
theorem sp_r2 : ∀ b, b < 256 → sp_2 (sp_1 b) < 256 ∧ sp_2 (sp_1 b) / 16 < 5 ∧ sp_2 (sp_1 b) % 16 < 5 := by decide +kernel
def sp_n (b : Nat) : Nat := b % 2 + b / 2 % 2 + b / 4 % 2 + b / 8 % 2 + b / 16 % 2 + b / 32 % 2 + b / 64 % 2 + b / 128 % 2
theorem sp_r3 : ∀ b, b < 256 → sp_3 (sp_2 (sp_1 b)) = sp_n b := by decide +kernel
theorem sp_8 : ∀ b, sp_n b ≤ 8 := fun b => by unfold sp_n; omega
theorem sp_lt : ∀ bs, sp_b 256 bs → sp_e bs < 256 ^ bs.length
  | [], _ => by decide
  | b :: t, h => by
    have ih := sp_lt t h.2
    have hb := h.1
    show b + 256 * sp_e t < 256 ^ (t.length + 1)
    rw [Nat.pow_succ]
    omega
theorem sp_m8 (k a b c d e f g h : Nat) : sp_m k [a, b, c, d, e, f, g, h] = k + 256 * (k + 256 * (k + 256 * (k + 256 * (k + 256 * (k + 256 * (k + 256 * (k + 256 * 0))))))) := rfl
theorem sp_c1 : (6148914691236517205 : Int64) = lN 6148914691236517205 := by decide +kernel
theorem sp_c2 : (3689348814741910323 : Int64) = lN 3689348814741910323 := by decide +kernel
theorem sp_c3 : (1085102592571150095 : Int64) = lN 1085102592571150095 := by decide +kernel
theorem ln_sub {a b : Nat} (ha : a < 2 ^ 64) (h : b ≤ a) : lN a - lN b = lN (a - b) := by
  apply wb_inj
  rw [Int64.toBitVec_sub, wb_tb, wb_tb, wb_tb]
  apply BitVec.eq_of_toNat_eq
  rw [BitVec.toNat_sub, BitVec.toNat_ofNat, BitVec.toNat_ofNat, BitVec.toNat_ofNat]
  omega
theorem ln_add (a b : Nat) : lN a + lN b = lN (a + b) := by
  apply wb_inj
  rw [Int64.toBitVec_add, wb_tb, wb_tb, wb_tb]
  apply BitVec.eq_of_toNat_eq
  rw [BitVec.toNat_add, BitVec.toNat_ofNat, BitVec.toNat_ofNat, BitVec.toNat_ofNat]
  omega
theorem ln_127 {n : Nat} (h : n < 2 ^ 64) : (lN n).toInt32 &&& nI 127 = nI (n % 128) := by
  apply Int32.toBitVec_inj.mp
  rw [Int32.toBitVec_and, Int64.toBitVec_toInt32, wb_tb, BitVec.signExtend_eq_setWidth_of_le _ (by decide)]
  show BitVec.setWidth 32 (BitVec.ofNat 64 n) &&& BitVec.ofNat 32 127 = BitVec.ofNat 32 (n % 128)
  apply BitVec.eq_of_toNat_eq
  rw [BitVec.toNat_and, BitVec.toNat_setWidth, BitVec.toNat_ofNat, BitVec.toNat_ofNat, BitVec.toNat_ofNat, Nat.mod_eq_of_lt h, show 127 % 2 ^ 32 = 2 ^ 7 - 1 from by decide, Nat.and_two_pow_sub_one_eq_mod]
  omega
def sp_L (n : Nat) : List Nat := [n % 256, n / 256 % 256, n / 65536 % 256, n / 16777216 % 256, n / 4294967296 % 256, n / 1099511627776 % 256, n / 281474976710656 % 256, n / 72057594037927936 % 256]
theorem sp_eL {n : Nat} (h : n < 2 ^ 64) : sp_e (sp_L n) = n := by
  show n % 256 + 256 * (n / 256 % 256 + 256 * (n / 65536 % 256 + 256 * (n / 16777216 % 256 + 256 * (n / 4294967296 % 256 + 256 * (n / 1099511627776 % 256 + 256 * (n / 281474976710656 % 256 + 256 * (n / 72057594037927936 % 256 + 256 * 0))))))) = n
  omega
theorem sp_bL (n : Nat) : sp_b 256 (sp_L n) := by
  refine ⟨?_, ?_, ?_, ?_, ?_, ?_, ?_, ?_, trivial⟩ <;> exact Nat.mod_lt _ (by decide)
theorem sp_bm : ∀ bs, sp_b 256 bs → sp_b 256 (bs.map sp_1)
  | [], _ => trivial
  | b :: t, h => ⟨sp_r1 b h.1, sp_bm t h.2⟩
theorem sp_qm : ∀ bs, sp_b 256 bs → sp_q ((bs.map sp_1).map sp_2)
  | [], _ => trivial
  | b :: t, h => ⟨sp_r2 b h.1, sp_qm t h.2⟩
theorem sp_nm : ∀ bs, sp_b 256 bs → ((bs.map sp_1).map sp_2).map sp_3 = bs.map sp_n
  | [], _ => rfl
  | b :: t, h => by
    show sp_3 (sp_2 (sp_1 b)) :: ((t.map sp_1).map sp_2).map sp_3 = sp_n b :: t.map sp_n
    rw [sp_r3 b h.1, sp_nm t h.2]
theorem sp_qb : ∀ bs, sp_q bs → sp_b 256 bs
  | [], _ => trivial
  | _ :: t, h => ⟨h.1.1, sp_qb t h.2⟩
theorem sp_v1 {A R : Nat} (h : A < 256) : (A + 256 * R) / 256 = R := by omega
theorem sp_v2 {A R : Nat} (h : A < 65536) : (A + 65536 * R) / 65536 = R := by omega
theorem sp_v4 {A R : Nat} (h : A < 4294967296) : (A + 4294967296 * R) / 4294967296 = R := by omega
theorem sp_y (a b c d e f g h : Nat) : (a + 256 * (b + 256 * (c + 256 * (d + 256 * (e + 256 * (f + 256 * (g + 256 * h))))))) + (b + 256 * (c + 256 * (d + 256 * (e + 256 * (f + 256 * (g + 256 * h)))))) = ((a + b) + 256 * (b + c)) + 65536 * ((c + d) + 256 * ((d + e) + 256 * ((e + f) + 256 * ((f + g) + 256 * ((g + h) + 256 * h))))) := by omega
theorem sp_z (a b c d e f g h : Nat) : (((a + b) + 256 * (b + c)) + 65536 * ((c + d) + 256 * ((d + e) + 256 * ((e + f) + 256 * ((f + g) + 256 * ((g + h) + 256 * h)))))) + ((c + d) + 256 * ((d + e) + 256 * ((e + f) + 256 * ((f + g) + 256 * ((g + h) + 256 * h))))) = ((a + b + c + d) + 256 * ((b + c + d + e) + 256 * ((c + d + e + f) + 256 * (d + e + f + g)))) + 4294967296 * ((e + f + g + h) + 256 * ((f + g + h) + 256 * ((g + h) + 256 * h))) := by omega
theorem sp_w (a b c d e f g h : Nat) (ha : a ≤ 8) (hb : b ≤ 8) (hc : c ≤ 8) (hd : d ≤ 8) (he : e ≤ 8) (hf : f ≤ 8) (hg : g ≤ 8) (hh : h ≤ 8) (w : Nat)
    (hw : w = (((a + b + c + d) + 256 * ((b + c + d + e) + 256 * ((c + d + e + f) + 256 * (d + e + f + g)))) + 4294967296 * ((e + f + g + h) + 256 * ((f + g + h) + 256 * ((g + h) + 256 * h)))) + ((e + f + g + h) + 256 * ((f + g + h) + 256 * ((g + h) + 256 * h)))) : w < 2 ^ 64 ∧ w % 128 = a + b + c + d + e + f + g + h := by
  constructor <;> omega
theorem sp_sum (a b c d e f g h : Nat) (ha : a ≤ 8) (hb : b ≤ 8) (hc : c ≤ 8) (hd : d ≤ 8) (he : e ≤ 8) (hf : f ≤ 8) (hg : g ≤ 8) (hh : h ≤ 8) (x y z w : Nat)
    (hx : x = a + 256 * (b + 256 * (c + 256 * (d + 256 * (e + 256 * (f + 256 * (g + 256 * h)))))))
    (hy : y = x + x / 256) (hz : z = y + y / 65536) (hw : w = z + z / 4294967296) : w < 2 ^ 64 ∧ w % 128 = a + b + c + d + e + f + g + h := by
  have h1 : a < 256 := by omega
  have h2 : (a + b) + 256 * (b + c) < 65536 := by clear hx hy hz hw; omega
  have h3 : (a + b + c + d) + 256 * ((b + c + d + e) + 256 * ((c + d + e + f) + 256 * (d + e + f + g))) < 4294967296 := by clear hx hy hz hw; omega
  rw [hx, sp_v1 h1, sp_y] at hy
  rw [hy, sp_v2 h2, sp_z] at hz
  rw [hz, sp_v4 h3] at hw
  exact sp_w a b c d e f g h ha hb hc hd he hf hg hh w hw
theorem sp_b3 (a b c d e f g h : Nat) (ha : a < 256) (hb : b < 256) (hc : c < 256) (hd : d < 256) (he : e < 256) (hf : f < 256) (hg : g < 256) (hh : h < 256) (hh2 : h / 16 < 5) :
    (a + 256 * (b + 256 * (c + 256 * (d + 256 * (e + 256 * (f + 256 * (g + 256 * (h + 256 * 0)))))))) + (a + 256 * (b + 256 * (c + 256 * (d + 256 * (e + 256 * (f + 256 * (g + 256 * (h + 256 * 0)))))))) / 16 < 2 ^ 64 := by omega
theorem zpop_n {n : Nat} (hn : n < 2 ^ 64) : zpop (lN n) = nI (((sp_L n).map sp_n).foldr (fun a b => a + b) 0) := by
  have hb := sp_bL n
  have f5 : sp_m 85 (sp_L n) = 6148914691236517205 := (sp_m8 85 _ _ _ _ _ _ _ _).trans (by decide +kernel)
  have f3 : sp_m 51 ((sp_L n).map sp_1) = 3689348814741910323 := (sp_m8 51 _ _ _ _ _ _ _ _).trans (by decide +kernel)
  have ff : sp_m 15 (((sp_L n).map sp_1).map sp_2) = 1085102592571150095 := (sp_m8 15 _ _ _ _ _ _ _ _).trans (by decide +kernel)
  have l1 := sp_l1 _ hb
  have b1 := sp_bm _ hb
  have l2 := sp_l2 _ b1
  have q2 := sp_qm _ hb
  have l3 := sp_l3 _ q2
  rw [f5] at l1
  rw [f3] at l2
  rw [ff] at l3
  have r1 := sp_lt _ b1
  have r2 := sp_lt _ (sp_qb _ q2)
  rw [show (((sp_L n).map sp_1)).length = 8 from rfl] at r1
  rw [show ((((sp_L n).map sp_1)).map sp_2).length = 8 from rfl] at r2
  have hle : (n / 2 &&& 6148914691236517205) ≤ n / 2 := Nat.and_le_left
  rw [sp_eL hn] at l1
  have s1 : pc1 (lN n) = lN (sp_e ((sp_L n).map sp_1)) := by
    unfold pc1
    rw [wb_shr (k := 1) hn (by decide), sp_c1, wb_and (Nat.lt_of_le_of_lt (Nat.div_le_self _ _) hn) (by decide), ln_sub hn (Nat.le_trans Nat.and_le_left (Nat.div_le_self _ _))]
    exact congrArg lN l1
  have s2 : pc2 (lN (sp_e ((sp_L n).map sp_1))) = lN (sp_e (((sp_L n).map sp_1).map sp_2)) := by
    unfold pc2
    rw [wb_shr (k := 2) (by omega) (by decide), sp_c2, wb_and (by omega) (by decide), wb_and (by omega) (by decide), ln_add, ← l2]
  have s3 : pc3 (lN (sp_e (((sp_L n).map sp_1).map sp_2))) = lN (sp_e ((((sp_L n).map sp_1).map sp_2).map sp_3)) := by
    have hq := q2.2.2.2.2.2.2.2.1
    have hlt : sp_e (((sp_L n).map sp_1).map sp_2) + sp_e (((sp_L n).map sp_1).map sp_2) / 16 < 2 ^ 64 := by
      have q1 := q2.1; have q2' := q2.2.1; have q3 := q2.2.2.1; have q4 := q2.2.2.2.1; have q5 := q2.2.2.2.2.1; have q6 := q2.2.2.2.2.2.1; have q7 := q2.2.2.2.2.2.2.1
      have hd : sp_e (((sp_L n).map sp_1).map sp_2) = sp_2 (sp_1 (n % 256)) + 256 * (sp_2 (sp_1 (n / 256 % 256)) + 256 * (sp_2 (sp_1 (n / 65536 % 256)) + 256 * (sp_2 (sp_1 (n / 16777216 % 256)) + 256 * (sp_2 (sp_1 (n / 4294967296 % 256)) + 256 * (sp_2 (sp_1 (n / 1099511627776 % 256)) + 256 * (sp_2 (sp_1 (n / 281474976710656 % 256)) + 256 * (sp_2 (sp_1 (n / 72057594037927936 % 256)) + 256 * 0))))))) := rfl
      rw [hd]
      exact sp_b3 _ _ _ _ _ _ _ _ q1.1 q2'.1 q3.1 q4.1 q5.1 q6.1 q7.1 hq.1 hq.2.1
    unfold pc3
    rw [wb_shr (k := 4) (by omega) (by decide), ln_add, sp_c3, wb_and hlt (by decide)]
    exact congrArg lN l3
  rw [sp_nm _ hb] at s3
  have hs := sp_sum (sp_n (n % 256)) (sp_n (n / 256 % 256)) (sp_n (n / 65536 % 256)) (sp_n (n / 16777216 % 256)) (sp_n (n / 4294967296 % 256)) (sp_n (n / 1099511627776 % 256)) (sp_n (n / 281474976710656 % 256)) (sp_n (n / 72057594037927936 % 256)) (sp_8 _) (sp_8 _) (sp_8 _) (sp_8 _) (sp_8 _) (sp_8 _) (sp_8 _) (sp_8 _) (sp_e ((sp_L n).map sp_n)) _ _ _ rfl rfl rfl rfl
  have hx : sp_e ((sp_L n).map sp_n) < 2 ^ 64 := by omega
  have e8 : (((sp_L n).map sp_n).foldr (fun a b => a + b) 0) = (sp_n (n % 256)) + (sp_n (n / 256 % 256)) + (sp_n (n / 65536 % 256)) + (sp_n (n / 16777216 % 256)) + (sp_n (n / 4294967296 % 256)) + (sp_n (n / 1099511627776 % 256)) + (sp_n (n / 281474976710656 % 256)) + (sp_n (n / 72057594037927936 % 256)) := by
    show (sp_n (n % 256)) + ((sp_n (n / 256 % 256)) + ((sp_n (n / 65536 % 256)) + ((sp_n (n / 16777216 % 256)) + ((sp_n (n / 4294967296 % 256)) + ((sp_n (n / 1099511627776 % 256)) + ((sp_n (n / 281474976710656 % 256)) + ((sp_n (n / 72057594037927936 % 256)) + 0))))))) = _
    omega
  unfold zpop
  rw [s1, s2, s3]
  unfold pc4 pc5 pc6
  rw [wb_shr (k := 8) hx (by decide), ln_add, wb_shr (k := 16) (by omega) (by decide), ln_add, wb_shr (k := 32) (by omega) (by decide), ln_add, ln_127 hs.1, e8]
  exact congrArg nI hs.2
/-- bits of n, from 0 to j - 1, counted -/
def sp_t (n : Nat) : Nat → Nat
  | 0 => 0
  | j + 1 => sp_t n j + n / 2 ^ j % 2
theorem sp_tn (n : Nat) : ((sp_L n).map sp_n).foldr (fun a b => a + b) 0 = sp_t n 64 := by
  show sp_n (n % 256) + (sp_n (n / 256 % 256) + (sp_n (n / 65536 % 256) + (sp_n (n / 16777216 % 256) + (sp_n (n / 4294967296 % 256) + (sp_n (n / 1099511627776 % 256) + (sp_n (n / 281474976710656 % 256) + (sp_n (n / 72057594037927936 % 256) + 0))))))) = _
  have hp : ∀ m, sp_n (m % 256) = m % 2 + m / 2 % 2 + m / 4 % 2 + m / 8 % 2 + m / 16 % 2 + m / 32 % 2 + m / 64 % 2 + m / 128 % 2 := fun m => by unfold sp_n; omega
  have ht : ∀ j, sp_t n (j + 8) = sp_t n j + sp_n (n / 2 ^ j % 256) := fun j => by
    rw [hp]
    have h1 : n / 2 ^ j / 2 = n / 2 ^ (j + 1) := by rw [Nat.div_div_eq_div_mul, Nat.pow_succ]
    have h2 : n / 2 ^ j / 4 = n / 2 ^ (j + 2) := by rw [Nat.div_div_eq_div_mul, Nat.pow_add]
    have h3 : n / 2 ^ j / 8 = n / 2 ^ (j + 3) := by rw [Nat.div_div_eq_div_mul, Nat.pow_add]
    have h4 : n / 2 ^ j / 16 = n / 2 ^ (j + 4) := by rw [Nat.div_div_eq_div_mul, Nat.pow_add]
    have h5 : n / 2 ^ j / 32 = n / 2 ^ (j + 5) := by rw [Nat.div_div_eq_div_mul, Nat.pow_add]
    have h6 : n / 2 ^ j / 64 = n / 2 ^ (j + 6) := by rw [Nat.div_div_eq_div_mul, Nat.pow_add]
    have h7 : n / 2 ^ j / 128 = n / 2 ^ (j + 7) := by rw [Nat.div_div_eq_div_mul, Nat.pow_add]
    rw [h1, h2, h3, h4, h5, h6, h7]
    show sp_t n j + n / 2 ^ j % 2 + n / 2 ^ (j + 1) % 2 + n / 2 ^ (j + 2) % 2 + n / 2 ^ (j + 3) % 2 + n / 2 ^ (j + 4) % 2 + n / 2 ^ (j + 5) % 2 + n / 2 ^ (j + 6) % 2 + n / 2 ^ (j + 7) % 2 = _
    omega
  have t0 : sp_t n 8 = sp_t n 0 + sp_n (n / 2 ^ 0 % 256) := ht 0
  have t1 : sp_t n 16 = sp_t n 8 + sp_n (n / 2 ^ 8 % 256) := ht 8
  have t2 : sp_t n 24 = sp_t n 16 + sp_n (n / 2 ^ 16 % 256) := ht 16
  have t3 : sp_t n 32 = sp_t n 24 + sp_n (n / 2 ^ 24 % 256) := ht 24
  have t4 : sp_t n 40 = sp_t n 32 + sp_n (n / 2 ^ 32 % 256) := ht 32
  have t5 : sp_t n 48 = sp_t n 40 + sp_n (n / 2 ^ 40 % 256) := ht 40
  have t6 : sp_t n 56 = sp_t n 48 + sp_n (n / 2 ^ 48 % 256) := ht 48
  have t7 : sp_t n 64 = sp_t n 56 + sp_n (n / 2 ^ 56 % 256) := ht 56
  rw [show (2 : Nat) ^ 0 = 1 from rfl, Nat.div_one] at t0
  rw [show (2 : Nat) ^ 8 = 256 from by decide] at t1
  rw [show (2 : Nat) ^ 16 = 65536 from by decide] at t2
  rw [show (2 : Nat) ^ 24 = 16777216 from by decide] at t3
  rw [show (2 : Nat) ^ 32 = 4294967296 from by decide] at t4
  rw [show (2 : Nat) ^ 40 = 1099511627776 from by decide] at t5
  rw [show (2 : Nat) ^ 48 = 281474976710656 from by decide] at t6
  rw [show (2 : Nat) ^ 56 = 72057594037927936 from by decide] at t7
  have z0 : sp_t n 0 = 0 := rfl
  omega
theorem zpop_B (p : Nat → Bool) : zpop (zB p) = nI (zcnt p 48) := by
  obtain ⟨n, hn, he⟩ := wb_of (zB p)
  have hg : ∀ j, n / 2 ^ j % 2 = if (decide (1 ≤ j) && decide (j ≤ 48) && p j) = true then 1 else 0 := fun j => by
    by_cases hj : j < 64
    · have h1 := zG_B p j
      rw [he] at h1
      unfold zG at h1
      rw [wb_tb, BitVec.getLsbD_ofNat, decide_eq_true hj, Bool.true_and, Nat.testBit_eq_decide_div_mod_eq] at h1
      by_cases hc : n / 2 ^ j % 2 = 1
      · rw [if_pos (by rw [← h1, decide_eq_true hc]), hc]
      · rw [if_neg (by rw [← h1, decide_eq_false hc]; decide)]; omega
    · have h1 : n < 2 ^ j := Nat.lt_of_lt_of_le hn (Nat.pow_le_pow_right (by decide) (by omega))
      rw [Nat.div_eq_of_lt h1, if_neg (by rw [show decide (j ≤ 48) = false from decide_eq_false (by omega), Bool.and_false, Bool.false_and]; decide)]
  have hc : ∀ j, j ≤ 48 → sp_t n (j + 1) = zcnt p j := by
    intro j
    induction j with
    | zero => intro _; show 0 + n / 2 ^ 0 % 2 = 0; rw [hg 0]; rfl
    | succ j ih =>
      intro hj
      show sp_t n (j + 1) + n / 2 ^ (j + 1) % 2 = zcnt p j + (if p (j + 1) = true then 1 else 0)
      rw [ih (by omega), hg (j + 1), show decide (1 ≤ j + 1) = true from decide_eq_true (by omega), show decide (j + 1 ≤ 48) = true from decide_eq_true hj]
      rfl
  have hz : ∀ j, sp_t n (49 + j) = zcnt p 48 := by
    intro j
    induction j with
    | zero => exact hc 48 (by decide)
    | succ j ih =>
      show sp_t n (49 + j) + n / 2 ^ (49 + j) % 2 = _
      rw [ih, hg (49 + j), show decide (49 + j ≤ 48) = false from decide_eq_false (by omega), Bool.and_false, Bool.false_and]
      rfl
  rw [he, zpop_n hn, sp_tn]
  exact congrArg nI (hz 15)
