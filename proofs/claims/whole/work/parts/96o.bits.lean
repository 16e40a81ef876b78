/-! ===== the bits of a long ===== -/
def y_bcN (x : Nat) : Nat → Nat
  | 0 => 0
  | k + 1 => y_bcN x k + (if x.testBit k = true then 1 else 0)
def y_mk6 (c : Nat) : Nat → Nat
  | 0 => 0
  | k + 1 => 256 * y_mk6 c k + c
def y_f1 (k x : Nat) : Nat := x - ((x / 2) &&& y_mk6 85 k)
def y_f2 (k x : Nat) : Nat := (y_f1 k x &&& y_mk6 51 k) + ((y_f1 k x / 4) &&& y_mk6 51 k)
def y_f3 (k x : Nat) : Nat := (y_f2 k x + y_f2 k x / 16) &&& y_mk6 15 k
def y_b1 (l : Nat) : Nat := l - ((l / 2) &&& 85)
def y_b2 (l : Nat) : Nat := (y_b1 l &&& 51) + ((y_b1 l / 4) &&& 51)
def y_b3 (l : Nat) : Nat := (y_b2 l + y_b2 l / 16) &&& 15
theorem y_and256 {a b m c : Nat} (hb : b < 256) (hc : c < 256) : (256 * a + b) &&& (256 * m + c) = 256 * (a &&& m) + (b &&& c) := by
  have hbc : b &&& c < 256 := Nat.lt_of_le_of_lt Nat.and_le_left hb
  apply Nat.eq_of_testBit_eq
  intro i
  rw [Nat.testBit_and, show 256 = 2 ^ 8 from rfl, Nat.testBit_two_pow_mul_add a hb, Nat.testBit_two_pow_mul_add m hc, Nat.testBit_two_pow_mul_add (a &&& m) hbc]
  by_cases h : i < 8
  · rw [if_pos h, if_pos h, if_pos h, Nat.testBit_and]
  · rw [if_neg h, if_neg h, if_neg h, Nat.testBit_and]
theorem y_by1 : ∀ l, l < 256 → ∀ t, t < 2 → ((128 * t + l / 2) &&& 85) = ((l / 2) &&& 85) ∧ ((l / 2) &&& 85) ≤ l := by decide +kernel
theorem y_by2 : ∀ l, l < 256 → ∀ t, t < 4 → ((64 * t + l / 4) &&& 51) = ((l / 4) &&& 51) := by decide +kernel
theorem y_by3 : ∀ l, l < 256 → y_b1 l < 256 ∧ y_b2 l ≤ 68 ∧ y_b2 l % 16 ≤ 4 ∧ y_b3 l = y_bcN l 8 ∧ y_b3 l ≤ 8 := by decide +kernel
theorem y_by4 : ∀ l, l < 69 → ∀ t, t < 5 → ((16 * t + (l + l / 16)) &&& 15) = ((l + l / 16) &&& 15) := by decide +kernel
theorem y_f1_st {k h l : Nat} (hl : l < 256) : y_f1 (k + 1) (256 * h + l) = 256 * y_f1 k h + y_b1 l := by
  have e : (256 * h + l) / 2 = 256 * (h / 2) + (128 * (h % 2) + l / 2) := by omega
  have q := y_by1 l hl (h % 2) (by omega)
  have hle : (h / 2) &&& y_mk6 85 k ≤ h := Nat.le_trans Nat.and_le_left (by omega)
  unfold y_f1 y_b1
  rw [y_mk6, e, y_and256 (by omega) (by decide), q.1]
  omega
theorem y_f2_st {k h l : Nat} (hl : l < 256) : y_f2 (k + 1) (256 * h + l) = 256 * y_f2 k h + y_b2 l := by
  have q := y_by3 l hl
  have e : (256 * y_f1 k h + y_b1 l) / 4 = 256 * (y_f1 k h / 4) + (64 * (y_f1 k h % 4) + y_b1 l / 4) := by omega
  unfold y_f2 y_b2
  rw [y_f1_st hl, y_mk6, e, y_and256 q.1 (by decide), y_and256 (by omega) (by decide), y_by2 _ q.1 _ (by omega)]
  omega
theorem y_f2_lo {k x : Nat} : y_f2 k x % 16 ≤ 4 := by
  cases k with
  | zero => unfold y_f2; rw [y_mk6, Nat.and_zero, Nat.and_zero]; decide
  | succ k =>
    have hl : x % 256 < 256 := Nat.mod_lt _ (by decide)
    rw [show x = 256 * (x / 256) + x % 256 by omega, y_f2_st hl]
    have := (y_by3 _ hl).2.2.1
    omega
theorem y_f3_st {k h l : Nat} (hl : l < 256) : y_f3 (k + 1) (256 * h + l) = 256 * y_f3 k h + y_b3 l := by
  have q := y_by3 l hl
  have q2 := y_f2_lo (k := k) (x := h)
  have e : 256 * y_f2 k h + y_b2 l + (256 * y_f2 k h + y_b2 l) / 16 = 256 * (y_f2 k h + y_f2 k h / 16) + (16 * (y_f2 k h % 16) + (y_b2 l + y_b2 l / 16)) := by omega
  unfold y_f3 y_b3
  rw [y_f2_st hl, y_mk6, e, y_and256 (by omega) (by decide), y_by4 _ (by omega) _ (by omega)]
theorem y_bc_add {h l : Nat} (hl : l < 256) : ∀ n, y_bcN (256 * h + l) (8 + n) = y_bcN l 8 + y_bcN h n := by
  have ht : ∀ i, (256 * h + l).testBit i = if i < 8 then l.testBit i else h.testBit (i - 8) := fun i => Nat.testBit_two_pow_mul_add (i := 8) h hl i
  have h8 : ∀ k, k ≤ 8 → y_bcN (256 * h + l) k = y_bcN l k := by
    intro k
    induction k with
    | zero => intro _; rfl
    | succ k ih => intro hk; have e := ht k; rw [if_pos (by omega)] at e; rw [y_bcN, y_bcN, ih (by omega), e]
  intro n
  induction n with
  | zero => rw [h8 8 (by omega)]; rfl
  | succ n ih =>
    have e := ht (8 + n)
    rw [if_neg (by omega), show 8 + n - 8 = n by omega] at e
    rw [show 8 + (n + 1) = (8 + n) + 1 by omega, y_bcN, ih, e, show y_bcN h (n + 1) = y_bcN h n + (if h.testBit n = true then 1 else 0) from rfl]
    omega
theorem y_f3_8 {x : Nat} : ∃ c0 c1 c2 c3 c4 c5 c6 c7, c0 ≤ 8 ∧ c1 ≤ 8 ∧ c2 ≤ 8 ∧ c3 ≤ 8 ∧ c4 ≤ 8 ∧ c5 ≤ 8 ∧ c6 ≤ 8 ∧ c7 ≤ 8 ∧ y_f3 8 x = 256 * (256 * (256 * (256 * (256 * (256 * (256 * c7 + c6) + c5) + c4) + c3) + c2) + c1) + c0 ∧ y_bcN x 64 = c0 + (c1 + (c2 + (c3 + (c4 + (c5 + (c6 + c7)))))) := by
  have st : ∀ (k y : Nat), ∃ c, c ≤ 8 ∧ y_f3 (k + 1) y = 256 * y_f3 k (y / 256) + c ∧ ∀ n, y_bcN y (8 + n) = c + y_bcN (y / 256) n := by
    intro k y
    have hl : y % 256 < 256 := Nat.mod_lt _ (by decide)
    have q := y_by3 _ hl
    have e : 256 * (y / 256) + y % 256 = y := by omega
    have h1 := y_f3_st (k := k) (h := y / 256) hl
    have h2 := y_bc_add (h := y / 256) hl
    rw [e] at h1 h2
    exact ⟨y_b3 (y % 256), q.2.2.2.2, h1, fun n => by rw [h2, q.2.2.2.1]⟩
  obtain ⟨c0, p0, q0, r0⟩ := st 7 x
  obtain ⟨c1, p1, q1, r1⟩ := st 6 (x / 256)
  obtain ⟨c2, p2, q2, r2⟩ := st 5 (x / 256 / 256)
  obtain ⟨c3, p3, q3, r3⟩ := st 4 (x / 256 / 256 / 256)
  obtain ⟨c4, p4, q4, r4⟩ := st 3 (x / 256 / 256 / 256 / 256)
  obtain ⟨c5, p5, q5, r5⟩ := st 2 (x / 256 / 256 / 256 / 256 / 256)
  obtain ⟨c6, p6, q6, r6⟩ := st 1 (x / 256 / 256 / 256 / 256 / 256 / 256)
  obtain ⟨c7, p7, q7, r7⟩ := st 0 (x / 256 / 256 / 256 / 256 / 256 / 256 / 256)
  have z : ∀ y, y_f3 0 y = 0 := fun y => by unfold y_f3; rw [y_mk6, Nat.and_zero]
  rw [z] at q7
  refine ⟨c0, c1, c2, c3, c4, c5, c6, c7, p0, p1, p2, p3, p4, p5, p6, p7, ?_, ?_⟩
  · rw [q0, q1, q2, q3, q4, q5, q6, q7]; omega
  · have r0 : y_bcN x 64 = _ := r0 56
    have r1 : y_bcN (x / 256) 56 = _ := r1 48
    have r2 : y_bcN (x / 256 / 256) 48 = _ := r2 40
    have r3 : y_bcN (x / 256 / 256 / 256) 40 = _ := r3 32
    have r4 : y_bcN (x / 256 / 256 / 256 / 256) 32 = _ := r4 24
    have r5 : y_bcN (x / 256 / 256 / 256 / 256 / 256) 24 = _ := r5 16
    have r6 : y_bcN (x / 256 / 256 / 256 / 256 / 256 / 256) 16 = _ := r6 8
    have r7 : y_bcN (x / 256 / 256 / 256 / 256 / 256 / 256 / 256) 8 = c7 + 0 := r7 0
    rw [r0, r1, r2, r3, r4, r5, r6, r7, Nat.add_zero]
theorem y_dv (k : Nat) {a b : Nat} (h : b < 2 ^ k) : (2 ^ k * a + b) / 2 ^ k = a := by
  rw [Nat.mul_add_div (Nat.two_pow_pos k), Nat.div_eq_of_lt h, Nat.add_zero]
theorem y_lin1 {c0 c1 c2 c3 c4 c5 c6 c7 : Nat} : 256 * (256 * (256 * (256 * (256 * (256 * (256 * c7 + c6) + c5) + c4) + c3) + c2) + c1) + c0 + (256 * (256 * (256 * (256 * (256 * (256 * c7 + c6) + c5) + c4) + c3) + c2) + c1) = 65536 * (256 * (256 * (256 * (256 * (256 * c7 + (c6 + c7)) + (c5 + c6)) + (c4 + c5)) + (c3 + c4)) + (c2 + c3)) + (256 * (c1 + c2) + (c0 + c1)) := by omega
theorem y_lin2 {c0 c1 c2 c3 c4 c5 c6 c7 : Nat} : 65536 * (256 * (256 * (256 * (256 * (256 * c7 + (c6 + c7)) + (c5 + c6)) + (c4 + c5)) + (c3 + c4)) + (c2 + c3)) + (256 * (c1 + c2) + (c0 + c1)) + (256 * (256 * (256 * (256 * (256 * c7 + (c6 + c7)) + (c5 + c6)) + (c4 + c5)) + (c3 + c4)) + (c2 + c3)) = 4294967296 * (256 * (256 * (256 * c7 + (c6 + c7)) + (c5 + c6 + c7)) + (c4 + c5 + (c6 + c7))) + (256 * (256 * (256 * (c3 + c4 + (c5 + c6)) + (c2 + c3 + (c4 + c5))) + (c1 + c2 + (c3 + c4))) + (c0 + c1 + (c2 + c3))) := by omega
theorem y_lin3 {c0 c1 c2 c3 c4 c5 c6 c7 : Nat} (p0 : c0 ≤ 8) (p1 : c1 ≤ 8) (p2 : c2 ≤ 8) (p3 : c3 ≤ 8) (p4 : c4 ≤ 8) (p5 : c5 ≤ 8) (p6 : c6 ≤ 8) (p7 : c7 ≤ 8) : (4294967296 * (256 * (256 * (256 * c7 + (c6 + c7)) + (c5 + c6 + c7)) + (c4 + c5 + (c6 + c7))) + (256 * (256 * (256 * (c3 + c4 + (c5 + c6)) + (c2 + c3 + (c4 + c5))) + (c1 + c2 + (c3 + c4))) + (c0 + c1 + (c2 + c3))) + (256 * (256 * (256 * c7 + (c6 + c7)) + (c5 + c6 + c7)) + (c4 + c5 + (c6 + c7)))) % 128 = c0 + (c1 + (c2 + (c3 + (c4 + (c5 + (c6 + c7)))))) := by omega
theorem y_sum8 {c0 c1 c2 c3 c4 c5 c6 c7 : Nat} (p0 : c0 ≤ 8) (p1 : c1 ≤ 8) (p2 : c2 ≤ 8) (p3 : c3 ≤ 8) (p4 : c4 ≤ 8) (p5 : c5 ≤ 8) (p6 : c6 ≤ 8) (p7 : c7 ≤ 8) :
    (256 * (256 * (256 * (256 * (256 * (256 * (256 * c7 + c6) + c5) + c4) + c3) + c2) + c1) + c0 + (256 * (256 * (256 * (256 * (256 * (256 * (256 * c7 + c6) + c5) + c4) + c3) + c2) + c1) + c0) / 256 + (256 * (256 * (256 * (256 * (256 * (256 * (256 * c7 + c6) + c5) + c4) + c3) + c2) + c1) + c0 + (256 * (256 * (256 * (256 * (256 * (256 * (256 * c7 + c6) + c5) + c4) + c3) + c2) + c1) + c0) / 256) / 65536 +
        (256 * (256 * (256 * (256 * (256 * (256 * (256 * c7 + c6) + c5) + c4) + c3) + c2) + c1) + c0 + (256 * (256 * (256 * (256 * (256 * (256 * (256 * c7 + c6) + c5) + c4) + c3) + c2) + c1) + c0) / 256 + (256 * (256 * (256 * (256 * (256 * (256 * (256 * c7 + c6) + c5) + c4) + c3) + c2) + c1) + c0 + (256 * (256 * (256 * (256 * (256 * (256 * (256 * c7 + c6) + c5) + c4) + c3) + c2) + c1) + c0) / 256) / 65536) / 4294967296) % 128 = c0 + (c1 + (c2 + (c3 + (c4 + (c5 + (c6 + c7)))))) := by
  have w3 : (256 * (256 * (256 * (256 * (256 * (256 * (256 * c7 + c6) + c5) + c4) + c3) + c2) + c1) + c0) / 256 = 256 * (256 * (256 * (256 * (256 * (256 * c7 + c6) + c5) + c4) + c3) + c2) + c1 := y_dv 8 (by omega)
  rw [w3]
  have w4 : 256 * (256 * (256 * (256 * (256 * (256 * (256 * c7 + c6) + c5) + c4) + c3) + c2) + c1) + c0 + (256 * (256 * (256 * (256 * (256 * (256 * c7 + c6) + c5) + c4) + c3) + c2) + c1) = 65536 * (256 * (256 * (256 * (256 * (256 * c7 + (c6 + c7)) + (c5 + c6)) + (c4 + c5)) + (c3 + c4)) + (c2 + c3)) + (256 * (c1 + c2) + (c0 + c1)) := y_lin1
  rw [w4, y_dv 16 (by omega)]
  have w6 : 65536 * (256 * (256 * (256 * (256 * (256 * c7 + (c6 + c7)) + (c5 + c6)) + (c4 + c5)) + (c3 + c4)) + (c2 + c3)) + (256 * (c1 + c2) + (c0 + c1)) + (256 * (256 * (256 * (256 * (256 * c7 + (c6 + c7)) + (c5 + c6)) + (c4 + c5)) + (c3 + c4)) + (c2 + c3)) = 4294967296 * (256 * (256 * (256 * c7 + (c6 + c7)) + (c5 + c6 + c7)) + (c4 + c5 + (c6 + c7))) + (256 * (256 * (256 * (c3 + c4 + (c5 + c6)) + (c2 + c3 + (c4 + c5))) + (c1 + c2 + (c3 + c4))) + (c0 + c1 + (c2 + c3))) := y_lin2
  rw [w6, y_dv 32 (by omega)]
  exact y_lin3 p0 p1 p2 p3 p4 p5 p6 p7
def y_uN (x : Int64) : Nat := x.toUInt64.toNat
theorem y_uN_lt (x : Int64) : y_uN x < 2 ^ 64 := x.toUInt64.toNat_lt
theorem y_uN_and (a b : Int64) : y_uN (a &&& b) = y_uN a &&& y_uN b := by
  show (a &&& b).toBitVec.toNat = _
  rw [Int64.toBitVec_and, BitVec.toNat_and]; rfl
theorem y_uN_sub {a b : Int64} (h : y_uN b ≤ y_uN a) : y_uN (a - b) = y_uN a - y_uN b := by
  show (a - b).toBitVec.toNat = _
  have h1 := y_uN_lt a
  have h2 := y_uN_lt b
  rw [Int64.toBitVec_sub, BitVec.toNat_sub]
  show (2 ^ 64 - y_uN b + y_uN a) % 2 ^ 64 = _
  omega
theorem y_uN_add {a b : Int64} (h : y_uN a + y_uN b < 2 ^ 64) : y_uN (a + b) = y_uN a + y_uN b := by
  show (a + b).toBitVec.toNat = _
  rw [Int64.toBitVec_add, BitVec.toNat_add]
  show (y_uN a + y_uN b) % 2 ^ 64 = _
  omega
theorem y_uN_shr {a : Int64} {s : UInt64} {k : Nat} (hs : s.toNat = k) (hk : k < 64) : y_uN ((a.toUInt64 >>> s).toInt64) = y_uN a / 2 ^ k := by
  show (a.toUInt64 >>> s).toNat = _
  rw [UInt64.toNat_shiftRight, hs, Nat.mod_eq_of_lt hk, Nat.shiftRight_eq_div_pow]; rfl
theorem y_uN_i (v : Int64) : v.toInt32 &&& 127 = nI (y_uN v % 128) := by
  apply Int32.toBitVec_inj.mp
  apply BitVec.eq_of_toNat_eq
  have hm : y_uN v % 128 < 128 := Nat.mod_lt _ (by decide)
  rw [Int32.toBitVec_and, BitVec.toNat_and, Int64.toBitVec_toInt32, BitVec.signExtend_eq_setWidth_of_le _ (by decide), BitVec.toNat_setWidth]
  show y_uN v % 2 ^ 32 &&& (2 ^ 7 - 1) = (y_uN v % 128) % 2 ^ 32
  rw [Nat.and_two_pow_sub_one_eq_mod]
  omega
theorem y_bit64 (x : Int64) : m_J13_bitCount_95d88 x = some (nI (y_bcN (y_uN x) 64)) := by
  have hx := y_uN_lt x
  obtain ⟨c0, c1, c2, c3, c4, c5, c6, c7, p0, p1, p2, p3, p4, p5, p6, p7, e3, e4⟩ := y_f3_8 (x := y_uN x)
  have k85 : y_uN 6148914691236517205 = y_mk6 85 8 := by decide
  have k51 : y_uN 3689348814741910323 = y_mk6 51 8 := by decide
  have k15 : y_uN 1085102592571150095 = y_mk6 15 8 := by decide
  have s1 : ((1 : Int32).toInt64.toUInt64 &&& Int64.toUInt64 63).toNat = 1 := by decide
  have s2 : ((2 : Int32).toInt64.toUInt64 &&& Int64.toUInt64 63).toNat = 2 := by decide
  have s4 : ((4 : Int32).toInt64.toUInt64 &&& Int64.toUInt64 63).toNat = 4 := by decide
  have s8 : ((8 : Int32).toInt64.toUInt64 &&& Int64.toUInt64 63).toNat = 8 := by decide
  have s16 : ((16 : Int32).toInt64.toUInt64 &&& Int64.toUInt64 63).toNat = 16 := by decide
  have s32 : ((32 : Int32).toInt64.toUInt64 &&& Int64.toUInt64 63).toNat = 32 := by decide
  have m51 : y_mk6 51 8 < 2 ^ 62 := by decide
  rw [m_J13_bitCount_95d88, nm]
  generalize h1 : x - ((x.toUInt64 >>> ((1 : Int32).toInt64.toUInt64 &&& Int64.toUInt64 63)).toInt64 &&& 6148914691236517205) = v1
  have g1 : y_uN v1 = y_f1 8 (y_uN x) := by
    have : y_uN ((x.toUInt64 >>> ((1 : Int32).toInt64.toUInt64 &&& Int64.toUInt64 63)).toInt64 &&& 6148914691236517205) = (y_uN x / 2) &&& y_mk6 85 8 := by rw [y_uN_and, y_uN_shr s1 (by decide), k85]
    rw [← h1, y_uN_sub (by rw [this]; exact Nat.le_trans Nat.and_le_left (by omega)), this]; rfl
  rw [nm]
  generalize h2 : (v1 &&& 3689348814741910323) + ((v1.toUInt64 >>> ((2 : Int32).toInt64.toUInt64 &&& Int64.toUInt64 63)).toInt64 &&& 3689348814741910323) = v2
  have a1 : y_uN v1 &&& y_mk6 51 8 ≤ y_mk6 51 8 := Nat.and_le_right
  have a2 : y_uN v1 / 4 &&& y_mk6 51 8 ≤ y_mk6 51 8 := Nat.and_le_right
  have g2 : y_uN v2 = y_f2 8 (y_uN x) := by
    rw [← h2, y_uN_add (by rw [y_uN_and, y_uN_and, y_uN_shr s2 (by decide), k51]; show _ + (y_uN v1 / 4 &&& y_mk6 51 8) < _; omega), y_uN_and, y_uN_and, y_uN_shr s2 (by decide), k51, g1]; rfl
  have g2l : y_uN v2 < 2 ^ 63 := by
    rw [g2]; unfold y_f2; rw [← g1]; omega
  rw [nm]
  generalize h3 : (v2 + (v2.toUInt64 >>> ((4 : Int32).toInt64.toUInt64 &&& Int64.toUInt64 63)).toInt64) &&& 1085102592571150095 = v3
  have g3 : y_uN v3 = y_f3 8 (y_uN x) := by
    rw [← h3, y_uN_and, y_uN_add (by rw [y_uN_shr s4 (by decide)]; show _ + y_uN v2 / 16 < _; omega), y_uN_shr s4 (by decide), k15, g2]; rfl
  rw [e3] at g3
  rw [nm]
  generalize h4 : v3 + (v3.toUInt64 >>> ((8 : Int32).toInt64.toUInt64 &&& Int64.toUInt64 63)).toInt64 = v4
  have g4 : y_uN v4 = y_uN v3 + y_uN v3 / 256 := by
    rw [← h4, y_uN_add (by rw [y_uN_shr s8 (by decide)]; show _ + y_uN v3 / 256 < _; omega), y_uN_shr s8 (by decide)]
  rw [nm]
  generalize h5 : v4 + (v4.toUInt64 >>> ((16 : Int32).toInt64.toUInt64 &&& Int64.toUInt64 63)).toInt64 = v5
  have g5 : y_uN v5 = y_uN v4 + y_uN v4 / 65536 := by
    rw [← h5, y_uN_add (by rw [y_uN_shr s16 (by decide)]; show _ + y_uN v4 / 65536 < _; omega), y_uN_shr s16 (by decide)]
  rw [nm]
  generalize h6 : v5 + (v5.toUInt64 >>> ((32 : Int32).toInt64.toUInt64 &&& Int64.toUInt64 63)).toInt64 = v6
  have g6 : y_uN v6 = y_uN v5 + y_uN v5 / 4294967296 := by
    rw [← h6, y_uN_add (by rw [y_uN_shr s32 (by decide)]; show _ + y_uN v5 / 4294967296 < _; omega), y_uN_shr s32 (by decide)]
  rw [y_uN_i]
  have : y_uN v6 % 128 = y_bcN (y_uN x) 64 := by rw [g6, g5, g4, g3, e4]; exact y_sum8 p0 p1 p2 p3 p4 p5 p6 p7
  rw [this]
