/-! how many bits a long has: the library's way to count them -/
theorem bc_land {a c r s : Nat} (hr : r < 256) (hs : s < 256) : (256 * a + r) &&& (256 * c + s) = 256 * (a &&& c) + (r &&& s) := by
  have hrs : r &&& s < 2 ^ 8 := Nat.lt_of_le_of_lt Nat.and_le_left hr
  refine Nat.eq_of_testBit_eq (fun j => ?_)
  rw [Nat.testBit_and, show 256 * a + r = 2 ^ 8 * a + r from rfl, show 256 * c + s = 2 ^ 8 * c + s from rfl, show 256 * (a &&& c) + (r &&& s) = 2 ^ 8 * (a &&& c) + (r &&& s) from rfl, Nat.testBit_two_pow_mul_add a hr, Nat.testBit_two_pow_mul_add c hs, Nat.testBit_two_pow_mul_add (a &&& c) hrs]
  split
  · rw [Nat.testBit_and]
  · rw [Nat.testBit_and]
def bc_M (m : Nat) : Nat → Nat
  | 0 => 0
  | w + 1 => 256 * bc_M m w + m
def bc_1 (w X : Nat) : Nat := X - ((X / 2) &&& bc_M 85 w)
def bc_2 (w X : Nat) : Nat := (X &&& bc_M 51 w) + ((X / 4) &&& bc_M 51 w)
def bc_3 (w X : Nat) : Nat := (X + X / 16) &&& bc_M 15 w
def bb_1 (b : Nat) : Nat := b - ((b / 2) &&& 85)
def bb_2 (b : Nat) : Nat := (b &&& 51) + ((b / 4) &&& 51)
def bb_3 (b : Nat) : Nat := (b + b / 16) &&& 15
theorem bb_a : ∀ b, b < 256 → ∀ y, y < 2 → ((128 * y + b / 2) &&& 85) = ((b / 2) &&& 85) := by decide +kernel
theorem bb_b : ∀ b, b < 256 → ∀ y, y < 4 → ((64 * y + b / 4) &&& 51) = ((b / 4) &&& 51) := by decide +kernel
theorem bb_c : ∀ b, b < 256 → bb_1 b < 256 ∧ bb_2 (bb_1 b) < 256 ∧ bb_2 (bb_1 b) % 16 ≤ 4 ∧ bb_2 (bb_1 b) / 16 ≤ 4 := by decide +kernel
theorem bb_d : ∀ b, b < 256 → bb_3 (bb_2 (bb_1 b)) = zC (fun k => b.testBit k) 8 := by decide +kernel
theorem bb_e : ∀ t, t < 80 → ∀ y, y < 5 → ((t + 16 * y + t / 16) &&& 15) = bb_3 t := by decide +kernel
theorem bc_1s {w Y b : Nat} (hb : b < 256) : bc_1 (w + 1) (256 * Y + b) = 256 * bc_1 w Y + bb_1 b := by
  unfold bc_1 bb_1
  have h1 : (256 * Y + b) / 2 = 256 * (Y / 2) + (128 * (Y % 2) + b / 2) := by omega
  have h2 : 128 * (Y % 2) + b / 2 < 256 := by omega
  show _ - (_ &&& (256 * bc_M 85 w + 85)) = _
  rw [h1, bc_land h2 (by decide), bb_a b hb _ (Nat.mod_lt _ (by decide))]
  have h3 : (Y / 2) &&& bc_M 85 w ≤ Y := Nat.le_trans Nat.and_le_left (Nat.div_le_self _ _)
  have h4 : (b / 2) &&& 85 ≤ b := Nat.le_trans Nat.and_le_left (Nat.div_le_self _ _)
  omega
theorem bc_2s {w Y b : Nat} (hb : b < 256) : bc_2 (w + 1) (256 * Y + b) = 256 * bc_2 w Y + bb_2 b := by
  unfold bc_2 bb_2
  have h1 : (256 * Y + b) / 4 = 256 * (Y / 4) + (64 * (Y % 4) + b / 4) := by omega
  have h2 : 64 * (Y % 4) + b / 4 < 256 := by omega
  show (_ &&& (256 * bc_M 51 w + 51)) + (_ &&& (256 * bc_M 51 w + 51)) = _
  rw [h1, bc_land h2 (by decide), bc_land hb (by decide), bb_b b hb _ (Nat.mod_lt _ (by decide))]
  omega
def bc_T (w X : Nat) : Nat := bc_2 w (bc_1 w X)
theorem bc_Ts {w Y b : Nat} (hb : b < 256) : bc_T (w + 1) (256 * Y + b) = 256 * bc_T w Y + bb_2 (bb_1 b) := by
  unfold bc_T; rw [bc_1s hb, bc_2s (bb_c b hb).1]
theorem bc_T4 (w Y : Nat) : bc_T w Y % 16 ≤ 4 := by
  cases w with
  | zero =>
    have h : bc_T 0 Y = 0 := by
      unfold bc_T bc_2
      show (_ &&& 0) + (_ &&& 0) = 0
      rw [Nat.and_zero, Nat.and_zero]
    omega
  | succ w =>
    have h := bc_Ts (w := w) (Y := Y / 256) (b := Y % 256) (Nat.mod_lt _ (by decide))
    rw [Nat.div_add_mod] at h
    have h2 := (bb_c (Y % 256) (Nat.mod_lt _ (by decide))).2.2.1
    omega
theorem bc_3s {w T t : Nat} (hT : T % 16 ≤ 4) (ht : t % 16 ≤ 4) (ht2 : t / 16 ≤ 4) : bc_3 (w + 1) (256 * T + t) = 256 * bc_3 w T + bb_3 t := by
  unfold bc_3
  have h1 : (256 * T + t) + (256 * T + t) / 16 = 256 * (T + T / 16) + (t + 16 * (T % 16) + t / 16) := by omega
  show _ &&& (256 * bc_M 15 w + 15) = _
  rw [h1, bc_land (by omega) (by decide), bb_e t (by omega) _ (by omega)]
def bc_U (w X : Nat) : Nat := bc_3 w (bc_T w X)
theorem bc_Us {w Y b : Nat} (hb : b < 256) : bc_U (w + 1) (256 * Y + b) = 256 * bc_U w Y + zC (fun k => b.testBit k) 8 := by
  obtain ⟨-, -, h1, h2⟩ := bb_c b hb
  unfold bc_U; rw [bc_Ts hb, bc_3s (bc_T4 w Y) h1 h2, bb_d b hb]
theorem bc_U0 (X : Nat) : bc_U 0 X = 0 := by
  unfold bc_U bc_3
  show _ &&& 0 = 0
  exact Nat.and_zero _
theorem zC_split (f : Nat → Bool) (m : Nat) : ∀ n, zC f (m + n) = zC f m + zC (fun k => f (m + k)) n
  | 0 => rfl
  | n + 1 => by
    show zC f (m + n) + (f (m + n)).toNat = zC f m + (zC (fun k => f (m + k)) n + (f (m + n)).toNat)
    rw [zC_split f m n, Nat.add_assoc]
theorem zC_congr {f h : Nat → Bool} : ∀ n, (∀ k, k < n → f k = h k) → zC f n = zC h n
  | 0, _ => rfl
  | n + 1, q => by
    show zC f n + (f n).toNat = zC h n + (h n).toNat
    rw [zC_congr n (fun k hk => q k (by omega)), q n (by omega)]
theorem bc_bits {Y b n : Nat} (hb : b < 256) : zC (fun k => (256 * Y + b).testBit k) (8 + n) = zC (fun k => b.testBit k) 8 + zC (fun k => Y.testBit k) n := by
  rw [zC_split]
  have h : ∀ k, (256 * Y + b).testBit k = if k < 8 then b.testBit k else Y.testBit (k - 8) := fun k => Nat.testBit_two_pow_mul_add (i := 8) Y hb k
  rw [zC_congr 8 (h := fun k => b.testBit k) (fun k hk => by rw [h, if_pos hk]), zC_congr n (h := fun k => Y.testBit k) (fun k hk => by rw [h, if_neg (by omega), Nat.add_sub_cancel_left])]
/-- the bytes' counts, and their sum -/
theorem bc_all {X : Nat} (hX : X < 2 ^ 64) : ∃ t0 t1 t2 t3 t4 t5 t6 t7, t0 ≤ 8 ∧ t1 ≤ 8 ∧ t2 ≤ 8 ∧ t3 ≤ 8 ∧ t4 ≤ 8 ∧ t5 ≤ 8 ∧ t6 ≤ 8 ∧ t7 ≤ 8 ∧ bc_U 8 X = t0 + 256 * (t1 + 256 * (t2 + 256 * (t3 + 256 * (t4 + 256 * (t5 + 256 * (t6 + 256 * t7)))))) ∧ zC (fun k => X.testBit k) 64 = t0 + t1 + t2 + t3 + t4 + t5 + t6 + t7 := by
  have st : ∀ w X, ∃ t Y, t ≤ 8 ∧ Y = X / 256 ∧ bc_U (w + 1) X = 256 * bc_U w Y + t ∧ ∀ n, zC (fun k => X.testBit k) (8 + n) = t + zC (fun k => Y.testBit k) n := fun w X => by
    have h := Nat.div_add_mod X 256
    have hb : X % 256 < 256 := Nat.mod_lt _ (by decide)
    refine ⟨zC (fun k => (X % 256).testBit k) 8, X / 256, zC_le _ 8, rfl, ?_, fun n => ?_⟩
    · have := bc_Us (w := w) (Y := X / 256) hb
      rw [h] at this; exact this
    · have := bc_bits (n := n) (Y := X / 256) hb
      rw [h] at this; exact this
  obtain ⟨t0, X1, a0, b0, c0, d0⟩ := st 7 X
  obtain ⟨t1, X2, a1, b1, c1, d1⟩ := st 6 X1
  obtain ⟨t2, X3, a2, b2, c2, d2⟩ := st 5 X2
  obtain ⟨t3, X4, a3, b3, c3, d3⟩ := st 4 X3
  obtain ⟨t4, X5, a4, b4, c4, d4⟩ := st 3 X4
  obtain ⟨t5, X6, a5, b5, c5, d5⟩ := st 2 X5
  obtain ⟨t6, X7, a6, b6, c6, d6⟩ := st 1 X6
  obtain ⟨t7, X8, a7, b7, c7, d7⟩ := st 0 X7
  refine ⟨t0, t1, t2, t3, t4, t5, t6, t7, a0, a1, a2, a3, a4, a5, a6, a7, ?_, ?_⟩
  · have e8 := bc_U0 X8
    have c0 : bc_U 8 X = 256 * bc_U 7 X1 + t0 := c0
    have c1 : bc_U 7 X1 = 256 * bc_U 6 X2 + t1 := c1
    have c2 : bc_U 6 X2 = 256 * bc_U 5 X3 + t2 := c2
    have c3 : bc_U 5 X3 = 256 * bc_U 4 X4 + t3 := c3
    have c4 : bc_U 4 X4 = 256 * bc_U 3 X5 + t4 := c4
    have c5 : bc_U 3 X5 = 256 * bc_U 2 X6 + t5 := c5
    have c6 : bc_U 2 X6 = 256 * bc_U 1 X7 + t6 := c6
    have c7 : bc_U 1 X7 = 256 * bc_U 0 X8 + t7 := c7
    rw [c0, c1, c2, c3, c4, c5, c6, c7, e8]
    omega
  · have e0 : zC (fun k => X.testBit k) 64 = t0 + zC (fun k => X1.testBit k) 56 := d0 56
    have e1 : zC (fun k => X1.testBit k) 56 = t1 + zC (fun k => X2.testBit k) 48 := d1 48
    have e2 : zC (fun k => X2.testBit k) 48 = t2 + zC (fun k => X3.testBit k) 40 := d2 40
    have e3 : zC (fun k => X3.testBit k) 40 = t3 + zC (fun k => X4.testBit k) 32 := d3 32
    have e4 : zC (fun k => X4.testBit k) 32 = t4 + zC (fun k => X5.testBit k) 24 := d4 24
    have e5 : zC (fun k => X5.testBit k) 24 = t5 + zC (fun k => X6.testBit k) 16 := d5 16
    have e6 : zC (fun k => X6.testBit k) 16 = t6 + zC (fun k => X7.testBit k) 8 := d6 8
    have e7 : zC (fun k => X7.testBit k) 8 = t7 + zC (fun k => X8.testBit k) 0 := d7 0
    have e8 : zC (fun k => X8.testBit k) 0 = 0 := rfl
    rw [e0, e1, e2, e3, e4, e5, e6, e7, e8]
    omega
theorem bc_sum {X : Nat} (hX : X < 2 ^ 64) : ∃ V4 V5, V4 = bc_U 8 X + bc_U 8 X / 256 ∧ V5 = V4 + V4 / 65536 ∧ (V5 + V5 / 4294967296) % 128 = zC (fun k => X.testBit k) 64 := by
  obtain ⟨t0, t1, t2, t3, t4, t5, t6, t7, a0, a1, a2, a3, a4, a5, a6, a7, hU, hZ⟩ := bc_all hX
  refine ⟨_, _, rfl, rfl, ?_⟩
  rw [hZ]
  generalize bc_U 8 X = U at hU
  obtain ⟨A, hA⟩ : ∃ A, A = t1 + 256 * (t2 + 256 * (t3 + 256 * (t4 + 256 * (t5 + 256 * (t6 + 256 * t7))))) := ⟨_, rfl⟩
  have q1 : U / 256 = A := by omega
  rw [q1]
  obtain ⟨B, hB⟩ : ∃ B, B = (t2 + t3) + 256 * ((t3 + t4) + 256 * ((t4 + t5) + 256 * ((t5 + t6) + 256 * ((t6 + t7) + 256 * t7)))) := ⟨_, rfl⟩
  have q2 : (U + A) / 65536 = B := by
    have : U + A = (t0 + t1) + 256 * ((t1 + t2) + 256 * B) := by omega
    omega
  rw [q2]
  obtain ⟨D, hD⟩ : ∃ D, D = (t5 + t6 + t7) + 256 * ((t6 + t7) + 256 * t7) := ⟨_, rfl⟩
  have q3 : U + A + B = (t0 + t1 + t2 + t3) + 256 * ((t1 + t2 + t3 + t4) + 256 * ((t2 + t3 + t4 + t5) + 256 * ((t3 + t4 + t5 + t6) + 256 * ((t4 + t5 + t6 + t7) + 256 * D)))) := by omega
  have q4 : (U + A + B) / 4294967296 = (t4 + t5 + t6 + t7) + 256 * D := by omega
  rw [q4]
  omega
theorem nL_add (a b : Nat) : nL a + nL b = nL (a + b) := (Int64.ofNat_add a b).symm
theorem nL_sub {a b : Nat} (h : b ≤ a) : nL a - nL b = nL (a - b) := by
  have e : nL a = nL (a - b) + nL b := by rw [nL_add, Nat.sub_add_cancel h]
  rw [e]
  exact Int64.add_sub_cancel _ _
theorem nL_and (a b : Nat) : nL a &&& nL b = nL (a &&& b) := by
  apply Int64.toBitVec_inj.1
  show BitVec.ofNat 64 a &&& BitVec.ofNat 64 b = BitVec.ofNat 64 (a &&& b)
  apply BitVec.eq_of_getLsbD_eq
  intro i hi
  rw [BitVec.getLsbD_and, BitVec.getLsbD_ofNat, BitVec.getLsbD_ofNat, BitVec.getLsbD_ofNat, Nat.testBit_and, decide_eq_true hi, Bool.true_and, Bool.true_and, Bool.true_and]
theorem nL_ex (x : Int64) : ∃ X, X < 2 ^ 64 ∧ x = nL X ∧ ∀ k, k < 64 → lb x k = X.testBit k :=
  ⟨x.toBitVec.toNat, x.toBitVec.isLt, Int64.toBitVec_inj.mp (by show _ = BitVec.ofNat 64 _; rw [BitVec.ofNat_toNat]; exact (BitVec.setWidth_eq _).symm), fun k _ => rfl⟩
theorem nL_ush1 : ∀ k, k < 64 → (((nI k).toInt64.toUInt64 &&& Int64.toUInt64 63).toBitVec % 64) = BitVec.ofNat 64 k := by decide +kernel
theorem nL_ush {a k : Nat} (hk : k < 64) (ha : a < 2 ^ 64) : ((nL a).toUInt64 >>> ((nI k).toInt64.toUInt64 &&& Int64.toUInt64 63)).toInt64 = nL (a / 2 ^ k) := by
  apply Int64.toBitVec_inj.1
  show BitVec.ofNat 64 a >>> (((nI k).toInt64.toUInt64 &&& Int64.toUInt64 63).toBitVec % 64) = BitVec.ofNat 64 (a / 2 ^ k)
  rw [nL_ush1 k hk]
  show BitVec.ofNat 64 a >>> (BitVec.ofNat 64 k).toNat = _
  apply BitVec.eq_of_toNat_eq
  rw [BitVec.toNat_ushiftRight, BitVec.toNat_ofNat, BitVec.toNat_ofNat, BitVec.toNat_ofNat, Nat.mod_eq_of_lt ha, Nat.shiftRight_eq_div_pow, Nat.mod_eq_of_lt (show k < 2 ^ 64 by omega), Nat.mod_eq_of_lt (Nat.lt_of_le_of_lt (Nat.div_le_self _ _) ha)]
theorem nL_u1 {a : Nat} (ha : a < 2 ^ 64) : ((nL a).toUInt64 >>> ((1 : Int32).toInt64.toUInt64 &&& Int64.toUInt64 63)).toInt64 = nL (a / 2) := nL_ush (k := 1) (by decide) ha
theorem nL_u2 {a : Nat} (ha : a < 2 ^ 64) : ((nL a).toUInt64 >>> ((2 : Int32).toInt64.toUInt64 &&& Int64.toUInt64 63)).toInt64 = nL (a / 4) := nL_ush (k := 2) (by decide) ha
theorem nL_u4 {a : Nat} (ha : a < 2 ^ 64) : ((nL a).toUInt64 >>> ((4 : Int32).toInt64.toUInt64 &&& Int64.toUInt64 63)).toInt64 = nL (a / 16) := nL_ush (k := 4) (by decide) ha
theorem nL_u8 {a : Nat} (ha : a < 2 ^ 64) : ((nL a).toUInt64 >>> ((8 : Int32).toInt64.toUInt64 &&& Int64.toUInt64 63)).toInt64 = nL (a / 256) := nL_ush (k := 8) (by decide) ha
theorem nL_u16 {a : Nat} (ha : a < 2 ^ 64) : ((nL a).toUInt64 >>> ((16 : Int32).toInt64.toUInt64 &&& Int64.toUInt64 63)).toInt64 = nL (a / 65536) := nL_ush (k := 16) (by decide) ha
theorem nL_u32 {a : Nat} (ha : a < 2 ^ 64) : ((nL a).toUInt64 >>> ((32 : Int32).toInt64.toUInt64 &&& Int64.toUInt64 63)).toInt64 = nL (a / 4294967296) := nL_ush (k := 32) (by decide) ha
theorem bc_s1 {X : Nat} (h : X < 2 ^ 64) : nL X - (((nL X).toUInt64 >>> ((1 : Int32).toInt64.toUInt64 &&& Int64.toUInt64 63)).toInt64 &&& 6148914691236517205) = nL (bc_1 8 X) ∧ bc_1 8 X < 2 ^ 64 := by
  refine ⟨?_, Nat.lt_of_le_of_lt (Nat.sub_le _ _) h⟩
  rw [nL_u1 h, show (6148914691236517205 : Int64) = nL (bc_M 85 8) from by decide +kernel, nL_and, nL_sub (Nat.le_trans Nat.and_le_left (Nat.div_le_self _ _))]; rfl
theorem bc_s2 {X : Nat} (h : X < 2 ^ 64) : (nL X &&& 3689348814741910323) + (((nL X).toUInt64 >>> ((2 : Int32).toInt64.toUInt64 &&& Int64.toUInt64 63)).toInt64 &&& 3689348814741910323) = nL (bc_2 8 X) ∧ bc_2 8 X < 2 ^ 64 := by
  constructor
  · rw [nL_u2 h, show (3689348814741910323 : Int64) = nL (bc_M 51 8) from by decide +kernel, nL_and, nL_and, nL_add]; rfl
  · have h1 : X &&& bc_M 51 8 ≤ bc_M 51 8 := Nat.and_le_right
    have h2 : (X / 4) &&& bc_M 51 8 ≤ bc_M 51 8 := Nat.and_le_right
    have h3 : bc_M 51 8 + bc_M 51 8 < 2 ^ 64 := by decide +kernel
    unfold bc_2; omega
theorem bc_s3 {X : Nat} (h : X < 2 ^ 64) : (nL X + ((nL X).toUInt64 >>> ((4 : Int32).toInt64.toUInt64 &&& Int64.toUInt64 63)).toInt64) &&& 1085102592571150095 = nL (bc_3 8 X) ∧ bc_3 8 X ≤ 1085102592571150095 := by
  constructor
  · rw [nL_u4 h, show (1085102592571150095 : Int64) = nL (bc_M 15 8) from by decide +kernel, nL_add, nL_and]; rfl
  · have h1 : (X + X / 16) &&& bc_M 15 8 ≤ bc_M 15 8 := Nat.and_le_right
    have h3 : bc_M 15 8 = 1085102592571150095 := by decide +kernel
    unfold bc_3; omega
theorem bc_end (V : Nat) : (nL V).toInt32 &&& 127 = nI (V % 128) := by
  have e : (nL V).toInt32 = nI V := by
    apply Int32.toBitVec_inj.1
    show (BitVec.ofNat 64 V).signExtend 32 = BitVec.ofNat 32 V
    apply BitVec.eq_of_getLsbD_eq
    intro i hi
    rw [BitVec.getLsbD_signExtend, BitVec.getLsbD_ofNat, BitVec.getLsbD_ofNat, decide_eq_true hi, if_pos (show i < 64 by omega), decide_eq_true (show i < 64 by omega), Bool.true_and]
  rw [e, pk_and (nI V) 7 rfl]
  refine congrArg nI ?_
  show (BitVec.ofNat 32 V).toNat % 2 ^ 7 = _
  rw [BitVec.toNat_ofNat]; omega
