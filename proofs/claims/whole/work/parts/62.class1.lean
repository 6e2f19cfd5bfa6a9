/-! the class: its world, numbers, the page (written by wip/whole/gen_c1.py) -/
/-- the class: its objects, their arrays -/
def zw_C (g : Nat → Int32) (gl : Nat → Int64) (a : Nat → Nat → Int32) (al : Nat → Nat → Int64) : List zm_E :=
  [.inr (6, [.ref 1, .ref 2, .ref 3, .ref 4, .ref 5, .ref 6, .ref 7, .ref 8, .ref 9, .int (g 0), .int (g 1), .int (g 2), .int (g 3), .int (g 4), .int (g 5)]),
  .inr (2, [.ref 10, .int (g 6), .int (g 7), .int (g 8), .int (g 9), .int (g 10)]),
  .inr (1, [.int (g 11), .int (g 12), .ref 11, .ref 12]),
  .inr (1, [.int (g 13), .int (g 14), .ref 13, .ref 14]),
  .inr (3, [.int (g 15), .int (g 16), .int (g 17), .ref 15, .ref 16, .ref 17, .ref 18, .ref 19, .int (g 18), .int (g 19), .ref 20]),
  .inr (0, [.ref 21, .ref 22, .ref 23, .int (g 20), .int (g 21), .int (g 22)]),
  .inr (5, [.int (g 23), .ref 24, .ref 25, .ref 26, .int (g 24)]),
  .inr (5, [.int (g 25), .ref 27, .ref 28, .ref 29, .int (g 26)]),
  .inr (4, [.ref 6, .ref 7, .int (g 27), .long (gl 28)]),
  .inr (4, [.ref 7, .ref 6, .int (g 29), .long (gl 30)]),
  .inl (0, 28, .inl (a 10)),
  .inl (0, 36, .inl (a 11)),
  .inl (0, 36, .inl (a 12)),
  .inl (0, 36, .inl (a 13)),
  .inl (0, 36, .inl (a 14)),
  .inl (0, 936, .inl (a 15)),
  .inl (0, 936, .inl (a 16)),
  .inl (0, 156, .inl (a 17)),
  .inl (0, 156, .inl (a 18)),
  .inl (0, 156, .inl (a 19)),
  .inl (0, 6, .inl (a 20)),
  .inl (1, 64, .inr (.inl (al 21))),
  .inl (1, 105, .inr (.inl (al 22))),
  .inl (1, 30, .inr (.inl (al 23))),
  .inl (1, 64, .inr (.inl (al 24))),
  .inl (1, 64, .inr (.inl (al 25))),
  .inl (0, 64, .inl (a 26)),
  .inl (1, 64, .inr (.inl (al 27))),
  .inl (1, 64, .inr (.inl (al 28))),
  .inl (0, 64, .inl (a 29))]
theorem zn_min {x y : Int32} {a b : Nat} (hx : x = nI a) (hy : y = nI b) (ha : a < 2 ^ 31) (hb : b < 2 ^ 31) : (if y < x then y else x) = nI (min a b) := by
  subst hx hy
  by_cases h : b < a
  · rw [if_pos ((nI_ltI hb ha).mpr h), Nat.min_eq_right (by omega)]
  · rw [if_neg (fun q => h ((nI_ltI hb ha).mp q)), Nat.min_eq_left (by omega)]
theorem n32_rem (x y : Int32) : (x - x / y * y).toInt = x.toInt.tmod y.toInt := by
  have a := (x % y).toInt_lt
  have b := (x % y).le_toInt
  rw [Int32.toInt_mod] at a b
  rw [Int32.toInt_sub, Int32.toInt_mul, Int32.toInt_div, Int.bmod_mul_bmod, Int.sub_bmod_bmod, Int.mul_comm, ← Int.tmod_def]
  generalize x.toInt.tmod y.toInt = z at a b
  rw [Int.bmod_def]; omega
/-- a number modulo m, 0 to m - 1 -/
def zz_mod (x : Int32) (m : Nat) : Nat := (x.toInt % (m : Int)).toNat
theorem zz_modn {n m : Nat} (h : n < 2 ^ 31) : zz_mod (nI n) m = n % m := by
  unfold zz_mod; rw [nI_toInt h, ← Int.natCast_emod]; rfl
theorem zz_modlt {x : Int32} {m : Nat} (h : 0 < m) : zz_mod x m < m := by
  unfold zz_mod
  have h1 := Int.emod_nonneg x.toInt (show (m : Int) ≠ 0 by omega)
  have h2 := Int.emod_lt_of_pos x.toInt (show (0 : Int) < m by omega)
  omega
theorem zz_tm {x : Int} {m : Nat} (hm : 0 < m) : (0 ≤ x.tmod m ∧ x % m = x.tmod m) ∨ (x.tmod m < 0 ∧ x % m = x.tmod m + m) := by
  rcases Int.lt_or_le x 0 with h | h
  · have h1 := Int.emod_add_mul_ediv x m
    have h2 := Int.tmod_add_mul_tdiv x m
    have h3 := Int.emod_nonneg x (show (m : Int) ≠ 0 by omega)
    have h4 := Int.emod_lt_of_pos x (show (0 : Int) < m by omega)
    have e : x.tmod m = -((-x).tmod m) := by rw [Int.neg_tmod, Int.neg_neg]
    have h5 : (-x).tmod m = (-x) % m := Int.tmod_eq_emod_of_nonneg (by omega)
    have h6 := Int.emod_nonneg (-x) (show (m : Int) ≠ 0 by omega)
    have h7 := Int.emod_lt_of_pos (-x) (show (0 : Int) < m by omega)
    have h8 : ((m : Int) ∣ x) ↔ x % m = 0 := Int.dvd_iff_emod_eq_zero
    have h9 := Int.emod_add_mul_ediv (-x) m
    rcases Int.lt_or_le 0 ((-x) % m) with q | q
    · refine Or.inr ⟨by omega, ?_⟩
      have h10 : x = (m - (-x) % m) + m * (-(-x / m) - 1) := by rw [Int.mul_sub, Int.mul_neg, Int.mul_one]; omega
      rw [e, h5]
      conv => lhs; rw [h10]
      rw [Int.add_mul_emod_self_left, Int.emod_eq_of_lt (by omega) (by omega)]; omega
    · have q0 : (-x) % m = 0 := by omega
      refine Or.inl ⟨by omega, ?_⟩
      rw [e, h5, q0]
      have h10 : x = m * (-(-x / m)) := by rw [Int.mul_neg]; omega
      conv => lhs; rw [h10]
      rw [Int.mul_emod_right]; rfl
  · exact Or.inl ⟨by rw [Int.tmod_eq_emod_of_nonneg h]; exact Int.emod_nonneg _ (by omega), (Int.tmod_eq_emod_of_nonneg h).symm⟩
theorem zz_m1 {x r : Int32} {m : Nat} (hm : 0 < m) (hm1 : m < 1000) (e : r.toInt = x.toInt.tmod m) (h : 0 ≤ r) : r = nI (zz_mod x m) := by
  rw [Int32.le_iff_toInt_le, show (0 : Int32).toInt = 0 from rfl] at h
  have h1 := zz_modlt (x := x) hm
  apply Int32.toInt_inj.mp
  rw [nI_toInt (by omega)]
  unfold zz_mod at *
  have h2 := Int.emod_nonneg x.toInt (show (m : Int) ≠ 0 by omega)
  rcases zz_tm (x := x.toInt) hm with ⟨-, q⟩ | ⟨q, -⟩ <;> omega
theorem zz_m2 {x r : Int32} {m : Nat} (hm : 0 < m) (hm1 : m < 1000) (e : r.toInt = x.toInt.tmod m) (h : ¬ 0 ≤ r) : r + nI m = nI (zz_mod x m) := by
  rw [Int32.le_iff_toInt_le, show (0 : Int32).toInt = 0 from rfl] at h
  have h1 := zz_modlt (x := x) hm
  have h2 := Int.emod_nonneg x.toInt (show (m : Int) ≠ 0 by omega)
  apply Int32.toInt_inj.mp
  rw [Int32.toInt_add, nI_toInt (by omega), nI_toInt (by omega), Int.bmod_def]
  unfold zz_mod at *
  have hq : x.toInt.tmod m < 0 ∧ x.toInt % m = x.toInt.tmod m + m := by
    rcases zz_tm (x := x.toInt) hm with ⟨q, -⟩ | q
    · omega
    · exact q
  omega
theorem zs_C_mod (g : Nat → Int32) (gl : Nat → Int64) (a : Nat → Nat → Int32) (al : Nat → Nat → Int64) (x : Int32) (m : Nat) (hm : 0 < m) (hm1 : m < 1000) : zm_Ev zt_get 1 104 [.int x, .int (nI m)] (zw_C g gl a al) (fun v w => v = some (.int (nI (zz_mod x m))) ∧ w = (zw_C g gl a al)) := by
  refine zr_ev zt_X_mod rfl rfl ?_
  show zm_Run zt_get 0 zt_X_mod (0, [some (.int x), some (.int (nI m)), none], [], (zw_C g gl a al)) _
  refine zr_go (t := (1, [some (.int x), some (.int (nI m)), none], [.int (nI m)], (zw_C g gl a al))) 1 rfl ?_
  refine zr_igt (x := nI m) (y := 0) m 0 rfl rfl (by omega) (by omega) (t := (6, [some (.int x), some (.int (nI m)), none], [], (zw_C g gl a al))) (f := (4, [some (.int x), some (.int (nI m)), none], [], (zw_C g gl a al))) rfl (fun h1 => ?_) (fun h1 => ?_)
  · skip
    refine zr_go (t := (8, [some (.int x), some (.int (nI m)), none], [.int (nI m), .int x], (zw_C g gl a al))) 2 rfl ?_
    refine zr_cd (t := (9, [some (.int x), some (.int (nI m)), none], [.int (x - x / (nI m) * (nI m))], (zw_C g gl a al))) rfl (zn_ne0 (b := m) rfl hm (by omega)) ?_
    have e1 : (x - x / (nI m) * (nI m)).toInt = x.toInt.tmod m := by rw [n32_rem, nI_toInt (by omega)]
    generalize x - x / (nI m) * (nI m) = r at e1
    refine zr_go (t := (11, [some (.int x), some (.int (nI m)), some (.int r)], [.int r], (zw_C g gl a al))) 2 rfl ?_
    refine zr_if (c := 0 ≤ r) (t := (20, [some (.int x), some (.int (nI m)), some (.int r)], [], (zw_C g gl a al))) (f := (14, [some (.int x), some (.int (nI m)), some (.int r)], [], (zw_C g gl a al))) rfl (fun h2 => ?_) (fun h2 => ?_)
    · skip
      refine zr_go (t := (21, [some (.int x), some (.int (nI m)), some (.int r)], [.int r], (zw_C g gl a al))) 1 rfl ?_
      exact zr_ret rfl trivial ⟨by congr 2; exact zz_m1 hm hm1 e1 h2, rfl⟩
    · skip
      refine zr_go (t := (21, [some (.int x), some (.int (nI m)), some (.int r)], [.int (r + (nI m))], (zw_C g gl a al))) 4 rfl ?_
      exact zr_ret rfl trivial ⟨by congr 2; exact zz_m2 hm hm1 e1 h2, rfl⟩
  · skip
    exfalso; omega
theorem zs_C_modN (g : Nat → Int32) (gl : Nat → Int64) (a : Nat → Nat → Int32) (al : Nat → Nat → Int64) (X : Int32) (n m : Nat) (hX : X = nI n) (hn : n < 2 ^ 31) (hm : 0 < m) (hm1 : m < 1000) : zm_Ev zt_get 1 104 [.int X, .int (nI m)] (zw_C g gl a al) (fun v w => v = some (.int (nI (n % m))) ∧ w = zw_C g gl a al) := by
  subst hX
  have h := zs_C_mod g gl a al (nI n) m hm hm1
  rw [zz_modn hn] at h
  exact h
/-- what a number gives 1 with, modulo P -/
def zz_inv (P x : Nat) : Nat := if P = 5 ∧ (x = 2 ∨ x = 3) then 5 - x else x
theorem zs_C_inverse (g : Nat → Int32) (gl : Nat → Int64) (a : Nat → Nat → Int32) (al : Nat → Nat → Int64) (x P : Nat) (hx : x < 1000) (hP : P < 1000) : zm_Ev zt_get 1 105 [.int (nI x), .int (nI P)] (zw_C g gl a al) (fun v w => v = some (.int (nI (zz_inv P x))) ∧ w = (zw_C g gl a al)) := by
  refine zr_ev zt_X_inverse rfl rfl ?_
  show zm_Run zt_get 0 zt_X_inverse (0, [some (.int (nI x)), some (.int (nI P))], [], (zw_C g gl a al)) _
  refine zr_go (t := (2, [some (.int (nI x)), some (.int (nI P))], [.int 5, .int (nI P)], (zw_C g gl a al))) 2 rfl ?_
  refine zr_ine (x := nI P) (y := 5) P 5 rfl rfl (by omega) (by omega) (t := (21, [some (.int (nI x)), some (.int (nI P))], [], (zw_C g gl a al))) (f := (5, [some (.int (nI x)), some (.int (nI P))], [], (zw_C g gl a al))) rfl (fun h1 => ?_) (fun h1 => ?_)
  · skip
    refine zr_go (t := (22, [some (.int (nI x)), some (.int (nI P))], [.int (nI x)], (zw_C g gl a al))) 1 rfl ?_
    exact zr_ret rfl trivial ⟨by unfold zz_inv; rw [if_neg (fun q => h1 q.1)], rfl⟩
  · skip
    refine zr_go (t := (7, [some (.int (nI x)), some (.int (nI P))], [.int 2, .int (nI x)], (zw_C g gl a al))) 2 rfl ?_
    refine zr_ieq (x := nI x) (y := 2) x 2 rfl rfl (by omega) (by omega) (t := (15, [some (.int (nI x)), some (.int (nI P))], [], (zw_C g gl a al))) (f := (10, [some (.int (nI x)), some (.int (nI P))], [], (zw_C g gl a al))) rfl (fun h2 => ?_) (fun h2 => ?_)
    · skip
      refine zr_go (t := (22, [some (.int (nI x)), some (.int (nI P))], [.int (5 - (nI x))], (zw_C g gl a al))) 4 rfl ?_
      rw [show 5 - (nI x) = nI (5 - x) from (zn_sub (a := 5) rfl rfl (by omega))]
      exact zr_ret rfl trivial ⟨by unfold zz_inv; rw [if_pos (And.intro h1 (Or.inl h2))], rfl⟩
    · skip
      refine zr_go (t := (12, [some (.int (nI x)), some (.int (nI P))], [.int 3, .int (nI x)], (zw_C g gl a al))) 2 rfl ?_
      refine zr_ine (x := nI x) (y := 3) x 3 rfl rfl (by omega) (by omega) (t := (21, [some (.int (nI x)), some (.int (nI P))], [], (zw_C g gl a al))) (f := (15, [some (.int (nI x)), some (.int (nI P))], [], (zw_C g gl a al))) rfl (fun h3 => ?_) (fun h3 => ?_)
      · skip
        refine zr_go (t := (22, [some (.int (nI x)), some (.int (nI P))], [.int (nI x)], (zw_C g gl a al))) 1 rfl ?_
        exact zr_ret rfl trivial ⟨by unfold zz_inv; rw [if_neg (fun q => q.2.elim h2 h3)], rfl⟩
      · skip
        refine zr_go (t := (22, [some (.int (nI x)), some (.int (nI P))], [.int (5 - (nI x))], (zw_C g gl a al))) 4 rfl ?_
        rw [show 5 - (nI x) = nI (5 - x) from (zn_sub (a := 5) rfl rfl (by omega))]
        exact zr_ret rfl trivial ⟨by unfold zz_inv; rw [if_pos (And.intro h1 (Or.inr h3))], rfl⟩
theorem zs_C_bitCount (g : Nat → Int32) (gl : Nat → Int64) (a : Nat → Nat → Int32) (al : Nat → Nat → Int64) (x : Int64) : zm_Ev zt_get 1 216 [.long x] (zw_C g gl a al) (fun v w => v = some (.int (nI (zC (lb x) 64))) ∧ w = (zw_C g gl a al)) := by
  obtain ⟨X, hX, rfl, hb⟩ := nL_ex x
  rw [zC_congr 64 hb]
  obtain ⟨V4, V5, hV4, hV5, hV⟩ := bc_sum hX
  obtain ⟨e1, l1⟩ := bc_s1 hX
  obtain ⟨e2, l2⟩ := bc_s2 l1
  obtain ⟨e3, l3⟩ := bc_s3 l2
  refine zr_ev zt_L_bitCount rfl rfl ?_
  show zm_Run zt_get 0 zt_L_bitCount (0, [some (.long (nL X)), none], [], (zw_C g gl a al)) _
  refine zr_go (t := (9, [some (.long (nL X)), none], [.long ((nL X) - ((((nL X).toUInt64 >>> ((1 : Int32).toInt64.toUInt64 &&& Int64.toUInt64 63)).toInt64) &&& 6148914691236517205))], (zw_C g gl a al))) 7 rfl ?_
  rw [e1]
  refine zr_go (t := (23, [some (.long (nL (bc_1 8 X))), none], [.long (((nL (bc_1 8 X)) &&& 3689348814741910323) + ((((nL (bc_1 8 X)).toUInt64 >>> ((2 : Int32).toInt64.toUInt64 &&& Int64.toUInt64 63)).toInt64) &&& 3689348814741910323))], (zw_C g gl a al))) 10 rfl ?_
  rw [e2]
  refine zr_go (t := (33, [some (.long (nL (bc_2 8 (bc_1 8 X)))), none], [.long (((nL (bc_2 8 (bc_1 8 X))) + (((nL (bc_2 8 (bc_1 8 X))).toUInt64 >>> ((4 : Int32).toInt64.toUInt64 &&& Int64.toUInt64 63)).toInt64)) &&& 1085102592571150095)], (zw_C g gl a al))) 8 rfl ?_
  rw [e3]
  have hU : bc_3 8 (bc_2 8 (bc_1 8 X)) = bc_U 8 X := rfl
  rw [hU]
  rw [hU] at l3
  generalize bc_U 8 X = U at hV4 l3
  refine zr_go (t := (40, [some (.long (nL U)), none], [.long ((nL U) + (((nL U).toUInt64 >>> ((8 : Int32).toInt64.toUInt64 &&& Int64.toUInt64 63)).toInt64))], (zw_C g gl a al))) 6 rfl ?_
  rw [nL_u8 (show U < 2 ^ 64 by omega), nL_add, ← hV4]
  refine zr_go (t := (47, [some (.long (nL V4)), none], [.long ((nL V4) + (((nL V4).toUInt64 >>> ((16 : Int32).toInt64.toUInt64 &&& Int64.toUInt64 63)).toInt64))], (zw_C g gl a al))) 6 rfl ?_
  rw [nL_u16 (show V4 < 2 ^ 64 by omega), nL_add, ← hV5]
  refine zr_go (t := (54, [some (.long (nL V5)), none], [.long ((nL V5) + (((nL V5).toUInt64 >>> ((32 : Int32).toInt64.toUInt64 &&& Int64.toUInt64 63)).toInt64))], (zw_C g gl a al))) 6 rfl ?_
  rw [nL_u32 (show V5 < 2 ^ 64 by omega), nL_add]
  refine zr_go (t := (60, [some (.long (nL (V5 + V5 / 4294967296))), none], [.int (((nL (V5 + V5 / 4294967296)).toInt32) &&& 127)], (zw_C g gl a al))) 5 rfl ?_
  rw [bc_end, hV]
  exact zr_ret rfl trivial ⟨rfl, rfl⟩
/-- the lowest bit -/
def lb_low (x : Int64) : Nat := zM (lb x) 0 64
theorem lb_neg {x : Int64} {j : Nat} (hj : j < 64) : lb (-x) j = (lb x j ^^ decide (∃ i, i < j ∧ lb x i = true)) := by
  unfold lb
  rw [Int64.toBitVec_neg, BitVec.getLsbD_neg, decide_eq_true hj, Bool.true_and]
theorem lb_low_ge {x : Int64} : (lb_low x = 64 ∧ ∀ k, k < 64 → lb x k = false) ∨ (lb_low x < 64 ∧ lb x (lb_low x) = true ∧ ∀ k, k < lb_low x → lb x k = false) := by
  have h := zM_ge (lb x) 64 0
  have hb : ∀ t, t < lb_low x → lb x t = false := fun t ht => zM_bef 64 0 t (Nat.zero_le _) ht
  by_cases q : lb_low x < 64
  · exact Or.inr ⟨q, h.2.2 (by have : zM (lb x) 0 64 < 64 := q; omega), hb⟩
  · have h2 : lb_low x ≤ 0 + 64 := h.2.1
    exact Or.inl ⟨by omega, fun k hk => hb k (by omega)⟩
theorem lb_lowest {x : Int64} {j : Nat} : lb (x &&& -x) j = (decide (j < 64) && decide (j = lb_low x)) := by
  by_cases hj : j < 64
  · rw [lb_and, lb_neg hj, decide_eq_true hj, Bool.true_and]
    rcases lb_low_ge (x := x) with ⟨h1, h2⟩ | ⟨h1, h2, h3⟩
    · rw [h2 j hj, Bool.false_and, decide_eq_false (show ¬ j = lb_low x by omega)]
    · by_cases e : j = lb_low x
      · subst e
        rw [h2, decide_eq_true rfl, decide_eq_false (fun ⟨i, a, b⟩ => by rw [h3 i a] at b; cases b)]; rfl
      · rw [decide_eq_false e]
        by_cases q : j < lb_low x
        · rw [h3 j q, Bool.false_and]
        · rw [decide_eq_true ⟨lb_low x, by omega, h2⟩]; cases lb x j <;> rfl
  · rw [decide_eq_false hj, Bool.false_and, lb_ge (by omega)]
theorem zC_lt_n (m : Nat) : ∀ n, zC (fun k => decide (k < m)) n = min m n
  | 0 => (Nat.min_zero m).symm
  | n + 1 => by
    show zC (fun k => decide (k < m)) n + (decide (n < m)).toNat = _
    rw [zC_lt_n m n]
    by_cases h : n < m
    · rw [decide_eq_true h]; show min m n + 1 = _; omega
    · rw [decide_eq_false h]; show min m n + 0 = _; omega
theorem lb_m1 {k : Nat} (hk : k < 64) : lb (-1) k = true := (by decide +kernel : ∀ k, k < 64 → lb (-1) k = true) k hk
theorem lb_below (x : Int64) : zC (lb ((x &&& -x) - 1)) 64 = lb_low x := by
  rcases lb_low_ge (x := x) with ⟨h1, h2⟩ | ⟨h1, h2, h3⟩
  · have e : x &&& -x = 0 := lb_is0.mpr (fun k hk => by rw [lb_lowest, decide_eq_false (show ¬ k = lb_low x by omega), Bool.and_false])
    rw [e, h1, show (0 : Int64) - 1 = -1 from rfl, zC_congr 64 (h := fun k => decide (k < 64)) (fun k hk => by rw [lb_m1 hk, decide_eq_true hk]), zC_lt_n]; rfl
  · have e : x &&& -x = 1 <<< ((nI (lb_low x)).toInt64 &&& 63) := lb_ext (fun k hk => by
      rw [lb_lowest, lb_bit h1, decide_eq_true hk, Bool.true_and]
      by_cases q : k = lb_low x
      · rw [decide_eq_true q, decide_eq_true q.symm]
      · rw [decide_eq_false q, decide_eq_false (fun z => q z.symm)])
    rw [e, zC_congr 64 (h := fun k => decide (k < lb_low x)) (fun k _ => lb_all h1), zC_lt_n]
    omega
theorem zs_C_lowestBit (g : Nat → Int32) (gl : Nat → Int64) (a : Nat → Nat → Int32) (al : Nat → Nat → Int64) (x : Int64) : zm_Ev zt_get 2 106 [.long x] (zw_C g gl a al) (fun v w => v = some (.int (nI (lb_low x))) ∧ w = (zw_C g gl a al)) := by
  refine zr_ev zt_X_lowestBit rfl rfl ?_
  show zm_Run zt_get 1 zt_X_lowestBit (0, [some (.long x), none], [], (zw_C g gl a al)) _
  refine zr_go (t := (6, [some (.long x), none], [.long ((x &&& (-x)) - 1)], (zw_C g gl a al))) 6 rfl ?_
  refine zr_call (t := (9, [some (.long x), none], [], (zw_C g gl a al))) rfl (Nat.le_of_ble_eq_true rfl : 1 ≤ 1) (zs_C_bitCount g gl a al ((x &&& (-x)) - 1)) ?_
  rintro _ _ ⟨rfl, rfl⟩
  show zm_Run zt_get 1 zt_X_lowestBit (9, [some (.long x), none], [.int (nI (zC (lb ((x &&& (-x)) - 1)) 64))], (zw_C g gl a al)) _
  exact zr_ret rfl trivial ⟨by rw [lb_below], rfl⟩
theorem zk_seedC {s : Nat} (h : s < 2147483648) : ((1103515245 * (nI s).toInt64 + 12345) &&& 2147483647).toInt32 = nI (zk_nx s) := by
  rw [nI_nL h, show (1103515245 : Int64) = nL 1103515245 from rfl, show (12345 : Int64) = nL 12345 from rfl, show (2147483647 : Int64) = nL (2 ^ 31 - 1) from rfl]
  rw [show nL 1103515245 * nL s = nL (1103515245 * s) from (Int64.ofNat_mul _ _).symm, nL_add, nL_and, Nat.and_two_pow_sub_one_eq_mod, nL_nI (Nat.mod_lt _ (by decide))]
  rfl
theorem zs_C_nextSeed (g : Nat → Int32) (gl : Nat → Int64) (a : Nat → Nat → Int32) (al : Nat → Nat → Int64) (s : Nat) (hs : s < 2147483648) : zm_Ev zt_get 1 103 [.int (nI s)] (zw_C g gl a al) (fun v w => v = some (.int (nI (zk_nx s))) ∧ w = (zw_C g gl a al)) := by
  refine zr_ev zt_X_nextSeed rfl rfl ?_
  show zm_Run zt_get 0 zt_X_nextSeed (0, [some (.int (nI s))], [], (zw_C g gl a al)) _
  refine zr_go (t := (15, [some (.int (nI s))], [.int ((((1103515245 * ((nI s).toInt64)) + 12345) &&& 2147483647).toInt32)], (zw_C g gl a al))) 9 rfl ?_
  rw [zk_seedC hs]
  exact zr_ret rfl trivial ⟨rfl, rfl⟩
