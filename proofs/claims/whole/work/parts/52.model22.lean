/-! the reference: swap, plus, scale, times (written by wip/whole/gen_m22.py) -/
def zx_1 (x : Int32) (n : Nat) : Bool := decide (1 ≤ x.toInt ∧ x.toInt < n)
theorem zx_1of {x : Int32} {n : Nat} (h : zx_1 x n = true) : 1 ≤ zx_k x ∧ zx_k x < n ∧ x = nI (zx_k x) := by
  have h1 := of_decide_eq_true h
  refine ⟨by unfold zx_k; omega, by unfold zx_k; omega, ?_⟩
  apply Int32.toInt_inj.mp
  have h2 := Int32.toInt_lt x
  rw [nI_toInt (by unfold zx_k; omega)]
  unfold zx_k; omega
theorem zs_M_within1 (g : Nat → Int32) (gl : Nat → Int64) (a : Nat → Nat → Int32) (al : Nat → Nat → Int64) (x Z : Int32) (n : Nat) (hZ : Z = nI n) (hn : n < 2 ^ 30) : zm_Ev zt_get 1 107 [.int x, .int 1, .int (Z - 1)] (zw_M g gl a al) (fun v w => v = some (.int (nI (zx_1 x n).toNat)) ∧ w = zw_M g gl a al) := by
  refine zr_evp (zs_M_within g gl a al x 1 (Z - 1)) ?_
  rintro v w ⟨h, rfl⟩
  refine ⟨?_, rfl⟩
  subst hZ
  rw [Int32.le_iff_toInt_le, Int32.le_iff_toInt_le, show nI n - 1 = nI n - nI 1 from rfl, pk_sub_toInt hn (by decide), show (1 : Int32).toInt = 1 from rfl] at h
  unfold zx_1
  rcases h with ⟨h, rfl⟩ | ⟨h, rfl⟩
  · rw [decide_eq_true (by omega)]; rfl
  · rw [decide_eq_false (by omega)]; rfl
def zi_id (k : Nat) : Nat := if k % 7 = 0 then 1 else 0
theorem zi_id4 (k : Nat) : zi_id k ≤ 4 := by unfold zi_id; split <;> omega
theorem zu_upd {f : Nat → Int32} {im : Nat → Nat} {t v : Nat} {x : Int32} (hx : x = nI v) (h : ∀ k, k < 36 → f k = nI (im k)) : ∀ k, k < 36 → upd f t x k = nI (zu_c im t v k) := by
  intro k hk
  subst hx
  unfold zu_c
  by_cases e : k = t
  · subst e; rw [if_pos rfl]; exact pk_us
  · rw [if_neg e]; exact (pk_un e).trans (h k hk)
theorem zu_4 {im : Nat → Nat} {t v : Nat} (hv : v ≤ 4) (h : ∀ k, im k ≤ 4) : ∀ k, zu_c im t v k ≤ 4 := by
  intro k; unfold zu_c; split; exact hv; exact h k
def zi_sw (i j : Nat) : Nat → Nat := zu_c (zu_c (zu_c (zu_c zi_id (7 * i) 0) (7 * j) 0) (6 * i + j) 1) (6 * j + i) 1
theorem zi_sw4 (i j k : Nat) : zi_sw i j k ≤ 4 := zu_4 (by decide) (zu_4 (by decide) (zu_4 (by decide) (zu_4 (by decide) zi_id4))) k
theorem zi_swh {f : Nat → Int32} (i j : Nat) (hf0 : ∀ k, k < 36 → f k = nI (zi_id k)) : ∀ k, k < 36 → upd (upd (upd (upd f (7 * i) 0) (7 * j) 0) (6 * i + j) 1) (6 * j + i) 1 k = nI (zi_sw i j k) := zu_upd rfl (zu_upd rfl (zu_upd rfl (zu_upd rfl hf0)))
theorem zs_M_swap (g : Nat → Int32) (gl : Nat → Int64) (a : Nat → Nat → Int32) (al : Nat → Nat → Int64) (hG : zG) (P N : Nat) (c : Nat → Nat) (hS : zS_F g a P N c) (m0 : Nat → Nat) (hm0 : ∀ k, k < 36 → a 23 k = nI (m0 k)) (hm04 : ∀ k, k < 36 → m0 k ≤ 4) (x y : Int32) : zm_Ev zt_get 10 200 [.ref 0, .int x, .int y] (zw_M g gl a al) (fun v w => (¬ (0 < P ∧ zx_in x N = true ∧ zx_in y N = true ∧ zx_k x ≠ zx_k y) ∧ v = some (.int (-101)) ∧ w = (zw_M g gl a al)) ∨ ((0 < P ∧ zx_in x N = true ∧ zx_in y N = true ∧ zx_k x ≠ zx_k y) ∧ v = some (.int (nI (zw_on P N (zi_c P N c (zi_sw (zx_k x) (zx_k y)) m0)))) ∧ ∃ (f1 f22 f23 : Nat → Int32) (x10 x11 x12 x14 x25 : Int32) (f5 f6 f7 f9 f10 f11 f12 f13 f14 f16 : Nat → Int32), w = (zw_M (upd (upd (upd (upd (upd g 10 x10) 11 x11) 12 x12) 14 x14) 25 x25) gl (va_up (va_up (va_up (va_up (va_up (va_up (va_up (va_up (va_up (va_up (va_up (va_up (va_up a 1 f1) 5 f5) 6 f6) 7 f7) 9 f9) 10 f10) 11 f11) 12 f12) 13 f13) 14 f14) 16 f16) 22 f22) 23 f23) al) ∧ zS_f (upd (upd (upd (upd (upd g 10 x10) 11 x11) 12 x12) 14 x14) 25 x25) (va_up (va_up (va_up (va_up (va_up (va_up (va_up (va_up (va_up (va_up (va_up (va_up (va_up a 1 f1) 5 f5) 6 f6) 7 f7) 9 f9) 10 f10) 11 f11) 12 f12) 13 f13) 14 f14) 16 f16) 22 f22) 23 f23) P N (zi_c P N c (zi_sw (zx_k x) (zx_k y)) m0) ∧ f16 0 = 0 ∧ f16 1 = 0 ∧ (∀ k, k < 36 → f23 k = nI (zi_c P N c (zi_sw (zx_k x) (zx_k y)) m0 k)) ∧ ∀ k, k < 36 → zi_c P N c (zi_sw (zx_k x) (zx_k y)) m0 k ≤ 4)) := by
  obtain ⟨hP, hN, hnp, hP5, hN6, hnp1⟩ := hS.nums
  refine zr_ev zt_M_swap rfl rfl ?_
  show zm_Run zt_get 9 zt_M_swap (0, [some (.ref 0), some (.int x), some (.int y)], [], (zw_M g gl a al)) _
  refine zr_go (t := (2, [some (.ref 0), some (.int x), some (.int y)], [.int x, .ref 0], (zw_M g gl a al))) 2 rfl ?_
  refine zr_call (t := (5, [some (.ref 0), some (.int x), some (.int y)], [], (zw_M g gl a al))) rfl (Nat.le_of_ble_eq_true rfl : 2 ≤ 9) (zs_M_isVariable g gl a al P N hP hP5 hN hN6 x) ?_
  rintro _ _ ⟨rfl, rfl⟩
  show zm_Run zt_get 9 zt_M_swap (5, [some (.ref 0), some (.int x), some (.int y)], [.int (nI ((decide (0 < P) && zx_in x N).toNat))], (zw_M g gl a al)) _
  have hb_x := zb_le (decide (0 < P) && zx_in x N)
  refine zr_ieq (x := nI ((decide (0 < P) && zx_in x N).toNat)) (y := 0) ((decide (0 < P) && zx_in x N).toNat) 0 rfl rfl (by omega) (by omega) (t := (21, [some (.ref 0), some (.int x), some (.int y)], [], (zw_M g gl a al))) (f := (8, [some (.ref 0), some (.int x), some (.int y)], [], (zw_M g gl a al))) rfl (fun h1 => ?_) (fun h1 => ?_)
  · skip
    refine zr_go (t := (23, [some (.ref 0), some (.int x), some (.int y)], [.int (-101)], (zw_M g gl a al))) 1 rfl ?_
    exact zr_ret rfl trivial (Or.inl ⟨fun q => (by have := zb_0 h1; rw [decide_eq_true q.1, q.2.1] at this; cases this), rfl, rfl⟩)
  · skip
    refine zr_go (t := (10, [some (.ref 0), some (.int x), some (.int y)], [.int y, .ref 0], (zw_M g gl a al))) 2 rfl ?_
    refine zr_call (t := (13, [some (.ref 0), some (.int x), some (.int y)], [], (zw_M g gl a al))) rfl (Nat.le_of_ble_eq_true rfl : 2 ≤ 9) (zs_M_isVariable g gl a al P N hP hP5 hN hN6 y) ?_
    rintro _ _ ⟨rfl, rfl⟩
    show zm_Run zt_get 9 zt_M_swap (13, [some (.ref 0), some (.int x), some (.int y)], [.int (nI ((decide (0 < P) && zx_in y N).toNat))], (zw_M g gl a al)) _
    have hb_y := zb_le (decide (0 < P) && zx_in y N)
    refine zr_ieq (x := nI ((decide (0 < P) && zx_in y N).toNat)) (y := 0) ((decide (0 < P) && zx_in y N).toNat) 0 rfl rfl (by omega) (by omega) (t := (21, [some (.ref 0), some (.int x), some (.int y)], [], (zw_M g gl a al))) (f := (16, [some (.ref 0), some (.int x), some (.int y)], [], (zw_M g gl a al))) rfl (fun h2 => ?_) (fun h2 => ?_)
    · skip
      refine zr_go (t := (23, [some (.ref 0), some (.int x), some (.int y)], [.int (-101)], (zw_M g gl a al))) 1 rfl ?_
      exact zr_ret rfl trivial (Or.inl ⟨fun q => (by have := zb_0 h2; rw [decide_eq_true q.1, q.2.2.1] at this; cases this), rfl, rfl⟩)
    · skip
      obtain ⟨hp0, hv_x⟩ := Bool.and_eq_true_iff.mp (zb_1 h1)
      have hp0 := of_decide_eq_true hp0
      obtain ⟨hi, ei⟩ := zx_of hv_x
      obtain ⟨hp0, hv_y⟩ := Bool.and_eq_true_iff.mp (zb_1 h2)
      have hp0 := of_decide_eq_true hp0
      obtain ⟨hj, ej⟩ := zx_of hv_y
      obtain ⟨hf, -⟩ := hS.form hp0
      obtain ⟨hok, hFF, hRR, hnum, -⟩ := id hf
      have hP0 := hp0
      generalize hk_i : zx_k x = i at hi ei
      subst ei
      generalize hk_j : zx_k y = j at hj ej
      subst ej
      refine zr_go (t := (18, [some (.ref 0), some (.int (nI i)), some (.int (nI j))], [.int (nI j), .int (nI i)], (zw_M g gl a al))) 2 rfl ?_
      refine zr_ine (x := nI i) (y := nI j) i j rfl rfl (by omega) (by omega) (t := (24, [some (.ref 0), some (.int (nI i)), some (.int (nI j))], [], (zw_M g gl a al))) (f := (21, [some (.ref 0), some (.int (nI i)), some (.int (nI j))], [], (zw_M g gl a al))) rfl (fun h4 => ?_) (fun h4 => ?_)
      · skip
        have hq : 0 < P ∧ zx_in (nI i) N = true ∧ zx_in (nI j) N = true ∧ i ≠ j := ⟨hp0, hv_x, hv_y, h4⟩
        refine zr_go (t := (25, [some (.ref 0), some (.int (nI i)), some (.int (nI j))], [.ref 0], (zw_M g gl a al))) 1 rfl ?_
        refine zr_call (t := (28, [some (.ref 0), some (.int (nI i)), some (.int (nI j))], [], (zw_M g gl a al))) rfl (Nat.le_of_ble_eq_true rfl : 1 ≤ 9) (zs_M_beginImages g gl a al) ?_
        rintro _ _ ⟨rfl, f, rfl, hf0⟩
        show zm_Run zt_get 9 zt_M_swap (28, [some (.ref 0), some (.int (nI i)), some (.int (nI j))], [], (zw_M g gl (va_up a 22 f) al)) _
        refine zr_go (t := (37, [some (.ref 0), some (.int (nI i)), some (.int (nI j))], [.int 0, .int (7 * (nI i)), .ref 22], (zw_M g gl (va_up a 22 f) al))) 6 rfl ?_
        refine zr_cd (t := (38, [some (.ref 0), some (.int (nI i)), some (.int (nI j))], [], (zw_M g gl (va_up a 22 (upd f ((7 * (nI i)).toNatClampNeg) 0)) al))) rfl (pk_in (7 * i) 36 (by omega) (zn_mul rfl rfl) (by omega)) ?_
        rw [pk_cl (x := (7 * (nI i))) (7 * i) (zn_mul rfl rfl) (by omega)]
        obtain ⟨fu0, hfu0⟩ : ∃ q, q = (upd f (7 * i) 0) := ⟨_, rfl⟩
        rw [← hfu0]
        refine zr_go (t := (47, [some (.ref 0), some (.int (nI i)), some (.int (nI j))], [.int 0, .int (7 * (nI j)), .ref 22], (zw_M g gl (va_up a 22 fu0) al))) 6 rfl ?_
        refine zr_cd (t := (48, [some (.ref 0), some (.int (nI i)), some (.int (nI j))], [], (zw_M g gl (va_up a 22 (upd fu0 ((7 * (nI j)).toNatClampNeg) 0)) al))) rfl (pk_in (7 * j) 36 (by omega) (zn_mul rfl rfl) (by omega)) ?_
        rw [pk_cl (x := (7 * (nI j))) (7 * j) (zn_mul rfl rfl) (by omega)]
        obtain ⟨fu1, hfu1⟩ : ∃ q, q = (upd fu0 (7 * j) 0) := ⟨_, rfl⟩
        rw [← hfu1]
        refine zr_go (t := (59, [some (.ref 0), some (.int (nI i)), some (.int (nI j))], [.int 1, .int ((6 * (nI i)) + (nI j)), .ref 22], (zw_M g gl (va_up a 22 fu1) al))) 8 rfl ?_
        refine zr_cd (t := (60, [some (.ref 0), some (.int (nI i)), some (.int (nI j))], [], (zw_M g gl (va_up a 22 (upd fu1 (((6 * (nI i)) + (nI j)).toNatClampNeg) 1)) al))) rfl (pk_in ((6 * i) + j) 36 (by omega) (zn_add (zn_mul rfl rfl) rfl) (by omega)) ?_
        rw [pk_cl (x := ((6 * (nI i)) + (nI j))) ((6 * i) + j) (zn_add (zn_mul rfl rfl) rfl) (by omega)]
        obtain ⟨fu2, hfu2⟩ : ∃ q, q = (upd fu1 ((6 * i) + j) 1) := ⟨_, rfl⟩
        rw [← hfu2]
        refine zr_go (t := (71, [some (.ref 0), some (.int (nI i)), some (.int (nI j))], [.int 1, .int ((6 * (nI j)) + (nI i)), .ref 22], (zw_M g gl (va_up a 22 fu2) al))) 8 rfl ?_
        refine zr_cd (t := (72, [some (.ref 0), some (.int (nI i)), some (.int (nI j))], [], (zw_M g gl (va_up a 22 (upd fu2 (((6 * (nI j)) + (nI i)).toNatClampNeg) 1)) al))) rfl (pk_in ((6 * j) + i) 36 (by omega) (zn_add (zn_mul rfl rfl) rfl) (by omega)) ?_
        rw [pk_cl (x := ((6 * (nI j)) + (nI i))) ((6 * j) + i) (zn_add (zn_mul rfl rfl) rfl) (by omega)]
        obtain ⟨fu3, hfu3⟩ : ∃ q, q = (upd fu2 ((6 * j) + i) 1) := ⟨_, rfl⟩
        rw [← hfu3]
        refine zr_go (t := (73, [some (.ref 0), some (.int (nI i)), some (.int (nI j))], [.ref 0], (zw_M g gl (va_up a 22 fu3) al))) 1 rfl ?_
        have him : ∀ k, k < 36 → fu3 k = nI (zi_sw i j k) := by rw [hfu3, hfu2, hfu1, hfu0]; exact zi_swh i j hf0
        refine zr_call (t := (76, [some (.ref 0), some (.int (nI i)), some (.int (nI j))], [], (zw_M g gl (va_up a 22 fu3) al))) rfl (Nat.le_of_ble_eq_true rfl : 9 ≤ 9) (zs_M_change g gl (va_up a 22 fu3) al hG P N c hok hFF hRR hnum (zi_sw i j) m0 him (fun k _ => zi_sw4 i j k) hm0 hm04) ?_
        rintro _ _ ⟨rfl, f1, f23, x10, x11, x12, x14, x25, f5, f6, f7, f9, f10, f11, f12, f13, f14, f16, rfl, hnew, hch0, hch1, hmm, hm4⟩
        show zm_Run zt_get 9 zt_M_swap (76, [some (.ref 0), some (.int (nI i)), some (.int (nI j))], [.int (nI (zw_on P N (zi_c P N c (zi_sw i j) m0)))], (zw_M (upd (upd (upd (upd (upd g 10 x10) 11 x11) 12 x12) 14 x14) 25 x25) gl (va_up (va_up (va_up (va_up (va_up (va_up (va_up (va_up (va_up (va_up (va_up (va_up (va_up a 1 f1) 5 f5) 6 f6) 7 f7) 9 f9) 10 f10) 11 f11) 12 f12) 13 f13) 14 f14) 16 f16) 22 fu3) 23 f23) al)) _
        exact zr_ret rfl trivial (Or.inr ⟨hq, rfl, f1, _, f23, x10, x11, x12, x14, x25, f5, f6, f7, f9, f10, f11, f12, f13, f14, f16, rfl, hnew, hch0, hch1, hmm, hm4⟩)
      · skip
        refine zr_go (t := (23, [some (.ref 0), some (.int (nI i)), some (.int (nI j))], [.int (-101)], (zw_M g gl a al))) 1 rfl ?_
        exact zr_ret rfl trivial (Or.inl ⟨fun q => q.2.2.2 h4, rfl, rfl⟩)
theorem zs_M_plus (g : Nat → Int32) (gl : Nat → Int64) (a : Nat → Nat → Int32) (al : Nat → Nat → Int64) (hG : zG) (P N : Nat) (c : Nat → Nat) (hS : zS_F g a P N c) (m0 : Nat → Nat) (hm0 : ∀ k, k < 36 → a 23 k = nI (m0 k)) (hm04 : ∀ k, k < 36 → m0 k ≤ 4) (x y z : Int32) : zm_Ev zt_get 10 201 [.ref 0, .int x, .int y, .int z] (zw_M g gl a al) (fun v w => (¬ (0 < P ∧ zx_in x N = true ∧ zx_in y N = true ∧ zx_k x ≠ zx_k y) ∧ v = some (.int (-101)) ∧ w = (zw_M g gl a al)) ∨ ((0 < P ∧ zx_in x N = true ∧ zx_in y N = true ∧ zx_k x ≠ zx_k y) ∧ zx_in z P = false ∧ v = some (.int (-102)) ∧ w = (zw_M g gl a al)) ∨ ((0 < P ∧ zx_in x N = true ∧ zx_in y N = true ∧ zx_k x ≠ zx_k y) ∧ zx_in z P = true ∧ v = some (.int (nI (zw_on P N (zi_c P N c (zu_c zi_id (6 * (zx_k y) + (zx_k x)) (zx_k z)) m0)))) ∧ ∃ (f1 f22 f23 : Nat → Int32) (x10 x11 x12 x14 x25 : Int32) (f5 f6 f7 f9 f10 f11 f12 f13 f14 f16 : Nat → Int32), w = (zw_M (upd (upd (upd (upd (upd g 10 x10) 11 x11) 12 x12) 14 x14) 25 x25) gl (va_up (va_up (va_up (va_up (va_up (va_up (va_up (va_up (va_up (va_up (va_up (va_up (va_up a 1 f1) 5 f5) 6 f6) 7 f7) 9 f9) 10 f10) 11 f11) 12 f12) 13 f13) 14 f14) 16 f16) 22 f22) 23 f23) al) ∧ zS_f (upd (upd (upd (upd (upd g 10 x10) 11 x11) 12 x12) 14 x14) 25 x25) (va_up (va_up (va_up (va_up (va_up (va_up (va_up (va_up (va_up (va_up (va_up (va_up (va_up a 1 f1) 5 f5) 6 f6) 7 f7) 9 f9) 10 f10) 11 f11) 12 f12) 13 f13) 14 f14) 16 f16) 22 f22) 23 f23) P N (zi_c P N c (zu_c zi_id (6 * (zx_k y) + (zx_k x)) (zx_k z)) m0) ∧ f16 0 = 0 ∧ f16 1 = 0 ∧ (∀ k, k < 36 → f23 k = nI (zi_c P N c (zu_c zi_id (6 * (zx_k y) + (zx_k x)) (zx_k z)) m0 k)) ∧ ∀ k, k < 36 → zi_c P N c (zu_c zi_id (6 * (zx_k y) + (zx_k x)) (zx_k z)) m0 k ≤ 4)) := by
  obtain ⟨hP, hN, hnp, hP5, hN6, hnp1⟩ := hS.nums
  refine zr_ev zt_M_plus rfl rfl ?_
  show zm_Run zt_get 9 zt_M_plus (0, [some (.ref 0), some (.int x), some (.int y), some (.int z)], [], (zw_M g gl a al)) _
  refine zr_go (t := (2, [some (.ref 0), some (.int x), some (.int y), some (.int z)], [.int x, .ref 0], (zw_M g gl a al))) 2 rfl ?_
  refine zr_call (t := (5, [some (.ref 0), some (.int x), some (.int y), some (.int z)], [], (zw_M g gl a al))) rfl (Nat.le_of_ble_eq_true rfl : 2 ≤ 9) (zs_M_isVariable g gl a al P N hP hP5 hN hN6 x) ?_
  rintro _ _ ⟨rfl, rfl⟩
  show zm_Run zt_get 9 zt_M_plus (5, [some (.ref 0), some (.int x), some (.int y), some (.int z)], [.int (nI ((decide (0 < P) && zx_in x N).toNat))], (zw_M g gl a al)) _
  have hb_x := zb_le (decide (0 < P) && zx_in x N)
  refine zr_ieq (x := nI ((decide (0 < P) && zx_in x N).toNat)) (y := 0) ((decide (0 < P) && zx_in x N).toNat) 0 rfl rfl (by omega) (by omega) (t := (21, [some (.ref 0), some (.int x), some (.int y), some (.int z)], [], (zw_M g gl a al))) (f := (8, [some (.ref 0), some (.int x), some (.int y), some (.int z)], [], (zw_M g gl a al))) rfl (fun h1 => ?_) (fun h1 => ?_)
  · skip
    refine zr_go (t := (23, [some (.ref 0), some (.int x), some (.int y), some (.int z)], [.int (-101)], (zw_M g gl a al))) 1 rfl ?_
    exact zr_ret rfl trivial (Or.inl ⟨fun q => (by have := zb_0 h1; rw [decide_eq_true q.1, q.2.1] at this; cases this), rfl, rfl⟩)
  · skip
    refine zr_go (t := (10, [some (.ref 0), some (.int x), some (.int y), some (.int z)], [.int y, .ref 0], (zw_M g gl a al))) 2 rfl ?_
    refine zr_call (t := (13, [some (.ref 0), some (.int x), some (.int y), some (.int z)], [], (zw_M g gl a al))) rfl (Nat.le_of_ble_eq_true rfl : 2 ≤ 9) (zs_M_isVariable g gl a al P N hP hP5 hN hN6 y) ?_
    rintro _ _ ⟨rfl, rfl⟩
    show zm_Run zt_get 9 zt_M_plus (13, [some (.ref 0), some (.int x), some (.int y), some (.int z)], [.int (nI ((decide (0 < P) && zx_in y N).toNat))], (zw_M g gl a al)) _
    have hb_y := zb_le (decide (0 < P) && zx_in y N)
    refine zr_ieq (x := nI ((decide (0 < P) && zx_in y N).toNat)) (y := 0) ((decide (0 < P) && zx_in y N).toNat) 0 rfl rfl (by omega) (by omega) (t := (21, [some (.ref 0), some (.int x), some (.int y), some (.int z)], [], (zw_M g gl a al))) (f := (16, [some (.ref 0), some (.int x), some (.int y), some (.int z)], [], (zw_M g gl a al))) rfl (fun h2 => ?_) (fun h2 => ?_)
    · skip
      refine zr_go (t := (23, [some (.ref 0), some (.int x), some (.int y), some (.int z)], [.int (-101)], (zw_M g gl a al))) 1 rfl ?_
      exact zr_ret rfl trivial (Or.inl ⟨fun q => (by have := zb_0 h2; rw [decide_eq_true q.1, q.2.2.1] at this; cases this), rfl, rfl⟩)
    · skip
      obtain ⟨hp0, hv_x⟩ := Bool.and_eq_true_iff.mp (zb_1 h1)
      have hp0 := of_decide_eq_true hp0
      obtain ⟨hi, ei⟩ := zx_of hv_x
      obtain ⟨hp0, hv_y⟩ := Bool.and_eq_true_iff.mp (zb_1 h2)
      have hp0 := of_decide_eq_true hp0
      obtain ⟨hj, ej⟩ := zx_of hv_y
      obtain ⟨hf, -⟩ := hS.form hp0
      obtain ⟨hok, hFF, hRR, hnum, -⟩ := id hf
      have hP0 := hp0
      generalize hk_i : zx_k x = i at hi ei
      subst ei
      generalize hk_j : zx_k y = j at hj ej
      subst ej
      refine zr_go (t := (18, [some (.ref 0), some (.int (nI i)), some (.int (nI j)), some (.int z)], [.int (nI j), .int (nI i)], (zw_M g gl a al))) 2 rfl ?_
      refine zr_ine (x := nI i) (y := nI j) i j rfl rfl (by omega) (by omega) (t := (24, [some (.ref 0), some (.int (nI i)), some (.int (nI j)), some (.int z)], [], (zw_M g gl a al))) (f := (21, [some (.ref 0), some (.int (nI i)), some (.int (nI j)), some (.int z)], [], (zw_M g gl a al))) rfl (fun h4 => ?_) (fun h4 => ?_)
      · skip
        have hq : 0 < P ∧ zx_in (nI i) N = true ∧ zx_in (nI j) N = true ∧ i ≠ j := ⟨hp0, hv_x, hv_y, h4⟩
        refine zr_go (t := (32, [some (.ref 0), some (.int (nI i)), some (.int (nI j)), some (.int z)], [.int ((g 0) - 1), .int 0, .int z], (zw_M g gl a al))) 6 rfl ?_
        refine zr_call (t := (35, [some (.ref 0), some (.int (nI i)), some (.int (nI j)), some (.int z)], [], (zw_M g gl a al))) rfl (Nat.le_of_ble_eq_true rfl : 1 ≤ 9) (zs_M_withinI g gl a al z (g 0) P hP (by omega)) ?_
        rintro _ _ ⟨rfl, rfl⟩
        show zm_Run zt_get 9 zt_M_plus (35, [some (.ref 0), some (.int (nI i)), some (.int (nI j)), some (.int z)], [.int (nI ((zx_in z P).toNat))], (zw_M g gl a al)) _
        have hb3 := zb_le (zx_in z P)
        refine zr_ine (x := nI ((zx_in z P).toNat)) (y := 0) ((zx_in z P).toNat) 0 rfl rfl (by omega) (by omega) (t := (41, [some (.ref 0), some (.int (nI i)), some (.int (nI j)), some (.int z)], [], (zw_M g gl a al))) (f := (38, [some (.ref 0), some (.int (nI i)), some (.int (nI j)), some (.int z)], [], (zw_M g gl a al))) rfl (fun h5 => ?_) (fun h5 => ?_)
        · skip
          have hz := zb_1 h5
          obtain ⟨hv, ev⟩ := zx_of hz
          generalize hk_v : zx_k z = v at hv ev
          subst ev
          refine zr_go (t := (42, [some (.ref 0), some (.int (nI i)), some (.int (nI j)), some (.int (nI v))], [.ref 0], (zw_M g gl a al))) 1 rfl ?_
          refine zr_call (t := (45, [some (.ref 0), some (.int (nI i)), some (.int (nI j)), some (.int (nI v))], [], (zw_M g gl a al))) rfl (Nat.le_of_ble_eq_true rfl : 1 ≤ 9) (zs_M_beginImages g gl a al) ?_
          rintro _ _ ⟨rfl, f, rfl, hf0⟩
          show zm_Run zt_get 9 zt_M_plus (45, [some (.ref 0), some (.int (nI i)), some (.int (nI j)), some (.int (nI v))], [], (zw_M g gl (va_up a 22 f) al)) _
          refine zr_go (t := (56, [some (.ref 0), some (.int (nI i)), some (.int (nI j)), some (.int (nI v))], [.int (nI v), .int ((6 * (nI j)) + (nI i)), .ref 22], (zw_M g gl (va_up a 22 f) al))) 8 rfl ?_
          refine zr_cd (t := (57, [some (.ref 0), some (.int (nI i)), some (.int (nI j)), some (.int (nI v))], [], (zw_M g gl (va_up a 22 (upd f (((6 * (nI j)) + (nI i)).toNatClampNeg) (nI v))) al))) rfl (pk_in ((6 * j) + i) 36 (by omega) (zn_add (zn_mul rfl rfl) rfl) (by omega)) ?_
          rw [pk_cl (x := ((6 * (nI j)) + (nI i))) ((6 * j) + i) (zn_add (zn_mul rfl rfl) rfl) (by omega)]
          refine zr_go (t := (58, [some (.ref 0), some (.int (nI i)), some (.int (nI j)), some (.int (nI v))], [.ref 0], (zw_M g gl (va_up a 22 (upd f ((6 * j) + i) (nI v))) al))) 1 rfl ?_
          have him : ∀ k, k < 36 → (upd f ((6 * j) + i) (nI v)) k = nI ((zu_c zi_id (6 * j + i) v) k) := zu_upd rfl hf0
          refine zr_call (t := (61, [some (.ref 0), some (.int (nI i)), some (.int (nI j)), some (.int (nI v))], [], (zw_M g gl (va_up a 22 (upd f ((6 * j) + i) (nI v))) al))) rfl (Nat.le_of_ble_eq_true rfl : 9 ≤ 9) (zs_M_change g gl (va_up a 22 (upd f ((6 * j) + i) (nI v))) al hG P N c hok hFF hRR hnum (zu_c zi_id (6 * j + i) v) m0 him (fun k _ => zu_4 (by omega) zi_id4 k) hm0 hm04) ?_
          rintro _ _ ⟨rfl, f1, f23, x10, x11, x12, x14, x25, f5, f6, f7, f9, f10, f11, f12, f13, f14, f16, rfl, hnew, hch0, hch1, hmm, hm4⟩
          show zm_Run zt_get 9 zt_M_plus (61, [some (.ref 0), some (.int (nI i)), some (.int (nI j)), some (.int (nI v))], [.int (nI (zw_on P N (zi_c P N c (zu_c zi_id (6 * j + i) v) m0)))], (zw_M (upd (upd (upd (upd (upd g 10 x10) 11 x11) 12 x12) 14 x14) 25 x25) gl (va_up (va_up (va_up (va_up (va_up (va_up (va_up (va_up (va_up (va_up (va_up (va_up (va_up a 1 f1) 5 f5) 6 f6) 7 f7) 9 f9) 10 f10) 11 f11) 12 f12) 13 f13) 14 f14) 16 f16) 22 (upd f ((6 * j) + i) (nI v))) 23 f23) al)) _
          exact zr_ret rfl trivial (Or.inr (Or.inr ⟨hq, hz, rfl, f1, _, f23, x10, x11, x12, x14, x25, f5, f6, f7, f9, f10, f11, f12, f13, f14, f16, rfl, hnew, hch0, hch1, hmm, hm4⟩))
        · skip
          refine zr_go (t := (40, [some (.ref 0), some (.int (nI i)), some (.int (nI j)), some (.int z)], [.int (-102)], (zw_M g gl a al))) 1 rfl ?_
          exact zr_ret rfl trivial (Or.inr (Or.inl ⟨hq, zb_0 h5, rfl, rfl⟩))
      · skip
        refine zr_go (t := (23, [some (.ref 0), some (.int (nI i)), some (.int (nI j)), some (.int z)], [.int (-101)], (zw_M g gl a al))) 1 rfl ?_
        exact zr_ret rfl trivial (Or.inl ⟨fun q => q.2.2.2 h4, rfl, rfl⟩)
theorem zs_M_scale (g : Nat → Int32) (gl : Nat → Int64) (a : Nat → Nat → Int32) (al : Nat → Nat → Int64) (hG : zG) (P N : Nat) (c : Nat → Nat) (hS : zS_F g a P N c) (m0 : Nat → Nat) (hm0 : ∀ k, k < 36 → a 23 k = nI (m0 k)) (hm04 : ∀ k, k < 36 → m0 k ≤ 4) (x z : Int32) : zm_Ev zt_get 10 202 [.ref 0, .int x, .int z] (zw_M g gl a al) (fun v w => (¬ (0 < P ∧ zx_in x N = true) ∧ v = some (.int (-101)) ∧ w = (zw_M g gl a al)) ∨ ((0 < P ∧ zx_in x N = true) ∧ zx_1 z P = false ∧ v = some (.int (-102)) ∧ w = (zw_M g gl a al)) ∨ ((0 < P ∧ zx_in x N = true) ∧ zx_1 z P = true ∧ v = some (.int (nI (zw_on P N (zi_c P N c (zu_c zi_id (7 * (zx_k x)) (zx_k z)) m0)))) ∧ ∃ (f1 f22 f23 : Nat → Int32) (x10 x11 x12 x14 x25 : Int32) (f5 f6 f7 f9 f10 f11 f12 f13 f14 f16 : Nat → Int32), w = (zw_M (upd (upd (upd (upd (upd g 10 x10) 11 x11) 12 x12) 14 x14) 25 x25) gl (va_up (va_up (va_up (va_up (va_up (va_up (va_up (va_up (va_up (va_up (va_up (va_up (va_up a 1 f1) 5 f5) 6 f6) 7 f7) 9 f9) 10 f10) 11 f11) 12 f12) 13 f13) 14 f14) 16 f16) 22 f22) 23 f23) al) ∧ zS_f (upd (upd (upd (upd (upd g 10 x10) 11 x11) 12 x12) 14 x14) 25 x25) (va_up (va_up (va_up (va_up (va_up (va_up (va_up (va_up (va_up (va_up (va_up (va_up (va_up a 1 f1) 5 f5) 6 f6) 7 f7) 9 f9) 10 f10) 11 f11) 12 f12) 13 f13) 14 f14) 16 f16) 22 f22) 23 f23) P N (zi_c P N c (zu_c zi_id (7 * (zx_k x)) (zx_k z)) m0) ∧ f16 0 = 0 ∧ f16 1 = 0 ∧ (∀ k, k < 36 → f23 k = nI (zi_c P N c (zu_c zi_id (7 * (zx_k x)) (zx_k z)) m0 k)) ∧ ∀ k, k < 36 → zi_c P N c (zu_c zi_id (7 * (zx_k x)) (zx_k z)) m0 k ≤ 4)) := by
  obtain ⟨hP, hN, hnp, hP5, hN6, hnp1⟩ := hS.nums
  refine zr_ev zt_M_scale rfl rfl ?_
  show zm_Run zt_get 9 zt_M_scale (0, [some (.ref 0), some (.int x), some (.int z)], [], (zw_M g gl a al)) _
  refine zr_go (t := (2, [some (.ref 0), some (.int x), some (.int z)], [.int x, .ref 0], (zw_M g gl a al))) 2 rfl ?_
  refine zr_call (t := (5, [some (.ref 0), some (.int x), some (.int z)], [], (zw_M g gl a al))) rfl (Nat.le_of_ble_eq_true rfl : 2 ≤ 9) (zs_M_isVariable g gl a al P N hP hP5 hN hN6 x) ?_
  rintro _ _ ⟨rfl, rfl⟩
  show zm_Run zt_get 9 zt_M_scale (5, [some (.ref 0), some (.int x), some (.int z)], [.int (nI ((decide (0 < P) && zx_in x N).toNat))], (zw_M g gl a al)) _
  have hb_x := zb_le (decide (0 < P) && zx_in x N)
  refine zr_ine (x := nI ((decide (0 < P) && zx_in x N).toNat)) (y := 0) ((decide (0 < P) && zx_in x N).toNat) 0 rfl rfl (by omega) (by omega) (t := (11, [some (.ref 0), some (.int x), some (.int z)], [], (zw_M g gl a al))) (f := (8, [some (.ref 0), some (.int x), some (.int z)], [], (zw_M g gl a al))) rfl (fun h1 => ?_) (fun h1 => ?_)
  · skip
    obtain ⟨hp0, hv_x⟩ := Bool.and_eq_true_iff.mp (zb_1 h1)
    have hp0 := of_decide_eq_true hp0
    obtain ⟨hi, ei⟩ := zx_of hv_x
    obtain ⟨hf, -⟩ := hS.form hp0
    obtain ⟨hok, hFF, hRR, hnum, -⟩ := id hf
    generalize hk_i : zx_k x = i at hi ei
    subst ei
    have hq := And.intro hp0 hv_x
    refine zr_go (t := (19, [some (.ref 0), some (.int (nI i)), some (.int z)], [.int ((g 0) - 1), .int 1, .int z], (zw_M g gl a al))) 6 rfl ?_
    refine zr_call (t := (22, [some (.ref 0), some (.int (nI i)), some (.int z)], [], (zw_M g gl a al))) rfl (Nat.le_of_ble_eq_true rfl : 1 ≤ 9) (zs_M_within1 g gl a al z (g 0) P hP (by omega)) ?_
    rintro _ _ ⟨rfl, rfl⟩
    show zm_Run zt_get 9 zt_M_scale (22, [some (.ref 0), some (.int (nI i)), some (.int z)], [.int (nI ((zx_1 z P).toNat))], (zw_M g gl a al)) _
    have hb3 := zb_le (zx_1 z P)
    refine zr_ine (x := nI ((zx_1 z P).toNat)) (y := 0) ((zx_1 z P).toNat) 0 rfl rfl (by omega) (by omega) (t := (28, [some (.ref 0), some (.int (nI i)), some (.int z)], [], (zw_M g gl a al))) (f := (25, [some (.ref 0), some (.int (nI i)), some (.int z)], [], (zw_M g gl a al))) rfl (fun h5 => ?_) (fun h5 => ?_)
    · skip
      have hz := zb_1 h5
      obtain ⟨hv1, hv, ev⟩ := zx_1of hz
      generalize hk_v : zx_k z = v at hv1 hv ev
      subst ev
      refine zr_go (t := (29, [some (.ref 0), some (.int (nI i)), some (.int (nI v))], [.ref 0], (zw_M g gl a al))) 1 rfl ?_
      refine zr_call (t := (32, [some (.ref 0), some (.int (nI i)), some (.int (nI v))], [], (zw_M g gl a al))) rfl (Nat.le_of_ble_eq_true rfl : 1 ≤ 9) (zs_M_beginImages g gl a al) ?_
      rintro _ _ ⟨rfl, f, rfl, hf0⟩
      show zm_Run zt_get 9 zt_M_scale (32, [some (.ref 0), some (.int (nI i)), some (.int (nI v))], [], (zw_M g gl (va_up a 22 f) al)) _
      refine zr_go (t := (41, [some (.ref 0), some (.int (nI i)), some (.int (nI v))], [.int (nI v), .int (7 * (nI i)), .ref 22], (zw_M g gl (va_up a 22 f) al))) 6 rfl ?_
      refine zr_cd (t := (42, [some (.ref 0), some (.int (nI i)), some (.int (nI v))], [], (zw_M g gl (va_up a 22 (upd f ((7 * (nI i)).toNatClampNeg) (nI v))) al))) rfl (pk_in (7 * i) 36 (by omega) (zn_mul rfl rfl) (by omega)) ?_
      rw [pk_cl (x := (7 * (nI i))) (7 * i) (zn_mul rfl rfl) (by omega)]
      refine zr_go (t := (43, [some (.ref 0), some (.int (nI i)), some (.int (nI v))], [.ref 0], (zw_M g gl (va_up a 22 (upd f (7 * i) (nI v))) al))) 1 rfl ?_
      have him : ∀ k, k < 36 → (upd f (7 * i) (nI v)) k = nI ((zu_c zi_id (7 * i) v) k) := zu_upd rfl hf0
      refine zr_call (t := (46, [some (.ref 0), some (.int (nI i)), some (.int (nI v))], [], (zw_M g gl (va_up a 22 (upd f (7 * i) (nI v))) al))) rfl (Nat.le_of_ble_eq_true rfl : 9 ≤ 9) (zs_M_change g gl (va_up a 22 (upd f (7 * i) (nI v))) al hG P N c hok hFF hRR hnum (zu_c zi_id (7 * i) v) m0 him (fun k _ => zu_4 (by omega) zi_id4 k) hm0 hm04) ?_
      rintro _ _ ⟨rfl, f1, f23, x10, x11, x12, x14, x25, f5, f6, f7, f9, f10, f11, f12, f13, f14, f16, rfl, hnew, hch0, hch1, hmm, hm4⟩
      show zm_Run zt_get 9 zt_M_scale (46, [some (.ref 0), some (.int (nI i)), some (.int (nI v))], [.int (nI (zw_on P N (zi_c P N c (zu_c zi_id (7 * i) v) m0)))], (zw_M (upd (upd (upd (upd (upd g 10 x10) 11 x11) 12 x12) 14 x14) 25 x25) gl (va_up (va_up (va_up (va_up (va_up (va_up (va_up (va_up (va_up (va_up (va_up (va_up (va_up a 1 f1) 5 f5) 6 f6) 7 f7) 9 f9) 10 f10) 11 f11) 12 f12) 13 f13) 14 f14) 16 f16) 22 (upd f (7 * i) (nI v))) 23 f23) al)) _
      exact zr_ret rfl trivial (Or.inr (Or.inr ⟨hq, hz, rfl, f1, _, f23, x10, x11, x12, x14, x25, f5, f6, f7, f9, f10, f11, f12, f13, f14, f16, rfl, hnew, hch0, hch1, hmm, hm4⟩))
    · skip
      refine zr_go (t := (27, [some (.ref 0), some (.int (nI i)), some (.int z)], [.int (-102)], (zw_M g gl a al))) 1 rfl ?_
      exact zr_ret rfl trivial (Or.inr (Or.inl ⟨hq, zb_0 h5, rfl, rfl⟩))
  · skip
    refine zr_go (t := (10, [some (.ref 0), some (.int x), some (.int z)], [.int (-101)], (zw_M g gl a al))) 1 rfl ?_
    exact zr_ret rfl trivial (Or.inl ⟨fun q => (by have := zb_0 h1; rw [decide_eq_true q.1, q.2] at this; cases this), rfl, rfl⟩)
theorem zs_M_times (g : Nat → Int32) (gl : Nat → Int64) (a : Nat → Nat → Int32) (al : Nat → Nat → Int64) (hG : zG) (P N : Nat) (c : Nat → Nat) (hS : zS_F g a P N c) (z : Int32) : zm_Ev zt_get 9 203 [.ref 0, .int z] (zw_M g gl a al) (fun v w => (¬ 0 < P ∧ v = some (.int (-103)) ∧ w = (zw_M g gl a al)) ∨ (0 < P ∧ zx_1 z P = false ∧ v = some (.int (-102)) ∧ w = (zw_M g gl a al)) ∨ (0 < P ∧ zx_1 z P = true ∧ v = some (.int (zd_disc P N (fun k => c k * zx_k z % P))) ∧ ∃ (f1 f15 : Nat → Int32) (x10 x11 x12 x14 x25 : Int32) (f5 f6 f7 f9 f10 f11 f12 f13 f14 f16 : Nat → Int32), w = (zw_M (upd (upd (upd (upd (upd g 10 x10) 11 x11) 12 x12) 14 x14) 25 x25) gl (va_up (va_up (va_up (va_up (va_up (va_up (va_up (va_up (va_up (va_up (va_up (va_up a 1 f1) 5 f5) 6 f6) 7 f7) 9 f9) 10 f10) 11 f11) 12 f12) 13 f13) 14 f14) 15 f15) 16 f16) al) ∧ zS_f (upd (upd (upd (upd (upd g 10 x10) 11 x11) 12 x12) 14 x14) 25 x25) (va_up (va_up (va_up (va_up (va_up (va_up (va_up (va_up (va_up (va_up (va_up (va_up a 1 f1) 5 f5) 6 f6) 7 f7) 9 f9) 10 f10) 11 f11) 12 f12) 13 f13) 14 f14) 15 f15) 16 f16) P N (fun k => c k * zx_k z % P) ∧ f16 0 = 0 ∧ f16 1 = 0)) := by
  obtain ⟨hP, hN, hnp, hP5, hN6, hnp1⟩ := hS.nums
  refine zr_ev zt_M_times rfl rfl ?_
  show zm_Run zt_get 8 zt_M_times (0, [some (.ref 0), some (.int z), none], [], (zw_M g gl a al)) _
  refine zr_go (t := (1, [some (.ref 0), some (.int z), none], [.ref 0], (zw_M g gl a al))) 1 rfl ?_
  refine zr_call (t := (4, [some (.ref 0), some (.int z), none], [], (zw_M g gl a al))) rfl (Nat.le_of_ble_eq_true rfl : 1 ≤ 8) (zs_M_isForm g gl a al P hP hP5) ?_
  rintro _ _ ⟨rfl, rfl⟩
  show zm_Run zt_get 8 zt_M_times (4, [some (.ref 0), some (.int z), none], [.int (nI ((decide (0 < P)).toNat))], (zw_M g gl a al)) _
  have hb1 := zb_le (decide (0 < P))
  refine zr_ine (x := nI ((decide (0 < P)).toNat)) (y := 0) ((decide (0 < P)).toNat) 0 rfl rfl (by omega) (by omega) (t := (10, [some (.ref 0), some (.int z), none], [], (zw_M g gl a al))) (f := (7, [some (.ref 0), some (.int z), none], [], (zw_M g gl a al))) rfl (fun h1 => ?_) (fun h1 => ?_)
  · skip
    have hp0 := of_decide_eq_true (zb_1 h1)
    obtain ⟨hf, -⟩ := hS.form hp0
    obtain ⟨hok, hFF, hRR, hnum, -⟩ := id hf
    obtain ⟨-, -, hP0, -, -, hcc, hc4⟩ := id hFF
    refine zr_go (t := (18, [some (.ref 0), some (.int z), none], [.int ((g 0) - 1), .int 1, .int z], (zw_M g gl a al))) 6 rfl ?_
    refine zr_call (t := (21, [some (.ref 0), some (.int z), none], [], (zw_M g gl a al))) rfl (Nat.le_of_ble_eq_true rfl : 1 ≤ 8) (zs_M_within1 g gl a al z (g 0) P hP (by omega)) ?_
    rintro _ _ ⟨rfl, rfl⟩
    show zm_Run zt_get 8 zt_M_times (21, [some (.ref 0), some (.int z), none], [.int (nI ((zx_1 z P).toNat))], (zw_M g gl a al)) _
    have hb3 := zb_le (zx_1 z P)
    refine zr_ine (x := nI ((zx_1 z P).toNat)) (y := 0) ((zx_1 z P).toNat) 0 rfl rfl (by omega) (by omega) (t := (27, [some (.ref 0), some (.int z), none], [], (zw_M g gl a al))) (f := (24, [some (.ref 0), some (.int z), none], [], (zw_M g gl a al))) rfl (fun h5 => ?_) (fun h5 => ?_)
    · skip
      have hz := zb_1 h5
      obtain ⟨hv1, hv, ev⟩ := zx_1of hz
      generalize hk_v : zx_k z = v at hv1 hv ev
      subst ev
      refine zr_go (t := (29, [some (.ref 0), some (.int (nI v)), some (.int 0)], [], (zw_M g gl a al))) 2 rfl ?_
      refine zr_loop (fun zq : Nat × (Nat → Int32) => (29, [some (.ref 0), some (.int (nI v)), some (.int (nI zq.1))], [], (zw_M g gl (va_up a 1 zq.2) al))) (fun zq => zq.1 ≤ 36 ∧ (∀ t, t < zq.1 → zq.2 t = nI (c t * v % P)) ∧ ∀ t, zq.1 ≤ t → t < 36 → zq.2 t = nI (c t)) (fun zq => 36 - zq.1) ?_ (0, a 1) ⟨by omega, fun t h => absurd h (Nat.not_lt_zero t), fun t _ h => hcc t h⟩
      rintro ⟨k, fT⟩ ⟨hk, hT1, hT2⟩ ih
      try dsimp only at *
      refine zr_go (t := (32, [some (.ref 0), some (.int (nI v)), some (.int (nI k))], [.int 36, .int (nI k)], (zw_M g gl (va_up a 1 fT) al))) 2 rfl ?_
      refine zr_ige (x := nI k) (y := 36) k 36 rfl rfl (by omega) (by omega) (t := (60, [some (.ref 0), some (.int (nI v)), some (.int (nI k))], [], (zw_M g gl (va_up a 1 fT) al))) (f := (35, [some (.ref 0), some (.int (nI v)), some (.int (nI k))], [], (zw_M g gl (va_up a 1 fT) al))) rfl (fun h6 => ?_) (fun h6 => ?_)
      · skip
        have hT3 : ∀ t, t < 36 → fT t = nI (c t * v % P) := fun t ht => hT1 t (by omega)
        have h4 : ∀ k, k < 36 → c k * v % P ≤ 4 := fun k _ => Nat.le_of_lt_succ (Nat.lt_of_lt_of_le (Nat.mod_lt _ hP0) hP5)
        refine zr_go (t := (61, [some (.ref 0), some (.int (nI v)), some (.int (nI k))], [.ref 0], (zw_M g gl (va_up a 1 fT) al))) 1 rfl ?_
        refine zr_call (t := (64, [some (.ref 0), some (.int (nI v)), some (.int (nI k))], [], (zw_M g gl (va_up a 1 fT) al))) rfl (Nat.le_of_ble_eq_true rfl : 8 ≤ 8) (zs_M_layNewW g gl (va_up a 1 fT) al hG P N (fun k => c k * v % P) hok ⟨hP, hN, hP0, hP5, hN6, hT3, h4⟩ hRR hnum) ?_
        rintro _ _ ⟨rfl, x10, x11, x12, x14, x25, f5, f6, f7, f9, f10, f11, f12, f13, f14, f16, rfl, hnew, hch0, hch1, -⟩
        show zm_Run zt_get 8 zt_M_times (64, [some (.ref 0), some (.int (nI v)), some (.int (nI k))], [], (zw_M (upd (upd (upd (upd (upd g 10 x10) 11 x11) 12 x12) 14 x14) 25 x25) gl (va_up (va_up (va_up (va_up (va_up (va_up (va_up (va_up (va_up (va_up (va_up a 1 fT) 5 f5) 6 f6) 7 f7) 9 f9) 10 f10) 11 f11) 12 f12) 13 f13) 14 f14) 16 f16) al)) _
        refine zr_go (t := (65, [some (.ref 0), some (.int (nI v)), some (.int (nI k))], [.ref 0], (zw_M (upd (upd (upd (upd (upd g 10 x10) 11 x11) 12 x12) 14 x14) 25 x25) gl (va_up (va_up (va_up (va_up (va_up (va_up (va_up (va_up (va_up (va_up (va_up a 1 fT) 5 f5) 6 f6) 7 f7) 9 f9) 10 f10) 11 f11) 12 f12) 13 f13) 14 f14) 16 f16) al))) 1 rfl ?_
        refine zr_call (t := (68, [some (.ref 0), some (.int (nI v)), some (.int (nI k))], [], (zw_M (upd (upd (upd (upd (upd g 10 x10) 11 x11) 12 x12) 14 x14) 25 x25) gl (va_up (va_up (va_up (va_up (va_up (va_up (va_up (va_up (va_up (va_up (va_up a 1 fT) 5 f5) 6 f6) 7 f7) 9 f9) 10 f10) 11 f11) 12 f12) 13 f13) 14 f14) 16 f16) al))) rfl (Nat.le_of_ble_eq_true rfl : 4 ≤ 8) (zs_M_disc (upd (upd (upd (upd (upd g 10 x10) 11 x11) 12 x12) 14 x14) 25 x25) gl (va_up (va_up (va_up (va_up (va_up (va_up (va_up (va_up (va_up (va_up (va_up a 1 fT) 5 f5) 6 f6) 7 f7) 9 f9) 10 f10) 11 f11) 12 f12) 13 f13) 14 f14) 16 f16) al P N hP hN hok.1 hN6 (fun k => c k * v % P) hT3 h4) ?_
        rintro _ _ ⟨rfl, f15, rfl⟩
        show zm_Run zt_get 8 zt_M_times (68, [some (.ref 0), some (.int (nI v)), some (.int (nI k))], [.int (zd_disc P N (fun k => c k * v % P))], (zw_M (upd (upd (upd (upd (upd g 10 x10) 11 x11) 12 x12) 14 x14) 25 x25) gl (va_up (va_up (va_up (va_up (va_up (va_up (va_up (va_up (va_up (va_up (va_up (va_up a 1 fT) 5 f5) 6 f6) 7 f7) 9 f9) 10 f10) 11 f11) 12 f12) 13 f13) 14 f14) 15 f15) 16 f16) al)) _
        exact zr_ret rfl trivial (Or.inr (Or.inr ⟨hp0, hz, rfl, fT, f15, x10, x11, x12, x14, x25, f5, f6, f7, f9, f10, f11, f12, f13, f14, f16, rfl, hnew, hch0, hch1⟩))
      · skip
        have hck := hc4 k h6
        have hcv : c k * v ≤ 4 * 5 := Nat.mul_le_mul hck (by omega)
        refine zr_go (t := (45, [some (.ref 0), some (.int (nI v)), some (.int (nI k))], [.int (nI k), .ref 1, .int (nI k), .ref 1], (zw_M g gl (va_up a 1 fT) al))) 6 rfl ?_
        refine zr_cd (t := (46, [some (.ref 0), some (.int (nI v)), some (.int (nI k))], [.int (fT (nI k).toNatClampNeg), .int (nI k), .ref 1], (zw_M g gl (va_up a 1 fT) al))) rfl (pk_in k 36 (by omega) rfl (by omega)) ?_
        rw [pk_cl (x := (nI k)) k rfl (by omega)]
        rw [show fT k = nI (c k) from hT2 k (Nat.le_refl _) (by omega)]
        refine zr_go (t := (52, [some (.ref 0), some (.int (nI v)), some (.int (nI k))], [.int (g 0), .int ((nI (c k)) * (nI v)), .int (nI k), .ref 1], (zw_M g gl (va_up a 1 fT) al))) 4 rfl ?_
        refine zr_cd (t := (53, [some (.ref 0), some (.int (nI v)), some (.int (nI k))], [.int (((nI (c k)) * (nI v)) - ((nI (c k)) * (nI v)) / (g 0) * (g 0)), .int (nI k), .ref 1], (zw_M g gl (va_up a 1 fT) al))) rfl (zn_ne0 hP (by omega) (by omega)) ?_
        rw [show ((nI (c k)) * (nI v)) - ((nI (c k)) * (nI v)) / (g 0) * (g 0) = nI (((c k) * v) % P) from (zn_rem (zn_mul rfl rfl) hP (by omega) (by omega) (by omega))]
        refine zr_cd (t := (54, [some (.ref 0), some (.int (nI v)), some (.int (nI k))], [], (zw_M g gl (va_up a 1 (upd fT ((nI k).toNatClampNeg) (nI (((c k) * v) % P)))) al))) rfl (pk_in k 36 (by omega) rfl (by omega)) ?_
        rw [pk_cl (x := (nI k)) k rfl (by omega)]
        refine zr_go (t := (29, [some (.ref 0), some (.int (nI v)), some (.int ((nI k) + 1))], [], (zw_M g gl (va_up a 1 (upd fT k (nI (((c k) * v) % P)))) al))) 2 rfl ?_
        rw [show (nI k) + 1 = nI (k + 1) from (zn_add rfl rfl)]
        exact ih (k + 1, (upd fT k (nI (((c k) * v) % P)))) ⟨by omega, lt_s (fun t ht => (pk_un (Nat.ne_of_lt ht)).trans (hT1 t ht)) pk_us, fun t h7 h8 => (pk_un (by have h7 : k + 1 ≤ t := h7; omega)).trans (hT2 t (by have h7 : k + 1 ≤ t := h7; omega) h8)⟩ (by omega)
    · skip
      refine zr_go (t := (26, [some (.ref 0), some (.int z), none], [.int (-102)], (zw_M g gl a al))) 1 rfl ?_
      exact zr_ret rfl trivial (Or.inr (Or.inl ⟨hp0, zb_0 h5, rfl, rfl⟩))
  · skip
    refine zr_go (t := (9, [some (.ref 0), some (.int z), none], [.int (-103)], (zw_M g gl a al))) 1 rfl ?_
    exact zr_ret rfl trivial (Or.inl ⟨of_decide_eq_false (zb_0 h1), rfl, rfl⟩)
