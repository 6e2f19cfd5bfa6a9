/-! the class: texts, cells of a form (written by wip/whole/gen_c3.py) -/
theorem zp_Kn {cd : Nat → Nat} {n P m r d : Nat} (h : zp_st cd n = some (P, m, r, d)) (hm : m ≠ 0) : zp_K cd n P m r d := by
  match n, h with
  | 0, h => have h : some (0, 0, 0, 0) = some (P, m, r, d) := h; cases h; exact absurd rfl hm
  | 1, h =>
    have h : (if cd 0 = 50 ∨ cd 0 = 51 ∨ cd 0 = 53 then some (cd 0 - 48, 0, 0, 0) else none) = some (P, m, r, d) := h
    split at h
    · cases h; exact absurd rfl hm
    · cases h
  | k + 2, h => exact zp_K_ok k P m r d h
theorem zp_text_one {cd : Nat → Nat} {n P N : Nat} (h : zp_text cd n P N) : zv_ok P N ∧ zp_st cd n = some (P, N, N - 1, 1) ∧ n = zp_pos N (N - 1) + 1 ∧ ∀ i j, i ≤ j → j < N → 48 ≤ cd (zp_pos N i + (j - i)) ∧ cd (zp_pos N i + (j - i)) < 48 + P := by
  obtain ⟨-, d, h1, h2, h3⟩ := h
  obtain ⟨⟨hJ1, hJ2⟩, -, hK2, hK3⟩ := zp_Kn h1 h2
  have hJ : 3 ≤ N ∧ N ≤ zp_most P ∧ d = 1 := by
    rcases hJ2 with q | q <;> omega
  obtain ⟨a1, a2, rfl⟩ := hJ
  exact ⟨⟨hJ1, a1, a2⟩, h1, hK2 h2, fun i j hij hj => hK3 i j hij (by omega)⟩
theorem zs_C_isText (g : Nat → Int32) (gl : Nat → Int64) (a : Nat → Nat → Int32) (al : Nat → Nat → Int64) (n : Nat) (cd : Nat → Nat) (hp : zC_p g a n cd) : zm_Ev zt_get 4 24 [.ref 1] (zw_C g gl a al) (fun v w => ∃ x7 x8 x9 x10, w = (zw_C (upd (upd (upd (upd g 7 x7) 8 x8) 9 x9) 10 x10) gl a al) ∧ ((∃ P N, zp_text cd n P N ∧ v = some (.int 1) ∧ x7 = nI P ∧ x8 = nI N) ∨ ((¬ ∃ P N, zp_text cd n P N) ∧ v = some (.int 0)))) := by
  obtain ⟨hn, hn28, hcd, hcd1⟩ := id hp
  have hlen : zp_len cd n ≤ n := by have := (zM_ge (fun k => (zp_st cd (k + 1)).isNone) n 0).2.1; unfold zp_len; omega
  refine zr_ev zt_P_isText rfl rfl ?_
  show zm_Run zt_get 3 zt_P_isText (0, [some (.ref 1)], [], (zw_C g gl a al)) _
  refine zr_go (t := (1, [some (.ref 1)], [.ref 1], (zw_C g gl a al))) 1 rfl ?_
  refine zr_call (t := (4, [some (.ref 1)], [], (zw_C g gl a al))) rfl (Nat.le_of_ble_eq_true rfl : 3 ≤ 3) (zs_C_firstWrong g gl a al n cd hp) ?_
  rintro _ _ ⟨rfl, x7, x8, x9, x10, rfl, hst⟩
  show zm_Run zt_get 3 zt_P_isText (4, [some (.ref 1)], [.int (nI (zp_len cd n))], (zw_C (upd (upd (upd (upd g 7 x7) 8 x8) 9 x9) 10 x10) gl a al)) _
  refine zr_go (t := (8, [some (.ref 1)], [.int (g 6), .int (nI (zp_len cd n))], (zw_C (upd (upd (upd (upd g 7 x7) 8 x8) 9 x9) 10 x10) gl a al))) 2 rfl ?_
  refine zr_ine (x := nI (zp_len cd n)) (y := g 6) (zp_len cd n) n rfl hn (by omega) (by omega) (t := (43, [some (.ref 1)], [], (zw_C (upd (upd (upd (upd g 7 x7) 8 x8) 9 x9) 10 x10) gl a al))) (f := (11, [some (.ref 1)], [], (zw_C (upd (upd (upd (upd g 7 x7) 8 x8) 9 x9) 10 x10) gl a al))) rfl (fun h1 => ?_) (fun h1 => ?_)
  · skip
    refine zr_go (t := (44, [some (.ref 1)], [.int 0], (zw_C (upd (upd (upd (upd g 7 x7) 8 x8) 9 x9) 10 x10) gl a al))) 1 rfl ?_
    exact zr_ret rfl (Or.inl rfl) ⟨_, _, _, _, rfl, Or.inr ⟨fun ⟨P, N, q⟩ => h1 q.1, rfl⟩⟩
  · skip
    obtain ⟨P, m, r, d, hzt, hs⟩ := hst h1
    rcases hs with ⟨hn0, hm0, hr0, hd0, h9, h10⟩ | ⟨hn0, ⟨h7, h8, h9, h10⟩, hJ, hmr⟩
    · skip
      have h9 : x9 = 0 := h9
      subst h9
      refine zr_go (t := (15, [some (.ref 1)], [.int 0], (zw_C (upd (upd (upd (upd g 7 x7) 8 x8) 9 0) 10 x10) gl a al))) 2 rfl ?_
      refine zr_ile (x := 0) (y := 0) 0 0 rfl rfl (by omega) (by omega) (t := (43, [some (.ref 1)], [], (zw_C (upd (upd (upd (upd g 7 x7) 8 x8) 9 0) 10 x10) gl a al))) (f := (18, [some (.ref 1)], [], (zw_C (upd (upd (upd (upd g 7 x7) 8 x8) 9 0) 10 x10) gl a al))) rfl (fun h2 => ?_) (fun h2 => ?_)
      · skip
        refine zr_go (t := (44, [some (.ref 1)], [.int 0], (zw_C (upd (upd (upd (upd g 7 x7) 8 x8) 9 0) 10 x10) gl a al))) 1 rfl ?_
        exact zr_ret rfl (Or.inl rfl) ⟨_, _, _, _, rfl, Or.inr ⟨fun ⟨P2, N2, q⟩ => (by obtain ⟨-, d2, q1, q2, -⟩ := q; rw [hzt] at q1; cases q1; exact q2 hm0), rfl⟩⟩
      · skip
        exfalso; omega
    · skip
      have h7 : x7 = nI P := h7
      subst h7
      have h8 : x8 = nI (zc_w P m) := h8
      subst h8
      have h9 : x9 = nI r := h9
      subst h9
      have h10 : x10 = nI d := h10
      subst h10
      obtain ⟨hw6, hw3, hrw, hmz, hm1⟩ := zc_wJ hJ
      have hd6 := zc_d6 hJ
      refine zr_go (t := (15, [some (.ref 1)], [.int (nI r)], (zw_C (upd (upd (upd (upd g 7 (nI P)) 8 (nI (zc_w P m))) 9 (nI r)) 10 (nI d)) gl a al))) 2 rfl ?_
      refine zr_ile (x := nI r) (y := 0) r 0 rfl rfl (by omega) (by omega) (t := (43, [some (.ref 1)], [], (zw_C (upd (upd (upd (upd g 7 (nI P)) 8 (nI (zc_w P m))) 9 (nI r)) 10 (nI d)) gl a al))) (f := (18, [some (.ref 1)], [], (zw_C (upd (upd (upd (upd g 7 (nI P)) 8 (nI (zc_w P m))) 9 (nI r)) 10 (nI d)) gl a al))) rfl (fun h2 => ?_) (fun h2 => ?_)
      · skip
        refine zr_go (t := (44, [some (.ref 1)], [.int 0], (zw_C (upd (upd (upd (upd g 7 (nI P)) 8 (nI (zc_w P m))) 9 (nI r)) 10 (nI d)) gl a al))) 1 rfl ?_
        exact zr_ret rfl (Or.inl rfl) ⟨_, _, _, _, rfl, Or.inr ⟨fun ⟨P2, N2, q⟩ => (by obtain ⟨-, d2, q1, q2, -⟩ := q; rw [hzt] at q1; cases q1; exact q2 (hmr (by omega))), rfl⟩⟩
      · skip
        have hmne : m ≠ 0 := fun z => by have := (hmz z).1; omega
        have hwm : zc_w P m = m := if_neg hmne
        refine zr_go (t := (28, [some (.ref 1)], [.int ((nI (zc_w P m)) - 1), .int (nI r)], (zw_C (upd (upd (upd (upd g 7 (nI P)) 8 (nI (zc_w P m))) 9 (nI r)) 10 (nI d)) gl a al))) 6 rfl ?_
        refine zr_ine (x := nI r) (y := (nI (zc_w P m)) - 1) r ((zc_w P m) - 1) rfl (zn_sub rfl rfl (by omega)) (by omega) (by omega) (t := (43, [some (.ref 1)], [], (zw_C (upd (upd (upd (upd g 7 (nI P)) 8 (nI (zc_w P m))) 9 (nI r)) 10 (nI d)) gl a al))) (f := (31, [some (.ref 1)], [], (zw_C (upd (upd (upd (upd g 7 (nI P)) 8 (nI (zc_w P m))) 9 (nI r)) 10 (nI d)) gl a al))) rfl (fun h3 => ?_) (fun h3 => ?_)
        · skip
          refine zr_go (t := (44, [some (.ref 1)], [.int 0], (zw_C (upd (upd (upd (upd g 7 (nI P)) 8 (nI (zc_w P m))) 9 (nI r)) 10 (nI d)) gl a al))) 1 rfl ?_
          exact zr_ret rfl (Or.inl rfl) ⟨_, _, _, _, rfl, Or.inr ⟨fun ⟨P2, N2, q⟩ => (by obtain ⟨-, d2, q1, q2, -⟩ := q; rw [hzt] at q1; cases q1; omega), rfl⟩⟩
        · skip
          refine zr_go (t := (36, [some (.ref 1)], [.int 1, .int (nI d)], (zw_C (upd (upd (upd (upd g 7 (nI P)) 8 (nI (zc_w P m))) 9 (nI r)) 10 (nI d)) gl a al))) 3 rfl ?_
          refine zr_ine (x := nI d) (y := 1) d 1 rfl rfl (by omega) (by omega) (t := (43, [some (.ref 1)], [], (zw_C (upd (upd (upd (upd g 7 (nI P)) 8 (nI (zc_w P m))) 9 (nI r)) 10 (nI d)) gl a al))) (f := (39, [some (.ref 1)], [], (zw_C (upd (upd (upd (upd g 7 (nI P)) 8 (nI (zc_w P m))) 9 (nI r)) 10 (nI d)) gl a al))) rfl (fun h4 => ?_) (fun h4 => ?_)
          · skip
            refine zr_go (t := (44, [some (.ref 1)], [.int 0], (zw_C (upd (upd (upd (upd g 7 (nI P)) 8 (nI (zc_w P m))) 9 (nI r)) 10 (nI d)) gl a al))) 1 rfl ?_
            exact zr_ret rfl (Or.inl rfl) ⟨_, _, _, _, rfl, Or.inr ⟨fun ⟨P2, N2, q⟩ => (by obtain ⟨-, d2, q1, q2, q3⟩ := q; have hd := hm1 hmne (by omega); rw [hzt] at q1; cases q1; omega), rfl⟩⟩
          · skip
            have hrm : r = m - 1 := by omega
            refine zr_go (t := (44, [some (.ref 1)], [.int 1], (zw_C (upd (upd (upd (upd g 7 (nI P)) 8 (nI (zc_w P m))) 9 (nI r)) 10 (nI d)) gl a al))) 2 rfl ?_
            exact zr_ret rfl (Or.inr rfl) ⟨_, _, _, _, rfl, Or.inl ⟨P, m, ⟨h1, d, by rw [hzt, hrm], hmne, by omega⟩, rfl, rfl, congrArg nI hwm⟩⟩
/-- a form's cells as the class holds them -/
def zC_m (f : Nat → Int32) (N : Nat) (c : Nat → Nat) : Prop := ∀ i j, i < N → j < N → f (6 * i + j) = nI (c (zq_pl i j))
theorem zq_pl_c (i j : Nat) : zq_pl i j = zq_pl j i := by unfold zq_pl; split <;> split <;> omega
theorem zq_pl_le {i j : Nat} (h : i ≤ j) : zq_pl i j = 6 * i + j := by
  unfold zq_pl; split
  · rfl
  · have : i = j := by omega
    omega
theorem zq_pl_inj {i j k l : Nat} (hi : i < 6) (hj : j < 6) (hk : k < 6) (hl : l < 6) (h : zq_pl i j = zq_pl k l) : (i = k ∧ j = l) ∨ (i = l ∧ j = k) := by
  unfold zq_pl at h; split at h <;> split at h <;> omega
theorem zC_m_st {f : Nat → Int32} {N : Nat} {c : Nat → Nat} (h : zC_m f N c) (hN : N ≤ 6) {i j : Nat} (hi : i < 6) (hj : j < 6) (v : Nat) : zC_m (upd (upd f (6 * i + j) (nI v)) (6 * j + i) (nI v)) N (zu_c c (zq_pl i j) v) := by
  intro k l hk hl
  unfold zu_c
  by_cases e1 : 6 * k + l = 6 * j + i
  · have hk2 : k = j := by omega
    have hl2 : l = i := by omega
    subst hk2 hl2
    rw [pk_us, if_pos (zq_pl_c _ _)]
  · rw [pk_un e1]
    by_cases e2 : 6 * k + l = 6 * i + j
    · have hk2 : k = i := by omega
      have hl2 : l = j := by omega
      subst hk2 hl2
      rw [pk_us, if_pos rfl]
    · rw [pk_un e2, if_neg (fun q => by rcases zq_pl_inj (by omega) (by omega) hi hj q with ⟨a, b⟩ | ⟨a, b⟩ <;> omega)]
      exact h k l hk hl
theorem zC_m_congr {f : Nat → Int32} {N : Nat} {c c2 : Nat → Nat} (h : zC_m f N c) (e : ∀ i j, i ≤ j → j < N → c (6 * i + j) = c2 (6 * i + j)) : zC_m f N c2 := by
  intro i j hi hj
  rw [h i j hi hj]
  refine congrArg nI ?_
  by_cases q : i ≤ j
  · rw [zq_pl_le q]; exact e i j q hj
  · rw [zq_pl_c, zq_pl_le (by omega)]; exact e j i (by omega) hi
theorem zx_no {x : Int32} {n : Nat} (h : ¬ (0 ≤ x.toInt ∧ x.toInt < n)) : zx_in x n = false := decide_eq_false h
theorem zx_yes {x : Int32} {n : Nat} (h : 0 ≤ x.toInt ∧ x.toInt < n) : zx_in x n = true := decide_eq_true h
theorem zx_nn {x : Int32} (h : ¬ x < 0) : 0 ≤ x := by rw [Int32.le_iff_toInt_le]; rw [Int32.lt_iff_toInt_lt] at h; omega
theorem zs_C_hasVar (g : Nat → Int32) (gl : Nat → Int64) (a : Nat → Nat → Int32) (al : Nat → Nat → Int64) (N : Nat) (hN : g 12 = nI N) (hN6 : N < 1000) (x : Int32) : zm_Ev zt_get 1 9 [.ref 2, .int x] (zw_C g gl a al) (fun v w => v = some (.int (nI (zx_in x N).toNat)) ∧ w = (zw_C g gl a al)) := by
  refine zr_ev zt_O_hasVariable rfl rfl ?_
  show zm_Run zt_get 0 zt_O_hasVariable (0, [some (.ref 2), some (.int x)], [], (zw_C g gl a al)) _
  refine zr_go (t := (1, [some (.ref 2), some (.int x)], [.int x], (zw_C g gl a al))) 1 rfl ?_
  refine zr_if (c := x < 0) (t := (16, [some (.ref 2), some (.int x)], [], (zw_C g gl a al))) (f := (4, [some (.ref 2), some (.int x)], [], (zw_C g gl a al))) rfl (fun h1 => ?_) (fun h1 => ?_)
  · skip
    refine zr_go (t := (17, [some (.ref 2), some (.int x)], [.int 0], (zw_C g gl a al))) 1 rfl ?_
    exact zr_ret rfl (Or.inl rfl) ⟨by rw [zx_no (fun q => by rw [Int32.lt_iff_toInt_lt, show (0 : Int32).toInt = 0 from rfl] at h1; omega)]; rfl, rfl⟩
  · skip
    obtain ⟨hx1, hx2⟩ := zk_of0 (zx_nn h1)
    generalize hK : zx_k x = k at hx1 hx2
    subst hx2
    refine zr_go (t := (9, [some (.ref 2), some (.int (nI k))], [.int (g 12), .int (nI k)], (zw_C g gl a al))) 3 rfl ?_
    refine zr_ige (x := nI k) (y := g 12) k N rfl hN (by omega) (by omega) (t := (16, [some (.ref 2), some (.int (nI k))], [], (zw_C g gl a al))) (f := (12, [some (.ref 2), some (.int (nI k))], [], (zw_C g gl a al))) rfl (fun h2 => ?_) (fun h2 => ?_)
    · skip
      refine zr_go (t := (17, [some (.ref 2), some (.int (nI k))], [.int 0], (zw_C g gl a al))) 1 rfl ?_
      exact zr_ret rfl (Or.inl rfl) ⟨by rw [zx_no (fun q => by rw [nI_toInt (by omega)] at q; omega)]; rfl, rfl⟩
    · skip
      refine zr_go (t := (17, [some (.ref 2), some (.int (nI k))], [.int 1], (zw_C g gl a al))) 2 rfl ?_
      exact zr_ret rfl (Or.inr rfl) ⟨by rw [zx_yes (by rw [nI_toInt (by omega)]; omega)]; rfl, rfl⟩
theorem zs_C_cell_2 (g : Nat → Int32) (gl : Nat → Int64) (a : Nat → Nat → Int32) (al : Nat → Nat → Int64) (c : Nat → Nat) (hm : zC_m (a 11) 6 c) (i j : Nat) (hi : i < 6) (hj : j < 6) : zm_Ev zt_get 1 10 [.ref 2, .int (nI i), .int (nI j)] (zw_C g gl a al) (fun v w => v = some (.int (nI (c (zq_pl i j)))) ∧ w = (zw_C g gl a al)) := by
  refine zr_ev zt_O_cell rfl rfl ?_
  show zm_Run zt_get 0 zt_O_cell (0, [some (.ref 2), some (.int (nI i)), some (.int (nI j))], [], (zw_C g gl a al)) _
  refine zr_go (t := (10, [some (.ref 2), some (.int (nI i)), some (.int (nI j))], [.int (((nI i) * 6) + (nI j)), .ref 11], (zw_C g gl a al))) 7 rfl ?_
  refine zr_cd (t := (11, [some (.ref 2), some (.int (nI i)), some (.int (nI j))], [.int ((a 11) (((nI i) * 6) + (nI j)).toNatClampNeg)], (zw_C g gl a al))) rfl (pk_in ((i * 6) + j) 36 (by omega) (zn_add (zn_mul rfl rfl) rfl) (by omega)) ?_
  rw [pk_cl (x := (((nI i) * 6) + (nI j))) ((i * 6) + j) (zn_add (zn_mul rfl rfl) rfl) (by omega)]
  rw [show (a 11) ((i * 6) + j) = nI (c (zq_pl i j)) from by rw [Nat.mul_comm]; exact hm i j hi hj]
  exact zr_ret rfl trivial ⟨rfl, rfl⟩
theorem zs_C_cell_3 (g : Nat → Int32) (gl : Nat → Int64) (a : Nat → Nat → Int32) (al : Nat → Nat → Int64) (c : Nat → Nat) (hm : zC_m (a 13) 6 c) (i j : Nat) (hi : i < 6) (hj : j < 6) : zm_Ev zt_get 1 10 [.ref 3, .int (nI i), .int (nI j)] (zw_C g gl a al) (fun v w => v = some (.int (nI (c (zq_pl i j)))) ∧ w = (zw_C g gl a al)) := by
  refine zr_ev zt_O_cell rfl rfl ?_
  show zm_Run zt_get 0 zt_O_cell (0, [some (.ref 3), some (.int (nI i)), some (.int (nI j))], [], (zw_C g gl a al)) _
  refine zr_go (t := (10, [some (.ref 3), some (.int (nI i)), some (.int (nI j))], [.int (((nI i) * 6) + (nI j)), .ref 13], (zw_C g gl a al))) 7 rfl ?_
  refine zr_cd (t := (11, [some (.ref 3), some (.int (nI i)), some (.int (nI j))], [.int ((a 13) (((nI i) * 6) + (nI j)).toNatClampNeg)], (zw_C g gl a al))) rfl (pk_in ((i * 6) + j) 36 (by omega) (zn_add (zn_mul rfl rfl) rfl) (by omega)) ?_
  rw [pk_cl (x := (((nI i) * 6) + (nI j))) ((i * 6) + j) (zn_add (zn_mul rfl rfl) rfl) (by omega)]
  rw [show (a 13) ((i * 6) + j) = nI (c (zq_pl i j)) from by rw [Nat.mul_comm]; exact hm i j hi hj]
  exact zr_ret rfl trivial ⟨rfl, rfl⟩
theorem zs_C_store (g : Nat → Int32) (gl : Nat → Int64) (a : Nat → Nat → Int32) (al : Nat → Nat → Int64) (P : Nat) (hP : g 11 = nI P) (hP0 : 0 < P) (hP5 : P ≤ 5) (c : Nat → Nat) (hm : zC_m (a 11) 6 c) (i j : Nat) (hi : i < 6) (hj : j < 6) (x : Int32) : zm_Ev zt_get 2 11 [.ref 2, .int (nI i), .int (nI j), .int x] (zw_C g gl a al) (fun v w => v = none ∧ ∃ f, w = (zw_C g gl (va_up a 11 f) al) ∧ zC_m f 6 (zu_c c (zq_pl i j) (zz_mod x P))) := by
  refine zr_ev zt_O_store rfl rfl ?_
  show zm_Run zt_get 1 zt_O_store (0, [some (.ref 2), some (.int (nI i)), some (.int (nI j)), some (.int x), none], [], (zw_C g gl a al)) _
  refine zr_go (t := (5, [some (.ref 2), some (.int (nI i)), some (.int (nI j)), some (.int x), none], [.int (g 11), .int x], (zw_C g gl a al))) 3 rfl ?_
  rw [hP]
  refine zr_call (t := (8, [some (.ref 2), some (.int (nI i)), some (.int (nI j)), some (.int x), none], [], (zw_C g gl a al))) rfl (Nat.le_of_ble_eq_true rfl : 1 ≤ 1) (zs_C_mod g gl a al x P hP0 (by omega)) ?_
  rintro _ _ ⟨rfl, rfl⟩
  show zm_Run zt_get 1 zt_O_store (8, [some (.ref 2), some (.int (nI i)), some (.int (nI j)), some (.int x), none], [.int (nI (zz_mod x P))], (zw_C g gl a al)) _
  refine zr_go (t := (22, [some (.ref 2), some (.int (nI i)), some (.int (nI j)), some (.int x), some (.int (nI (zz_mod x P)))], [.int (nI (zz_mod x P)), .int (((nI i) * 6) + (nI j)), .ref 11], (zw_C g gl a al))) 9 rfl ?_
  refine zr_cd (t := (23, [some (.ref 2), some (.int (nI i)), some (.int (nI j)), some (.int x), some (.int (nI (zz_mod x P)))], [], (zw_C g gl (va_up a 11 (upd (a 11) ((((nI i) * 6) + (nI j)).toNatClampNeg) (nI (zz_mod x P)))) al))) rfl (pk_in ((i * 6) + j) 36 (by omega) (zn_add (zn_mul rfl rfl) rfl) (by omega)) ?_
  rw [pk_cl (x := (((nI i) * 6) + (nI j))) ((i * 6) + j) (zn_add (zn_mul rfl rfl) rfl) (by omega)]
  refine zr_go (t := (35, [some (.ref 2), some (.int (nI i)), some (.int (nI j)), some (.int x), some (.int (nI (zz_mod x P)))], [.int (nI (zz_mod x P)), .int (((nI j) * 6) + (nI i)), .ref 11], (zw_C g gl (va_up a 11 (upd (a 11) ((i * 6) + j) (nI (zz_mod x P)))) al))) 8 rfl ?_
  refine zr_cd (t := (36, [some (.ref 2), some (.int (nI i)), some (.int (nI j)), some (.int x), some (.int (nI (zz_mod x P)))], [], (zw_C g gl (va_up a 11 (upd (upd (a 11) ((i * 6) + j) (nI (zz_mod x P))) ((((nI j) * 6) + (nI i)).toNatClampNeg) (nI (zz_mod x P)))) al))) rfl (pk_in ((j * 6) + i) 36 (by omega) (zn_add (zn_mul rfl rfl) rfl) (by omega)) ?_
  rw [pk_cl (x := (((nI j) * 6) + (nI i))) ((j * 6) + i) (zn_add (zn_mul rfl rfl) rfl) (by omega)]
  rw [Nat.mul_comm i 6, Nat.mul_comm j 6]
  exact zr_ret rfl trivial ⟨rfl, _, rfl, zC_m_st hm (Nat.le_refl 6) hi hj _⟩
theorem zs_C_copyFrom_2 (g : Nat → Int32) (gl : Nat → Int64) (a : Nat → Nat → Int32) (al : Nat → Nat → Int64) : zm_Ev zt_get 1 12 [.ref 2, .ref 3] (zw_C g gl a al) (fun v w => v = none ∧ ∃ f, w = (zw_C (upd (upd g 11 (g 13)) 12 (g 14)) gl (va_up a 11 f) al) ∧ ∀ k, k < 36 → f k = a 13 k) := by
  refine zr_ev zt_O_copyFrom rfl rfl ?_
  show zm_Run zt_get 0 zt_O_copyFrom (0, [some (.ref 2), some (.ref 3)], [], (zw_C g gl a al)) _
  refine zr_go (t := (28, [some (.ref 2), some (.ref 3)], [.int 36, .int 0, .ref 11, .int 0, .ref 13], (zw_C (upd (upd g 11 (g 13)) 12 (g 14)) gl a al))) 15 rfl ?_
  refine zr_cd (t := (31, [some (.ref 2), some (.ref 3)], [], (zw_C (upd (upd g 11 (g 13)) 12 (g 14)) gl (va_up a 11 (va_cpy (a 13) (a 11) 0 0 (36 : Int32).toNatClampNeg)) al))) rfl (by decide) ?_
  exact zr_ret rfl trivial ⟨rfl, _, rfl, fun k hk => (pk_cpy_in (Nat.zero_le k) (by rw [show (36 : Int32).toNatClampNeg = 36 from rfl]; omega)).trans (by rw [Nat.zero_add, Nat.sub_zero])⟩
theorem zs_C_copyFrom_3 (g : Nat → Int32) (gl : Nat → Int64) (a : Nat → Nat → Int32) (al : Nat → Nat → Int64) : zm_Ev zt_get 1 12 [.ref 3, .ref 2] (zw_C g gl a al) (fun v w => v = none ∧ ∃ f, w = (zw_C (upd (upd g 13 (g 11)) 14 (g 12)) gl (va_up a 13 f) al) ∧ ∀ k, k < 36 → f k = a 11 k) := by
  refine zr_ev zt_O_copyFrom rfl rfl ?_
  show zm_Run zt_get 0 zt_O_copyFrom (0, [some (.ref 3), some (.ref 2)], [], (zw_C g gl a al)) _
  refine zr_go (t := (28, [some (.ref 3), some (.ref 2)], [.int 36, .int 0, .ref 13, .int 0, .ref 11], (zw_C (upd (upd g 13 (g 11)) 14 (g 12)) gl a al))) 15 rfl ?_
  refine zr_cd (t := (31, [some (.ref 3), some (.ref 2)], [], (zw_C (upd (upd g 13 (g 11)) 14 (g 12)) gl (va_up a 13 (va_cpy (a 11) (a 13) 0 0 (36 : Int32).toNatClampNeg)) al))) rfl (by decide) ?_
  exact zr_ret rfl trivial ⟨rfl, _, rfl, fun k hk => (pk_cpy_in (Nat.zero_le k) (by rw [show (36 : Int32).toNatClampNeg = 36 from rfl]; omega)).trans (by rw [Nat.zero_add, Nat.sub_zero])⟩
theorem zu_le4 {u : Nat → Nat} {t v : Nat} (hu : ∀ k, k < 36 → u k ≤ 4) (hv : v ≤ 4) (k : Nat) (hk : k < 36) : zu_c u t v k ≤ 4 := by
  unfold zu_c; split
  · exact hv
  · exact hu k hk
theorem zp_pos_up {N : Nat} : ∀ i, i < N → ∀ t, i + t < N → zp_pos N i + (N - i) + t ≤ zp_pos N (i + t) + (N - (i + t))
  | i, hi, 0, _ => by simp
  | i, hi, t + 1, h => by
    have h1 := zp_pos_up i hi t (by omega)
    have h2 : zp_pos N (i + (t + 1)) = zp_pos N (i + t) + (N - (i + t)) + 1 := rfl
    omega
theorem zp_pos_n {N n i : Nat} (hi : i < N) (hn : n = zp_pos N (N - 1) + 1) : zp_pos N i + (N - i) ≤ n := by
  have h := zp_pos_up i hi (N - 1 - i) (by omega)
  rw [show i + (N - 1 - i) = N - 1 by omega] at h
  omega
theorem zp_pos_100 {N : Nat} (hN : N ≤ 6) : ∀ i, i ≤ N → zp_pos N i ≤ 2 + 7 * i
  | 0, _ => Nat.le_refl _
  | i + 1, h => by
    have h1 := zp_pos_100 hN i (by omega)
    have h2 : zp_pos N (i + 1) = zp_pos N i + (N - i) + 1 := rfl
    omega
theorem zs_C_copyTo (g : Nat → Int32) (gl : Nat → Int64) (a : Nat → Nat → Int32) (al : Nat → Nat → Int64) (n : Nat) (cd : Nat → Nat) (hp : zC_p g a n cd) (P N : Nat) (htx : zp_text cd n P N) (h7 : g 7 = nI P) (h8 : g 8 = nI N) (c0 c1 : Nat → Nat) (hm : zC_m (a 11) 6 c1) (h14 : ∀ k, k < 36 → c1 k ≤ 4) : zm_Ev zt_get 3 29 [.ref 1, .ref 2] (zw_C g gl a al) (fun v w => v = none ∧ ∃ f c2, w = (zw_C (upd (upd g 11 (g 7)) 12 (g 8)) gl (va_up a 11 f) al) ∧ zC_m f 6 c2 ∧ (∀ k, k < 36 → c2 k ≤ 4) ∧ ∀ i j, i ≤ j → j < N → c2 (6 * i + j) = zp_c cd N c0 (6 * i + j)) := by
  obtain ⟨hn, hn28, hcd, hcd1⟩ := id hp
  obtain ⟨hok, -, hnp, hdg⟩ := zp_text_one htx
  have hN6 := zv_okN hok
  have hN3 := hok.2.1
  obtain ⟨hP0, hP5⟩ := zv_P5 hok.1
  have hpos : ∀ i, i < N → zp_pos N i + (N - i) ≤ n := fun i hi => zp_pos_n hi hnp
  refine zr_ev zt_P_copyTo rfl rfl ?_
  show zm_Run zt_get 2 zt_P_copyTo (0, [some (.ref 1), some (.ref 2), none, none, none], [], (zw_C g gl a al)) _
  refine zr_go (t := (20, [some (.ref 1), some (.ref 2), some (.int 2), some (.int 0), none], [], (zw_C (upd (upd g 11 (g 7)) 12 (g 8)) gl a al))) 12 rfl ?_
  refine zr_loop (fun zq : Nat × Nat × (Nat → Int32) × (Nat → Nat) => (20, [some (.ref 1), some (.ref 2), some (.int (nI zq.2.1)), some (.int (nI zq.1)), none], [], (zw_C (upd (upd g 11 (g 7)) 12 (g 8)) gl (va_up a 11 zq.2.2.1) al))) (fun zq => zq.1 ≤ N ∧ zq.2.1 = zp_pos N zq.1 ∧ zC_m zq.2.2.1 6 zq.2.2.2 ∧ (∀ k, k < 36 → zq.2.2.2 k ≤ 4) ∧ ∀ k l, k ≤ l → l < N → k < zq.1 → zq.2.2.2 (6 * k + l) = zp_c cd N c0 (6 * k + l)) (fun zq => N - zq.1) ?_ (0, 2, a 11, c1) ⟨by omega, rfl, hm, h14, fun k l _ _ h => absurd h (Nat.not_lt_zero k)⟩
  rintro ⟨i, p, f, e⟩ ⟨hi, hpp, hfm, he4, hf⟩ ih
  try dsimp only at *
  have hpp1 : p ≤ 100 := by have := zp_pos_100 hN6 i hi; omega
  refine zr_go (t := (25, [some (.ref 1), some (.ref 2), some (.int (nI p)), some (.int (nI i)), none], [.int (g 8), .int (nI i)], (zw_C (upd (upd g 11 (g 7)) 12 (g 8)) gl (va_up a 11 f) al))) 3 rfl ?_
  refine zr_ige (x := nI i) (y := g 8) i N rfl h8 (by omega) (by omega) (t := (82, [some (.ref 1), some (.ref 2), some (.int (nI p)), some (.int (nI i)), none], [], (zw_C (upd (upd g 11 (g 7)) 12 (g 8)) gl (va_up a 11 f) al))) (f := (28, [some (.ref 1), some (.ref 2), some (.int (nI p)), some (.int (nI i)), none], [], (zw_C (upd (upd g 11 (g 7)) 12 (g 8)) gl (va_up a 11 f) al))) rfl (fun h1 => ?_) (fun h1 => ?_)
  · skip
    exact zr_ret rfl trivial ⟨rfl, f, e, rfl, hfm, he4, fun k l h1 h2 => hf k l h1 h2 (by omega)⟩
  · skip
    have hpi := hpos i h1
    refine zr_go (t := (31, [some (.ref 1), some (.ref 2), some (.int (nI p)), some (.int (nI i)), some (.int (nI i))], [], (zw_C (upd (upd g 11 (g 7)) 12 (g 8)) gl (va_up a 11 f) al))) 2 rfl ?_
    refine zr_loop (fun zq : Nat × Nat × (Nat → Int32) × (Nat → Nat) => (31, [some (.ref 1), some (.ref 2), some (.int (nI zq.2.1)), some (.int (nI i)), some (.int (nI zq.1))], [], (zw_C (upd (upd g 11 (g 7)) 12 (g 8)) gl (va_up a 11 zq.2.2.1) al))) (fun zq => i ≤ zq.1 ∧ zq.1 ≤ N ∧ zq.2.1 = zp_pos N i + (zq.1 - i) ∧ zC_m zq.2.2.1 6 zq.2.2.2 ∧ (∀ k, k < 36 → zq.2.2.2 k ≤ 4) ∧ ∀ k l, k ≤ l → l < N → (k < i ∨ (k = i ∧ l < zq.1)) → zq.2.2.2 (6 * k + l) = zp_c cd N c0 (6 * k + l)) (fun zq => N - zq.1) ?_ (i, p, f, e) ⟨Nat.le_refl _, by omega, by rw [hpp, Nat.sub_self]; rfl, hfm, he4, fun k l h1 h2 h3 => hf k l h1 h2 (by have h3 : k < i ∨ (k = i ∧ l < i) := h3; omega)⟩
    rintro ⟨j, q, h, u⟩ ⟨hij, hj, hq, hhm, hu4, hh⟩ ih2
    try dsimp only at *
    refine zr_go (t := (37, [some (.ref 1), some (.ref 2), some (.int (nI q)), some (.int (nI i)), some (.int (nI j))], [.int (g 8), .int (nI j)], (zw_C (upd (upd g 11 (g 7)) 12 (g 8)) gl (va_up a 11 h) al))) 3 rfl ?_
    refine zr_ige (x := nI j) (y := g 8) j N rfl h8 (by omega) (by omega) (t := (73, [some (.ref 1), some (.ref 2), some (.int (nI q)), some (.int (nI i)), some (.int (nI j))], [], (zw_C (upd (upd g 11 (g 7)) 12 (g 8)) gl (va_up a 11 h) al))) (f := (40, [some (.ref 1), some (.ref 2), some (.int (nI q)), some (.int (nI i)), some (.int (nI j))], [], (zw_C (upd (upd g 11 (g 7)) 12 (g 8)) gl (va_up a 11 h) al))) rfl (fun h2 => ?_) (fun h2 => ?_)
    · skip
      refine zr_go (t := (20, [some (.ref 1), some (.ref 2), some (.int ((nI q) + 1)), some (.int ((nI i) + 1)), some (.int (nI j))], [], (zw_C (upd (upd g 11 (g 7)) 12 (g 8)) gl (va_up a 11 h) al))) 3 rfl ?_
      rw [show (nI i) + 1 = nI (i + 1) from (zn_add rfl rfl)]
      rw [show (nI q) + 1 = nI (q + 1) from (zn_add rfl rfl)]
      refine zr_forget [some (.ref 1), some (.ref 2), some (.int (nI (q + 1))), some (.int (nI (i + 1))), none] ⟨Or.inr rfl, Or.inr rfl, Or.inr rfl, Or.inr rfl, Or.inl rfl, trivial⟩ ?_
      exact ih (i + 1, q + 1, h, u) ⟨by omega, by rw [hq, show j = N by omega]; rfl, hhm, hu4, fun k l h3 h4 h5 => hh k l h3 h4 (by have h5 : k < i + 1 := h5; omega)⟩ (by omega)
    · skip
      have hdig := hdg i j hij h2
      refine zr_go (t := (45, [some (.ref 1), some (.ref 2), some (.int (nI q)), some (.int (nI i)), some (.int (nI j))], [.int (g 6), .int (nI q)], (zw_C (upd (upd g 11 (g 7)) 12 (g 8)) gl (va_up a 11 h) al))) 3 rfl ?_
      refine zr_ige (x := nI q) (y := g 6) q n rfl hn (by omega) (by omega) (t := (64, [some (.ref 1), some (.ref 2), some (.int (nI q)), some (.int (nI i)), some (.int (nI j))], [], (zw_C (upd (upd g 11 (g 7)) 12 (g 8)) gl (va_up a 11 h) al))) (f := (48, [some (.ref 1), some (.ref 2), some (.int (nI q)), some (.int (nI i)), some (.int (nI j))], [], (zw_C (upd (upd g 11 (g 7)) 12 (g 8)) gl (va_up a 11 h) al))) rfl (fun h3 => ?_) (fun h3 => ?_)
      · skip
        exfalso; omega
      · skip
        rw [← hq] at hdig
        refine zr_go (t := (57, [some (.ref 1), some (.ref 2), some (.int (nI q)), some (.int (nI i)), some (.int (nI j))], [.int (nI q), .ref 10, .int (nI j), .int (nI i), .ref 2], (zw_C (upd (upd g 11 (g 7)) 12 (g 8)) gl (va_up a 11 h) al))) 6 rfl ?_
        refine zr_cd (t := (58, [some (.ref 1), some (.ref 2), some (.int (nI q)), some (.int (nI i)), some (.int (nI j))], [.int ((a 10) (nI q).toNatClampNeg), .int (nI j), .int (nI i), .ref 2], (zw_C (upd (upd g 11 (g 7)) 12 (g 8)) gl (va_up a 11 h) al))) rfl (pk_in q 28 (by omega) rfl (by omega)) ?_
        rw [pk_cl (x := (nI q)) q rfl (by omega)]
        rw [show (a 10) q = nI (cd q) from hcd q (by omega)]
        refine zr_go (t := (61, [some (.ref 1), some (.ref 2), some (.int (nI q)), some (.int (nI i)), some (.int (nI j))], [.int ((nI (cd q)) - 48), .int (nI j), .int (nI i), .ref 2], (zw_C (upd (upd g 11 (g 7)) 12 (g 8)) gl (va_up a 11 h) al))) 2 rfl ?_
        rw [show nI (cd q) - 48 = nI (cd q - 48) from pk_sub (b := 48) hdig.1]
        refine zr_call (t := (64, [some (.ref 1), some (.ref 2), some (.int (nI q)), some (.int (nI i)), some (.int (nI j))], [], (zw_C (upd (upd g 11 (g 7)) 12 (g 8)) gl (va_up a 11 h) al))) rfl (Nat.le_of_ble_eq_true rfl : 2 ≤ 2) (zs_C_store (upd (upd g 11 (g 7)) 12 (g 8)) gl (va_up a 11 h) al P h7 hP0 hP5 u hhm i j (by omega) (by omega) (nI (cd q - 48))) ?_
        rintro _ _ ⟨rfl, f2, rfl, hf2⟩
        show zm_Run zt_get 2 zt_P_copyTo (64, [some (.ref 1), some (.ref 2), some (.int (nI q)), some (.int (nI i)), some (.int (nI j))], [], (zw_C (upd (upd g 11 (g 7)) 12 (g 8)) gl (va_up a 11 f2) al)) _
        have hmd : zz_mod (nI (cd q - 48)) P = zp_c cd N c0 (6 * i + j) := by rw [zz_modn (by omega), Nat.mod_eq_of_lt (by omega)]; unfold zp_c; rw [if_pos (by omega), show (6 * i + j) / 6 = i by omega, show (6 * i + j) % 6 = j by omega, hq]
        have hv4 : zp_c cd N c0 (6 * i + j) ≤ 4 := by have := zz_modlt (x := nI (cd q - 48)) hP0; omega
        rw [hmd, zq_pl_le hij] at hf2
        refine zr_go (t := (31, [some (.ref 1), some (.ref 2), some (.int ((nI q) + 1)), some (.int (nI i)), some (.int ((nI j) + 1))], [], (zw_C (upd (upd g 11 (g 7)) 12 (g 8)) gl (va_up a 11 f2) al))) 3 rfl ?_
        rw [show (nI j) + 1 = nI (j + 1) from (zn_add rfl rfl)]
        rw [show (nI q) + 1 = nI (q + 1) from (zn_add rfl rfl)]
        exact ih2 (j + 1, q + 1, f2, zu_c u (6 * i + j) (zp_c cd N c0 (6 * i + j))) ⟨by omega, by omega, by show q + 1 = zp_pos N i + (j + 1 - i); omega, hf2, fun k hk => zu_le4 hu4 hv4 k hk, fun k l h3 h4 h5 => by have h5 : k < i ∨ (k = i ∧ l < j + 1) := h5; show zu_c u (6 * i + j) _ (6 * k + l) = _; unfold zu_c; by_cases z : 6 * k + l = 6 * i + j; rw [if_pos z, z]; rw [if_neg z]; exact hh k l h3 h4 (by omega)⟩ (by omega)
