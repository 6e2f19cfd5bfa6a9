/-! the reference: letter, blank, fault, form (written by wip/whole/gen_m16.py) -/
/-- what the geometry owes: a nonsingular form has few lines and planes -/
def zG : Prop := ∀ (P N : Nat) (c : Nat → Nat), zv_ok P N → zv_ns P N c (zv_np P N) (zv_y P N) = 0 → zv_nl P N c (zv_np P N) (zv_y P N) ≤ 128 ∧ zv_npl P N c (zv_np P N) (zv_y P N) ≤ 30
/-- the reference holds this form, and what follows from it -/
def zS_f (g : Nat → Int32) (a : Nat → Nat → Int32) (P N : Nat) (c : Nat → Nat) : Prop := zv_ok P N ∧ zc_F g a P N c ∧ zc_R g a (zv_np P N) (zv_y P N) ∧ (∀ t, 1 ≤ t → t < P ^ N → a 4 t = if zv_l1 P N t then nI (zv_cnt P N t) else -1) ∧ zc_O a (zv_np P N) (zv_oo P N c (zv_y P N)) ∧ g 10 = nI (zC (zv_oo P N c (zv_y P N)) (zv_np P N)) ∧ g 11 = nI (zv_ns P N c (zv_np P N) (zv_y P N)) ∧ ∃ nl npl, g 12 = nI nl ∧ g 14 = nI npl ∧ (zv_ns P N c (zv_np P N) (zv_y P N) ≠ 0 → nl = 0 ∧ npl = 0) ∧ (zv_ns P N c (zv_np P N) (zv_y P N) = 0 → nl = zv_nl P N c (zv_np P N) (zv_y P N) ∧ npl = zv_npl P N c (zv_np P N) (zv_y P N) ∧ zc_L a P nl npl (zv_line P N c (zv_np P N) (zv_y P N)) (zv_plane P N c (zv_np P N) (zv_y P N)))
/-- the page -/
def zS_p (g : Nat → Int32) (a : Nat → Nat → Int32) (n : Nat) (cd : Nat → Nat) : Prop := g 4 = nI n ∧ n ≤ 28 ∧ (∀ k, k < n → a 2 k = nI (cd k)) ∧ ∀ k, k < n → 32 ≤ cd k ∧ cd k ≤ 126
/-- the coefficients that a text gives, over those that were -/
def zp_c (cd : Nat → Nat) (N : Nat) (c0 : Nat → Nat) (k : Nat) : Nat := if k / 6 ≤ k % 6 ∧ k % 6 < N then cd (zp_pos N (k / 6) + (k % 6 - k / 6)) - 48 else c0 k
/-- the page is the text of a form: P, N -/
def zp_text (cd : Nat → Nat) (n P N : Nat) : Prop := zp_len cd n = n ∧ ∃ d, zp_st cd n = some (P, N, N - 1, d) ∧ N ≠ 0 ∧ d ≠ 0
theorem zs_M_letter (g : Nat → Int32) (gl : Nat → Int64) (a : Nat → Nat → Int32) (al : Nat → Nat → Int64) (x : Int32) (n : Nat) (hn : g 4 = nI n) (hn28 : n ≤ 28) : zm_Ev zt_get 2 109 [.ref 0, .int x] (zw_M g gl a al) (fun v w => (¬ (32 ≤ x ∧ x ≤ 126) ∧ v = some (.int (-102)) ∧ w = (zw_M g gl a al)) ∨ ((32 ≤ x ∧ x ≤ 126) ∧ n = 28 ∧ v = some (.int (-104)) ∧ w = (zw_M g gl a al)) ∨ ((32 ≤ x ∧ x ≤ 126) ∧ n < 28 ∧ v = some (.int (nI (n + 1))) ∧ w = (zw_M (upd g 4 (nI (n + 1))) gl (va_up a 2 (upd (a 2) n x)) al))) := by
  refine zr_ev zt_M_letter rfl rfl ?_
  show zm_Run zt_get 1 zt_M_letter (0, [some (.ref 0), some (.int x)], [], (zw_M g gl a al)) _
  refine zr_go (t := (5, [some (.ref 0), some (.int x)], [.int 126, .int 32, .int x], (zw_M g gl a al))) 3 rfl ?_
  refine zr_call (t := (8, [some (.ref 0), some (.int x)], [], (zw_M g gl a al))) rfl (Nat.le_of_ble_eq_true rfl : 1 ≤ 1) (zs_M_within g gl a al x 32 126) ?_
  rintro _ _ ⟨⟨hw, rfl⟩ | ⟨hw, rfl⟩, rfl⟩
  · skip
    show zm_Run zt_get 1 zt_M_letter (8, [some (.ref 0), some (.int x)], [.int 1], (zw_M g gl a al)) _
    refine zr_ine (x := 1) (y := 0) 1 0 rfl rfl (by omega) (by omega) (t := (14, [some (.ref 0), some (.int x)], [], (zw_M g gl a al))) (f := (11, [some (.ref 0), some (.int x)], [], (zw_M g gl a al))) rfl (fun h1 => ?_) (fun h1 => ?_)
    · skip
      refine zr_go (t := (20, [some (.ref 0), some (.int x)], [.int 28, .int (g 4)], (zw_M g gl a al))) 3 rfl ?_
      refine zr_ine (x := g 4) (y := 28) n 28 hn rfl (by omega) (by omega) (t := (26, [some (.ref 0), some (.int x)], [], (zw_M g gl a al))) (f := (23, [some (.ref 0), some (.int x)], [], (zw_M g gl a al))) rfl (fun h2 => ?_) (fun h2 => ?_)
      · skip
        refine zr_go (t := (35, [some (.ref 0), some (.int x)], [.int x, .int (g 4), .ref 2], (zw_M g gl a al))) 5 rfl ?_
        refine zr_cd (t := (36, [some (.ref 0), some (.int x)], [], (zw_M g gl (va_up a 2 (upd (a 2) ((g 4).toNatClampNeg) x)) al))) rfl (pk_in n 28 (by omega) hn (by omega)) ?_
        rw [pk_cl (x := (g 4)) n hn (by omega)]
        refine zr_go (t := (50, [some (.ref 0), some (.int x)], [.int ((g 4) + 1)], (zw_M (upd g 4 ((g 4) + 1)) gl (va_up a 2 (upd (a 2) n x)) al))) 8 rfl ?_
        rw [show (g 4) + 1 = nI (n + 1) from (zn_add hn rfl)]
        exact zr_ret rfl trivial (Or.inr (Or.inr ⟨hw, by omega, rfl, rfl⟩))
      · skip
        refine zr_go (t := (25, [some (.ref 0), some (.int x)], [.int (-104)], (zw_M g gl a al))) 1 rfl ?_
        exact zr_ret rfl trivial (Or.inr (Or.inl ⟨hw, h2, rfl, rfl⟩))
    · skip
      exact absurd h1 (by decide)
  · skip
    show zm_Run zt_get 1 zt_M_letter (8, [some (.ref 0), some (.int x)], [.int 0], (zw_M g gl a al)) _
    refine zr_ine (x := 0) (y := 0) 0 0 rfl rfl (by omega) (by omega) (t := (14, [some (.ref 0), some (.int x)], [], (zw_M g gl a al))) (f := (11, [some (.ref 0), some (.int x)], [], (zw_M g gl a al))) rfl (fun h1 => ?_) (fun h1 => ?_)
    · skip
      exact absurd rfl h1
    · skip
      refine zr_go (t := (13, [some (.ref 0), some (.int x)], [.int (-102)], (zw_M g gl a al))) 1 rfl ?_
      exact zr_ret rfl trivial (Or.inl ⟨hw, rfl, rfl⟩)
theorem zs_M_blank (g : Nat → Int32) (gl : Nat → Int64) (a : Nat → Nat → Int32) (al : Nat → Nat → Int64) : zm_Ev zt_get 1 110 [.ref 0] (zw_M g gl a al) (fun v w => v = some (.int (g 4)) ∧ w = (zw_M (upd g 4 0) gl a al)) := by
  refine zr_ev zt_M_blank rfl rfl ?_
  show zm_Run zt_get 0 zt_M_blank (0, [some (.ref 0), none], [], (zw_M g gl a al)) _
  refine zr_go (t := (11, [some (.ref 0), some (.int (g 4))], [.int (g 4)], (zw_M (upd g 4 0) gl a al))) 7 rfl ?_
  exact zr_ret rfl trivial ⟨rfl, rfl⟩
theorem zs_M_fault (g : Nat → Int32) (gl : Nat → Int64) (a : Nat → Nat → Int32) (al : Nat → Nat → Int64) (n : Nat) (cd : Nat → Nat) (hp : zS_p g a n cd) : zm_Ev zt_get 5 116 [.ref 0] (zw_M g gl a al) (fun v w => v = some (.int (nI (zp_len cd n))) ∧ ∃ (x16 : Int32) (m r d : Nat) (f8 : Nat → Int32), w = (zw_M (upd (upd (upd (upd g 16 x16) 17 (nI m)) 18 (nI r)) 19 (nI d)) gl (va_up a 8 f8) al)) := by
  obtain ⟨hn, hn28, hcd, hcd1⟩ := hp
  refine zr_ev zt_M_fault rfl rfl ?_
  show zm_Run zt_get 4 zt_M_fault (0, [some (.ref 0)], [], (zw_M g gl a al)) _
  refine zr_go (t := (1, [some (.ref 0)], [.ref 0], (zw_M g gl a al))) 1 rfl ?_
  refine zr_call (t := (4, [some (.ref 0)], [], (zw_M g gl a al))) rfl (Nat.le_of_ble_eq_true rfl : 4 ≤ 4) (zs_M_read g gl a al n hn hn28 cd hcd (fun k hk => by have := hcd1 k hk; omega)) ?_
  rintro _ _ ⟨rfl, x16, P, m, r, d, f8, rfl, -⟩
  show zm_Run zt_get 4 zt_M_fault (4, [some (.ref 0)], [.int (nI (zp_len cd n))], (zw_M (upd (upd (upd (upd g 16 x16) 17 (nI m)) 18 (nI r)) 19 (nI d)) gl (va_up a 8 f8) al)) _
  exact zr_ret rfl trivial ⟨rfl, x16, m, r, d, f8, rfl⟩
theorem zs_M_form (g : Nat → Int32) (gl : Nat → Int64) (a : Nat → Nat → Int32) (al : Nat → Nat → Int64) (hG : zG) (n : Nat) (cd : Nat → Nat) (hp : zS_p g a n cd) (F0 : Nat) (hF0 : g 3 = nI F0) (c0 : Nat → Nat) (hc0 : ∀ k, k < 36 → a 1 k = nI (c0 k)) (hc04 : ∀ k, k < 36 → c0 k ≤ 4) : zm_Ev zt_get 9 117 [.ref 0] (zw_M g gl a al) (fun v w => ((¬ ∃ P N, zp_text cd n P N) ∧ v = some (.int (-103)) ∧ ∃ (x16 : Int32) (m r d : Nat) (f8 : Nat → Int32), w = (zw_M (upd (upd (upd (upd g 16 x16) 17 (nI m)) 18 (nI r)) 19 (nI d)) gl (va_up a 8 f8) al)) ∨ ∃ P N, zp_text cd n P N ∧ v = some (.int (nI (zv_np P N))) ∧ ∃ (x10 x11 x12 x14 x16 x17 x18 x19 x25 : Int32) (f1 f3 f4 f5 f6 f7 f8 f9 f10 f11 f12 f13 f14 f16 : Nat → Int32), w = (zw_M (upd (upd (upd (upd (upd (upd (upd (upd (upd (upd (upd (upd (upd (upd g 0 (nI P)) 1 (nI N)) 3 (nI (F0 + 1))) 4 0) 6 (nI (zv_np P N))) 10 x10) 11 x11) 12 x12) 14 x14) 16 x16) 17 x17) 18 x18) 19 x19) 25 x25) gl (va_up (va_up (va_up (va_up (va_up (va_up (va_up (va_up (va_up (va_up (va_up (va_up (va_up (va_up a 1 f1) 3 f3) 4 f4) 5 f5) 6 f6) 7 f7) 8 f8) 9 f9) 10 f10) 11 f11) 12 f12) 13 f13) 14 f14) 16 f16) al) ∧ zS_f (upd (upd (upd (upd (upd (upd (upd (upd (upd (upd (upd (upd (upd (upd g 0 (nI P)) 1 (nI N)) 3 (nI (F0 + 1))) 4 0) 6 (nI (zv_np P N))) 10 x10) 11 x11) 12 x12) 14 x14) 16 x16) 17 x17) 18 x18) 19 x19) 25 x25) (va_up (va_up (va_up (va_up (va_up (va_up (va_up (va_up (va_up (va_up (va_up (va_up (va_up (va_up a 1 f1) 3 f3) 4 f4) 5 f5) 6 f6) 7 f7) 8 f8) 9 f9) 10 f10) 11 f11) 12 f12) 13 f13) 14 f14) 16 f16) P N (zp_c cd N c0) ∧ f16 0 = 0 ∧ f16 1 = 0) := by
  obtain ⟨hn, hn28, hcd, hcd1⟩ := hp
  refine zr_ev zt_M_form rfl rfl ?_
  show zm_Run zt_get 8 zt_M_form (0, [some (.ref 0), none, none], [], (zw_M g gl a al)) _
  refine zr_go (t := (1, [some (.ref 0), none, none], [.ref 0], (zw_M g gl a al))) 1 rfl ?_
  refine zr_call (t := (4, [some (.ref 0), none, none], [], (zw_M g gl a al))) rfl (Nat.le_of_ble_eq_true rfl : 4 ≤ 8) (zs_M_read g gl a al n hn hn28 cd hcd (fun k hk => by have := hcd1 k hk; omega)) ?_
  rintro _ _ ⟨rfl, x16, P, m, r, d, f8, rfl, hst, hln, hx16, hTb⟩
  show zm_Run zt_get 8 zt_M_form (4, [some (.ref 0), none, none], [.int (nI (zp_len cd n))], (zw_M (upd (upd (upd (upd g 16 x16) 17 (nI m)) 18 (nI r)) 19 (nI d)) gl (va_up a 8 f8) al)) _
  have hb6 : m ≤ 6 ∧ r ≤ 6 ∧ d ≤ 6 := by
    rcases Nat.lt_or_ge (zp_len cd n) 2 with q | q
    · have q1 : zp_len cd n = 0 ∨ zp_len cd n = 1 := by omega
      rcases q1 with q1 | q1
      · rw [q1] at hst; cases hst; exact ⟨by omega, by omega, by omega⟩
      · rw [q1] at hst; obtain ⟨e1, e2, e3⟩ := zp_st1 (show zp_step 0 (0, 0, 0, 0) (cd 0) = some (P, m, r, d) from hst); exact ⟨by rw [show m = 0 from e1]; omega, by rw [show r = 0 from e2]; omega, by rw [show d = 0 from e3]; omega⟩
    · obtain ⟨k0, e0⟩ : ∃ k0, zp_len cd n = k0 + 2 := ⟨zp_len cd n - 2, by omega⟩
      rw [e0] at hst
      have hJ := (zp_K_ok k0 P m r d hst).1
      have hmo := zp_most_le P
      rcases hJ.2 with ⟨b1, b2, b3⟩ | ⟨b1, b2, b3, b4⟩ <;> exact ⟨by omega, by omega, by omega⟩
  refine zr_go (t := (8, [some (.ref 0), none, none], [.int (g 4), .int (nI (zp_len cd n))], (zw_M (upd (upd (upd (upd g 16 x16) 17 (nI m)) 18 (nI r)) 19 (nI d)) gl (va_up a 8 f8) al))) 2 rfl ?_
  refine zr_ilt (x := nI (zp_len cd n)) (y := g 4) (zp_len cd n) n rfl hn (by omega) (by omega) (t := (38, [some (.ref 0), none, none], [], (zw_M (upd (upd (upd (upd g 16 x16) 17 (nI m)) 18 (nI r)) 19 (nI d)) gl (va_up a 8 f8) al))) (f := (11, [some (.ref 0), none, none], [], (zw_M (upd (upd (upd (upd g 16 x16) 17 (nI m)) 18 (nI r)) 19 (nI d)) gl (va_up a 8 f8) al))) rfl (fun h1 => ?_) (fun h1 => ?_)
  · skip
    have hno : ¬ ∃ P N, zp_text cd n P N := by rintro ⟨P2, N2, t1, -⟩; omega
    refine zr_go (t := (40, [some (.ref 0), none, none], [.int (-103)], (zw_M (upd (upd (upd (upd g 16 x16) 17 (nI m)) 18 (nI r)) 19 (nI d)) gl (va_up a 8 f8) al))) 1 rfl ?_
    exact zr_ret rfl trivial (Or.inl ⟨hno, rfl, x16, m, r, d, f8, rfl⟩)
  · skip
    have hLn : zp_len cd n = n := by omega
    rw [hLn] at hst
    refine zr_go (t := (15, [some (.ref 0), none, none], [.int (nI m)], (zw_M (upd (upd (upd (upd g 16 x16) 17 (nI m)) 18 (nI r)) 19 (nI d)) gl (va_up a 8 f8) al))) 2 rfl ?_
    refine zr_ieq (x := nI m) (y := 0) m 0 rfl rfl (by omega) (by omega) (t := (38, [some (.ref 0), none, none], [], (zw_M (upd (upd (upd (upd g 16 x16) 17 (nI m)) 18 (nI r)) 19 (nI d)) gl (va_up a 8 f8) al))) (f := (18, [some (.ref 0), none, none], [], (zw_M (upd (upd (upd (upd g 16 x16) 17 (nI m)) 18 (nI r)) 19 (nI d)) gl (va_up a 8 f8) al))) rfl (fun h2 => ?_) (fun h2 => ?_)
    · skip
      have hno : ¬ ∃ P N, zp_text cd n P N := by
        rintro ⟨P2, N2, -, d2, t2, t3, t4⟩
        have q := t2.symm.trans hst
        simp only [Option.some.injEq, Prod.mk.injEq] at q
        exact t3 (q.2.1.trans h2)
      refine zr_go (t := (40, [some (.ref 0), none, none], [.int (-103)], (zw_M (upd (upd (upd (upd g 16 x16) 17 (nI m)) 18 (nI r)) 19 (nI d)) gl (va_up a 8 f8) al))) 1 rfl ?_
      exact zr_ret rfl trivial (Or.inl ⟨hno, rfl, x16, m, r, d, f8, rfl⟩)
    · skip
      refine zr_go (t := (28, [some (.ref 0), none, none], [.int ((nI m) - 1), .int (nI r)], (zw_M (upd (upd (upd (upd g 16 x16) 17 (nI m)) 18 (nI r)) 19 (nI d)) gl (va_up a 8 f8) al))) 6 rfl ?_
      refine zr_ilt (x := nI r) (y := (nI m) - 1) r (m - 1) rfl (zn_sub rfl rfl (by omega)) (by omega) (by omega) (t := (38, [some (.ref 0), none, none], [], (zw_M (upd (upd (upd (upd g 16 x16) 17 (nI m)) 18 (nI r)) 19 (nI d)) gl (va_up a 8 f8) al))) (f := (31, [some (.ref 0), none, none], [], (zw_M (upd (upd (upd (upd g 16 x16) 17 (nI m)) 18 (nI r)) 19 (nI d)) gl (va_up a 8 f8) al))) rfl (fun h3 => ?_) (fun h3 => ?_)
      · skip
        have hno : ¬ ∃ P N, zp_text cd n P N := by
          rintro ⟨P2, N2, -, d2, t2, t3, t4⟩
          have q := t2.symm.trans hst
          simp only [Option.some.injEq, Prod.mk.injEq] at q
          obtain ⟨-, q1, q2, -⟩ := q; omega
        refine zr_go (t := (40, [some (.ref 0), none, none], [.int (-103)], (zw_M (upd (upd (upd (upd g 16 x16) 17 (nI m)) 18 (nI r)) 19 (nI d)) gl (va_up a 8 f8) al))) 1 rfl ?_
        exact zr_ret rfl trivial (Or.inl ⟨hno, rfl, x16, m, r, d, f8, rfl⟩)
      · skip
        refine zr_go (t := (35, [some (.ref 0), none, none], [.int (nI d)], (zw_M (upd (upd (upd (upd g 16 x16) 17 (nI m)) 18 (nI r)) 19 (nI d)) gl (va_up a 8 f8) al))) 2 rfl ?_
        refine zr_ine (x := nI d) (y := 0) d 0 rfl rfl (by omega) (by omega) (t := (41, [some (.ref 0), none, none], [], (zw_M (upd (upd (upd (upd g 16 x16) 17 (nI m)) 18 (nI r)) 19 (nI d)) gl (va_up a 8 f8) al))) (f := (38, [some (.ref 0), none, none], [], (zw_M (upd (upd (upd (upd g 16 x16) 17 (nI m)) 18 (nI r)) 19 (nI d)) gl (va_up a 8 f8) al))) rfl (fun h4 => ?_) (fun h4 => ?_)
        · skip
          obtain ⟨k0, e0⟩ : ∃ k0, n = k0 + 2 := by
            rcases Nat.lt_or_ge n 2 with z | z
            · exfalso; have z1 : n = 0 ∨ n = 1 := by omega
              rcases z1 with z1 | z1
              · rw [z1] at hst; cases hst; exact h2 rfl
              · rw [z1] at hst; exact h2 (zp_st1 (show zp_step 0 (0, 0, 0, 0) (cd 0) = some (P, m, r, d) from hst)).1
            · exact ⟨n - 2, by omega⟩
          obtain ⟨hJ, -, hpos, hdig⟩ := zp_K_ok k0 P m r d (by rw [← e0]; exact hst)
          obtain ⟨hm3, hmo, hrm, hdm⟩ : 3 ≤ m ∧ m ≤ zp_most P ∧ r < m ∧ d ≤ m - r := by rcases hJ.2 with ⟨z, -⟩ | z; exact absurd z h2; exact z
          have hok : zv_ok P m := ⟨hJ.1, hm3, hmo⟩
          have hr1 : r = m - 1 := by omega
          obtain ⟨hP0, hP5⟩ := zv_P5 hJ.1
          obtain ⟨hA, hB, hnp0⟩ := zv_nums hok
          have hm6 := zv_okN hok
          have hx1 := hx16 (by omega)
          subst hx1
          have htx : zp_text cd n P m := ⟨hLn, d, by rw [← hr1]; exact hst, h2, h4⟩
          have hnv : ∀ i j, i ≤ j → j < m → f8 (6 * i + j) = nI (cd (zp_pos m i + (j - i)) - 48) ∧ cd (zp_pos m i + (j - i)) - 48 ≤ 4 := by
            intro i j z1 z2
            have z3 : i < r ∧ j < m ∨ i = r ∧ j < r + d := by omega
            have z4 := hdig i j z1 z3
            exact ⟨hTb i j z1 z3, by omega⟩
          refine zr_go (t := (59, [some (.ref 0), some (.int 0), none], [], (zw_M (upd (upd (upd (upd (upd (upd g 0 (nI P)) 1 (nI m)) 16 (nI P)) 17 (nI m)) 18 (nI r)) 19 (nI d)) gl (va_up a 8 f8) al))) 10 rfl ?_
          refine zr_loop (fun zq : Nat × (Nat → Int32) => (59, [some (.ref 0), some (.int (nI zq.1)), none], [], (zw_M (upd (upd (upd (upd (upd (upd g 0 (nI P)) 1 (nI m)) 16 (nI P)) 17 (nI m)) 18 (nI r)) 19 (nI d)) gl (va_up (va_up a 1 zq.2) 8 f8) al))) (fun zq => zq.1 ≤ m ∧ ∀ t, t < 36 → zq.2 t = nI (if t / 6 < zq.1 then zp_c cd m c0 t else c0 t)) (fun zq => m - zq.1) ?_ (0, a 1) ⟨by omega, fun t z => by rw [if_neg (Nat.not_lt_zero _)]; exact hc0 t z⟩
          rintro ⟨i, fT⟩ ⟨hi, hfT⟩ ih
          try dsimp only at *
          refine zr_go (t := (64, [some (.ref 0), some (.int (nI i)), none], [.int (nI m), .int (nI i)], (zw_M (upd (upd (upd (upd (upd (upd g 0 (nI P)) 1 (nI m)) 16 (nI P)) 17 (nI m)) 18 (nI r)) 19 (nI d)) gl (va_up (va_up a 1 fT) 8 f8) al))) 3 rfl ?_
          refine zr_ige (x := nI i) (y := nI m) i m rfl rfl (by omega) (by omega) (t := (111, [some (.ref 0), some (.int (nI i)), none], [], (zw_M (upd (upd (upd (upd (upd (upd g 0 (nI P)) 1 (nI m)) 16 (nI P)) 17 (nI m)) 18 (nI r)) 19 (nI d)) gl (va_up (va_up a 1 fT) 8 f8) al))) (f := (67, [some (.ref 0), some (.int (nI i)), none], [], (zw_M (upd (upd (upd (upd (upd (upd g 0 (nI P)) 1 (nI m)) 16 (nI P)) 17 (nI m)) 18 (nI r)) 19 (nI d)) gl (va_up (va_up a 1 fT) 8 f8) al))) rfl (fun h5 => ?_) (fun h5 => ?_)
          · skip
            have hfT2 : ∀ k, k < 36 → fT k = nI (zp_c cd m c0 k) := fun k hk => (hfT k hk).trans (congrArg nI (by split; rfl; rename_i z; unfold zp_c; rw [if_neg (by omega)]))
            have hc4 : ∀ k, k < 36 → zp_c cd m c0 k ≤ 4 := fun k hk => by unfold zp_c; split; exact (hnv _ _ (by omega) (by omega)).2; exact hc04 k hk
            refine zr_go (t := (127, [some (.ref 0), some (.int (nI i)), none], [.ref 0], (zw_M (upd (upd (upd (upd (upd (upd (upd (upd g 0 (nI P)) 1 (nI m)) 3 ((g 3) + 1)) 4 0) 16 (nI P)) 17 (nI m)) 18 (nI r)) 19 (nI d)) gl (va_up (va_up a 1 fT) 8 f8) al))) 10 rfl ?_
            rw [show (g 3) + 1 = nI (F0 + 1) from (zn_add hF0 rfl)]
            refine zr_call (t := (130, [some (.ref 0), some (.int (nI i)), none], [], (zw_M (upd (upd (upd (upd (upd (upd (upd (upd g 0 (nI P)) 1 (nI m)) 3 (nI (F0 + 1))) 4 0) 16 (nI P)) 17 (nI m)) 18 (nI r)) 19 (nI d)) gl (va_up (va_up a 1 fT) 8 f8) al))) rfl (Nat.le_of_ble_eq_true rfl : 2 ≤ 8) (zs_M_layPoints (upd (upd (upd (upd (upd (upd (upd (upd g 0 (nI P)) 1 (nI m)) 3 (nI (F0 + 1))) 4 0) 16 (nI P)) 17 (nI m)) 18 (nI r)) 19 (nI d)) gl (va_up (va_up a 1 fT) 8 f8) al P m rfl rfl hP0 hP5 hm6 hA hB) ?_
            rintro _ _ ⟨rfl, fr, fn, f9, rfl, hfn, hfr⟩
            show zm_Run zt_get 8 zt_M_form (130, [some (.ref 0), some (.int (nI i)), none], [], (zw_M (upd (upd (upd (upd (upd (upd (upd (upd (upd g 0 (nI P)) 1 (nI m)) 3 (nI (F0 + 1))) 4 0) 6 (nI (zv_np P m))) 16 (nI P)) 17 (nI m)) 18 (nI r)) 19 (nI d)) gl (va_up (va_up (va_up (va_up (va_up a 1 fT) 3 fr) 4 fn) 8 f8) 9 f9) al)) _
            refine zr_go (t := (131, [some (.ref 0), some (.int (nI i)), none], [.ref 0], (zw_M (upd (upd (upd (upd (upd (upd (upd (upd (upd g 0 (nI P)) 1 (nI m)) 3 (nI (F0 + 1))) 4 0) 6 (nI (zv_np P m))) 16 (nI P)) 17 (nI m)) 18 (nI r)) 19 (nI d)) gl (va_up (va_up (va_up (va_up (va_up a 1 fT) 3 fr) 4 fn) 8 f8) 9 f9) al))) 1 rfl ?_
            refine zr_call (t := (134, [some (.ref 0), some (.int (nI i)), none], [], (zw_M (upd (upd (upd (upd (upd (upd (upd (upd (upd g 0 (nI P)) 1 (nI m)) 3 (nI (F0 + 1))) 4 0) 6 (nI (zv_np P m))) 16 (nI P)) 17 (nI m)) 18 (nI r)) 19 (nI d)) gl (va_up (va_up (va_up (va_up (va_up a 1 fT) 3 fr) 4 fn) 8 f8) 9 f9) al))) rfl (Nat.le_of_ble_eq_true rfl : 8 ≤ 8) (zs_M_layNew (upd (upd (upd (upd (upd (upd (upd (upd (upd g 0 (nI P)) 1 (nI m)) 3 (nI (F0 + 1))) 4 0) 6 (nI (zv_np P m))) 16 (nI P)) 17 (nI m)) 18 (nI r)) 19 (nI d)) gl (va_up (va_up (va_up (va_up (va_up a 1 fT) 3 fr) 4 fn) 8 f8) 9 f9) al P m (zp_c cd m c0) ⟨rfl, rfl, hP0, hP5, hm6, hfT2, hc4⟩ hJ.1 hA hfn (zv_np P m) (zv_y P m) ⟨rfl, hB, zv_rows hfr, fun p i _ _ => Nat.le_of_lt_succ (Nat.lt_of_lt_of_le (zv_y_lt hP0) hP5)⟩ (zv_hv hok) hnp0 (fun z => (hG P m _ hok z).1) (fun z => (hG P m _ hok z).2)) ?_
            rintro _ _ ⟨rfl, y25, fo, b6, b7, b9, b10, b11, b12, b13, b14, b16, nl, npl, rfl, hch, hfo, hs1, hs2⟩
            show zm_Run zt_get 8 zt_M_form (134, [some (.ref 0), some (.int (nI i)), none], [], (zw_M (upd (upd (upd (upd (upd (upd (upd (upd (upd (upd (upd (upd (upd (upd g 0 (nI P)) 1 (nI m)) 3 (nI (F0 + 1))) 4 0) 6 (nI (zv_np P m))) 10 (nI (zC (zv_oo P m (zp_c cd m c0) (zv_y P m)) (zv_np P m)))) 11 (nI (zv_ns P m (zp_c cd m c0) (zv_np P m) (zv_y P m)))) 12 (nI nl)) 14 (nI npl)) 16 (nI P)) 17 (nI m)) 18 (nI r)) 19 (nI d)) 25 y25) gl (va_up (va_up (va_up (va_up (va_up (va_up (va_up (va_up (va_up (va_up (va_up (va_up (va_up (va_up a 1 fT) 3 fr) 4 fn) 5 fo) 6 b6) 7 b7) 8 f8) 9 b9) 10 b10) 11 b11) 12 b12) 13 b13) 14 b14) 16 b16) al)) _
            refine zr_go (t := (138, [some (.ref 0), some (.int (nI i)), none], [.int (nI (zv_np P m))], (zw_M (upd (upd (upd (upd (upd (upd (upd (upd (upd (upd (upd (upd (upd (upd g 0 (nI P)) 1 (nI m)) 3 (nI (F0 + 1))) 4 0) 6 (nI (zv_np P m))) 10 (nI (zC (zv_oo P m (zp_c cd m c0) (zv_y P m)) (zv_np P m)))) 11 (nI (zv_ns P m (zp_c cd m c0) (zv_np P m) (zv_y P m)))) 12 (nI nl)) 14 (nI npl)) 16 (nI P)) 17 (nI m)) 18 (nI r)) 19 (nI d)) 25 y25) gl (va_up (va_up (va_up (va_up (va_up (va_up (va_up (va_up (va_up (va_up (va_up (va_up (va_up (va_up a 1 fT) 3 fr) 4 fn) 5 fo) 6 b6) 7 b7) 8 f8) 9 b9) 10 b10) 11 b11) 12 b12) 13 b13) 14 b14) 16 b16) al))) 2 rfl ?_
            exact zr_ret rfl trivial (Or.inr ⟨P, m, htx, rfl, _, _, _, _, _, _, _, _, _, fT, fr, fn, fo, b6, b7, f8, b9, b10, b11, b12, b13, b14, b16, rfl, ⟨hok, ⟨rfl, rfl, hP0, hP5, hm6, hfT2, hc4⟩, ⟨rfl, hB, zv_rows hfr, fun p i _ _ => Nat.le_of_lt_succ (Nat.lt_of_lt_of_le (zv_y_lt hP0) hP5)⟩, hfn, hfo, rfl, rfl, nl, npl, rfl, rfl, hs1, fun z => ⟨(hs2 z).1, (hs2 z).2.1, (hs2 z).2.2.1, (hs2 z).2.2.2⟩⟩, hch.1, hch.2⟩)
          · skip
            refine zr_go (t := (69, [some (.ref 0), some (.int (nI i)), some (.int (nI i))], [], (zw_M (upd (upd (upd (upd (upd (upd g 0 (nI P)) 1 (nI m)) 16 (nI P)) 17 (nI m)) 18 (nI r)) 19 (nI d)) gl (va_up (va_up a 1 fT) 8 f8) al))) 2 rfl ?_
            refine zr_loop (fun zq : Nat × (Nat → Int32) => (69, [some (.ref 0), some (.int (nI i)), some (.int (nI zq.1))], [], (zw_M (upd (upd (upd (upd (upd (upd g 0 (nI P)) 1 (nI m)) 16 (nI P)) 17 (nI m)) 18 (nI r)) 19 (nI d)) gl (va_up (va_up a 1 zq.2) 8 f8) al))) (fun zq => i ≤ zq.1 ∧ zq.1 ≤ m ∧ ∀ t, t < 36 → zq.2 t = nI (if t / 6 < i ∨ (t / 6 = i ∧ t % 6 < zq.1) then zp_c cd m c0 t else c0 t)) (fun zq => m - zq.1) ?_ (i, fT) ⟨Nat.le_refl _, by omega, fun t z => (hfT t z).trans (congrArg nI (by by_cases q : t / 6 < i; rw [if_pos q, if_pos (Or.inl q)]; rw [if_neg q]; split; unfold zp_c; rw [if_neg (by omega)]; rfl))⟩
            rintro ⟨j, fU⟩ ⟨hij, hj, hfU⟩ ih2
            try dsimp only at *
            refine zr_go (t := (74, [some (.ref 0), some (.int (nI i)), some (.int (nI j))], [.int (nI m), .int (nI j)], (zw_M (upd (upd (upd (upd (upd (upd g 0 (nI P)) 1 (nI m)) 16 (nI P)) 17 (nI m)) 18 (nI r)) 19 (nI d)) gl (va_up (va_up a 1 fU) 8 f8) al))) 3 rfl ?_
            refine zr_ige (x := nI j) (y := nI m) j m rfl rfl (by omega) (by omega) (t := (105, [some (.ref 0), some (.int (nI i)), some (.int (nI j))], [], (zw_M (upd (upd (upd (upd (upd (upd g 0 (nI P)) 1 (nI m)) 16 (nI P)) 17 (nI m)) 18 (nI r)) 19 (nI d)) gl (va_up (va_up a 1 fU) 8 f8) al))) (f := (77, [some (.ref 0), some (.int (nI i)), some (.int (nI j))], [], (zw_M (upd (upd (upd (upd (upd (upd g 0 (nI P)) 1 (nI m)) 16 (nI P)) 17 (nI m)) 18 (nI r)) 19 (nI d)) gl (va_up (va_up a 1 fU) 8 f8) al))) rfl (fun h6 => ?_) (fun h6 => ?_)
            · skip
              refine zr_go (t := (59, [some (.ref 0), some (.int ((nI i) + 1)), some (.int (nI j))], [], (zw_M (upd (upd (upd (upd (upd (upd g 0 (nI P)) 1 (nI m)) 16 (nI P)) 17 (nI m)) 18 (nI r)) 19 (nI d)) gl (va_up (va_up a 1 fU) 8 f8) al))) 2 rfl ?_
              rw [show (nI i) + 1 = nI (i + 1) from (zn_add rfl rfl)]
              refine zr_forget [some (.ref 0), some (.int (nI (i + 1))), none] ⟨Or.inr rfl, Or.inr rfl, Or.inl rfl, trivial⟩ ?_
              exact ih (i + 1, fU) ⟨by omega, fun t z => (hfU t z).trans (congrArg nI (by by_cases q : t / 6 < i + 1; rw [if_pos q]; split; rfl; unfold zp_c; rw [if_neg (by omega)]; rw [if_neg q, if_neg (by omega)]))⟩ (by omega)
            · skip
              refine zr_go (t := (97, [some (.ref 0), some (.int (nI i)), some (.int (nI j))], [.int ((6 * (nI i)) + (nI j)), .ref 8, .int ((6 * (nI i)) + (nI j)), .ref 1], (zw_M (upd (upd (upd (upd (upd (upd g 0 (nI P)) 1 (nI m)) 16 (nI P)) 17 (nI m)) 18 (nI r)) 19 (nI d)) gl (va_up (va_up a 1 fU) 8 f8) al))) 14 rfl ?_
              refine zr_cd (t := (98, [some (.ref 0), some (.int (nI i)), some (.int (nI j))], [.int (f8 ((6 * (nI i)) + (nI j)).toNatClampNeg), .int ((6 * (nI i)) + (nI j)), .ref 1], (zw_M (upd (upd (upd (upd (upd (upd g 0 (nI P)) 1 (nI m)) 16 (nI P)) 17 (nI m)) 18 (nI r)) 19 (nI d)) gl (va_up (va_up a 1 fU) 8 f8) al))) rfl (pk_in ((6 * i) + j) 36 (by omega) (zn_add (zn_mul rfl rfl) rfl) (by omega)) ?_
              rw [pk_cl (x := ((6 * (nI i)) + (nI j))) ((6 * i) + j) (zn_add (zn_mul rfl rfl) rfl) (by omega)]
              rw [show f8 ((6 * i) + j) = nI (cd (zp_pos m i + (j - i)) - 48) from (hnv i j hij h6).1]
              refine zr_cd (t := (99, [some (.ref 0), some (.int (nI i)), some (.int (nI j))], [], (zw_M (upd (upd (upd (upd (upd (upd g 0 (nI P)) 1 (nI m)) 16 (nI P)) 17 (nI m)) 18 (nI r)) 19 (nI d)) gl (va_up (va_up a 1 (upd fU (((6 * (nI i)) + (nI j)).toNatClampNeg) (nI (cd (zp_pos m i + (j - i)) - 48)))) 8 f8) al))) rfl (pk_in ((6 * i) + j) 36 (by omega) (zn_add (zn_mul rfl rfl) rfl) (by omega)) ?_
              rw [pk_cl (x := ((6 * (nI i)) + (nI j))) ((6 * i) + j) (zn_add (zn_mul rfl rfl) rfl) (by omega)]
              refine zr_go (t := (69, [some (.ref 0), some (.int (nI i)), some (.int ((nI j) + 1))], [], (zw_M (upd (upd (upd (upd (upd (upd g 0 (nI P)) 1 (nI m)) 16 (nI P)) 17 (nI m)) 18 (nI r)) 19 (nI d)) gl (va_up (va_up a 1 (upd fU ((6 * i) + j) (nI (cd (zp_pos m i + (j - i)) - 48)))) 8 f8) al))) 2 rfl ?_
              rw [show (nI j) + 1 = nI (j + 1) from (zn_add rfl rfl)]
              exact ih2 (j + 1, (upd fU ((6 * i) + j) (nI (cd (zp_pos m i + (j - i)) - 48)))) ⟨by omega, by omega, fun t z => if e : t = 6 * i + j then by subst e; exact pk_us.trans (congrArg nI (by rw [if_pos (by omega)]; unfold zp_c; rw [if_pos (by omega), show (6 * i + j) / 6 = i by omega, show (6 * i + j) % 6 = j by omega])) else (pk_un e).trans ((hfU t z).trans (congrArg nI (by by_cases q : t / 6 < i ∨ (t / 6 = i ∧ t % 6 < j); rw [if_pos q, if_pos (by omega)]; rw [if_neg q, if_neg (by omega)])))⟩ (by omega)
        · skip
          have hno : ¬ ∃ P N, zp_text cd n P N := by
            rintro ⟨P2, N2, -, d2, t2, t3, t4⟩
            have q := t2.symm.trans hst
            simp only [Option.some.injEq, Prod.mk.injEq] at q
            exact t4 (q.2.2.2.trans h4)
          refine zr_go (t := (40, [some (.ref 0), none, none], [.int (-103)], (zw_M (upd (upd (upd (upd g 16 x16) 17 (nI m)) 18 (nI r)) 19 (nI d)) gl (va_up a 8 f8) al))) 1 rfl ?_
          exact zr_ret rfl trivial (Or.inl ⟨hno, rfl, x16, m, r, d, f8, rfl⟩)
