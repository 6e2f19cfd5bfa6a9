/-! the class: digest (written by wip/whole/gen_c20.py) -/
theorem zs_C_about2 (g : Nat → Int32) (gl : Nat → Int64) (a : Nat → Nat → Int32) (al : Nat → Nat → Int64) (P N : Nat) (c : Nat → Nat) (sv bt : Bool) (n0 : Nat) (e0 : Nat → Nat) (n1 : Nat) (e1 : Nat → Nat) (n : Nat) (cd : Nat → Nat) (K M : Nat) (e : Nat → Nat) (fr fi wa : Nat) (hK : zK_1 g a al P N c sv bt n0 e0 n1 e1) (hr : zK_r g a n cd K M e fr fi wa) (k : Nat) (hk : k < 8) (hPp : 0 < P) : zm_Ev zt_get 6 60 [.ref 0, .int (nI k)] (zw_C g gl a al) (fun v w => v = some (.int (ac_ab P N c k)) ∧ ∃ g' a', w = zw_C g' gl a' al ∧ zK_1 g' a' al P N c true bt n0 e0 n1 e1 ∧ zK_r g' a' n cd K M e fr fi wa) := by
  refine zr_ev zt_X_about rfl rfl ?_
  show zm_Run zt_get 5 zt_X_about (0, [some (.ref 0), some (.int (nI k))], [], (zw_C g gl a al)) _
  refine zr_go (t := (1, [some (.ref 0), some (.int (nI k))], [.int (nI k)], (zw_C g gl a al))) 1 rfl ?_
  refine zr_ilt (x := nI k) (y := 0) k 0 rfl rfl (by omega) (by omega) (t := (10, [some (.ref 0), some (.int (nI k))], [], (zw_C g gl a al))) (f := (4, [some (.ref 0), some (.int (nI k))], [], (zw_C g gl a al))) rfl (fun h1 => ?_) (fun h1 => ?_)
  · skip
    exfalso; omega
  · skip
    refine zr_go (t := (7, [some (.ref 0), some (.int (nI k))], [.int 7, .int (nI k)], (zw_C g gl a al))) 2 rfl ?_
    refine zr_ile (x := nI k) (y := 7) k 7 rfl rfl (by omega) (by omega) (t := (13, [some (.ref 0), some (.int (nI k))], [], (zw_C g gl a al))) (f := (10, [some (.ref 0), some (.int (nI k))], [], (zw_C g gl a al))) rfl (fun h2 => ?_) (fun h2 => ?_)
    · skip
      refine zr_go (t := (14, [some (.ref 0), some (.int (nI k))], [.ref 0], (zw_C g gl a al))) 1 rfl ?_
      refine zr_call (t := (17, [some (.ref 0), some (.int (nI k))], [], (zw_C g gl a al))) rfl (Nat.le_of_ble_eq_true rfl : 4 ≤ 5) (zs_C_hasForm g gl a al P N c sv bt n0 e0 n1 e1 hK) ?_
      rintro _ _ ⟨rfl, g1, a1, rfl, hK1, he1⟩
      have hdb := zb_le (decide (0 < P))
      have hr1 := zK_r_e he1 hr
      show zm_Run zt_get 5 zt_X_about (17, [some (.ref 0), some (.int (nI k))], [.int (nI ((decide (0 < P)).toNat))], (zw_C g1 gl a1 al)) _
      refine zr_ine (x := nI ((decide (0 < P)).toNat)) (y := 0) ((decide (0 < P)).toNat) 0 rfl rfl (by omega) (by omega) (t := (23, [some (.ref 0), some (.int (nI k))], [], (zw_C g1 gl a1 al))) (f := (20, [some (.ref 0), some (.int (nI k))], [], (zw_C g1 gl a1 al))) rfl (fun h3 => ?_) (fun h3 => ?_)
      · skip
        obtain ⟨hm, hc4, h4, h5, h24, h26, h12, hcase⟩ := id hK1
        rcases hcase with ⟨q1, q2, q, q3, _⟩ | ⟨⟨hok, h11, hcP, hQ⟩, hsv, hbt, hnb⟩
        · skip
          exfalso; omega
        · skip
          have hN6 := zv_okN hok
          have hN3 := hok.2.1
          obtain ⟨hP0, hP5⟩ := zv_P5 hok.1
          obtain ⟨-, hnp1, hnp0⟩ := zv_nums hok
          have hon1 := (zj_nums (c := c) hok).1
          have hns1 := (zj_nums (c := c) hok).2
          have hd : decide (0 < P) = true := decide_eq_true hP0
          have hv := hsv hd
          have h17 := hQ.2.2.2.1
          have h18 := hv.1
          have h19 : g1 19 = nI (zj_ns P N c) := hv.2.1
          rw [hd] at hK1
          unfold ac_ab
          refine zr_go (t := (24, [some (.ref 0), some (.int (nI k))], [.int (nI k)], (zw_C g1 gl a1 al))) 1 rfl ?_
          rcases (show k = 0 ∨ k = 1 ∨ k = 2 ∨ k = 3 ∨ k = 4 ∨ k = 5 ∨ k = 6 ∨ k = 7 by omega) with rfl | rfl | rfl | rfl | rfl | rfl | rfl | rfl
          · skip
            refine zr_step (c := none) (t := ((zm_sw 24 100 0 6 #[44, 52, 60, 68, 76, 84, 92] (nI 0)), [some (.ref 0), some (.int (nI 0))], [], (zw_C g1 gl a1 al))) rfl trivial ?_
            rw [show zm_sw 24 100 0 6 #[44, 52, 60, 68, 76, 84, 92] (nI 0) = 68 from by decide]
            refine zr_go (t := (75, [some (.ref 0), some (.int (nI 0))], [.int (g1 11)], (zw_C g1 gl a1 al))) 3 rfl ?_
            exact zr_ret rfl trivial ⟨by rw [h11]; rfl, g1, a1, rfl, hK1, hr1⟩
          · skip
            refine zr_step (c := none) (t := ((zm_sw 24 100 0 6 #[44, 52, 60, 68, 76, 84, 92] (nI 1)), [some (.ref 0), some (.int (nI 1))], [], (zw_C g1 gl a1 al))) rfl trivial ?_
            rw [show zm_sw 24 100 0 6 #[44, 52, 60, 68, 76, 84, 92] (nI 1) = 76 from by decide]
            refine zr_go (t := (83, [some (.ref 0), some (.int (nI 1))], [.int (g1 12)], (zw_C g1 gl a1 al))) 3 rfl ?_
            exact zr_ret rfl trivial ⟨by rw [h12]; rfl, g1, a1, rfl, hK1, hr1⟩
          · skip
            refine zr_step (c := none) (t := ((zm_sw 24 100 0 6 #[44, 52, 60, 68, 76, 84, 92] (nI 2)), [some (.ref 0), some (.int (nI 2))], [], (zw_C g1 gl a1 al))) rfl trivial ?_
            rw [show zm_sw 24 100 0 6 #[44, 52, 60, 68, 76, 84, 92] (nI 2) = 84 from by decide]
            refine zr_go (t := (91, [some (.ref 0), some (.int (nI 2))], [.int (g1 17)], (zw_C g1 gl a1 al))) 3 rfl ?_
            exact zr_ret rfl trivial ⟨by rw [h17]; rfl, g1, a1, rfl, hK1, hr1⟩
          · skip
            refine zr_step (c := none) (t := ((zm_sw 24 100 0 6 #[44, 52, 60, 68, 76, 84, 92] (nI 3)), [some (.ref 0), some (.int (nI 3))], [], (zw_C g1 gl a1 al))) rfl trivial ?_
            rw [show zm_sw 24 100 0 6 #[44, 52, 60, 68, 76, 84, 92] (nI 3) = 92 from by decide]
            refine zr_go (t := (99, [some (.ref 0), some (.int (nI 3))], [.int (g1 18)], (zw_C g1 gl a1 al))) 3 rfl ?_
            exact zr_ret rfl trivial ⟨by rw [h18]; rfl, g1, a1, rfl, hK1, hr1⟩
          · skip
            refine zr_step (c := none) (t := ((zm_sw 24 100 0 6 #[44, 52, 60, 68, 76, 84, 92] (nI 4)), [some (.ref 0), some (.int (nI 4))], [], (zw_C g1 gl a1 al))) rfl trivial ?_
            rw [show zm_sw 24 100 0 6 #[44, 52, 60, 68, 76, 84, 92] (nI 4) = 100 from by decide]
            refine zr_go (t := (107, [some (.ref 0), some (.int (nI 4))], [.int (g1 19)], (zw_C g1 gl a1 al))) 3 rfl ?_
            exact zr_ret rfl trivial ⟨by rw [h19]; rfl, g1, a1, rfl, hK1, hr1⟩
          · skip
            refine zr_step (c := none) (t := ((zm_sw 24 100 0 6 #[44, 52, 60, 68, 76, 84, 92] (nI 5)), [some (.ref 0), some (.int (nI 5))], [], (zw_C g1 gl a1 al))) rfl trivial ?_
            rw [show zm_sw 24 100 0 6 #[44, 52, 60, 68, 76, 84, 92] (nI 5) = 108 from by decide]
            refine zr_go (t := (112, [some (.ref 0), some (.int (nI 5))], [.ref 4], (zw_C g1 gl a1 al))) 2 rfl ?_
            refine zr_call (t := (115, [some (.ref 0), some (.int (nI 5))], [], (zw_C g1 gl a1 al))) rfl (Nat.le_of_ble_eq_true rfl : 2 ≤ 5) (zs_C_kindJ g1 gl a1 al P N hQ c hv) ?_
            rintro _ _ ⟨rfl, rfl⟩
            show zm_Run zt_get 5 zt_X_about (115, [some (.ref 0), some (.int (nI 5))], [.int (nI (zz_kd P N (zw_on P N c) (zj_ns P N c) (zv_np P N)))], (zw_C g1 gl a1 al)) _
            exact zr_ret rfl trivial ⟨rfl, g1, a1, rfl, hK1, hr1⟩
          · skip
            refine zr_step (c := none) (t := ((zm_sw 24 100 0 6 #[44, 52, 60, 68, 76, 84, 92] (nI 6)), [some (.ref 0), some (.int (nI 6))], [], (zw_C g1 gl a1 al))) rfl trivial ?_
            rw [show zm_sw 24 100 0 6 #[44, 52, 60, 68, 76, 84, 92] (nI 6) = 116 from by decide]
            refine zr_go (t := (120, [some (.ref 0), some (.int (nI 6))], [.ref 2], (zw_C g1 gl a1 al))) 2 rfl ?_
            refine zr_call (t := (123, [some (.ref 0), some (.int (nI 6))], [], (zw_C g1 gl a1 al))) rfl (Nat.le_of_ble_eq_true rfl : 4 ≤ 5) (zs_C_disc_2 g1 gl a1 al N h12 hN6 P h11 hok.1 c hm hc4) ?_
            rintro _ _ ⟨rfl, f12, rfl⟩
            show zm_Run zt_get 5 zt_X_about (123, [some (.ref 0), some (.int (nI 6))], [.int (zd_disc P N c)], (zw_C g1 gl (va_up a1 12 f12) al)) _
            exact zr_ret rfl trivial ⟨rfl, g1, _, rfl, hK1, hr1⟩
          · skip
            refine zr_step (c := none) (t := ((zm_sw 24 100 0 6 #[44, 52, 60, 68, 76, 84, 92] (nI 7)), [some (.ref 0), some (.int (nI 7))], [], (zw_C g1 gl a1 al))) rfl trivial ?_
            rw [show zm_sw 24 100 0 6 #[44, 52, 60, 68, 76, 84, 92] (nI 7) = 124 from by decide]
            refine zr_go (t := (128, [some (.ref 0), some (.int (nI 7))], [.ref 4], (zw_C g1 gl a1 al))) 2 rfl ?_
            refine zr_call (t := (131, [some (.ref 0), some (.int (nI 7))], [], (zw_C g1 gl a1 al))) rfl (Nat.le_of_ble_eq_true rfl : 2 ≤ 5) (zs_C_index g1 gl a1 al P N (zw_on P N c) (zj_ns P N c) (zv_np P N) hQ.2.1 hQ.2.2.1 h17 h18 h19 hP5 hN6 hN3 hnp1 hnp0 hon1 hns1) ?_
            rintro _ _ ⟨rfl, rfl⟩
            show zm_Run zt_get 5 zt_X_about (131, [some (.ref 0), some (.int (nI 7))], [.int (if 0 < zj_ns P N c then -1 else nI (zz_ix P N (zw_on P N c) (zv_np P N)))], (zw_C g1 gl a1 al)) _
            exact zr_ret rfl trivial ⟨rfl, g1, a1, rfl, hK1, hr1⟩
      · skip
        exact absurd (decide_eq_true hPp) (by rw [zb_0n _ h3]; decide)
    · skip
      exfalso; omega
def zj_hf (P N : Nat) (c : Nat → Nat) (h : Int64) : Int64 := zh_f (zh_tab (zh_f h (fun k => (ac_ab P N c k).toInt64) 8) c N N) (fun k => (nI (zv_val P N c (zv_y P N k))).toInt64) (zv_np P N)
def zj_hg (P N : Nat) (c : Nat → Nat) (h : Int64) : Nat → Int64
  | 0 => h
  | k + 1 => zg_fold (fun j y => 31 * y + (nI (zj_x P N c j)).toInt64) (zj_m P N c k) 64 (zj_hg P N c h k)
def zj_hl (P N : Nat) (c : Nat → Nat) (n0 : Nat) (e0 : Nat → Nat) (n1 : Nat) (e1 : Nat → Nat) (h : Int64) : Int64 := 31 * (31 * zj_hg P N c (zh_f h (fun d => (nI (zj_tot P N c (d + 1))).toInt64) 3) (zj_gm P N c) + (zj_lf P N c n0 e0 n1 e1 0).toInt64) + (zj_lf P N c n0 e0 n1 e1 1).toInt64
def zj_nn (n0 n1 q : Nat) : Nat := if q = 0 then n0 else n1
def ac_h1 (P N : Nat) (c : Nat → Nat) : Int64 := if 0 < P then zj_hf P N c 1499 else 1499
def ac_h2 (P N : Nat) (c : Nat → Nat) (n0 : Nat) (e0 : Nat → Nat) (n1 : Nat) (e1 : Nat → Nat) : Int64 := if zj_ok P N c = true then zj_hl P N c n0 e0 n1 e1 (ac_h1 P N c) else ac_h1 P N c
def ac_digest (P N : Nat) (c : Nat → Nat) (n0 : Nat) (e0 : Nat → Nat) (n1 : Nat) (e1 : Nat → Nat) (n : Nat) (cd : Nat → Nat) (fr fi wa : Nat) : Int64 := zh_f (zh_f (zh_lists (zj_nn n0 n1) (zj_en P N c e0 e1) (ac_h2 P N c n0 e0 n1 e1) 2) (fun k => (nI (cd k)).toInt64) n) (fun k => (ac_count P N c n0 n1 n fr fi wa (nI k)).toInt64) 9
theorem zs_C_digestForm (g : Nat → Int32) (gl : Nat → Int64) (a : Nat → Nat → Int32) (al : Nat → Nat → Int64) (P N : Nat) (c : Nat → Nat) (bt : Bool) (n0 : Nat) (e0 : Nat → Nat) (n1 : Nat) (e1 : Nat → Nat) (n : Nat) (cd : Nat → Nat) (K M : Nat) (e : Nat → Nat) (fr fi wa : Nat) (hK : zK_1 g a al P N c true bt n0 e0 n1 e1) (hr : zK_r g a n cd K M e fr fi wa) (hPp : 0 < P) (h : Int64) : zm_Ev zt_get 7 88 [.ref 0, .long h] (zw_C g gl a al) (fun v w => v = some (.long (zj_hf P N c h)) ∧ ∃ g' a', w = zw_C g' gl a' al ∧ zK_1 g' a' al P N c true bt n0 e0 n1 e1 ∧ zK_r g' a' n cd K M e fr fi wa) := by
  refine zr_ev zt_X_digestForm rfl rfl ?_
  show zm_Run zt_get 6 zt_X_digestForm (0, [some (.ref 0), some (.long h), none, none, none, none, none], [], (zw_C g gl a al)) _
  refine zr_go (t := (5, [some (.ref 0), some (.long h), none, some (.long h), none, some (.int 0), none], [], (zw_C g gl a al))) 4 rfl ?_
  refine zr_loop (fun zq : Nat × Int64 × (Nat → Int32) × (Nat → Nat → Int32) => (5, [some (.ref 0), some (.long h), none, some (.long zq.2.1), none, some (.int (nI zq.1)), none], [], (zw_C zq.2.2.1 gl zq.2.2.2 al))) (fun zq => zq.1 ≤ 8 ∧ zq.2.1 = zh_f h (fun i9 => (ac_ab P N c i9).toInt64) zq.1 ∧ zK_1 zq.2.2.1 zq.2.2.2 al P N c true bt n0 e0 n1 e1 ∧ zK_r zq.2.2.1 zq.2.2.2 n cd K M e fr fi wa) (fun zq => 8 - zq.1) ?_ (0, h, g, a) ⟨by omega, rfl, hK, hr⟩
  rintro ⟨k, y, g2, a2⟩ ⟨hk, hy, hK2, hr2⟩ ih
  try dsimp only at *
  refine zr_go (t := (9, [some (.ref 0), some (.long h), none, some (.long y), none, some (.int (nI k)), none], [.int 7, .int (nI k)], (zw_C g2 gl a2 al))) 2 rfl ?_
  refine zr_igt (x := nI k) (y := 7) k 7 rfl rfl (by omega) (by omega) (t := (32, [some (.ref 0), some (.long h), none, some (.long y), none, some (.int (nI k)), none], [], (zw_C g2 gl a2 al))) (f := (12, [some (.ref 0), some (.long h), none, some (.long y), none, some (.int (nI k)), none], [], (zw_C g2 gl a2 al))) rfl (fun h1 => ?_) (fun h1 => ?_)
  · skip
    have ek : k = 8 := by omega
    subst ek
    obtain ⟨hm, hc4, h4, h5, h24, h26, h12, hcase⟩ := id hK2
    rcases hcase with ⟨q1, q2, q, q3, _⟩ | ⟨⟨hok, h11, hcP, hQ⟩, hsv, hbt, hnb⟩
    · skip
      exfalso; omega
    · skip
      have hN6 := zv_okN hok
      have hN3 := hok.2.1
      obtain ⟨-, hnp1, hnp0⟩ := zv_nums hok
      have hv := hsv rfl
      have h17 := hQ.2.2.2.1
      refine zr_go (t := (35, [some (.ref 0), some (.long h), none, some (.long y), none, some (.int 0), none], [], (zw_C g2 gl a2 al))) 2 rfl ?_
      obtain ⟨H0, hH0⟩ : ∃ q, q = (zh_f h (fun i9 => (ac_ab P N c i9).toInt64) 8) := ⟨_, rfl⟩
      rw [← hH0] at hy
      rw [hy]
      refine zr_loop (fun zq : Nat × Int64 => (35, [some (.ref 0), some (.long h), none, some (.long zq.2), none, some (.int (nI zq.1)), none], [], (zw_C g2 gl a2 al))) (fun zq => zq.1 ≤ N ∧ zq.2 = zh_tab H0 c N zq.1) (fun zq => N - zq.1) ?_ (0, H0) ⟨by omega, rfl⟩
      rintro ⟨i, u⟩ ⟨hi, hu⟩ ih2
      try dsimp only at *
      refine zr_go (t := (44, [some (.ref 0), some (.long h), none, some (.long u), none, some (.int (nI i)), none], [.int (g2 12), .int (nI i)], (zw_C g2 gl a2 al))) 4 rfl ?_
      refine zr_ige (x := nI i) (y := g2 12) i N rfl h12 (by omega) (by omega) (t := (94, [some (.ref 0), some (.long h), none, some (.long u), none, some (.int (nI i)), none], [], (zw_C g2 gl a2 al))) (f := (47, [some (.ref 0), some (.long h), none, some (.long u), none, some (.int (nI i)), none], [], (zw_C g2 gl a2 al))) rfl (fun h2 => ?_) (fun h2 => ?_)
      · skip
        have ei : i = N := by omega
        rw [ei] at hu
        refine zr_go (t := (97, [some (.ref 0), some (.long h), none, some (.long u), none, some (.int 0), none], [], (zw_C g2 gl a2 al))) 2 rfl ?_
        refine zr_loop (fun zq : Nat × Int64 => (97, [some (.ref 0), some (.long h), none, some (.long zq.2), none, some (.int (nI zq.1)), none], [], (zw_C g2 gl a2 al))) (fun zq => zq.1 ≤ zv_np P N ∧ zq.2 = zh_f u (fun k => (nI (zv_val P N c (zv_y P N k))).toInt64) zq.1) (fun zq => zv_np P N - zq.1) ?_ (0, u) ⟨by omega, rfl⟩
        rintro ⟨m, x⟩ ⟨hm2, hx⟩ ih3
        try dsimp only at *
        refine zr_go (t := (106, [some (.ref 0), some (.long h), none, some (.long x), none, some (.int (nI m)), none], [.int (g2 17), .int (nI m)], (zw_C g2 gl a2 al))) 4 rfl ?_
        refine zr_ige (x := nI m) (y := g2 17) m (zv_np P N) rfl h17 (by omega) (by omega) (t := (133, [some (.ref 0), some (.long h), none, some (.long x), none, some (.int (nI m)), none], [], (zw_C g2 gl a2 al))) (f := (109, [some (.ref 0), some (.long h), none, some (.long x), none, some (.int (nI m)), none], [], (zw_C g2 gl a2 al))) rfl (fun h3 => ?_) (fun h3 => ?_)
        · skip
          refine zr_go (t := (134, [some (.ref 0), some (.long h), none, some (.long x), none, some (.int (nI m)), none], [.long x], (zw_C g2 gl a2 al))) 1 rfl ?_
          exact zr_ret rfl trivial ⟨by rw [hx, hu, hH0, show m = zv_np P N by omega]; rfl, g2, a2, rfl, hK2, hr2⟩
        · skip
          refine zr_go (t := (123, [some (.ref 0), some (.long h), none, some (.long x), none, some (.int (nI m)), none], [.int (nI m), .ref 17, .long (31 * x)], (zw_C g2 gl a2 al))) 7 rfl ?_
          refine zr_cd (t := (124, [some (.ref 0), some (.long h), none, some (.long x), none, some (.int (nI m)), none], [.int ((a2 17) (nI m).toNatClampNeg), .long (31 * x)], (zw_C g2 gl a2 al))) rfl (pk_in m 156 (by omega) rfl (by omega)) ?_
          rw [pk_cl (x := (nI m)) m rfl (by omega)]
          rw [show (a2 17) m = nI (zv_val P N c (zv_y P N m)) from hv.2.2.1 m h3]
          refine zr_go (t := (97, [some (.ref 0), some (.long h), none, some (.long ((31 * x) + ((nI (zv_val P N c (zv_y P N m))).toInt64))), none, some (.int ((nI m) + 1)), none], [], (zw_C g2 gl a2 al))) 5 rfl ?_
          rw [show (nI m) + 1 = nI (m + 1) from (zn_add rfl rfl)]
          exact ih3 (m + 1, 31 * x + (nI (zv_val P N c (zv_y P N m))).toInt64) ⟨by omega, by rw [hx]; rfl⟩ (by omega)
      · skip
        refine zr_go (t := (51, [some (.ref 0), some (.long h), none, some (.long u), none, some (.int (nI i)), some (.int (nI i))], [], (zw_C g2 gl a2 al))) 2 rfl ?_
        refine zr_loop (fun zq : Nat × Int64 => (51, [some (.ref 0), some (.long h), none, some (.long zq.2), none, some (.int (nI i)), some (.int (nI zq.1))], [], (zw_C g2 gl a2 al))) (fun zq => i ≤ zq.1 ∧ zq.1 ≤ N ∧ zq.2 = zh_f (zh_tab H0 c N i) (fun t => (nI (c (6 * i + (i + t)))).toInt64) (zq.1 - i)) (fun zq => N - zq.1) ?_ (i, u) ⟨Nat.le_refl _, by omega, by rw [Nat.sub_self]; exact hu⟩
        rintro ⟨j, x⟩ ⟨hj1, hj2, hx⟩ ih3
        try dsimp only at *
        refine zr_go (t := (60, [some (.ref 0), some (.long h), none, some (.long x), none, some (.int (nI i)), some (.int (nI j))], [.int (g2 12), .int (nI j)], (zw_C g2 gl a2 al))) 4 rfl ?_
        refine zr_ige (x := nI j) (y := g2 12) j N rfl h12 (by omega) (by omega) (t := (88, [some (.ref 0), some (.long h), none, some (.long x), none, some (.int (nI i)), some (.int (nI j))], [], (zw_C g2 gl a2 al))) (f := (63, [some (.ref 0), some (.long h), none, some (.long x), none, some (.int (nI i)), some (.int (nI j))], [], (zw_C g2 gl a2 al))) rfl (fun h3 => ?_) (fun h3 => ?_)
        · skip
          refine zr_go (t := (35, [some (.ref 0), some (.long h), none, some (.long x), none, some (.int ((nI i) + 1)), some (.int (nI j))], [], (zw_C g2 gl a2 al))) 2 rfl ?_
          rw [show (nI i) + 1 = nI (i + 1) from (zn_add rfl rfl)]
          refine zr_forget [some (.ref 0), some (.long h), none, some (.long x), none, some (.int (nI (i + 1))), none] ⟨Or.inr rfl, Or.inr rfl, Or.inr rfl, Or.inr rfl, Or.inr rfl, Or.inr rfl, Or.inl rfl, trivial⟩ ?_
          exact ih2 (i + 1, x) ⟨by omega, by rw [hx, show j = N by omega]; rfl⟩ (by omega)
        · skip
          refine zr_go (t := (76, [some (.ref 0), some (.long h), none, some (.long x), none, some (.int (nI i)), some (.int (nI j))], [.int (nI j), .int (nI i), .ref 2, .long (31 * x)], (zw_C g2 gl a2 al))) 7 rfl ?_
          refine zr_call (t := (79, [some (.ref 0), some (.long h), none, some (.long x), none, some (.int (nI i)), some (.int (nI j))], [.long (31 * x)], (zw_C g2 gl a2 al))) rfl (Nat.le_of_ble_eq_true rfl : 1 ≤ 6) (zs_C_cell_2 g2 gl a2 al c hm i j (by omega) (by omega)) ?_
          rintro _ _ ⟨rfl, rfl⟩
          show zm_Run zt_get 6 zt_X_digestForm (79, [some (.ref 0), some (.long h), none, some (.long x), none, some (.int (nI i)), some (.int (nI j))], [.int (nI (c (zq_pl i j))), .long (31 * x)], (zw_C g2 gl a2 al)) _
          rw [zq_pl_le hj1]
          refine zr_go (t := (51, [some (.ref 0), some (.long h), none, some (.long ((31 * x) + ((nI (c (6 * i + j))).toInt64))), none, some (.int (nI i)), some (.int ((nI j) + 1))], [], (zw_C g2 gl a2 al))) 5 rfl ?_
          rw [show (nI j) + 1 = nI (j + 1) from (zn_add rfl rfl)]
          exact ih3 (j + 1, 31 * x + (nI (c (6 * i + j))).toInt64) ⟨by omega, by omega, by rw [hx, show j + 1 - i = (j - i) + 1 by omega]; show _ = 31 * zh_f (zh_tab H0 c N i) (fun t => (nI (c (6 * i + (i + t)))).toInt64) (j - i) + (nI (c (6 * i + (i + (j - i))))).toInt64; rw [show i + (j - i) = j by omega]⟩ (by omega)
  · skip
    refine zr_go (t := (20, [some (.ref 0), some (.long h), none, some (.long y), none, some (.int (nI k)), none], [.int (nI k), .ref 0, .long (31 * y)], (zw_C g2 gl a2 al))) 5 rfl ?_
    refine zr_call (t := (23, [some (.ref 0), some (.long h), none, some (.long y), none, some (.int (nI k)), none], [.long (31 * y)], (zw_C g2 gl a2 al))) rfl (Nat.le_of_ble_eq_true rfl : 6 ≤ 6) (zs_C_about2 g2 gl a2 al P N c true bt n0 e0 n1 e1 n cd K M e fr fi wa hK2 hr2 k (by omega) hPp) ?_
    rintro _ _ ⟨rfl, g3, a3, rfl, hK3, hr3⟩
    show zm_Run zt_get 6 zt_X_digestForm (23, [some (.ref 0), some (.long h), none, some (.long y), none, some (.int (nI k)), none], [.int (ac_ab P N c k), .long (31 * y)], (zw_C g3 gl a3 al)) _
    refine zr_go (t := (5, [some (.ref 0), some (.long h), none, some (.long ((31 * y) + ((ac_ab P N c k).toInt64))), none, some (.int ((nI k) + 1)), none], [], (zw_C g3 gl a3 al))) 5 rfl ?_
    rw [show (nI k) + 1 = nI (k + 1) from (zn_add rfl rfl)]
    exact ih (k + 1, 31 * y + (ac_ab P N c k).toInt64, g3, a3) ⟨by omega, by rw [hy]; rfl, hK3, hr3⟩ (by omega)
theorem zs_C_digestFlats (g : Nat → Int32) (gl : Nat → Int64) (a : Nat → Nat → Int32) (al : Nat → Nat → Int64) (P N : Nat) (c : Nat → Nat) (sv : Bool) (n0 : Nat) (e0 : Nat → Nat) (n1 : Nat) (e1 : Nat → Nat) (n : Nat) (cd : Nat → Nat) (K M : Nat) (e : Nat → Nat) (fr fi wa : Nat) (hK : zK_1 g a al P N c sv true n0 e0 n1 e1) (hr : zK_r g a n cd K M e fr fi wa) (hJ : zJ) (hJ2 : zJ2) (h : Int64) : zm_Ev zt_get 4 89 [.ref 0, .long h] (zw_C g gl a al) (fun v w => v = some (.long (zj_hl P N c n0 e0 n1 e1 h)) ∧ w = zw_C g gl a al) := by
  obtain ⟨hm, hc4, h4, h5, h24, h26, h12, hcase⟩ := id hK
  rcases hcase with ⟨_, _, _, q, _⟩ | ⟨⟨hok, h11, hcP, hQ⟩, hsv, hbt, hnb⟩
  · cases q
  obtain ⟨hsv1, hns, ht, hs, hl⟩ := hbt rfl
  have hv := hsv hsv1
  obtain ⟨h23, h25, hc24, hc25, hc27, hc28⟩ := hs
  obtain ⟨hn45, hnl105, hnp30, hgm45⟩ := hJ P N c hok hns
  have hmbs := hv.2.2.2.2.2
  have hbits : ∀ k, k < zj_gm P N c → ∀ j, lb (zj_m P N c k) j = true → j < zw_on P N c := fun k hk => hJ2 P N c hok hns (zj_d P N c) k (zj_d13 hok).1 (zj_d13 hok).2 hk
  refine zr_ev zt_X_digestFlats rfl rfl ?_
  show zm_Run zt_get 3 zt_X_digestFlats (0, [some (.ref 0), some (.long h), none, none, none, none, none, none, none], [], (zw_C g gl a al)) _
  refine zr_go (t := (5, [some (.ref 0), some (.long h), none, some (.long h), none, some (.int 1), none, none, none], [], (zw_C g gl a al))) 4 rfl ?_
  refine zr_loop (fun zq : Nat × Int64 => (5, [some (.ref 0), some (.long h), none, some (.long zq.2), none, some (.int (nI zq.1)), none, none, none], [], (zw_C g gl a al))) (fun zq => 1 ≤ zq.1 ∧ zq.1 ≤ 4 ∧ zq.2 = zh_f h (fun i9 => (nI (zj_tot P N c (i9 + 1))).toInt64) (zq.1 - 1)) (fun zq => 4 - zq.1) ?_ (1, h) ⟨by omega, by omega, rfl⟩
  rintro ⟨d, y⟩ ⟨hd1, hd4, hy⟩ ih
  try dsimp only at *
  refine zr_go (t := (8, [some (.ref 0), some (.long h), none, some (.long y), none, some (.int (nI d)), none, none, none], [.int 3, .int (nI d)], (zw_C g gl a al))) 2 rfl ?_
  refine zr_igt (x := nI d) (y := 3) d 3 rfl rfl (by omega) (by omega) (t := (34, [some (.ref 0), some (.long h), none, some (.long y), none, some (.int (nI d)), none, none, none], [], (zw_C g gl a al))) (f := (11, [some (.ref 0), some (.long h), none, some (.long y), none, some (.int (nI d)), none, none, none], [], (zw_C g gl a al))) rfl (fun h1 => ?_) (fun h1 => ?_)
  · skip
    have ed : d = 4 := by omega
    subst ed
    obtain ⟨H0, hH0⟩ : ∃ q, q = zh_f h (fun i9 => (nI (zj_tot P N c (i9 + 1))).toInt64) 3 := ⟨_, rfl⟩
    have hy2 : y = H0 := hy.trans hH0.symm
    rw [hy2]
    refine zr_go (t := (37, [some (.ref 0), some (.long h), none, some (.long H0), none, some (.int 0), none, none, none], [], (zw_C g gl a al))) 2 rfl ?_
    refine zr_loop (fun zq : Nat × Int64 => (37, [some (.ref 0), some (.long h), none, some (.long zq.2), none, some (.int (nI zq.1)), none, none, none], [], (zw_C g gl a al))) (fun zq => zq.1 ≤ zj_gm P N c ∧ zq.2 = zj_hg P N c H0 zq.1) (fun zq => zj_gm P N c - zq.1) ?_ (0, H0) ⟨by omega, rfl⟩
    rintro ⟨k, u⟩ ⟨hk, hu⟩ ih2
    try dsimp only at *
    refine zr_go (t := (46, [some (.ref 0), some (.long h), none, some (.long u), none, some (.int (nI k)), none, none, none], [.int (g 25), .int (nI k)], (zw_C g gl a al))) 4 rfl ?_
    refine zr_ige (x := nI k) (y := g 25) k (zj_gm P N c) rfl h25 (by omega) (by omega) (t := (115, [some (.ref 0), some (.long h), none, some (.long u), none, some (.int (nI k)), none, none, none], [], (zw_C g gl a al))) (f := (49, [some (.ref 0), some (.long h), none, some (.long u), none, some (.int (nI k)), none, none, none], [], (zw_C g gl a al))) rfl (fun h2 => ?_) (fun h2 => ?_)
    · skip
      refine zr_go (t := (122, [some (.ref 0), some (.long h), none, some (.long u), none, some (.int (nI k)), none, none, none], [.int 0, .ref 0, .long (31 * u)], (zw_C g gl a al))) 5 rfl ?_
      refine zr_call (t := (125, [some (.ref 0), some (.long h), none, some (.long u), none, some (.int (nI k)), none, none, none], [.long (31 * u)], (zw_C g gl a al))) rfl (Nat.le_of_ble_eq_true rfl : 2 ≤ 3) (zs_C_missing_0 g gl a al P N c sv n0 e0 n1 e1 hK hJ) ?_
      rintro _ _ ⟨rfl, rfl⟩
      show zm_Run zt_get 3 zt_X_digestFlats (125, [some (.ref 0), some (.long h), none, some (.long u), none, some (.int (nI k)), none, none, none], [.int (nI (zj_gm P N c) - nI (zC (lb (zg_or (fun k => zj_p P N c (e0 k)) n0)) 64)), .long (31 * u)], (zw_C g gl a al)) _
      refine zr_go (t := (135, [some (.ref 0), some (.long h), none, some (.long ((31 * u) + ((nI (zj_gm P N c) - nI (zC (lb (zg_or (fun k => zj_p P N c (e0 k)) n0)) 64)).toInt64))), none, some (.int (nI k)), none, none, none], [.int 1, .ref 0, .long (31 * ((31 * u) + ((nI (zj_gm P N c) - nI (zC (lb (zg_or (fun k => zj_p P N c (e0 k)) n0)) 64)).toInt64)))], (zw_C g gl a al))) 8 rfl ?_
      refine zr_call (t := (138, [some (.ref 0), some (.long h), none, some (.long ((31 * u) + ((nI (zj_gm P N c) - nI (zC (lb (zg_or (fun k => zj_p P N c (e0 k)) n0)) 64)).toInt64))), none, some (.int (nI k)), none, none, none], [.long (31 * ((31 * u) + ((nI (zj_gm P N c) - nI (zC (lb (zg_or (fun k => zj_p P N c (e0 k)) n0)) 64)).toInt64)))], (zw_C g gl a al))) rfl (Nat.le_of_ble_eq_true rfl : 2 ≤ 3) (zs_C_missing_1 g gl a al P N c sv n0 e0 n1 e1 hK hJ) ?_
      rintro _ _ ⟨rfl, rfl⟩
      show zm_Run zt_get 3 zt_X_digestFlats (138, [some (.ref 0), some (.long h), none, some (.long ((31 * u) + ((nI (zj_gm P N c) - nI (zC (lb (zg_or (fun k => zj_p P N c (e0 k)) n0)) 64)).toInt64))), none, some (.int (nI k)), none, none, none], [.int (nI (zw_on P N c) - nI (zC (lb (zg_or (fun k => zj_m P N c (e1 k)) n1)) 64)), .long (31 * ((31 * u) + ((nI (zj_gm P N c) - nI (zC (lb (zg_or (fun k => zj_p P N c (e0 k)) n0)) 64)).toInt64)))], (zw_C g gl a al)) _
      refine zr_go (t := (140, [some (.ref 0), some (.long h), none, some (.long ((31 * u) + ((nI (zj_gm P N c) - nI (zC (lb (zg_or (fun k => zj_p P N c (e0 k)) n0)) 64)).toInt64))), none, some (.int (nI k)), none, none, none], [.long ((31 * ((31 * u) + ((nI (zj_gm P N c) - nI (zC (lb (zg_or (fun k => zj_p P N c (e0 k)) n0)) 64)).toInt64))) + ((nI (zw_on P N c) - nI (zC (lb (zg_or (fun k => zj_m P N c (e1 k)) n1)) 64)).toInt64))], (zw_C g gl a al))) 2 rfl ?_
      exact zr_ret rfl trivial ⟨by rw [hu, show k = zj_gm P N c by omega, hH0]; rfl, rfl⟩
    · skip
      refine zr_go (t := (58, [some (.ref 0), some (.long h), none, some (.long u), none, some (.int (nI k)), none, none, none], [.int (nI k), .ref 27], (zw_C g gl a al))) 4 rfl ?_
      refine zr_cd (t := (59, [some (.ref 0), some (.long h), none, some (.long u), none, some (.int (nI k)), none, none, none], [.long ((al 27) (nI k).toNatClampNeg)], (zw_C g gl a al))) rfl (pk_in k 64 (by omega) rfl (by omega)) ?_
      rw [pk_cl (x := (nI k)) k rfl (by omega)]
      rw [hc27 k h2]
      have hbk := hbits k h2
      obtain ⟨X, hX⟩ : ∃ q, q = zj_m P N c k := ⟨_, rfl⟩
      rw [← hX] at hbk ⊢
      refine zr_go (t := (63, [some (.ref 0), some (.long h), none, some (.long u), none, some (.int (nI k)), some (.long X), none, none], [.long X], (zw_C g gl a al))) 2 rfl ?_
      refine zr_call (t := (66, [some (.ref 0), some (.long h), none, some (.long u), none, some (.int (nI k)), some (.long X), none, none], [], (zw_C g gl a al))) rfl (Nat.le_of_ble_eq_true rfl : 1 ≤ 3) (zs_C_bitCount g gl a al X) ?_
      rintro _ _ ⟨rfl, rfl⟩
      show zm_Run zt_get 3 zt_X_digestFlats (66, [some (.ref 0), some (.long h), none, some (.long u), none, some (.int (nI k)), some (.long X), none, none], [.int (nI (zC (lb X) 64))], (zw_C g gl a al)) _
      have hc64 := zC_le (lb X) 64
      refine zr_go (t := (68, [some (.ref 0), some (.long h), none, some (.long u), none, some (.int (nI k)), some (.long X), none, some (.int (nI (zC (lb X) 64)))], [], (zw_C g gl a al))) 1 rfl ?_
      refine zr_loop (fun zq : Nat × Int64 × Int64 × Nat => (68, [some (.ref 0), some (.long h), none, some (.long zq.2.2.1), none, some (.int (nI k)), some (.long zq.2.1), none, some (.int (nI zq.1))], [], (zw_C g gl a al))) (fun zq => zq.2.2.2 ≤ 64 ∧ zq.1 + zC (lb X) zq.2.2.2 = zC (lb X) 64 ∧ zq.2.1 = zg_rest X zq.2.2.2 ∧ zq.2.2.1 = zg_fold (fun j y => 31 * y + (nI (zj_x P N c j)).toInt64) X zq.2.2.2 u) (fun zq => zq.1) ?_ (zC (lb X) 64, X, u, 0) ⟨by (try dsimp only); omega, Nat.add_zero _, (zg_rest_0 X).symm, rfl⟩
      rintro ⟨t, m, x, p⟩ ⟨hp, htp, hm2, hx⟩ ih3
      try dsimp only at *
      refine zr_go (t := (70, [some (.ref 0), some (.long h), none, some (.long x), none, some (.int (nI k)), some (.long m), none, some (.int (nI t))], [.int (nI t)], (zw_C g gl a al))) 1 rfl ?_
      refine zr_ile (x := nI t) (y := 0) t 0 rfl rfl (by omega) (by omega) (t := (109, [some (.ref 0), some (.long h), none, some (.long x), none, some (.int (nI k)), some (.long m), none, some (.int (nI t))], [], (zw_C g gl a al))) (f := (73, [some (.ref 0), some (.long h), none, some (.long x), none, some (.int (nI k)), some (.long m), none, some (.int (nI t))], [], (zw_C g gl a al))) rfl (fun h3 => ?_) (fun h3 => ?_)
      · skip
        have e64 : zg_fold (fun j y => 31 * y + (nI (zj_x P N c j)).toInt64) X 64 u = x := by
          have e := zg_skip (h := (fun j y => 31 * y + (nI (zj_x P N c j)).toInt64)) (x := X) (p := p) (s := u) (64 - p) (fun k k1 k2 => zg_no (by omega) k k1 (by omega))
          rw [show p + (64 - p) = 64 by omega] at e
          rw [e, hx]
        refine zr_go (t := (37, [some (.ref 0), some (.long h), none, some (.long x), none, some (.int ((nI k) + 1)), some (.long m), none, some (.int (nI t))], [], (zw_C g gl a al))) 2 rfl ?_
        rw [show (nI k) + 1 = nI (k + 1) from (zn_add rfl rfl)]
        refine zr_forget [some (.ref 0), some (.long h), none, some (.long x), none, some (.int (nI (k + 1))), none, none, none] ⟨Or.inr rfl, Or.inr rfl, Or.inr rfl, Or.inr rfl, Or.inr rfl, Or.inr rfl, Or.inl rfl, Or.inr rfl, Or.inl rfl, trivial⟩ ?_
        exact ih2 (k + 1, x) ⟨by omega, by rw [← e64, hX, hu]; rfl⟩ (by omega)
      · skip
        subst hm2
        obtain ⟨i, hi, hpi, hi64, hbi, hgap, hrest, hcnt⟩ := zg_nx (x := X) (p := p) (by omega)
        have hin := hbk i hbi
        have ei : zg_fold (fun j y => 31 * y + (nI (zj_x P N c j)).toInt64) X (i + 1) u = 31 * x + (nI (zj_x P N c i)).toInt64 := by
          show (if lb X i = true then _ else _) = _
          have e := zg_skip (h := (fun j y => 31 * y + (nI (zj_x P N c j)).toInt64)) (x := X) (p := p) (s := u) (i - p) (fun k k1 k2 => hgap k k1 (by omega))
          rw [show p + (i - p) = i by omega] at e
          rw [if_pos hbi, e, hx]
        refine zr_go (t := (87, [some (.ref 0), some (.long h), none, some (.long x), none, some (.int (nI k)), some (.long (zg_rest X p)), none, some (.int (nI t))], [.long (zg_rest X p), .ref 18, .long (31 * x)], (zw_C g gl a al))) 7 rfl ?_
        refine zr_call (t := (90, [some (.ref 0), some (.long h), none, some (.long x), none, some (.int (nI k)), some (.long (zg_rest X p)), none, some (.int (nI t))], [.ref 18, .long (31 * x)], (zw_C g gl a al))) rfl (Nat.le_of_ble_eq_true rfl : 2 ≤ 3) (zs_C_lowestBit g gl a al (zg_rest X p)) ?_
        rintro _ _ ⟨rfl, rfl⟩
        show zm_Run zt_get 3 zt_X_digestFlats (90, [some (.ref 0), some (.long h), none, some (.long x), none, some (.int (nI k)), some (.long (zg_rest X p)), none, some (.int (nI t))], [.int (nI (lb_low (zg_rest X p))), .ref 18, .long (31 * x)], (zw_C g gl a al)) _
        rw [← hi]
        refine zr_cd (t := (91, [some (.ref 0), some (.long h), none, some (.long x), none, some (.int (nI k)), some (.long (zg_rest X p)), none, some (.int (nI t))], [.int ((a 18) (nI i).toNatClampNeg), .long (31 * x)], (zw_C g gl a al))) rfl (pk_in i 156 (by omega) rfl (by omega)) ?_
        rw [pk_cl (x := (nI i)) i rfl (by omega)]
        rw [show (a 18) i = nI (zj_x P N c i) from hmbs i hin]
        refine zr_go (t := (103, [some (.ref 0), some (.long h), none, some (.long ((31 * x) + ((nI (zj_x P N c i)).toInt64))), none, some (.int (nI k)), some (.long ((zg_rest X p) &&& ((zg_rest X p) - 1))), none, some (.int (nI t))], [], (zw_C g gl a al))) 9 rfl ?_
        rw [hrest]
        refine zr_go (t := (68, [some (.ref 0), some (.long h), none, some (.long ((31 * x) + ((nI (zj_x P N c i)).toInt64))), none, some (.int (nI k)), some (.long (zg_rest X (i + 1))), none, some (.int ((nI t) + (-1)))], [], (zw_C g gl a al))) 2 rfl ?_
        rw [show (nI t) + (-1) = nI (t - 1) from (zn_dec rfl (by omega))]
        exact ih3 (t - 1, zg_rest X (i + 1), 31 * x + (nI (zj_x P N c i)).toInt64, i + 1) ⟨by (try dsimp only); omega, by (try dsimp only); omega, rfl, ei.symm⟩ (by omega)
  · skip
    refine zr_go (t := (22, [some (.ref 0), some (.long h), none, some (.long y), none, some (.int (nI d)), none, none, none], [.int (nI d), .ref 5, .long (31 * y)], (zw_C g gl a al))) 6 rfl ?_
    refine zr_call (t := (25, [some (.ref 0), some (.long h), none, some (.long y), none, some (.int (nI d)), none, none, none], [.long (31 * y)], (zw_C g gl a al))) rfl (Nat.le_of_ble_eq_true rfl : 1 ≤ 3) (zs_C_totalOf g gl a al d hd1 (by omega)) ?_
    rintro _ _ ⟨rfl, rfl⟩
    show zm_Run zt_get 3 zt_X_digestFlats (25, [some (.ref 0), some (.long h), none, some (.long y), none, some (.int (nI d)), none, none, none], [.int (if d = 1 then g 20 else if d = 2 then g 21 else g 22), .long (31 * y)], (zw_C g gl a al)) _
    rw [zK_tt ht d]
    refine zr_go (t := (5, [some (.ref 0), some (.long h), none, some (.long ((31 * y) + ((nI (zj_tot P N c d)).toInt64))), none, some (.int ((nI d) + 1)), none, none, none], [], (zw_C g gl a al))) 5 rfl ?_
    rw [show (nI d) + 1 = nI (d + 1) from (zn_add rfl rfl)]
    exact ih (d + 1, 31 * y + (nI (zj_tot P N c d)).toInt64) ⟨by omega, by omega, by rw [hy, show d + 1 - 1 = (d - 1) + 1 by omega]; show _ = 31 * zh_f h (fun i9 => (nI (zj_tot P N c (i9 + 1))).toInt64) (d - 1) + (nI (zj_tot P N c (d - 1 + 1))).toInt64; rw [show d - 1 + 1 = d by omega]⟩ (by omega)
