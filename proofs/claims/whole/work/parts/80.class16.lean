/-! the class: the lists (written by wip/whole/gen_c16.py) -/
def zj_tk (e : Nat → Nat) (n : Nat) : Int64 := zg_or (fun k => zf_b (e k)) n
def zj_r0 (P N : Nat) (c : Nat → Nat) (n0 : Nat) (e0 : Nat → Nat) (x : Int32) : Bool := decide (zj_kp P N c (zj_rk P N c x) &&& zj_tk e0 n0 = 0)
def zj_r1 (P N : Nat) (c : Nat → Nat) (n1 : Nat) (e1 : Nat → Nat) (x : Int32) : Bool := decide (zj_km P N c (zx_k x) &&& zj_tk e1 n1 = 0)
/-- what pick answers, when it succeeds -/
def ac_pick (P N : Nat) (c : Nat → Nat) (n0 : Nat) (e0 : Nat → Nat) (x : Int32) : Int32 := if zj_ok P N c = true then (if zj_mb P N c x = true then (if zj_r0 P N c n0 e0 x = true then nI (n0 + 1) else -103) else -101) else -103
def zj_g0 (P N : Nat) (c : Nat → Nat) (n0 : Nat) (e0 : Nat → Nat) (x : Int32) : Prop := zj_ok P N c = true ∧ zj_mb P N c x = true ∧ zj_r0 P N c n0 e0 x = true
def ac_gather (P N : Nat) (c : Nat → Nat) (n1 : Nat) (e1 : Nat → Nat) (x : Int32) : Int32 := if zj_ok P N c = true then (if zx_in x (zj_gm P N c) = true then (if zj_r1 P N c n1 e1 x = true then nI (n1 + 1) else -103) else -101) else -103
def zj_g1 (P N : Nat) (c : Nat → Nat) (n1 : Nat) (e1 : Nat → Nat) (x : Int32) : Prop := zj_ok P N c = true ∧ zx_in x (zj_gm P N c) = true ∧ zj_r1 P N c n1 e1 x = true
theorem zu_s {e : Nat → Nat} {n v : Nat} : zu_c e n v n = v := if_pos rfl
theorem zu_n {e : Nat → Nat} {n v k : Nat} (h : k ≠ n) : zu_c e n v k = e k := if_neg h
theorem zK_l_0 {a : Nat → Nat → Int32} {P N : Nat} {c : Nat → Nat} {n0 : Nat} {e0 : Nat → Nat} {n1 : Nat} {e1 : Nat → Nat} (h : zK_l a P N c n0 e0 n1 e1) (hn : n0 < 63) {r : Nat} (hr : r < zw_on P N c) : zK_l (va_up a 26 (upd (a 26) n0 (nI r))) P N c (n0 + 1) (zu_c e0 n0 r) n1 e1 := by
  obtain ⟨h1, h2, h3, h4⟩ := h
  refine ⟨by omega, h2, lt_s (fun k hk => ?_) ?_, h4⟩
  · rw [zu_n (by omega)]
    exact ⟨(pk_un (by omega)).trans (h3 k hk).1, (h3 k hk).2⟩
  · rw [zu_s]
    exact ⟨pk_us, hr⟩
theorem zK_l_1 {a : Nat → Nat → Int32} {P N : Nat} {c : Nat → Nat} {n0 : Nat} {e0 : Nat → Nat} {n1 : Nat} {e1 : Nat → Nat} (h : zK_l a P N c n0 e0 n1 e1) (hn : n1 < 63) {r : Nat} (hr : r < zj_gm P N c) : zK_l (va_up a 29 (upd (a 29) n1 (nI r))) P N c n0 e0 (n1 + 1) (zu_c e1 n1 r) := by
  obtain ⟨h1, h2, h3, h4⟩ := h
  refine ⟨h1, by omega, h3, lt_s (fun k hk => ?_) ?_⟩
  · rw [zu_n (by omega)]
    exact ⟨(pk_un (by omega)).trans (h4 k hk).1, (h4 k hk).2⟩
  · rw [zu_s]
    exact ⟨pk_us, hr⟩
theorem zp_C_pick (w0 : List zm_E) (P N : Nat) (c : Nat → Nat) (n0 : Nat) (e0 : Nat → Nat) (n1 : Nat) (e1 : Nat → Nat) (n : Nat) (cd : Nat → Nat) (K M : Nat) (e : Nat → Nat) (fr fi wa : Nat) (hw : zKW w0 P N c n0 e0 n1 e1 n cd K M e fr fi wa) (hJ : zJ) (hroom : zj_ok P N c = true → n0 < 63) (x : Int32) : zm_Ev zt_get 7 70 [.ref 0, .int x] w0 (fun v w => v = some (.int (ac_pick P N c n0 e0 x)) ∧ ((zj_g0 P N c n0 e0 x ∧ zKW w P N c (n0 + 1) (zu_c e0 n0 (zj_rk P N c x)) n1 e1 n cd K M e fr fi wa) ∨ (¬ zj_g0 P N c n0 e0 x ∧ zKW w P N c n0 e0 n1 e1 n cd K M e fr fi wa))) := by
  obtain ⟨g, gl, a, al, sv, bt, rfl, hK, hr⟩ := hw
  unfold ac_pick zj_g0
  refine zr_ev zt_X_pick rfl rfl ?_
  show zm_Run zt_get 6 zt_X_pick (0, [some (.ref 0), some (.int x), none], [], (zw_C g gl a al)) _
  refine zr_go (t := (1, [some (.ref 0), some (.int x), none], [.ref 0], (zw_C g gl a al))) 1 rfl ?_
  refine zr_call (t := (4, [some (.ref 0), some (.int x), none], [], (zw_C g gl a al))) rfl (Nat.le_of_ble_eq_true rfl : 5 ≤ 6) (zs_C_hasFlats g gl a al hJ P N c sv bt n0 e0 n1 e1 hK) ?_
  rintro _ _ ⟨rfl, g1, a1, al1, rfl, hK1, he1⟩
  have hjb := zb_le (zj_ok P N c)
  have hr1 := zK_r_e he1 hr
  show zm_Run zt_get 6 zt_X_pick (4, [some (.ref 0), some (.int x), none], [.int (nI ((zj_ok P N c).toNat))], (zw_C g1 gl a1 al1)) _
  refine zr_ine (x := nI ((zj_ok P N c).toNat)) (y := 0) ((zj_ok P N c).toNat) 0 rfl rfl (by omega) (by omega) (t := (10, [some (.ref 0), some (.int x), none], [], (zw_C g1 gl a1 al1))) (f := (7, [some (.ref 0), some (.int x), none], [], (zw_C g1 gl a1 al1))) rfl (fun h1 => ?_) (fun h1 => ?_)
  · skip
    have hj := zb_1n _ h1
    rw [if_pos hj]
    have hn63 := hroom hj
    have hPp := (zj_okP hj).1
    have hK1b := hK1
    rw [hj] at hK1b
    refine zr_go (t := (12, [some (.ref 0), some (.int x), none], [.int x, .ref 0], (zw_C g1 gl a1 al1))) 2 rfl ?_
    refine zr_call (t := (15, [some (.ref 0), some (.int x), none], [], (zw_C g1 gl a1 al1))) rfl (Nat.le_of_ble_eq_true rfl : 6 ≤ 6) (zs_C_isMember g1 gl a1 al1 P N c (decide (0 < P)) n0 e0 n1 e1 hK1b x) ?_
    rintro _ _ ⟨rfl, g2, a2, rfl, hK2, he2⟩
    have hmb := zb_le (zx_in x (zv_np P N) && zw_oo P N c (zx_k x))
    have hr2 := zK_r_e he2 hr1
    show zm_Run zt_get 6 zt_X_pick (15, [some (.ref 0), some (.int x), none], [.int (nI ((zx_in x (zv_np P N) && zw_oo P N c (zx_k x)).toNat))], (zw_C g2 gl a2 al1)) _
    refine zr_ine (x := nI ((zx_in x (zv_np P N) && zw_oo P N c (zx_k x)).toNat)) (y := 0) ((zx_in x (zv_np P N) && zw_oo P N c (zx_k x)).toNat) 0 rfl rfl (by omega) (by omega) (t := (21, [some (.ref 0), some (.int x), none], [], (zw_C g2 gl a2 al1))) (f := (18, [some (.ref 0), some (.int x), none], [], (zw_C g2 gl a2 al1))) rfl (fun h2 => ?_) (fun h2 => ?_)
    · skip
      have hx : zj_mb P N c x = true := zb_1n _ h2
      rw [if_pos hx]
      have hjj := hj
      have hj : true = true := rfl
      obtain ⟨hm, hc4, h4, h5, h24, h26, h12, hcase⟩ := id hK2
      rcases hcase with ⟨q1, q2, q, q3, _⟩ | ⟨⟨hok, h11, hcP, hQ⟩, hsv, hbt, hnb⟩
      · skip
        exfalso; omega
      · skip
        have hN6 := zv_okN hok
        have hN3 := hok.2.1
        obtain ⟨hP0, hP5⟩ := zv_P5 hok.1
        obtain ⟨-, hnp1, hnp0⟩ := zv_nums hok
        have hon1 := (zj_nums (c := c) hok).1
        have hns1 := (zj_nums (c := c) hok).2
        have hd : decide (0 < P) = true := decide_eq_true hP0
        have hv := hsv hd
        have h17 := hQ.2.2.2.1
        have h18 := hv.1
        have h19 : g2 19 = nI (zj_ns P N c) := hv.2.1
        obtain ⟨-, hns, ht, hs, hl0, hl1, hl2, hl3⟩ := hbt hj
        obtain ⟨h20, h21, h22, h21c, h22c, h23c⟩ := ht
        obtain ⟨h23, h25, hc24, hc25, hc27, hc28⟩ := hs
        obtain ⟨hn45, hnl105, hnp30, hgm45⟩ := hJ P N c hok hns
        obtain ⟨hx1, hx2, hx3, hx4⟩ := zj_mbP hx
        have hrk : a2 19 (zx_k x) = nI (zj_rk P N c x) := by have h9 := hv.2.2.2.2.1 (zx_k x) hx1; rw [hx3] at h9; exact h9
        refine zr_go (t := (29, [some (.ref 0), some (.int x), none], [.int x, .ref 19], (zw_C g2 gl a2 al1))) 4 rfl ?_
        refine zr_cd (t := (30, [some (.ref 0), some (.int x), none], [.int ((a2 19) x.toNatClampNeg)], (zw_C g2 gl a2 al1))) rfl (pk_in (zx_k x) 156 (by omega) hx2 (by omega)) ?_
        rw [pk_cl (x := x) (zx_k x) hx2 (by omega)]
        rw [show (a2 19) (zx_k x) = nI (zj_rk P N c x) from hrk]
        refine zr_go (t := (36, [some (.ref 0), some (.int x), some (.int (nI (zj_rk P N c x)))], [.int (nI (zj_rk P N c x)), .ref 6], (zw_C g2 gl a2 al1))) 4 rfl ?_
        refine zr_call (t := (39, [some (.ref 0), some (.int x), some (.int (nI (zj_rk P N c x)))], [], (zw_C g2 gl a2 al1))) rfl (Nat.le_of_ble_eq_true rfl : 2 ≤ 6) (zs_C_refuses_6 g2 gl a2 al1 n0 h24 (by omega) e0 (fun k hk => (hl2 k hk).1) (zw_on P N c) (by omega) (fun k hk => (hl2 k hk).2) (zj_kp P N c) hc25 (by omega) (zj_rk P N c x) hx4) ?_
        rintro _ _ ⟨rfl, rfl⟩
        show zm_Run zt_get 6 zt_X_pick (39, [some (.ref 0), some (.int x), some (.int (nI (zj_rk P N c x)))], [.int (nI ((!zj_r0 P N c n0 e0 x).toNat))], (zw_C g2 gl a2 al1)) _
        have hrb := zb_le (!zj_r0 P N c n0 e0 x)
        refine zr_ieq (x := nI ((!zj_r0 P N c n0 e0 x).toNat)) (y := 0) ((!zj_r0 P N c n0 e0 x).toNat) 0 rfl rfl (by omega) (by omega) (t := (45, [some (.ref 0), some (.int x), some (.int (nI (zj_rk P N c x)))], [], (zw_C g2 gl a2 al1))) (f := (42, [some (.ref 0), some (.int x), some (.int (nI (zj_rk P N c x)))], [], (zw_C g2 gl a2 al1))) rfl (fun h3 => ?_) (fun h3 => ?_)
        · skip
          have hrf : zj_r0 P N c n0 e0 x = true := by have h9 := zb_0n _ h3; cases hq : zj_r0 P N c n0 e0 x with | true => rfl | false => rw [hq] at h9; cases h9
          rw [if_pos hrf]
          refine zr_go (t := (50, [some (.ref 0), some (.int x), some (.int (nI (zj_rk P N c x)))], [.int (nI (zj_rk P N c x)), .ref 6], (zw_C g2 gl a2 al1))) 3 rfl ?_
          refine zr_call (t := (53, [some (.ref 0), some (.int x), some (.int (nI (zj_rk P N c x)))], [], (zw_C g2 gl a2 al1))) rfl (Nat.le_of_ble_eq_true rfl : 1 ≤ 6) (zs_C_append_6 g2 gl a2 al1 n0 h24 (by omega) (nI (zj_rk P N c x))) ?_
          rintro _ _ ⟨rfl, rfl⟩
          show zm_Run zt_get 6 zt_X_pick (53, [some (.ref 0), some (.int x), some (.int (nI (zj_rk P N c x)))], [], (zw_C (upd g2 24 (nI (n0 + 1))) gl (va_up a2 26 (upd (a2 26) n0 (nI (zj_rk P N c x)))) al1)) _
          refine zr_go (t := (60, [some (.ref 0), some (.int x), some (.int (nI (zj_rk P N c x)))], [.int (nI (n0 + 1))], (zw_C (upd g2 24 (nI (n0 + 1))) gl (va_up a2 26 (upd (a2 26) n0 (nI (zj_rk P N c x)))) al1))) 3 rfl ?_
          exact zr_ret rfl trivial ⟨rfl, Or.inl ⟨⟨hjj, hx, hrf⟩, _, gl, _, al1, true, true, rfl, ⟨hm, hc4, h4.trans (by rw [hd]), h5.trans (by first | rfl | rw [hjj]), rfl, h26, h12, Or.inr ⟨⟨hok, h11, hcP, hQ⟩, fun _ => hv, fun _ => ⟨rfl, hns, ⟨h20, h21, h22, h21c, h22c, h23c⟩, ⟨h23, h25, hc24, hc25, hc27, hc28⟩, zK_l_0 ⟨hl0, hl1, hl2, hl3⟩ hn63 hx4⟩, fun q => absurd q (by decide)⟩⟩, hr2⟩⟩
        · skip
          have hrf : zj_r0 P N c n0 e0 x = false := by have h9 := zb_1n _ h3; cases hq : zj_r0 P N c n0 e0 x with | false => rfl | true => rw [hq] at h9; cases h9
          rw [if_neg (by rw [hrf]; decide)]
          refine zr_go (t := (44, [some (.ref 0), some (.int x), some (.int (nI (zj_rk P N c x)))], [.int (-103)], (zw_C g2 gl a2 al1))) 1 rfl ?_
          exact zr_ret rfl trivial ⟨rfl, Or.inr ⟨fun q => by rw [hrf] at q; exact absurd q.2.2 (by decide), g2, gl, a2, al1, _, _, rfl, hK2, hr2⟩⟩
    · skip
      have hx : zj_mb P N c x = false := zb_0n _ h2
      rw [if_neg (by rw [hx]; decide)]
      refine zr_go (t := (20, [some (.ref 0), some (.int x), none], [.int (-101)], (zw_C g2 gl a2 al1))) 1 rfl ?_
      exact zr_ret rfl trivial ⟨rfl, Or.inr ⟨fun q => by rw [hx] at q; exact absurd q.2.1 (by decide), g2, gl, a2, al1, _, _, rfl, hK2, hr2⟩⟩
  · skip
    have hj := zb_0n _ h1
    rw [if_neg (by rw [hj]; decide)]
    refine zr_go (t := (9, [some (.ref 0), some (.int x), none], [.int (-103)], (zw_C g1 gl a1 al1))) 1 rfl ?_
    exact zr_ret rfl trivial ⟨rfl, Or.inr ⟨fun q => by rw [hj] at q; exact absurd q.1 (by decide), g1, gl, a1, al1, _, _, rfl, hK1, hr1⟩⟩
theorem zp_C_gather (w0 : List zm_E) (P N : Nat) (c : Nat → Nat) (n0 : Nat) (e0 : Nat → Nat) (n1 : Nat) (e1 : Nat → Nat) (n : Nat) (cd : Nat → Nat) (K M : Nat) (e : Nat → Nat) (fr fi wa : Nat) (hw : zKW w0 P N c n0 e0 n1 e1 n cd K M e fr fi wa) (hJ : zJ) (hroom : zj_ok P N c = true → n1 < 63) (x : Int32) : zm_Ev zt_get 7 71 [.ref 0, .int x] w0 (fun v w => v = some (.int (ac_gather P N c n1 e1 x)) ∧ ((zj_g1 P N c n1 e1 x ∧ zKW w P N c n0 e0 (n1 + 1) (zu_c e1 n1 (zx_k x)) n cd K M e fr fi wa) ∨ (¬ zj_g1 P N c n1 e1 x ∧ zKW w P N c n0 e0 n1 e1 n cd K M e fr fi wa))) := by
  obtain ⟨g, gl, a, al, sv, bt, rfl, hK, hr⟩ := hw
  unfold ac_gather zj_g1
  refine zr_ev zt_X_gather rfl rfl ?_
  show zm_Run zt_get 6 zt_X_gather (0, [some (.ref 0), some (.int x)], [], (zw_C g gl a al)) _
  refine zr_go (t := (1, [some (.ref 0), some (.int x)], [.ref 0], (zw_C g gl a al))) 1 rfl ?_
  refine zr_call (t := (4, [some (.ref 0), some (.int x)], [], (zw_C g gl a al))) rfl (Nat.le_of_ble_eq_true rfl : 5 ≤ 6) (zs_C_hasFlats g gl a al hJ P N c sv bt n0 e0 n1 e1 hK) ?_
  rintro _ _ ⟨rfl, g1, a1, al1, rfl, hK1, he1⟩
  have hjb := zb_le (zj_ok P N c)
  have hr1 := zK_r_e he1 hr
  show zm_Run zt_get 6 zt_X_gather (4, [some (.ref 0), some (.int x)], [.int (nI ((zj_ok P N c).toNat))], (zw_C g1 gl a1 al1)) _
  refine zr_ine (x := nI ((zj_ok P N c).toNat)) (y := 0) ((zj_ok P N c).toNat) 0 rfl rfl (by omega) (by omega) (t := (10, [some (.ref 0), some (.int x)], [], (zw_C g1 gl a1 al1))) (f := (7, [some (.ref 0), some (.int x)], [], (zw_C g1 gl a1 al1))) rfl (fun h1 => ?_) (fun h1 => ?_)
  · skip
    have hj := zb_1n _ h1
    rw [if_pos hj]
    have hn63 := hroom hj
    have hPp := (zj_okP hj).1
    have hK1b := hK1
    rw [hj] at hK1b
    refine zr_go (t := (12, [some (.ref 0), some (.int x)], [.int x, .ref 0], (zw_C g1 gl a1 al1))) 2 rfl ?_
    have hjj := hj
    obtain ⟨hm, hc4, h4, h5, h24, h26, h12, hcase⟩ := id hK1
    rcases hcase with ⟨q1, q2, q, q3, _⟩ | ⟨⟨hok, h11, hcP, hQ⟩, hsv, hbt, hnb⟩
    · skip
      exfalso; omega
    · skip
      have hN6 := zv_okN hok
      have hN3 := hok.2.1
      obtain ⟨hP0, hP5⟩ := zv_P5 hok.1
      obtain ⟨-, hnp1, hnp0⟩ := zv_nums hok
      have hon1 := (zj_nums (c := c) hok).1
      have hns1 := (zj_nums (c := c) hok).2
      have hd : decide (0 < P) = true := decide_eq_true hP0
      have hv := hsv hd
      have h17 := hQ.2.2.2.1
      have h18 := hv.1
      have h19 : g1 19 = nI (zj_ns P N c) := hv.2.1
      obtain ⟨-, hns, ht, hs, hl0, hl1, hl2, hl3⟩ := hbt hj
      obtain ⟨h20, h21, h22, h21c, h22c, h23c⟩ := ht
      obtain ⟨h23, h25, hc24, hc25, hc27, hc28⟩ := hs
      obtain ⟨hn45, hnl105, hnp30, hgm45⟩ := hJ P N c hok hns
      refine zr_call (t := (15, [some (.ref 0), some (.int x)], [], (zw_C g1 gl a1 al1))) rfl (Nat.le_of_ble_eq_true rfl : 1 ≤ 6) (zs_C_isGreatest g1 gl a1 al1 (zj_gm P N c) h25 (by omega) x) ?_
      rintro _ _ ⟨rfl, rfl⟩
      show zm_Run zt_get 6 zt_X_gather (15, [some (.ref 0), some (.int x)], [.int (nI ((zx_in x (zj_gm P N c)).toNat))], (zw_C g1 gl a1 al1)) _
      have hxb := zb_le (zx_in x (zj_gm P N c))
      refine zr_ine (x := nI ((zx_in x (zj_gm P N c)).toNat)) (y := 0) ((zx_in x (zj_gm P N c)).toNat) 0 rfl rfl (by omega) (by omega) (t := (21, [some (.ref 0), some (.int x)], [], (zw_C g1 gl a1 al1))) (f := (18, [some (.ref 0), some (.int x)], [], (zw_C g1 gl a1 al1))) rfl (fun h2 => ?_) (fun h2 => ?_)
      · skip
        have hx := zb_1n _ h2
        rw [if_pos hx]
        obtain ⟨hx4, hx2⟩ := zx_of hx
        refine zr_go (t := (26, [some (.ref 0), some (.int x)], [.int x, .ref 7], (zw_C g1 gl a1 al1))) 3 rfl ?_
        have hrefu := zs_C_refuses_7 g1 gl a1 al1 n1 h26 (by omega) e1 (fun k hk => (hl3 k hk).1) (zj_gm P N c) (by omega) (fun k hk => (hl3 k hk).2) (zj_km P N c) hc28 (by omega) (zx_k x) hx4
        rw [← hx2] at hrefu
        refine zr_call (t := (29, [some (.ref 0), some (.int x)], [], (zw_C g1 gl a1 al1))) rfl (Nat.le_of_ble_eq_true rfl : 2 ≤ 6) hrefu ?_
        rintro _ _ ⟨rfl, rfl⟩
        show zm_Run zt_get 6 zt_X_gather (29, [some (.ref 0), some (.int x)], [.int (nI ((!zj_r1 P N c n1 e1 x).toNat))], (zw_C g1 gl a1 al1)) _
        have hrb := zb_le (!zj_r1 P N c n1 e1 x)
        refine zr_ieq (x := nI ((!zj_r1 P N c n1 e1 x).toNat)) (y := 0) ((!zj_r1 P N c n1 e1 x).toNat) 0 rfl rfl (by omega) (by omega) (t := (35, [some (.ref 0), some (.int x)], [], (zw_C g1 gl a1 al1))) (f := (32, [some (.ref 0), some (.int x)], [], (zw_C g1 gl a1 al1))) rfl (fun h3 => ?_) (fun h3 => ?_)
        · skip
          have hrf : zj_r1 P N c n1 e1 x = true := by have h9 := zb_0n _ h3; cases hq : zj_r1 P N c n1 e1 x with | true => rfl | false => rw [hq] at h9; cases h9
          rw [if_pos hrf]
          refine zr_go (t := (40, [some (.ref 0), some (.int x)], [.int x, .ref 7], (zw_C g1 gl a1 al1))) 3 rfl ?_
          refine zr_call (t := (43, [some (.ref 0), some (.int x)], [], (zw_C g1 gl a1 al1))) rfl (Nat.le_of_ble_eq_true rfl : 1 ≤ 6) (zs_C_append_7 g1 gl a1 al1 n1 h26 (by omega) x) ?_
          rintro _ _ ⟨rfl, rfl⟩
          show zm_Run zt_get 6 zt_X_gather (43, [some (.ref 0), some (.int x)], [], (zw_C (upd g1 26 (nI (n1 + 1))) gl (va_up a1 29 (upd (a1 29) n1 x)) al1)) _
          refine zr_go (t := (50, [some (.ref 0), some (.int x)], [.int (nI (n1 + 1))], (zw_C (upd g1 26 (nI (n1 + 1))) gl (va_up a1 29 (upd (a1 29) n1 x)) al1))) 3 rfl ?_
          have hll := zK_l_1 ⟨hl0, hl1, hl2, hl3⟩ hn63 hx4
          rw [← hx2] at hll
          exact zr_ret rfl trivial ⟨rfl, Or.inl ⟨⟨hjj, hx, hrf⟩, _, gl, _, al1, true, true, rfl, ⟨hm, hc4, h4.trans (by rw [hd]), h5.trans (by first | rfl | rw [hjj]), h24, rfl, h12, Or.inr ⟨⟨hok, h11, hcP, hQ⟩, fun _ => hv, fun _ => ⟨rfl, hns, ⟨h20, h21, h22, h21c, h22c, h23c⟩, ⟨h23, h25, hc24, hc25, hc27, hc28⟩, hll⟩, fun q => absurd q (by decide)⟩⟩, hr1⟩⟩
        · skip
          have hrf : zj_r1 P N c n1 e1 x = false := by have h9 := zb_1n _ h3; cases hq : zj_r1 P N c n1 e1 x with | false => rfl | true => rw [hq] at h9; cases h9
          rw [if_neg (by rw [hrf]; decide)]
          refine zr_go (t := (34, [some (.ref 0), some (.int x)], [.int (-103)], (zw_C g1 gl a1 al1))) 1 rfl ?_
          exact zr_ret rfl trivial ⟨rfl, Or.inr ⟨fun q => by rw [hrf] at q; exact absurd q.2.2 (by decide), g1, gl, a1, al1, _, _, rfl, hK1, hr1⟩⟩
      · skip
        have hx : zx_in x (zj_gm P N c) = false := zb_0n _ h2
        rw [if_neg (by rw [hx]; decide)]
        refine zr_go (t := (20, [some (.ref 0), some (.int x)], [.int (-101)], (zw_C g1 gl a1 al1))) 1 rfl ?_
        exact zr_ret rfl trivial ⟨rfl, Or.inr ⟨fun q => by rw [hx] at q; exact absurd q.2.1 (by decide), g1, gl, a1, al1, _, _, rfl, hK1, hr1⟩⟩
  · skip
    have hj := zb_0n _ h1
    rw [if_neg (by rw [hj]; decide)]
    refine zr_go (t := (9, [some (.ref 0), some (.int x)], [.int (-103)], (zw_C g1 gl a1 al1))) 1 rfl ?_
    exact zr_ret rfl trivial ⟨rfl, Or.inr ⟨fun q => by rw [hj] at q; exact absurd q.1 (by decide), g1, gl, a1, al1, _, _, rfl, hK1, hr1⟩⟩
def zj_en (P N : Nat) (c : Nat → Nat) (e0 e1 : Nat → Nat) (q k : Nat) : Nat := if q = 0 then zj_x P N c (e0 k) else e1 k
def zj_nq (n0 n1 : Nat) (x : Int32) : Nat := if x = 0 then n0 else n1
def zj_d0 (n0 : Nat) (x : Int32) : Nat := if x = 0 then n0 - 1 else n0
def zj_d1 (n1 : Nat) (x : Int32) : Nat := if x = 1 then n1 - 1 else n1
theorem zj_nq0 {n0 n1 : Nat} : zj_nq n0 n1 0 = n0 := if_pos rfl
theorem zj_nq1 {n0 n1 : Nat} : zj_nq n0 n1 1 = n1 := if_neg (by decide)
def ac_drop (P N : Nat) (c : Nat → Nat) (n0 : Nat) (e0 : Nat → Nat) (n1 : Nat) (e1 : Nat → Nat) (x : Int32) : Int32 := if zx_in x 2 = true then (if zj_nq n0 n1 x = 0 then -103 else nI (zj_en P N c e0 e1 (zx_k x) (zj_nq n0 n1 x - 1))) else -102
def ac_chosen (P N : Nat) (c : Nat → Nat) (n0 : Nat) (e0 : Nat → Nat) (n1 : Nat) (e1 : Nat → Nat) (x y : Int32) : Int32 := if zx_in x 2 = true then (if zx_in y (zj_nq n0 n1 x) = true then nI (zj_en P N c e0 e1 (zx_k x) (zx_k y)) else -101) else -102
def zj_lf (P N : Nat) (c : Nat → Nat) (n0 : Nat) (e0 : Nat → Nat) (n1 : Nat) (e1 : Nat → Nat) (q : Nat) : Int32 := if q = 0 then nI (zj_gm P N c) - nI (zC (lb (zg_or (fun k => zj_p P N c (e0 k)) n0)) 64) else nI (zw_on P N c) - nI (zC (lb (zg_or (fun k => zj_m P N c (e1 k)) n1)) 64)
def ac_left (P N : Nat) (c : Nat → Nat) (n0 : Nat) (e0 : Nat → Nat) (n1 : Nat) (e1 : Nat → Nat) (x : Int32) : Int32 := if zx_in x 2 = true then (if zj_ok P N c = true then zj_lf P N c n0 e0 n1 e1 (zx_k x) else -103) else -102
theorem zK_n0 {g : Nat → Int32} {a : Nat → Nat → Int32} {al : Nat → Nat → Int64} {P N : Nat} {c : Nat → Nat} {sv bt : Bool} {n0 : Nat} {e0 : Nat → Nat} {n1 : Nat} {e1 : Nat → Nat} (h : zK_1 g a al P N c sv bt n0 e0 n1 e1) : n0 < 64 ∧ n1 < 64 ∧ (n0 ≠ 0 ∨ n1 ≠ 0 → bt = true) := by
  obtain ⟨-, -, -, -, -, -, -, ⟨-, -, -, -, q1, q2, -⟩ | ⟨-, -, hbt, hnb⟩⟩ := h
  · exact ⟨by omega, by omega, fun q => by omega⟩
  · cases bt with
    | true => exact ⟨(hbt rfl).2.2.2.2.1, (hbt rfl).2.2.2.2.2.1, fun _ => rfl⟩
    | false =>
      obtain ⟨q1, q2⟩ := hnb rfl
      exact ⟨by omega, by omega, fun q => by omega⟩
theorem zK_dr {g : Nat → Int32} {a : Nat → Nat → Int32} {al : Nat → Nat → Int64} {P N : Nat} {c : Nat → Nat} {sv : Bool} {n0 : Nat} {e0 : Nat → Nat} {n1 : Nat} {e1 : Nat → Nat} (h : zK_1 g a al P N c sv true n0 e0 n1 e1) : (0 < n0 → zK_1 (upd g 24 (nI (n0 - 1))) a al P N c sv true (n0 - 1) e0 n1 e1) ∧ (0 < n1 → zK_1 (upd g 26 (nI (n1 - 1))) a al P N c sv true n0 e0 (n1 - 1) e1) := by
  obtain ⟨hm, hc4, h4, h5, h24, h26, h12, ⟨-, -, -, q, -⟩ | ⟨⟨hok, h11, hcP, hQ⟩, hsv, hbt, hnb⟩⟩ := h
  · cases q
  · obtain ⟨b1, b2, b3, b4, l1, l2, l3, l4⟩ := hbt rfl
    exact ⟨fun hp => ⟨hm, hc4, h4, h5, rfl, h26, h12, Or.inr ⟨⟨hok, h11, hcP, hQ⟩, hsv, fun _ => ⟨b1, b2, b3, b4, by omega, l2, fun k hk => l3 k (by omega), l4⟩, fun q => absurd q (by decide)⟩⟩, fun hp => ⟨hm, hc4, h4, h5, h24, rfl, h12, Or.inr ⟨⟨hok, h11, hcP, hQ⟩, hsv, fun _ => ⟨b1, b2, b3, b4, l1, by omega, l3, fun k hk => l4 k (by omega)⟩, fun q => absurd q (by decide)⟩⟩⟩
theorem zp_C_drop (w0 : List zm_E) (P N : Nat) (c : Nat → Nat) (n0 : Nat) (e0 : Nat → Nat) (n1 : Nat) (e1 : Nat → Nat) (n : Nat) (cd : Nat → Nat) (K M : Nat) (e : Nat → Nat) (fr fi wa : Nat) (hw : zKW w0 P N c n0 e0 n1 e1 n cd K M e fr fi wa) (x : Int32) : zm_Ev zt_get 2 72 [.ref 0, .int x] w0 (fun v w => v = some (.int (ac_drop P N c n0 e0 n1 e1 x)) ∧ zKW w P N c (zj_d0 n0 x) e0 (zj_d1 n1 x) e1 n cd K M e fr fi wa) := by
  obtain ⟨g, gl, a, al, sv, bt, rfl, hK, hr⟩ := hw
  unfold ac_drop
  obtain ⟨hn064, hn164, hbt⟩ := zK_n0 hK
  have h24 := hK.2.2.2.2.1
  have h26 := hK.2.2.2.2.2.1
  refine zr_ev zt_X_drop rfl rfl ?_
  show zm_Run zt_get 1 zt_X_drop (0, [some (.ref 0), some (.int x), none, none], [], (zw_C g gl a al)) _
  refine zr_go (t := (1, [some (.ref 0), some (.int x), none, none], [.int x], (zw_C g gl a al))) 1 rfl ?_
  refine zr_if (c := x = 0) (t := (12, [some (.ref 0), some (.int x), none, none], [], (zw_C g gl a al))) (f := (4, [some (.ref 0), some (.int x), none, none], [], (zw_C g gl a al))) rfl (fun h4 => ?_) (fun h4 => ?_)
  · skip
    subst h4
    rw [if_pos (by decide)]
    rw [zj_nq0, show zj_d0 n0 0 = n0 - 1 from if_pos rfl, show zj_d1 n1 0 = n1 from if_neg (by decide)]
    refine zr_go (t := (14, [some (.ref 0), some (.int (nI 0)), none, none], [.int (nI 0), .ref 0], (zw_C g gl a al))) 2 rfl ?_
    refine zr_call (t := (17, [some (.ref 0), some (.int (nI 0)), none, none], [], (zw_C g gl a al))) rfl (Nat.le_of_ble_eq_true rfl : 1 ≤ 1) (zs_C_sideOf_0 g gl a al) ?_
    rintro _ _ ⟨rfl, rfl⟩
    show zm_Run zt_get 1 zt_X_drop (17, [some (.ref 0), some (.int (nI 0)), none, none], [.ref 6], (zw_C g gl a al)) _
    refine zr_go (t := (22, [some (.ref 0), some (.int (nI 0)), some (.ref 6), none], [.int (g 24)], (zw_C g gl a al))) 3 rfl ?_
    refine zr_ine (x := g 24) (y := 0) n0 0 h24 rfl (by omega) (by omega) (t := (28, [some (.ref 0), some (.int (nI 0)), some (.ref 6), none], [], (zw_C g gl a al))) (f := (25, [some (.ref 0), some (.int (nI 0)), some (.ref 6), none], [], (zw_C g gl a al))) rfl (fun h6 => ?_) (fun h6 => ?_)
    · skip
      rw [if_neg h6]
      have hb := hbt (Or.inl h6)
      subst hb
      refine zr_go (t := (36, [some (.ref 0), some (.int (nI 0)), some (.ref 6), none], [.int ((g 24) - 1), .int (nI 0), .ref 0], (zw_C g gl a al))) 6 rfl ?_
      rw [show (g 24) - 1 = nI (n0 - 1) from (zn_sub h24 rfl (by omega))]
      refine zr_call (t := (39, [some (.ref 0), some (.int (nI 0)), some (.ref 6), none], [], (zw_C g gl a al))) rfl (Nat.le_of_ble_eq_true rfl : 1 ≤ 1) (zs_C_entryOf_0 g gl a al P N c sv n0 e0 n1 e1 hK (n0 - 1) (by omega)) ?_
      rintro _ _ ⟨rfl, rfl⟩
      show zm_Run zt_get 1 zt_X_drop (39, [some (.ref 0), some (.int (nI 0)), some (.ref 6), none], [.int (nI (zj_x P N c (e0 (n0 - 1))))], (zw_C g gl a al)) _
      refine zr_go (t := (51, [some (.ref 0), some (.int (nI 0)), some (.ref 6), some (.int (nI (zj_x P N c (e0 (n0 - 1)))))], [.int (nI (zj_x P N c (e0 (n0 - 1))))], (zw_C (upd g 24 ((g 24) - 1)) gl a al))) 8 rfl ?_
      rw [show (g 24) - 1 = nI (n0 - 1) from (zn_sub h24 rfl (by omega))]
      exact zr_ret rfl trivial ⟨rfl, _, gl, a, al, sv, true, rfl, (zK_dr hK).1 (by omega), hr⟩
    · skip
      rw [if_pos h6, show n0 - 1 = n0 by omega]
      refine zr_go (t := (27, [some (.ref 0), some (.int (nI 0)), some (.ref 6), none], [.int (-103)], (zw_C g gl a al))) 1 rfl ?_
      exact zr_ret rfl trivial ⟨rfl, g, gl, a, al, sv, bt, rfl, hK, hr⟩
  · skip
    refine zr_go (t := (6, [some (.ref 0), some (.int x), none, none], [.int 1, .int x], (zw_C g gl a al))) 2 rfl ?_
    refine zr_if (c := x = 1) (t := (12, [some (.ref 0), some (.int x), none, none], [], (zw_C g gl a al))) (f := (9, [some (.ref 0), some (.int x), none, none], [], (zw_C g gl a al))) rfl (fun h5 => ?_) (fun h5 => ?_)
    · skip
      subst h5
      rw [if_pos (by decide)]
      rw [zj_nq1, show zj_d0 n0 1 = n0 from if_neg (by decide), show zj_d1 n1 1 = n1 - 1 from if_pos rfl]
      refine zr_go (t := (14, [some (.ref 0), some (.int (nI 1)), none, none], [.int (nI 1), .ref 0], (zw_C g gl a al))) 2 rfl ?_
      refine zr_call (t := (17, [some (.ref 0), some (.int (nI 1)), none, none], [], (zw_C g gl a al))) rfl (Nat.le_of_ble_eq_true rfl : 1 ≤ 1) (zs_C_sideOf_1 g gl a al) ?_
      rintro _ _ ⟨rfl, rfl⟩
      show zm_Run zt_get 1 zt_X_drop (17, [some (.ref 0), some (.int (nI 1)), none, none], [.ref 7], (zw_C g gl a al)) _
      refine zr_go (t := (22, [some (.ref 0), some (.int (nI 1)), some (.ref 7), none], [.int (g 26)], (zw_C g gl a al))) 3 rfl ?_
      refine zr_ine (x := g 26) (y := 0) n1 0 h26 rfl (by omega) (by omega) (t := (28, [some (.ref 0), some (.int (nI 1)), some (.ref 7), none], [], (zw_C g gl a al))) (f := (25, [some (.ref 0), some (.int (nI 1)), some (.ref 7), none], [], (zw_C g gl a al))) rfl (fun h6 => ?_) (fun h6 => ?_)
      · skip
        rw [if_neg h6]
        have hb := hbt (Or.inr h6)
        subst hb
        refine zr_go (t := (36, [some (.ref 0), some (.int (nI 1)), some (.ref 7), none], [.int ((g 26) - 1), .int (nI 1), .ref 0], (zw_C g gl a al))) 6 rfl ?_
        rw [show (g 26) - 1 = nI (n1 - 1) from (zn_sub h26 rfl (by omega))]
        refine zr_call (t := (39, [some (.ref 0), some (.int (nI 1)), some (.ref 7), none], [], (zw_C g gl a al))) rfl (Nat.le_of_ble_eq_true rfl : 1 ≤ 1) (zs_C_entryOf_1 g gl a al P N c sv n0 e0 n1 e1 hK (n1 - 1) (by omega)) ?_
        rintro _ _ ⟨rfl, rfl⟩
        show zm_Run zt_get 1 zt_X_drop (39, [some (.ref 0), some (.int (nI 1)), some (.ref 7), none], [.int (nI (e1 (n1 - 1)))], (zw_C g gl a al)) _
        refine zr_go (t := (51, [some (.ref 0), some (.int (nI 1)), some (.ref 7), some (.int (nI (e1 (n1 - 1))))], [.int (nI (e1 (n1 - 1)))], (zw_C (upd g 26 ((g 26) - 1)) gl a al))) 8 rfl ?_
        rw [show (g 26) - 1 = nI (n1 - 1) from (zn_sub h26 rfl (by omega))]
        exact zr_ret rfl trivial ⟨rfl, _, gl, a, al, sv, true, rfl, (zK_dr hK).2 (by omega), hr⟩
      · skip
        rw [if_pos h6, show n1 - 1 = n1 by omega]
        refine zr_go (t := (27, [some (.ref 0), some (.int (nI 1)), some (.ref 7), none], [.int (-103)], (zw_C g gl a al))) 1 rfl ?_
        exact zr_ret rfl trivial ⟨rfl, g, gl, a, al, sv, bt, rfl, hK, hr⟩
    · skip
      have hx := zx_2n h4 h5
      rw [if_neg (by rw [hx]; decide), show zj_d0 n0 x = n0 from if_neg h4, show zj_d1 n1 x = n1 from if_neg h5]
      refine zr_go (t := (11, [some (.ref 0), some (.int x), none, none], [.int (-102)], (zw_C g gl a al))) 1 rfl ?_
      exact zr_ret rfl trivial ⟨rfl, g, gl, a, al, sv, bt, rfl, hK, hr⟩
theorem zp_C_chosen (w0 : List zm_E) (P N : Nat) (c : Nat → Nat) (n0 : Nat) (e0 : Nat → Nat) (n1 : Nat) (e1 : Nat → Nat) (n : Nat) (cd : Nat → Nat) (K M : Nat) (e : Nat → Nat) (fr fi wa : Nat) (hw : zKW w0 P N c n0 e0 n1 e1 n cd K M e fr fi wa) (x y : Int32) : zm_Ev zt_get 2 73 [.ref 0, .int x, .int y] w0 (fun v w => v = some (.int (ac_chosen P N c n0 e0 n1 e1 x y)) ∧ zKW w P N c n0 e0 n1 e1 n cd K M e fr fi wa) := by
  obtain ⟨g, gl, a, al, sv, bt, rfl, hK, hr⟩ := hw
  unfold ac_chosen
  obtain ⟨hn064, hn164, hbt⟩ := zK_n0 hK
  have h24 := hK.2.2.2.2.1
  have h26 := hK.2.2.2.2.2.1
  refine zr_ev zt_X_chosen rfl rfl ?_
  show zm_Run zt_get 1 zt_X_chosen (0, [some (.ref 0), some (.int x), some (.int y)], [], (zw_C g gl a al)) _
  refine zr_go (t := (1, [some (.ref 0), some (.int x), some (.int y)], [.int x], (zw_C g gl a al))) 1 rfl ?_
  refine zr_if (c := x = 0) (t := (12, [some (.ref 0), some (.int x), some (.int y)], [], (zw_C g gl a al))) (f := (4, [some (.ref 0), some (.int x), some (.int y)], [], (zw_C g gl a al))) rfl (fun h4 => ?_) (fun h4 => ?_)
  · skip
    subst h4
    rw [if_pos (by decide)]
    rw [zj_nq0]
    refine zr_go (t := (13, [some (.ref 0), some (.int (nI 0)), some (.int y)], [.int y], (zw_C g gl a al))) 1 rfl ?_
    refine zr_if (c := y < 0) (t := (28, [some (.ref 0), some (.int (nI 0)), some (.int y)], [], (zw_C g gl a al))) (f := (16, [some (.ref 0), some (.int (nI 0)), some (.int y)], [], (zw_C g gl a al))) rfl (fun h6 => ?_) (fun h6 => ?_)
    · skip
      refine zr_go (t := (30, [some (.ref 0), some (.int (nI 0)), some (.int y)], [.int (-101)], (zw_C g gl a al))) 1 rfl ?_
      exact zr_ret rfl trivial ⟨by rw [if_neg (by rw [zx_rl h6]; decide)], g, gl, a, al, sv, bt, rfl, hK, hr⟩
    · skip
      obtain ⟨hy1, hy2⟩ := zk_of0 (zx_nn h6)
      generalize zx_k y = t at hy1 hy2 ⊢
      subst hy2
      refine zr_go (t := (19, [some (.ref 0), some (.int (nI 0)), some (.int (nI t))], [.int (nI 0), .ref 0, .int (nI t)], (zw_C g gl a al))) 3 rfl ?_
      refine zr_call (t := (22, [some (.ref 0), some (.int (nI 0)), some (.int (nI t))], [.int (nI t)], (zw_C g gl a al))) rfl (Nat.le_of_ble_eq_true rfl : 1 ≤ 1) (zs_C_sideOf_0 g gl a al) ?_
      rintro _ _ ⟨rfl, rfl⟩
      show zm_Run zt_get 1 zt_X_chosen (22, [some (.ref 0), some (.int (nI 0)), some (.int (nI t))], [.ref 6, .int (nI t)], (zw_C g gl a al)) _
      refine zr_go (t := (25, [some (.ref 0), some (.int (nI 0)), some (.int (nI t))], [.int (g 24), .int (nI t)], (zw_C g gl a al))) 1 rfl ?_
      refine zr_ilt (x := nI t) (y := g 24) t n0 rfl h24 (by omega) (by omega) (t := (31, [some (.ref 0), some (.int (nI 0)), some (.int (nI t))], [], (zw_C g gl a al))) (f := (28, [some (.ref 0), some (.int (nI 0)), some (.int (nI t))], [], (zw_C g gl a al))) rfl (fun h7 => ?_) (fun h7 => ?_)
      · skip
        have hyin : zx_in (nI t) n0 = true := zx_yes (by rw [nI_toInt (by omega)]; omega)
        rw [if_pos hyin]
        have hb := hbt (Or.inl (by omega))
        subst hb
        refine zr_go (t := (34, [some (.ref 0), some (.int (nI 0)), some (.int (nI t))], [.int (nI t), .int (nI 0), .ref 0], (zw_C g gl a al))) 3 rfl ?_
        refine zr_call (t := (37, [some (.ref 0), some (.int (nI 0)), some (.int (nI t))], [], (zw_C g gl a al))) rfl (Nat.le_of_ble_eq_true rfl : 1 ≤ 1) (zs_C_entryOf_0 g gl a al P N c sv n0 e0 n1 e1 hK t h7) ?_
        rintro _ _ ⟨rfl, rfl⟩
        show zm_Run zt_get 1 zt_X_chosen (37, [some (.ref 0), some (.int (nI 0)), some (.int (nI t))], [.int (nI (zj_x P N c (e0 t)))], (zw_C g gl a al)) _
        exact zr_ret rfl trivial ⟨rfl, g, gl, a, al, sv, true, rfl, hK, hr⟩
      · skip
        have hyin : zx_in (nI t) n0 = false := zx_no (fun q => by rw [nI_toInt (by omega)] at q; omega)
        rw [if_neg (by rw [hyin]; decide)]
        refine zr_go (t := (30, [some (.ref 0), some (.int (nI 0)), some (.int (nI t))], [.int (-101)], (zw_C g gl a al))) 1 rfl ?_
        exact zr_ret rfl trivial ⟨rfl, g, gl, a, al, sv, bt, rfl, hK, hr⟩
  · skip
    refine zr_go (t := (6, [some (.ref 0), some (.int x), some (.int y)], [.int 1, .int x], (zw_C g gl a al))) 2 rfl ?_
    refine zr_if (c := x = 1) (t := (12, [some (.ref 0), some (.int x), some (.int y)], [], (zw_C g gl a al))) (f := (9, [some (.ref 0), some (.int x), some (.int y)], [], (zw_C g gl a al))) rfl (fun h5 => ?_) (fun h5 => ?_)
    · skip
      subst h5
      rw [if_pos (by decide)]
      rw [zj_nq1]
      refine zr_go (t := (13, [some (.ref 0), some (.int (nI 1)), some (.int y)], [.int y], (zw_C g gl a al))) 1 rfl ?_
      refine zr_if (c := y < 0) (t := (28, [some (.ref 0), some (.int (nI 1)), some (.int y)], [], (zw_C g gl a al))) (f := (16, [some (.ref 0), some (.int (nI 1)), some (.int y)], [], (zw_C g gl a al))) rfl (fun h6 => ?_) (fun h6 => ?_)
      · skip
        refine zr_go (t := (30, [some (.ref 0), some (.int (nI 1)), some (.int y)], [.int (-101)], (zw_C g gl a al))) 1 rfl ?_
        exact zr_ret rfl trivial ⟨by rw [if_neg (by rw [zx_rl h6]; decide)], g, gl, a, al, sv, bt, rfl, hK, hr⟩
      · skip
        obtain ⟨hy1, hy2⟩ := zk_of0 (zx_nn h6)
        generalize zx_k y = t at hy1 hy2 ⊢
        subst hy2
        refine zr_go (t := (19, [some (.ref 0), some (.int (nI 1)), some (.int (nI t))], [.int (nI 1), .ref 0, .int (nI t)], (zw_C g gl a al))) 3 rfl ?_
        refine zr_call (t := (22, [some (.ref 0), some (.int (nI 1)), some (.int (nI t))], [.int (nI t)], (zw_C g gl a al))) rfl (Nat.le_of_ble_eq_true rfl : 1 ≤ 1) (zs_C_sideOf_1 g gl a al) ?_
        rintro _ _ ⟨rfl, rfl⟩
        show zm_Run zt_get 1 zt_X_chosen (22, [some (.ref 0), some (.int (nI 1)), some (.int (nI t))], [.ref 7, .int (nI t)], (zw_C g gl a al)) _
        refine zr_go (t := (25, [some (.ref 0), some (.int (nI 1)), some (.int (nI t))], [.int (g 26), .int (nI t)], (zw_C g gl a al))) 1 rfl ?_
        refine zr_ilt (x := nI t) (y := g 26) t n1 rfl h26 (by omega) (by omega) (t := (31, [some (.ref 0), some (.int (nI 1)), some (.int (nI t))], [], (zw_C g gl a al))) (f := (28, [some (.ref 0), some (.int (nI 1)), some (.int (nI t))], [], (zw_C g gl a al))) rfl (fun h7 => ?_) (fun h7 => ?_)
        · skip
          have hyin : zx_in (nI t) n1 = true := zx_yes (by rw [nI_toInt (by omega)]; omega)
          rw [if_pos hyin]
          have hb := hbt (Or.inr (by omega))
          subst hb
          refine zr_go (t := (34, [some (.ref 0), some (.int (nI 1)), some (.int (nI t))], [.int (nI t), .int (nI 1), .ref 0], (zw_C g gl a al))) 3 rfl ?_
          refine zr_call (t := (37, [some (.ref 0), some (.int (nI 1)), some (.int (nI t))], [], (zw_C g gl a al))) rfl (Nat.le_of_ble_eq_true rfl : 1 ≤ 1) (zs_C_entryOf_1 g gl a al P N c sv n0 e0 n1 e1 hK t h7) ?_
          rintro _ _ ⟨rfl, rfl⟩
          show zm_Run zt_get 1 zt_X_chosen (37, [some (.ref 0), some (.int (nI 1)), some (.int (nI t))], [.int (nI (e1 t))], (zw_C g gl a al)) _
          exact zr_ret rfl trivial ⟨rfl, g, gl, a, al, sv, true, rfl, hK, hr⟩
        · skip
          have hyin : zx_in (nI t) n1 = false := zx_no (fun q => by rw [nI_toInt (by omega)] at q; omega)
          rw [if_neg (by rw [hyin]; decide)]
          refine zr_go (t := (30, [some (.ref 0), some (.int (nI 1)), some (.int (nI t))], [.int (-101)], (zw_C g gl a al))) 1 rfl ?_
          exact zr_ret rfl trivial ⟨rfl, g, gl, a, al, sv, bt, rfl, hK, hr⟩
    · skip
      have hx := zx_2n h4 h5
      rw [if_neg (by rw [hx]; decide)]
      refine zr_go (t := (11, [some (.ref 0), some (.int x), some (.int y)], [.int (-102)], (zw_C g gl a al))) 1 rfl ?_
      exact zr_ret rfl trivial ⟨rfl, g, gl, a, al, sv, bt, rfl, hK, hr⟩
theorem zp_C_left (w0 : List zm_E) (P N : Nat) (c : Nat → Nat) (n0 : Nat) (e0 : Nat → Nat) (n1 : Nat) (e1 : Nat → Nat) (n : Nat) (cd : Nat → Nat) (K M : Nat) (e : Nat → Nat) (fr fi wa : Nat) (hw : zKW w0 P N c n0 e0 n1 e1 n cd K M e fr fi wa) (hJ : zJ) (x : Int32) : zm_Ev zt_get 6 74 [.ref 0, .int x] w0 (fun v w => v = some (.int (ac_left P N c n0 e0 n1 e1 x)) ∧ zKW w P N c n0 e0 n1 e1 n cd K M e fr fi wa) := by
  obtain ⟨g, gl, a, al, sv, bt, rfl, hK, hr⟩ := hw
  unfold ac_left
  refine zr_ev zt_X_left rfl rfl ?_
  show zm_Run zt_get 5 zt_X_left (0, [some (.ref 0), some (.int x)], [], (zw_C g gl a al)) _
  refine zr_go (t := (1, [some (.ref 0), some (.int x)], [.int x], (zw_C g gl a al))) 1 rfl ?_
  refine zr_if (c := x = 0) (t := (12, [some (.ref 0), some (.int x)], [], (zw_C g gl a al))) (f := (4, [some (.ref 0), some (.int x)], [], (zw_C g gl a al))) rfl (fun h4 => ?_) (fun h4 => ?_)
  · skip
    subst h4
    rw [if_pos (by decide)]
    refine zr_go (t := (13, [some (.ref 0), some (.int (nI 0))], [.ref 0], (zw_C g gl a al))) 1 rfl ?_
    refine zr_call (t := (16, [some (.ref 0), some (.int (nI 0))], [], (zw_C g gl a al))) rfl (Nat.le_of_ble_eq_true rfl : 5 ≤ 5) (zs_C_hasFlats g gl a al hJ P N c sv bt n0 e0 n1 e1 hK) ?_
    rintro _ _ ⟨rfl, g1, a1, al1, rfl, hK1, he1⟩
    have hjb := zb_le (zj_ok P N c)
    have hr1 := zK_r_e he1 hr
    show zm_Run zt_get 5 zt_X_left (16, [some (.ref 0), some (.int (nI 0))], [.int (nI ((zj_ok P N c).toNat))], (zw_C g1 gl a1 al1)) _
    refine zr_ine (x := nI ((zj_ok P N c).toNat)) (y := 0) ((zj_ok P N c).toNat) 0 rfl rfl (by omega) (by omega) (t := (22, [some (.ref 0), some (.int (nI 0))], [], (zw_C g1 gl a1 al1))) (f := (19, [some (.ref 0), some (.int (nI 0))], [], (zw_C g1 gl a1 al1))) rfl (fun h1 => ?_) (fun h1 => ?_)
    · skip
      have hj := zb_1n _ h1
      rw [if_pos hj]
      have hK1b := hK1
      rw [hj] at hK1b
      refine zr_go (t := (24, [some (.ref 0), some (.int (nI 0))], [.int (nI 0), .ref 0], (zw_C g1 gl a1 al1))) 2 rfl ?_
      refine zr_call (t := (27, [some (.ref 0), some (.int (nI 0))], [], (zw_C g1 gl a1 al1))) rfl (Nat.le_of_ble_eq_true rfl : 2 ≤ 5) (zs_C_missing_0 g1 gl a1 al1 P N c (decide (0 < P)) n0 e0 n1 e1 hK1b hJ) ?_
      rintro _ _ ⟨rfl, rfl⟩
      show zm_Run zt_get 5 zt_X_left (27, [some (.ref 0), some (.int (nI 0))], [.int (nI (zj_gm P N c) - nI (zC (lb (zg_or (fun k => zj_p P N c (e0 k)) n0)) 64))], (zw_C g1 gl a1 al1)) _
      exact zr_ret rfl trivial ⟨rfl, g1, gl, a1, al1, _, _, rfl, hK1, hr1⟩
    · skip
      have hj := zb_0n _ h1
      rw [if_neg (by rw [hj]; decide)]
      refine zr_go (t := (21, [some (.ref 0), some (.int (nI 0))], [.int (-103)], (zw_C g1 gl a1 al1))) 1 rfl ?_
      exact zr_ret rfl trivial ⟨rfl, g1, gl, a1, al1, _, _, rfl, hK1, hr1⟩
  · skip
    refine zr_go (t := (6, [some (.ref 0), some (.int x)], [.int 1, .int x], (zw_C g gl a al))) 2 rfl ?_
    refine zr_if (c := x = 1) (t := (12, [some (.ref 0), some (.int x)], [], (zw_C g gl a al))) (f := (9, [some (.ref 0), some (.int x)], [], (zw_C g gl a al))) rfl (fun h5 => ?_) (fun h5 => ?_)
    · skip
      subst h5
      rw [if_pos (by decide)]
      refine zr_go (t := (13, [some (.ref 0), some (.int (nI 1))], [.ref 0], (zw_C g gl a al))) 1 rfl ?_
      refine zr_call (t := (16, [some (.ref 0), some (.int (nI 1))], [], (zw_C g gl a al))) rfl (Nat.le_of_ble_eq_true rfl : 5 ≤ 5) (zs_C_hasFlats g gl a al hJ P N c sv bt n0 e0 n1 e1 hK) ?_
      rintro _ _ ⟨rfl, g1, a1, al1, rfl, hK1, he1⟩
      have hjb := zb_le (zj_ok P N c)
      have hr1 := zK_r_e he1 hr
      show zm_Run zt_get 5 zt_X_left (16, [some (.ref 0), some (.int (nI 1))], [.int (nI ((zj_ok P N c).toNat))], (zw_C g1 gl a1 al1)) _
      refine zr_ine (x := nI ((zj_ok P N c).toNat)) (y := 0) ((zj_ok P N c).toNat) 0 rfl rfl (by omega) (by omega) (t := (22, [some (.ref 0), some (.int (nI 1))], [], (zw_C g1 gl a1 al1))) (f := (19, [some (.ref 0), some (.int (nI 1))], [], (zw_C g1 gl a1 al1))) rfl (fun h1 => ?_) (fun h1 => ?_)
      · skip
        have hj := zb_1n _ h1
        rw [if_pos hj]
        have hK1b := hK1
        rw [hj] at hK1b
        refine zr_go (t := (24, [some (.ref 0), some (.int (nI 1))], [.int (nI 1), .ref 0], (zw_C g1 gl a1 al1))) 2 rfl ?_
        refine zr_call (t := (27, [some (.ref 0), some (.int (nI 1))], [], (zw_C g1 gl a1 al1))) rfl (Nat.le_of_ble_eq_true rfl : 2 ≤ 5) (zs_C_missing_1 g1 gl a1 al1 P N c (decide (0 < P)) n0 e0 n1 e1 hK1b hJ) ?_
        rintro _ _ ⟨rfl, rfl⟩
        show zm_Run zt_get 5 zt_X_left (27, [some (.ref 0), some (.int (nI 1))], [.int (nI (zw_on P N c) - nI (zC (lb (zg_or (fun k => zj_m P N c (e1 k)) n1)) 64))], (zw_C g1 gl a1 al1)) _
        exact zr_ret rfl trivial ⟨rfl, g1, gl, a1, al1, _, _, rfl, hK1, hr1⟩
      · skip
        have hj := zb_0n _ h1
        rw [if_neg (by rw [hj]; decide)]
        refine zr_go (t := (21, [some (.ref 0), some (.int (nI 1))], [.int (-103)], (zw_C g1 gl a1 al1))) 1 rfl ?_
        exact zr_ret rfl trivial ⟨rfl, g1, gl, a1, al1, _, _, rfl, hK1, hr1⟩
    · skip
      have hx := zx_2n h4 h5
      rw [if_neg (by rw [hx]; decide)]
      refine zr_go (t := (11, [some (.ref 0), some (.int x)], [.int (-102)], (zw_C g gl a al))) 1 rfl ?_
      exact zr_ret rfl trivial ⟨rfl, g, gl, a, al, sv, bt, rfl, hK, hr⟩
