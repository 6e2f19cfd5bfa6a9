/-! the class: image .. count (written by wip/whole/gen_c19.py) -/
theorem zp_C_image (w0 : List zm_E) (P N : Nat) (c : Nat → Nat) (n0 : Nat) (e0 : Nat → Nat) (n1 : Nat) (e1 : Nat → Nat) (n : Nat) (cd : Nat → Nat) (K M : Nat) (e : Nat → Nat) (fr fi wa : Nat) (hw : zKW w0 P N c n0 e0 n1 e1 n cd K M e fr fi wa) : zm_Ev zt_get 5 82 [.ref 0] w0 (fun v w => (¬ 0 < P ∧ v = some (.int (-103)) ∧ zKW w P N c n0 e0 n1 e1 n cd K M e fr fi wa) ∨ (0 < P ∧ v = some (.int (nI (zv_np P N))) ∧ zKW w P N c n0 e0 n1 e1 n cd P N c fr fi wa)) := by
  obtain ⟨g, gl, a, al, sv, bt, rfl, hK, hr⟩ := hw
  refine zr_ev zt_X_image rfl rfl ?_
  show zm_Run zt_get 4 zt_X_image (0, [some (.ref 0)], [], (zw_C g gl a al)) _
  refine zr_go (t := (1, [some (.ref 0)], [.ref 0], (zw_C g gl a al))) 1 rfl ?_
  refine zr_call (t := (4, [some (.ref 0)], [], (zw_C g gl a al))) rfl (Nat.le_of_ble_eq_true rfl : 4 ≤ 4) (zs_C_hasForm g gl a al P N c sv bt n0 e0 n1 e1 hK) ?_
  rintro _ _ ⟨rfl, g1, a1, rfl, hK1, he1⟩
  have hdb := zb_le (decide (0 < P))
  have hr1 := zK_r_e he1 hr
  show zm_Run zt_get 4 zt_X_image (4, [some (.ref 0)], [.int (nI ((decide (0 < P)).toNat))], (zw_C g1 gl a1 al)) _
  refine zr_ine (x := nI ((decide (0 < P)).toNat)) (y := 0) ((decide (0 < P)).toNat) 0 rfl rfl (by omega) (by omega) (t := (10, [some (.ref 0)], [], (zw_C g1 gl a1 al))) (f := (7, [some (.ref 0)], [], (zw_C g1 gl a1 al))) rfl (fun h1 => ?_) (fun h1 => ?_)
  · skip
    have hPp : 0 < P := of_decide_eq_true (zb_1n _ h1)
    obtain ⟨hm, hc4, h4, h5, h24, h26, h12, hcase⟩ := id hK1
    rcases hcase with ⟨q1, q2, q, q3, _⟩ | ⟨⟨hok, h11, hcP, hQ⟩, hsv, hbt, hnb⟩
    · skip
      exfalso; omega
    · skip
      have hN6 := zv_okN hok
      have hN3 := hok.2.1
      obtain ⟨hP0, hP5⟩ := zv_P5 hok.1
      obtain ⟨-, hnp1, hnp0⟩ := zv_nums hok
      have hon1 := (zj_nums (c := c) hok).1
      have hns1 := (zj_nums (c := c) hok).2
      have hd : decide (0 < P) = true := decide_eq_true hP0
      have hv := hsv hd
      have h17 := hQ.2.2.2.1
      have h18 := hv.1
      have h19 : g1 19 = nI (zj_ns P N c) := hv.2.1
      refine zr_go (t := (18, [some (.ref 0)], [.ref 2, .ref 3], (zw_C g1 gl a1 al))) 4 rfl ?_
      refine zr_call (t := (21, [some (.ref 0)], [], (zw_C g1 gl a1 al))) rfl (Nat.le_of_ble_eq_true rfl : 1 ≤ 4) (zs_C_copyFrom_3 g1 gl a1 al) ?_
      rintro _ _ ⟨rfl, f13, rfl, hf13⟩
      show zm_Run zt_get 4 zt_X_image (21, [some (.ref 0)], [], (zw_C (upd (upd g1 13 (g1 11)) 14 (g1 12)) gl (va_up a1 13 f13) al)) _
      refine zr_go (t := (26, [some (.ref 0)], [.ref 4, .ref 0], (zw_C (upd (upd g1 13 (g1 11)) 14 (g1 12)) gl (va_up a1 13 f13) al))) 3 rfl ?_
      refine zr_call (t := (29, [some (.ref 0)], [.ref 0], (zw_C (upd (upd g1 13 (g1 11)) 14 (g1 12)) gl (va_up a1 13 f13) al))) rfl (Nat.le_of_ble_eq_true rfl : 2 ≤ 4) (zs_C_kindJ (upd (upd g1 13 (g1 11)) 14 (g1 12)) gl (va_up a1 13 f13) al P N hQ c hv) ?_
      rintro _ _ ⟨rfl, rfl⟩
      show zm_Run zt_get 4 zt_X_image (29, [some (.ref 0)], [.int (nI (zz_kd P N (zw_on P N c) (zj_ns P N c) (zv_np P N))), .ref 0], (zw_C (upd (upd g1 13 (g1 11)) 14 (g1 12)) gl (va_up a1 13 f13) al)) _
      refine zr_go (t := (39, [some (.ref 0)], [.int (g1 17)], (zw_C (upd (upd (upd g1 0 (nI (zz_kd P N (zw_on P N c) (zj_ns P N c) (zv_np P N)))) 13 (g1 11)) 14 (g1 12)) gl (va_up a1 13 f13) al))) 4 rfl ?_
      exact zr_ret rfl trivial (Or.inr ⟨hPp, by rw [h17], _, gl, _, al, _, bt, rfl, hK1, hr1.1, ⟨fun i j hi hj => (hf13 _ (by omega)).trans (hm i j hi hj), hc4, h12, Or.inr ⟨hok, h11, hcP, rfl⟩⟩, hr1.2.2⟩)
  · skip
    have hPp : ¬ 0 < P := of_decide_eq_false (zb_0n _ h1)
    refine zr_go (t := (9, [some (.ref 0)], [.int (-103)], (zw_C g1 gl a1 al))) 1 rfl ?_
    exact zr_ret rfl trivial (Or.inl ⟨hPp, rfl, g1, gl, a1, al, _, bt, rfl, hK1, hr1⟩)
theorem zp_C_restore (w0 : List zm_E) (P N : Nat) (c : Nat → Nat) (n0 : Nat) (e0 : Nat → Nat) (n1 : Nat) (e1 : Nat → Nat) (n : Nat) (cd : Nat → Nat) (K M : Nat) (e : Nat → Nat) (fr fi wa : Nat) (hw : zKW w0 P N c n0 e0 n1 e1 n cd K M e fr fi wa) : zm_Ev zt_get 5 83 [.ref 0] w0 (fun v w => (M = 0 ∧ v = some (.int (-103)) ∧ zKW w P N c n0 e0 n1 e1 n cd K M e fr fi wa) ∨ (0 < M ∧ v = some (.int (nI (zv_np K M))) ∧ zKW w K M e 0 e0 0 e1 n cd K M e fr fi wa)) := by
  obtain ⟨g, gl, a, al, sv, bt, rfl, hK, hr⟩ := hw
  obtain ⟨hi1, hi2, hi3, hi4⟩ := id hr.2.1
  have hM6 : M ≤ 6 := by rcases hi4 with ⟨_, q⟩ | ⟨q, _⟩ <;> first | omega | exact zv_okN q
  obtain ⟨P0, N0, h15, h16, hP05, hN06, hold⟩ := zK_1_q hK
  refine zr_ev zt_X_restore rfl rfl ?_
  show zm_Run zt_get 4 zt_X_restore (0, [some (.ref 0)], [], (zw_C g gl a al)) _
  refine zr_go (t := (7, [some (.ref 0)], [.int (g 14)], (zw_C g gl a al))) 3 rfl ?_
  refine zr_ine (x := g 14) (y := 0) M 0 hi3 rfl (by omega) (by omega) (t := (13, [some (.ref 0)], [], (zw_C g gl a al))) (f := (10, [some (.ref 0)], [], (zw_C g gl a al))) rfl (fun h1 => ?_) (fun h1 => ?_)
  · skip
    obtain ⟨hok, h13, hcP, h0⟩ : zv_ok K M ∧ g 13 = nI K ∧ (∀ k l, k < M → l < M → zx_S e k l < K) ∧ g 0 = nI (zj_kd K M e) := by rcases hi4 with ⟨_, q⟩ | q <;> first | omega | exact q
    refine zr_go (t := (21, [some (.ref 0)], [.ref 3, .ref 2], (zw_C g gl a al))) 4 rfl ?_
    refine zr_call (t := (24, [some (.ref 0)], [], (zw_C g gl a al))) rfl (Nat.le_of_ble_eq_true rfl : 1 ≤ 4) (zs_C_copyFrom_2 g gl a al) ?_
    rintro _ _ ⟨rfl, f11, rfl, hf11⟩
    show zm_Run zt_get 4 zt_X_restore (24, [some (.ref 0)], [], (zw_C (upd (upd g 11 (g 13)) 12 (g 14)) gl (va_up a 11 f11) al)) _
    refine zr_go (t := (32, [some (.ref 0)], [.ref 2, .ref 4], (zw_C (upd (upd g 11 (g 13)) 12 (g 14)) gl (va_up a 11 f11) al))) 4 rfl ?_
    refine zr_call (t := (35, [some (.ref 0)], [], (zw_C (upd (upd g 11 (g 13)) 12 (g 14)) gl (va_up a 11 f11) al))) rfl (Nat.le_of_ble_eq_true rfl : 3 ≤ 4) (zs_C_layPoints (upd (upd g 11 (g 13)) 12 (g 14)) gl (va_up a 11 f11) al K M P0 N0 hok h13 hi3 h15 h16 hP05 hN06 (fun q1 q2 => hold K M hok q1 q2)) ?_
    rintro _ _ ⟨rfl, x15, x16, x17, f15, rfl, hQ2⟩
    show zm_Run zt_get 4 zt_X_restore (35, [some (.ref 0)], [], (zw_C (upd (upd (upd (upd (upd g 11 (g 13)) 12 (g 14)) 15 x15) 16 x16) 17 x17) gl (va_up (va_up a 11 f11) 15 f15) al)) _
    refine zr_go (t := (36, [some (.ref 0)], [.ref 0], (zw_C (upd (upd (upd (upd (upd g 11 (g 13)) 12 (g 14)) 15 x15) 16 x16) 17 x17) gl (va_up (va_up a 11 f11) 15 f15) al))) 1 rfl ?_
    refine zr_call (t := (39, [some (.ref 0)], [], (zw_C (upd (upd (upd (upd (upd g 11 (g 13)) 12 (g 14)) 15 x15) 16 x16) 17 x17) gl (va_up (va_up a 11 f11) 15 f15) al))) rfl (Nat.le_of_ble_eq_true rfl : 1 ≤ 4) (zs_C_forget (upd (upd (upd (upd (upd g 11 (g 13)) 12 (g 14)) 15 x15) 16 x16) 17 x17) gl (va_up (va_up a 11 f11) 15 f15) al) ?_
    rintro _ _ ⟨rfl, rfl⟩
    show zm_Run zt_get 4 zt_X_restore (39, [some (.ref 0)], [], (zw_C (upd (upd (upd (upd (upd (upd (upd (upd (upd g 4 0) 5 0) 11 (g 13)) 12 (g 14)) 15 x15) 16 x16) 17 x17) 24 0) 26 0) gl (va_up (va_up a 11 f11) 15 f15) al)) _
    refine zr_go (t := (46, [some (.ref 0)], [.int x17], (zw_C (upd (upd (upd (upd (upd (upd (upd (upd (upd g 4 0) 5 0) 11 (g 13)) 12 (g 14)) 15 x15) 16 x16) 17 x17) 24 0) 26 0) gl (va_up (va_up a 11 f11) 15 f15) al))) 3 rfl ?_
    exact zr_ret rfl trivial (Or.inr ⟨by omega, by rw [show x17 = nI (zv_np K M) from hQ2.2.2.2.1], _, gl, _, al, false, false, rfl, ⟨fun i j hi hj => (hf11 _ (by omega)).trans (hi1 i j hi hj), hi2, rfl, rfl, rfl, rfl, hi3, Or.inr ⟨⟨hok, h13, hcP, hQ2⟩, fun q => absurd q (by decide), fun q => absurd q (by decide), fun _ => ⟨rfl, rfl⟩⟩⟩, hr⟩)
  · skip
    refine zr_go (t := (12, [some (.ref 0)], [.int (-103)], (zw_C g gl a al))) 1 rfl ?_
    exact zr_ret rfl trivial (Or.inl ⟨h1, rfl, g, gl, a, al, sv, bt, rfl, hK, hr⟩)
def ac_like (P N : Nat) (c : Nat → Nat) (K M : Nat) (e : Nat → Nat) : Int32 := if 0 < M ∧ 0 < P then (if (P = K ∧ N = M) ∧ (zj_kd P N c = zj_kd K M e ∧ zj_kd K M e ≠ 3) ∧ zd_disc P N c = zd_disc K M e then 1 else 0) else -103
theorem zj_kd3 (P N : Nat) (c : Nat → Nat) : zj_kd P N c ≤ 3 := by
  unfold zj_kd zz_kd
  split
  · omega
  · split
    · omega
    · split <;> omega
theorem zp_C_like (w0 : List zm_E) (P N : Nat) (c : Nat → Nat) (n0 : Nat) (e0 : Nat → Nat) (n1 : Nat) (e1 : Nat → Nat) (n : Nat) (cd : Nat → Nat) (K M : Nat) (e : Nat → Nat) (fr fi wa : Nat) (hw : zKW w0 P N c n0 e0 n1 e1 n cd K M e fr fi wa) : zm_Ev zt_get 6 84 [.ref 0] w0 (fun v w => v = some (.int (ac_like P N c K M e)) ∧ zKW w P N c n0 e0 n1 e1 n cd K M e fr fi wa) := by
  obtain ⟨g, gl, a, al, sv, bt, rfl, hK, hr⟩ := hw
  obtain ⟨hi1, hi2, hi3, hi4⟩ := id hr.2.1
  have hM6 : M ≤ 6 := by rcases hi4 with ⟨_, q⟩ | ⟨q, _⟩ <;> first | omega | exact zv_okN q
  unfold ac_like
  refine zr_ev zt_X_like rfl rfl ?_
  show zm_Run zt_get 5 zt_X_like (0, [some (.ref 0), none, none], [], (zw_C g gl a al)) _
  refine zr_go (t := (7, [some (.ref 0), none, none], [.int (g 14)], (zw_C g gl a al))) 3 rfl ?_
  refine zr_ieq (x := g 14) (y := 0) M 0 hi3 rfl (by omega) (by omega) (t := (17, [some (.ref 0), none, none], [], (zw_C g gl a al))) (f := (10, [some (.ref 0), none, none], [], (zw_C g gl a al))) rfl (fun h1 => ?_) (fun h1 => ?_)
  · skip
    rw [if_neg (fun q => by omega)]
    refine zr_go (t := (19, [some (.ref 0), none, none], [.int (-103)], (zw_C g gl a al))) 1 rfl ?_
    exact zr_ret rfl trivial ⟨rfl, g, gl, a, al, sv, bt, rfl, hK, hr⟩
  · skip
    refine zr_go (t := (11, [some (.ref 0), none, none], [.ref 0], (zw_C g gl a al))) 1 rfl ?_
    refine zr_call (t := (14, [some (.ref 0), none, none], [], (zw_C g gl a al))) rfl (Nat.le_of_ble_eq_true rfl : 4 ≤ 5) (zs_C_hasForm g gl a al P N c sv bt n0 e0 n1 e1 hK) ?_
    rintro _ _ ⟨rfl, g1, a1, rfl, hK1, he1⟩
    have hdb := zb_le (decide (0 < P))
    have hr1 := zK_r_e he1 hr
    show zm_Run zt_get 5 zt_X_like (14, [some (.ref 0), none, none], [.int (nI ((decide (0 < P)).toNat))], (zw_C g1 gl a1 al)) _
    refine zr_ine (x := nI ((decide (0 < P)).toNat)) (y := 0) ((decide (0 < P)).toNat) 0 rfl rfl (by omega) (by omega) (t := (20, [some (.ref 0), none, none], [], (zw_C g1 gl a1 al))) (f := (17, [some (.ref 0), none, none], [], (zw_C g1 gl a1 al))) rfl (fun h2 => ?_) (fun h2 => ?_)
    · skip
      have hPp : 0 < P := of_decide_eq_true (zb_1n _ h2)
      rw [if_pos ⟨by omega, hPp⟩]
      obtain ⟨hm, hc4, h4, h5, h24, h26, h12, hcase⟩ := id hK1
      rcases hcase with ⟨q1, q2, q, q3, _⟩ | ⟨⟨hok, h11, hcP, hQ⟩, hsv, hbt, hnb⟩
      · skip
        exfalso; omega
      · skip
        have hN6 := zv_okN hok
        have hN3 := hok.2.1
        obtain ⟨hP0, hP5⟩ := zv_P5 hok.1
        obtain ⟨-, hnp1, hnp0⟩ := zv_nums hok
        have hon1 := (zj_nums (c := c) hok).1
        have hns1 := (zj_nums (c := c) hok).2
        have hd : decide (0 < P) = true := decide_eq_true hP0
        have hv := hsv hd
        have h17 := hQ.2.2.2.1
        have h18 := hv.1
        have h19 : g1 19 = nI (zj_ns P N c) := hv.2.1
        obtain ⟨hj1, hj2, hj3, hj4⟩ := id hr1.2.1
        obtain ⟨hok2, h13, hcP2, h0⟩ : zv_ok K M ∧ g1 13 = nI K ∧ (∀ k l, k < M → l < M → zx_S e k l < K) ∧ g1 0 = nI (zj_kd K M e) := by rcases hj4 with ⟨_, q⟩ | q <;> first | omega | exact q
        have hK5 := (zv_P5 hok2.1).2
        have hkd1 := zj_kd3 P N c
        have hkd2 := zj_kd3 K M e
        have tail2 : ∀ b1 b2 : Bool, b1 = decide (P = K ∧ N = M) → b2 = decide (zj_kd P N c = zj_kd K M e ∧ zj_kd K M e ≠ 3) → zm_Run zt_get 5 zt_X_like (88, [some (.ref 0), some (.int (nI b1.toNat)), some (.int (nI b2.toNat))], [], (zw_C g1 gl a1 al)) (fun v w => v = some (.int (if (P = K ∧ N = M) ∧ (zj_kd P N c = zj_kd K M e ∧ zj_kd K M e ≠ 3) ∧ zd_disc P N c = zd_disc K M e then 1 else 0)) ∧ zKW w P N c n0 e0 n1 e1 n cd K M e fr fi wa) := by
          intro b1 b2 hb1 hb2
          have hb1l := zb_le b1
          have hb2l := zb_le b2
          refine zr_go (t := (89, [some (.ref 0), some (.int (nI b1.toNat)), some (.int (nI b2.toNat))], [.int (nI b1.toNat)], (zw_C g1 gl a1 al))) 1 rfl ?_
          refine zr_ieq (x := nI b1.toNat) (y := 0) b1.toNat 0 rfl rfl (by omega) (by omega) (t := (117, [some (.ref 0), some (.int (nI b1.toNat)), some (.int (nI b2.toNat))], [], (zw_C g1 gl a1 al))) (f := (92, [some (.ref 0), some (.int (nI b1.toNat)), some (.int (nI b2.toNat))], [], (zw_C g1 gl a1 al))) rfl (fun h5b => ?_) (fun h5b => ?_)
          · skip
            refine zr_go (t := (118, [some (.ref 0), some (.int (nI b1.toNat)), some (.int (nI b2.toNat))], [.int 0], (zw_C g1 gl a1 al))) 1 rfl ?_
            exact zr_ret rfl trivial ⟨by rw [if_neg (fun q => by rw [zb_0n _ h5b] at hb1; exact of_decide_eq_false hb1.symm q.1)], g1, gl, a1, al, _, bt, rfl, hK1, hr1⟩
          · skip
            refine zr_go (t := (93, [some (.ref 0), some (.int (nI b1.toNat)), some (.int (nI b2.toNat))], [.int (nI b2.toNat)], (zw_C g1 gl a1 al))) 1 rfl ?_
            refine zr_ieq (x := nI b2.toNat) (y := 0) b2.toNat 0 rfl rfl (by omega) (by omega) (t := (117, [some (.ref 0), some (.int (nI b1.toNat)), some (.int (nI b2.toNat))], [], (zw_C g1 gl a1 al))) (f := (96, [some (.ref 0), some (.int (nI b1.toNat)), some (.int (nI b2.toNat))], [], (zw_C g1 gl a1 al))) rfl (fun h6b => ?_) (fun h6b => ?_)
            · skip
              refine zr_go (t := (118, [some (.ref 0), some (.int (nI b1.toNat)), some (.int (nI b2.toNat))], [.int 0], (zw_C g1 gl a1 al))) 1 rfl ?_
              exact zr_ret rfl trivial ⟨by rw [if_neg (fun q => by rw [zb_0n _ h6b] at hb2; exact of_decide_eq_false hb2.symm q.2.1)], g1, gl, a1, al, _, bt, rfl, hK1, hr1⟩
            · skip
              have hq1 : P = K ∧ N = M := of_decide_eq_true (by rw [← hb1]; exact zb_1n _ h5b)
              have hq2 : zj_kd P N c = zj_kd K M e ∧ zj_kd K M e ≠ 3 := of_decide_eq_true (by rw [← hb2]; exact zb_1n _ h6b)
              refine zr_go (t := (100, [some (.ref 0), some (.int (nI b1.toNat)), some (.int (nI b2.toNat))], [.ref 2], (zw_C g1 gl a1 al))) 2 rfl ?_
              refine zr_call (t := (103, [some (.ref 0), some (.int (nI b1.toNat)), some (.int (nI b2.toNat))], [], (zw_C g1 gl a1 al))) rfl (Nat.le_of_ble_eq_true rfl : 4 ≤ 5) (zs_C_disc_2 g1 gl a1 al N h12 hN6 P h11 hok.1 c hm hc4) ?_
              rintro _ _ ⟨rfl, f12, rfl⟩
              show zm_Run zt_get 5 zt_X_like (103, [some (.ref 0), some (.int (nI b1.toNat)), some (.int (nI b2.toNat))], [.int (zd_disc P N c)], (zw_C g1 gl (va_up a1 12 f12) al)) _
              refine zr_go (t := (107, [some (.ref 0), some (.int (nI b1.toNat)), some (.int (nI b2.toNat))], [.ref 3, .int (zd_disc P N c)], (zw_C g1 gl (va_up a1 12 f12) al))) 2 rfl ?_
              refine zr_call (t := (110, [some (.ref 0), some (.int (nI b1.toNat)), some (.int (nI b2.toNat))], [.int (zd_disc P N c)], (zw_C g1 gl (va_up a1 12 f12) al))) rfl (Nat.le_of_ble_eq_true rfl : 4 ≤ 5) (zs_C_disc_3 g1 gl (va_up a1 12 f12) al M hj3 hM6 K h13 hok2.1 e hj1 hj2) ?_
              rintro _ _ ⟨rfl, f14, rfl⟩
              show zm_Run zt_get 5 zt_X_like (110, [some (.ref 0), some (.int (nI b1.toNat)), some (.int (nI b2.toNat))], [.int (zd_disc K M e), .int (zd_disc P N c)], (zw_C g1 gl (va_up (va_up a1 12 f12) 14 f14) al)) _
              refine zr_if (c := zd_disc P N c = zd_disc K M e) (t := (113, [some (.ref 0), some (.int (nI b1.toNat)), some (.int (nI b2.toNat))], [], (zw_C g1 gl (va_up (va_up a1 12 f12) 14 f14) al))) (f := (117, [some (.ref 0), some (.int (nI b1.toNat)), some (.int (nI b2.toNat))], [], (zw_C g1 gl (va_up (va_up a1 12 f12) 14 f14) al))) rfl (fun h7b => ?_) (fun h7b => ?_)
              · skip
                refine zr_go (t := (118, [some (.ref 0), some (.int (nI b1.toNat)), some (.int (nI b2.toNat))], [.int 1], (zw_C g1 gl (va_up (va_up a1 12 f12) 14 f14) al))) 2 rfl ?_
                exact zr_ret rfl trivial ⟨by rw [if_pos ⟨hq1, hq2, h7b⟩], _, gl, _, al, _, bt, rfl, hK1, hr1⟩
              · skip
                refine zr_go (t := (118, [some (.ref 0), some (.int (nI b1.toNat)), some (.int (nI b2.toNat))], [.int 0], (zw_C g1 gl (va_up (va_up a1 12 f12) 14 f14) al))) 1 rfl ?_
                exact zr_ret rfl trivial ⟨by rw [if_neg (fun q => h7b q.2.2)], _, gl, _, al, _, bt, rfl, hK1, hr1⟩
        have tail1 : ∀ b1 : Bool, b1 = decide (P = K ∧ N = M) → zm_Run zt_get 5 zt_X_like (60, [some (.ref 0), some (.int (nI b1.toNat)), none], [], (zw_C g1 gl a1 al)) (fun v w => v = some (.int (if (P = K ∧ N = M) ∧ (zj_kd P N c = zj_kd K M e ∧ zj_kd K M e ≠ 3) ∧ zd_disc P N c = zd_disc K M e then 1 else 0)) ∧ zKW w P N c n0 e0 n1 e1 n cd K M e fr fi wa) := by
          intro b1 hb1
          refine zr_go (t := (64, [some (.ref 0), some (.int (nI b1.toNat)), none], [.ref 4], (zw_C g1 gl a1 al))) 2 rfl ?_
          refine zr_call (t := (67, [some (.ref 0), some (.int (nI b1.toNat)), none], [], (zw_C g1 gl a1 al))) rfl (Nat.le_of_ble_eq_true rfl : 2 ≤ 5) (zs_C_kindJ g1 gl a1 al P N hQ c hv) ?_
          rintro _ _ ⟨rfl, rfl⟩
          show zm_Run zt_get 5 zt_X_like (67, [some (.ref 0), some (.int (nI b1.toNat)), none], [.int (nI (zj_kd P N c))], (zw_C g1 gl a1 al)) _
          refine zr_go (t := (71, [some (.ref 0), some (.int (nI b1.toNat)), none], [.int (g1 0), .int (nI (zj_kd P N c))], (zw_C g1 gl a1 al))) 2 rfl ?_
          refine zr_ine (x := nI (zj_kd P N c)) (y := g1 0) (zj_kd P N c) (zj_kd K M e) rfl h0 (by omega) (by omega) (t := (86, [some (.ref 0), some (.int (nI b1.toNat)), none], [], (zw_C g1 gl a1 al))) (f := (74, [some (.ref 0), some (.int (nI b1.toNat)), none], [], (zw_C g1 gl a1 al))) rfl (fun h5b => ?_) (fun h5b => ?_)
          · skip
            refine zr_go (t := (88, [some (.ref 0), some (.int (nI b1.toNat)), some (.int 0)], [], (zw_C g1 gl a1 al))) 2 rfl ?_
            exact tail2 b1 false hb1 (decide_eq_false (fun q => h5b q.1)).symm
          · skip
            refine zr_go (t := (79, [some (.ref 0), some (.int (nI b1.toNat)), none], [.int 3, .int (g1 0)], (zw_C g1 gl a1 al))) 3 rfl ?_
            refine zr_ieq (x := g1 0) (y := 3) (zj_kd K M e) 3 h0 rfl (by omega) (by omega) (t := (86, [some (.ref 0), some (.int (nI b1.toNat)), none], [], (zw_C g1 gl a1 al))) (f := (82, [some (.ref 0), some (.int (nI b1.toNat)), none], [], (zw_C g1 gl a1 al))) rfl (fun h6b => ?_) (fun h6b => ?_)
            · skip
              refine zr_go (t := (88, [some (.ref 0), some (.int (nI b1.toNat)), some (.int 0)], [], (zw_C g1 gl a1 al))) 2 rfl ?_
              exact tail2 b1 false hb1 (decide_eq_false (fun q => q.2 h6b)).symm
            · skip
              refine zr_go (t := (88, [some (.ref 0), some (.int (nI b1.toNat)), some (.int 1)], [], (zw_C g1 gl a1 al))) 3 rfl ?_
              exact tail2 b1 true hb1 (decide_eq_true ⟨h5b, h6b⟩).symm
        refine zr_go (t := (34, [some (.ref 0), none, none], [.int (g1 13), .int (g1 11)], (zw_C g1 gl a1 al))) 6 rfl ?_
        refine zr_ine (x := g1 11) (y := g1 13) P K h11 h13 (by omega) (by omega) (t := (58, [some (.ref 0), none, none], [], (zw_C g1 gl a1 al))) (f := (37, [some (.ref 0), none, none], [], (zw_C g1 gl a1 al))) rfl (fun h5c => ?_) (fun h5c => ?_)
        · skip
          refine zr_go (t := (60, [some (.ref 0), some (.int 0), none], [], (zw_C g1 gl a1 al))) 2 rfl ?_
          exact tail1 false (decide_eq_false (fun q => h5c q.1)).symm
        · skip
          refine zr_go (t := (51, [some (.ref 0), none, none], [.int (g1 14), .int (g1 12)], (zw_C g1 gl a1 al))) 6 rfl ?_
          refine zr_ine (x := g1 12) (y := g1 14) N M h12 hj3 (by omega) (by omega) (t := (58, [some (.ref 0), none, none], [], (zw_C g1 gl a1 al))) (f := (54, [some (.ref 0), none, none], [], (zw_C g1 gl a1 al))) rfl (fun h6c => ?_) (fun h6c => ?_)
          · skip
            refine zr_go (t := (60, [some (.ref 0), some (.int 0), none], [], (zw_C g1 gl a1 al))) 2 rfl ?_
            exact tail1 false (decide_eq_false (fun q => h6c q.2)).symm
          · skip
            refine zr_go (t := (60, [some (.ref 0), some (.int 1), none], [], (zw_C g1 gl a1 al))) 3 rfl ?_
            exact tail1 true (decide_eq_true ⟨h5c, h6c⟩).symm
    · skip
      have hPp : ¬ 0 < P := of_decide_eq_false (zb_0n _ h2)
      rw [if_neg (fun q => hPp q.2)]
      refine zr_go (t := (19, [some (.ref 0), none, none], [.int (-103)], (zw_C g1 gl a1 al))) 1 rfl ?_
      exact zr_ret rfl trivial ⟨rfl, g1, gl, a1, al, _, bt, rfl, hK1, hr1⟩
def ac_ct (P N : Nat) (c : Nat → Nat) (n0 n1 n fr fi wa k : Nat) : Int32 := if k = 0 then nI (if 0 < P then zv_np P N else 0) else if k = 1 then nI (if 0 < P then zw_on P N c else 0) else if k = 2 then nI (if zj_ok P N c = true then zj_gm P N c else 0) else if k = 3 then nI n0 else if k = 4 then nI n1 else if k = 5 then nI n else if k = 6 then nI fr else if k = 7 then nI fi else nI wa
def ac_count (P N : Nat) (c : Nat → Nat) (n0 n1 n fr fi wa : Nat) (x : Int32) : Int32 := if zx_in x 9 = true then ac_ct P N c n0 n1 n fr fi wa (zx_k x) else -102
theorem zp_C_count (w0 : List zm_E) (P N : Nat) (c : Nat → Nat) (n0 : Nat) (e0 : Nat → Nat) (n1 : Nat) (e1 : Nat → Nat) (n : Nat) (cd : Nat → Nat) (K M : Nat) (e : Nat → Nat) (fr fi wa : Nat) (hw : zKW w0 P N c n0 e0 n1 e1 n cd K M e fr fi wa) (hJ : zJ) (x : Int32) : zm_Ev zt_get 6 86 [.ref 0, .int x] w0 (fun v w => v = some (.int (ac_count P N c n0 n1 n fr fi wa x)) ∧ zKW w P N c n0 e0 n1 e1 n cd K M e fr fi wa) := by
  obtain ⟨g, gl, a, al, sv, bt, rfl, hK, hr⟩ := hw
  unfold ac_count
  obtain ⟨hp, hri, hfr, hfi, hwa⟩ := id hr
  have h24 := hK.2.2.2.2.1
  have h26 := hK.2.2.2.2.2.1
  refine zr_ev zt_X_count rfl rfl ?_
  show zm_Run zt_get 5 zt_X_count (0, [some (.ref 0), some (.int x)], [], (zw_C g gl a al)) _
  by_cases hx : zx_in x 9 = true
  · skip
    rw [if_pos hx]
    obtain ⟨k1, k2⟩ := zx_of hx
    generalize zx_k x = k at k1 k2 ⊢
    subst k2
    have hk9 : k = 0 ∨ k = 1 ∨ k = 2 ∨ k = 3 ∨ k = 4 ∨ k = 5 ∨ k = 6 ∨ k = 7 ∨ k = 8 := by omega
    clear hx k1
    rcases hk9 with rfl | rfl | rfl | rfl | rfl | rfl | rfl | rfl | rfl
    · skip
      refine zr_go (t := (1, [some (.ref 0), some (.int (nI 0))], [.int (nI 0)], (zw_C g gl a al))) 1 rfl ?_
      refine zr_step (c := none) (t := ((zm_sw 1 119 0 8 #[51, 56, 61, 80, 88, 96, 104, 109, 114] (nI 0)), [some (.ref 0), some (.int (nI 0))], [], (zw_C g gl a al))) rfl trivial ?_
      rw [show zm_sw 1 119 0 8 #[51, 56, 61, 80, 88, 96, 104, 109, 114] (nI 0) = 52 from by decide]
      refine zr_go (t := (53, [some (.ref 0), some (.int (nI 0))], [.ref 0], (zw_C g gl a al))) 1 rfl ?_
      refine zr_call (t := (56, [some (.ref 0), some (.int (nI 0))], [], (zw_C g gl a al))) rfl (Nat.le_of_ble_eq_true rfl : 5 ≤ 5) (zs_C_pointTotal g gl a al P N c sv bt n0 e0 n1 e1 hK) ?_
      rintro _ _ ⟨rfl, g1, a1, rfl, hK1, he1⟩
      show zm_Run zt_get 5 zt_X_count (56, [some (.ref 0), some (.int (nI 0))], [.int (nI (if 0 < P then zv_np P N else 0))], (zw_C g1 gl a1 al)) _
      exact zr_ret rfl trivial ⟨rfl, g1, gl, a1, al, _, _, rfl, hK1, zK_r_e he1 hr⟩
    · skip
      refine zr_go (t := (1, [some (.ref 0), some (.int (nI 1))], [.int (nI 1)], (zw_C g gl a al))) 1 rfl ?_
      refine zr_step (c := none) (t := ((zm_sw 1 119 0 8 #[51, 56, 61, 80, 88, 96, 104, 109, 114] (nI 1)), [some (.ref 0), some (.int (nI 1))], [], (zw_C g gl a al))) rfl trivial ?_
      rw [show zm_sw 1 119 0 8 #[51, 56, 61, 80, 88, 96, 104, 109, 114] (nI 1) = 57 from by decide]
      refine zr_go (t := (58, [some (.ref 0), some (.int (nI 1))], [.ref 0], (zw_C g gl a al))) 1 rfl ?_
      refine zr_call (t := (61, [some (.ref 0), some (.int (nI 1))], [], (zw_C g gl a al))) rfl (Nat.le_of_ble_eq_true rfl : 5 ≤ 5) (zs_C_memberTotal g gl a al P N c sv bt n0 e0 n1 e1 hK) ?_
      rintro _ _ ⟨rfl, g1, a1, rfl, hK1, he1⟩
      show zm_Run zt_get 5 zt_X_count (61, [some (.ref 0), some (.int (nI 1))], [.int (nI (if 0 < P then zw_on P N c else 0))], (zw_C g1 gl a1 al)) _
      exact zr_ret rfl trivial ⟨rfl, g1, gl, a1, al, _, _, rfl, hK1, zK_r_e he1 hr⟩
    · skip
      refine zr_go (t := (1, [some (.ref 0), some (.int (nI 2))], [.int (nI 2)], (zw_C g gl a al))) 1 rfl ?_
      refine zr_step (c := none) (t := ((zm_sw 1 119 0 8 #[51, 56, 61, 80, 88, 96, 104, 109, 114] (nI 2)), [some (.ref 0), some (.int (nI 2))], [], (zw_C g gl a al))) rfl trivial ?_
      rw [show zm_sw 1 119 0 8 #[51, 56, 61, 80, 88, 96, 104, 109, 114] (nI 2) = 62 from by decide]
      refine zr_go (t := (63, [some (.ref 0), some (.int (nI 2))], [.ref 0], (zw_C g gl a al))) 1 rfl ?_
      refine zr_call (t := (66, [some (.ref 0), some (.int (nI 2))], [], (zw_C g gl a al))) rfl (Nat.le_of_ble_eq_true rfl : 5 ≤ 5) (zs_C_hasFlats g gl a al hJ P N c sv bt n0 e0 n1 e1 hK) ?_
      rintro _ _ ⟨rfl, g1, a1, al1, rfl, hK1, he1⟩
      have hjb := zb_le (zj_ok P N c)
      have hr1 := zK_r_e he1 hr
      show zm_Run zt_get 5 zt_X_count (66, [some (.ref 0), some (.int (nI 2))], [.int (nI ((zj_ok P N c).toNat))], (zw_C g1 gl a1 al1)) _
      refine zr_ieq (x := nI ((zj_ok P N c).toNat)) (y := 0) ((zj_ok P N c).toNat) 0 rfl rfl (by omega) (by omega) (t := (79, [some (.ref 0), some (.int (nI 2))], [], (zw_C g1 gl a1 al1))) (f := (69, [some (.ref 0), some (.int (nI 2))], [], (zw_C g1 gl a1 al1))) rfl (fun h1 => ?_) (fun h1 => ?_)
      · skip
        have hj := zb_0n _ h1
        refine zr_go (t := (80, [some (.ref 0), some (.int (nI 2))], [.int 0], (zw_C g1 gl a1 al1))) 1 rfl ?_
        exact zr_ret rfl trivial ⟨by show _ = some (Value.int (nI (if zj_ok P N c = true then zj_gm P N c else 0))); rw [if_neg (by rw [hj]; decide)]; rfl, g1, gl, a1, al1, _, _, rfl, hK1, hr1⟩
      · skip
        have hj := zb_1n _ h1
        have hPp := (zj_okP hj).1
        obtain ⟨hm, hc4, h4, h5, h24, h26, h12, hcase⟩ := id hK1
        rcases hcase with ⟨q1, q2, q, q3, _⟩ | ⟨⟨hok, h11, hcP, hQ⟩, hsv, hbt, hnb⟩
        · skip
          exfalso; omega
        · skip
          have hN6 := zv_okN hok
          have hN3 := hok.2.1
          obtain ⟨hP0, hP5⟩ := zv_P5 hok.1
          obtain ⟨-, hnp1, hnp0⟩ := zv_nums hok
          have hon1 := (zj_nums (c := c) hok).1
          have hns1 := (zj_nums (c := c) hok).2
          have hd : decide (0 < P) = true := decide_eq_true hP0
          have hv := hsv hd
          have h17 := hQ.2.2.2.1
          have h18 := hv.1
          have h19 : g1 19 = nI (zj_ns P N c) := hv.2.1
          obtain ⟨-, hns, ht, hs, hl0, hl1, hl2, hl3⟩ := hbt hj
          obtain ⟨h20, h21, h22, h21c, h22c, h23c⟩ := ht
          obtain ⟨h23, h25, hc24, hc25, hc27, hc28⟩ := hs
          obtain ⟨hn45, hnl105, hnp30, hgm45⟩ := hJ P N c hok hns
          refine zr_go (t := (80, [some (.ref 0), some (.int (nI 2))], [.int (g1 25)], (zw_C g1 gl a1 al1))) 4 rfl ?_
          exact zr_ret rfl trivial ⟨by show _ = some (Value.int (nI (if zj_ok P N c = true then zj_gm P N c else 0))); rw [if_pos hj, h25], g1, gl, a1, al1, _, _, rfl, hK1, hr1⟩
    · skip
      refine zr_go (t := (1, [some (.ref 0), some (.int (nI 3))], [.int (nI 3)], (zw_C g gl a al))) 1 rfl ?_
      refine zr_step (c := none) (t := ((zm_sw 1 119 0 8 #[51, 56, 61, 80, 88, 96, 104, 109, 114] (nI 3)), [some (.ref 0), some (.int (nI 3))], [], (zw_C g gl a al))) rfl trivial ?_
      rw [show zm_sw 1 119 0 8 #[51, 56, 61, 80, 88, 96, 104, 109, 114] (nI 3) = 81 from by decide]
      refine zr_go (t := (88, [some (.ref 0), some (.int (nI 3))], [.int (g 24)], (zw_C g gl a al))) 3 rfl ?_
      exact zr_ret rfl trivial ⟨by rw [h24]; rfl, g, gl, a, al, sv, bt, rfl, hK, hr⟩
    · skip
      refine zr_go (t := (1, [some (.ref 0), some (.int (nI 4))], [.int (nI 4)], (zw_C g gl a al))) 1 rfl ?_
      refine zr_step (c := none) (t := ((zm_sw 1 119 0 8 #[51, 56, 61, 80, 88, 96, 104, 109, 114] (nI 4)), [some (.ref 0), some (.int (nI 4))], [], (zw_C g gl a al))) rfl trivial ?_
      rw [show zm_sw 1 119 0 8 #[51, 56, 61, 80, 88, 96, 104, 109, 114] (nI 4) = 89 from by decide]
      refine zr_go (t := (96, [some (.ref 0), some (.int (nI 4))], [.int (g 26)], (zw_C g gl a al))) 3 rfl ?_
      exact zr_ret rfl trivial ⟨by rw [h26]; rfl, g, gl, a, al, sv, bt, rfl, hK, hr⟩
    · skip
      refine zr_go (t := (1, [some (.ref 0), some (.int (nI 5))], [.int (nI 5)], (zw_C g gl a al))) 1 rfl ?_
      refine zr_step (c := none) (t := ((zm_sw 1 119 0 8 #[51, 56, 61, 80, 88, 96, 104, 109, 114] (nI 5)), [some (.ref 0), some (.int (nI 5))], [], (zw_C g gl a al))) rfl trivial ?_
      rw [show zm_sw 1 119 0 8 #[51, 56, 61, 80, 88, 96, 104, 109, 114] (nI 5) = 97 from by decide]
      refine zr_go (t := (104, [some (.ref 0), some (.int (nI 5))], [.int (g 6)], (zw_C g gl a al))) 3 rfl ?_
      exact zr_ret rfl trivial ⟨by rw [hp.1]; rfl, g, gl, a, al, sv, bt, rfl, hK, hr⟩
    · skip
      refine zr_go (t := (1, [some (.ref 0), some (.int (nI 6))], [.int (nI 6)], (zw_C g gl a al))) 1 rfl ?_
      refine zr_step (c := none) (t := ((zm_sw 1 119 0 8 #[51, 56, 61, 80, 88, 96, 104, 109, 114] (nI 6)), [some (.ref 0), some (.int (nI 6))], [], (zw_C g gl a al))) rfl trivial ?_
      rw [show zm_sw 1 119 0 8 #[51, 56, 61, 80, 88, 96, 104, 109, 114] (nI 6) = 105 from by decide]
      refine zr_go (t := (109, [some (.ref 0), some (.int (nI 6))], [.int (g 1)], (zw_C g gl a al))) 2 rfl ?_
      exact zr_ret rfl trivial ⟨by rw [hfr]; rfl, g, gl, a, al, sv, bt, rfl, hK, hr⟩
    · skip
      refine zr_go (t := (1, [some (.ref 0), some (.int (nI 7))], [.int (nI 7)], (zw_C g gl a al))) 1 rfl ?_
      refine zr_step (c := none) (t := ((zm_sw 1 119 0 8 #[51, 56, 61, 80, 88, 96, 104, 109, 114] (nI 7)), [some (.ref 0), some (.int (nI 7))], [], (zw_C g gl a al))) rfl trivial ?_
      rw [show zm_sw 1 119 0 8 #[51, 56, 61, 80, 88, 96, 104, 109, 114] (nI 7) = 110 from by decide]
      refine zr_go (t := (114, [some (.ref 0), some (.int (nI 7))], [.int (g 2)], (zw_C g gl a al))) 2 rfl ?_
      exact zr_ret rfl trivial ⟨by rw [hfi]; rfl, g, gl, a, al, sv, bt, rfl, hK, hr⟩
    · skip
      refine zr_go (t := (1, [some (.ref 0), some (.int (nI 8))], [.int (nI 8)], (zw_C g gl a al))) 1 rfl ?_
      refine zr_step (c := none) (t := ((zm_sw 1 119 0 8 #[51, 56, 61, 80, 88, 96, 104, 109, 114] (nI 8)), [some (.ref 0), some (.int (nI 8))], [], (zw_C g gl a al))) rfl trivial ?_
      rw [show zm_sw 1 119 0 8 #[51, 56, 61, 80, 88, 96, 104, 109, 114] (nI 8) = 115 from by decide]
      refine zr_go (t := (119, [some (.ref 0), some (.int (nI 8))], [.int (g 3)], (zw_C g gl a al))) 2 rfl ?_
      exact zr_ret rfl trivial ⟨by rw [hwa]; rfl, g, gl, a, al, sv, bt, rfl, hK, hr⟩
  · skip
    rw [if_neg hx]
    refine zr_go (t := (1, [some (.ref 0), some (.int x)], [.int x], (zw_C g gl a al))) 1 rfl ?_
    refine zr_step (c := none) (t := ((zm_sw 1 119 0 8 #[51, 56, 61, 80, 88, 96, 104, 109, 114] x), [some (.ref 0), some (.int x)], [], (zw_C g gl a al))) rfl trivial ?_
    rw [show zm_sw 1 119 0 8 #[51, 56, 61, 80, 88, 96, 104, 109, 114] x = 120 from by unfold zm_sw; rw [if_pos (by have : ¬ (0 ≤ x.toInt ∧ x.toInt < 9) := fun q => hx (decide_eq_true q); omega)]; rfl]
    refine zr_go (t := (122, [some (.ref 0), some (.int x)], [.int (-102)], (zw_C g gl a al))) 1 rfl ?_
    exact zr_ret rfl trivial ⟨rfl, g, gl, a, al, sv, bt, rfl, hK, hr⟩
def zj_pr (P N : Nat) (c : Nat → Nat) (s0 t : Nat) : Nat := (zj_jn P N c (zk_pt (zv_np P N) s0 (2 * t + 1)) (zk_pt (zv_np P N) s0 (2 * t + 2))).toNat
def zj_dr (P N : Nat) (c : Nat → Nat) (n s0 : Nat) (z : Int32) : Int32 := if z = 0 then nI (zS (zk_on (zv_np P N) s0 (zw_oo P N c)) n) else if z = 1 then nI (zS (zj_pr P N c s0) n) else nI (zk_s s0 (2 * n))
def ac_drawn (P N : Nat) (c : Nat → Nat) (x y z : Int32) : Int32 := if (1 ≤ x ∧ x ≤ 100) ∧ 0 ≤ y ∧ 0 ≤ z ∧ z ≤ 2 then (if 0 < P then zj_dr P N c (zx_k x) (zx_k y) z else -103) else -102
theorem zp_C_drawn (w0 : List zm_E) (P N : Nat) (c : Nat → Nat) (n0 : Nat) (e0 : Nat → Nat) (n1 : Nat) (e1 : Nat → Nat) (n : Nat) (cd : Nat → Nat) (K M : Nat) (e : Nat → Nat) (fr fi wa : Nat) (hw : zKW w0 P N c n0 e0 n1 e1 n cd K M e fr fi wa) (x y z : Int32) : zm_Ev zt_get 6 85 [.ref 0, .int x, .int y, .int z] w0 (fun v w => v = some (.int (ac_drawn P N c x y z)) ∧ zKW w P N c n0 e0 n1 e1 n cd K M e fr fi wa) := by
  obtain ⟨g, gl, a, al, sv, bt, rfl, hK, hr⟩ := hw
  unfold ac_drawn
  refine zr_ev zt_X_drawn rfl rfl ?_
  show zm_Run zt_get 5 zt_X_drawn (0, [some (.ref 0), some (.int x), some (.int y), some (.int z), none, none, none, none, none, none], [], (zw_C g gl a al)) _
  refine zr_go (t := (2, [some (.ref 0), some (.int x), some (.int y), some (.int z), none, none, none, none, none, none], [.int 1, .int x], (zw_C g gl a al))) 2 rfl ?_
  refine zr_if (c := x < 1) (t := (24, [some (.ref 0), some (.int x), some (.int y), some (.int z), none, none, none, none, none, none], [], (zw_C g gl a al))) (f := (5, [some (.ref 0), some (.int x), some (.int y), some (.int z), none, none, none, none, none, none], [], (zw_C g gl a al))) rfl (fun h1 => ?_) (fun h1 => ?_)
  · skip
    rw [if_neg (fun q => absurd h1 (Int32.not_lt.mpr q.1.1))]
    refine zr_go (t := (26, [some (.ref 0), some (.int x), some (.int y), some (.int z), none, none, none, none, none, none], [.int (-102)], (zw_C g gl a al))) 1 rfl ?_
    exact zr_ret rfl trivial ⟨rfl, g, gl, a, al, sv, bt, rfl, hK, hr⟩
  · skip
    refine zr_go (t := (8, [some (.ref 0), some (.int x), some (.int y), some (.int z), none, none, none, none, none, none], [.int 100, .int x], (zw_C g gl a al))) 2 rfl ?_
    refine zr_if (c := 100 < x) (t := (24, [some (.ref 0), some (.int x), some (.int y), some (.int z), none, none, none, none, none, none], [], (zw_C g gl a al))) (f := (11, [some (.ref 0), some (.int x), some (.int y), some (.int z), none, none, none, none, none, none], [], (zw_C g gl a al))) rfl (fun h2 => ?_) (fun h2 => ?_)
    · skip
      rw [if_neg (fun q => absurd h2 (Int32.not_lt.mpr q.1.2))]
      refine zr_go (t := (26, [some (.ref 0), some (.int x), some (.int y), some (.int z), none, none, none, none, none, none], [.int (-102)], (zw_C g gl a al))) 1 rfl ?_
      exact zr_ret rfl trivial ⟨rfl, g, gl, a, al, sv, bt, rfl, hK, hr⟩
    · skip
      refine zr_go (t := (12, [some (.ref 0), some (.int x), some (.int y), some (.int z), none, none, none, none, none, none], [.int y], (zw_C g gl a al))) 1 rfl ?_
      refine zr_if (c := y < 0) (t := (24, [some (.ref 0), some (.int x), some (.int y), some (.int z), none, none, none, none, none, none], [], (zw_C g gl a al))) (f := (15, [some (.ref 0), some (.int x), some (.int y), some (.int z), none, none, none, none, none, none], [], (zw_C g gl a al))) rfl (fun h3 => ?_) (fun h3 => ?_)
      · skip
        rw [if_neg (fun q => absurd h3 (Int32.not_lt.mpr q.2.1))]
        refine zr_go (t := (26, [some (.ref 0), some (.int x), some (.int y), some (.int z), none, none, none, none, none, none], [.int (-102)], (zw_C g gl a al))) 1 rfl ?_
        exact zr_ret rfl trivial ⟨rfl, g, gl, a, al, sv, bt, rfl, hK, hr⟩
      · skip
        refine zr_go (t := (16, [some (.ref 0), some (.int x), some (.int y), some (.int z), none, none, none, none, none, none], [.int z], (zw_C g gl a al))) 1 rfl ?_
        refine zr_if (c := z < 0) (t := (24, [some (.ref 0), some (.int x), some (.int y), some (.int z), none, none, none, none, none, none], [], (zw_C g gl a al))) (f := (19, [some (.ref 0), some (.int x), some (.int y), some (.int z), none, none, none, none, none, none], [], (zw_C g gl a al))) rfl (fun h4 => ?_) (fun h4 => ?_)
        · skip
          rw [if_neg (fun q => absurd h4 (Int32.not_lt.mpr q.2.2.1))]
          refine zr_go (t := (26, [some (.ref 0), some (.int x), some (.int y), some (.int z), none, none, none, none, none, none], [.int (-102)], (zw_C g gl a al))) 1 rfl ?_
          exact zr_ret rfl trivial ⟨rfl, g, gl, a, al, sv, bt, rfl, hK, hr⟩
        · skip
          refine zr_go (t := (21, [some (.ref 0), some (.int x), some (.int y), some (.int z), none, none, none, none, none, none], [.int 2, .int z], (zw_C g gl a al))) 2 rfl ?_
          refine zr_if (c := z ≤ 2) (t := (27, [some (.ref 0), some (.int x), some (.int y), some (.int z), none, none, none, none, none, none], [], (zw_C g gl a al))) (f := (24, [some (.ref 0), some (.int x), some (.int y), some (.int z), none, none, none, none, none, none], [], (zw_C g gl a al))) rfl (fun h5 => ?_) (fun h5 => ?_)
          · skip
            rw [if_pos ⟨⟨Int32.not_lt.mp h1, Int32.not_lt.mp h2⟩, Int32.not_lt.mp h3, Int32.not_lt.mp h4, h5⟩]
            obtain ⟨hx1, hx2, hx3⟩ := zk_of (Int32.not_lt.mp h1) (Int32.not_lt.mp h2)
            obtain ⟨hy1, hy2⟩ := zk_of0 (Int32.not_lt.mp h3)
            clear h1 h2 h3
            generalize zx_k x = m at hx1 hx2 hx3 ⊢
            generalize zx_k y = s0 at hy1 hy2 ⊢
            subst hx3 hy2
            refine zr_go (t := (28, [some (.ref 0), some (.int (nI m)), some (.int (nI s0)), some (.int z), none, none, none, none, none, none], [.ref 0], (zw_C g gl a al))) 1 rfl ?_
            refine zr_call (t := (31, [some (.ref 0), some (.int (nI m)), some (.int (nI s0)), some (.int z), none, none, none, none, none, none], [], (zw_C g gl a al))) rfl (Nat.le_of_ble_eq_true rfl : 4 ≤ 5) (zs_C_hasForm g gl a al P N c sv bt n0 e0 n1 e1 hK) ?_
            rintro _ _ ⟨rfl, g1, a1, rfl, hK1, he1⟩
            have hdb := zb_le (decide (0 < P))
            have hr1 := zK_r_e he1 hr
            show zm_Run zt_get 5 zt_X_drawn (31, [some (.ref 0), some (.int (nI m)), some (.int (nI s0)), some (.int z), none, none, none, none, none, none], [.int (nI ((decide (0 < P)).toNat))], (zw_C g1 gl a1 al)) _
            refine zr_ine (x := nI ((decide (0 < P)).toNat)) (y := 0) ((decide (0 < P)).toNat) 0 rfl rfl (by omega) (by omega) (t := (37, [some (.ref 0), some (.int (nI m)), some (.int (nI s0)), some (.int z), none, none, none, none, none, none], [], (zw_C g1 gl a1 al))) (f := (34, [some (.ref 0), some (.int (nI m)), some (.int (nI s0)), some (.int z), none, none, none, none, none, none], [], (zw_C g1 gl a1 al))) rfl (fun h6 => ?_) (fun h6 => ?_)
            · skip
              have hPp : 0 < P := of_decide_eq_true (zb_1n _ h6)
              rw [if_pos hPp]
              obtain ⟨hm, hc4, h4, h5, h24, h26, h12, hcase⟩ := id hK1
              rcases hcase with ⟨q1, q2, q, q3, _⟩ | ⟨⟨hok, h11, hcP, hQ⟩, hsv, hbt, hnb⟩
              · skip
                exfalso; omega
              · skip
                have hN6 := zv_okN hok
                have hN3 := hok.2.1
                obtain ⟨hP0, hP5⟩ := zv_P5 hok.1
                obtain ⟨-, hnp1, hnp0⟩ := zv_nums hok
                have hon1 := (zj_nums (c := c) hok).1
                have hns1 := (zj_nums (c := c) hok).2
                have hd : decide (0 < P) = true := decide_eq_true hP0
                have hv := hsv hd
                have h17 := hQ.2.2.2.1
                have h18 := hv.1
                have h19 : g1 19 = nI (zj_ns P N c) := hv.2.1
                refine zr_go (t := (49, [some (.ref 0), some (.int (nI m)), some (.int (nI s0)), some (.int z), some (.int 0), some (.int 0), some (.int (nI s0)), some (.int 0), none, none], [], (zw_C g1 gl a1 al))) 8 rfl ?_
                refine zr_loop (fun zq : Nat × Nat × Nat × Nat => (49, [some (.ref 0), some (.int (nI m)), some (.int (nI s0)), some (.int z), some (.int (nI zq.2.1)), some (.int (nI zq.2.2.1)), some (.int (nI zq.2.2.2)), some (.int (nI zq.1)), none, none], [], (zw_C g1 gl a1 al))) (fun zq => zq.1 ≤ m ∧ zq.2.1 = zS (zk_on (zv_np P N) s0 (zw_oo P N c)) zq.1 ∧ zq.2.2.1 = zS (zj_pr P N c s0) zq.1 ∧ zq.2.2.2 = zk_s s0 (2 * zq.1)) (fun zq => m - zq.1) ?_ (0, 0, 0, s0) ⟨by omega, rfl, rfl, rfl⟩
                rintro ⟨t, A, B, s⟩ ⟨ht, hA, hB, hs⟩ ih
                try dsimp only at *
                have hsl : s < 2147483648 := by rw [hs]; exact zk_s_lt hy1 _
                refine zr_go (t := (52, [some (.ref 0), some (.int (nI m)), some (.int (nI s0)), some (.int z), some (.int (nI A)), some (.int (nI B)), some (.int (nI s)), some (.int (nI t)), none, none], [.int (nI m), .int (nI t)], (zw_C g1 gl a1 al))) 2 rfl ?_
                refine zr_ige (x := nI t) (y := nI m) t m rfl rfl (by omega) (by omega) (t := (175, [some (.ref 0), some (.int (nI m)), some (.int (nI s0)), some (.int z), some (.int (nI A)), some (.int (nI B)), some (.int (nI s)), some (.int (nI t)), none, none], [], (zw_C g1 gl a1 al))) (f := (55, [some (.ref 0), some (.int (nI m)), some (.int (nI s0)), some (.int z), some (.int (nI A)), some (.int (nI B)), some (.int (nI s)), some (.int (nI t)), none, none], [], (zw_C g1 gl a1 al))) rfl (fun h7 => ?_) (fun h7 => ?_)
                · skip
                  have etm : m = t := by omega
                  subst etm
                  unfold zj_dr
                  refine zr_go (t := (176, [some (.ref 0), some (.int (nI m)), some (.int (nI s0)), some (.int z), some (.int (nI A)), some (.int (nI B)), some (.int (nI s)), some (.int (nI m)), none, none], [.int z], (zw_C g1 gl a1 al))) 1 rfl ?_
                  refine zr_if (c := z = 0) (t := (179, [some (.ref 0), some (.int (nI m)), some (.int (nI s0)), some (.int z), some (.int (nI A)), some (.int (nI B)), some (.int (nI s)), some (.int (nI m)), none, none], [], (zw_C g1 gl a1 al))) (f := (182, [some (.ref 0), some (.int (nI m)), some (.int (nI s0)), some (.int z), some (.int (nI A)), some (.int (nI B)), some (.int (nI s)), some (.int (nI m)), none, none], [], (zw_C g1 gl a1 al))) rfl (fun h8 => ?_) (fun h8 => ?_)
                  · skip
                    rw [if_pos h8, ← hA]
                    refine zr_go (t := (181, [some (.ref 0), some (.int (nI m)), some (.int (nI s0)), some (.int z), some (.int (nI A)), some (.int (nI B)), some (.int (nI s)), some (.int (nI m)), none, none], [.int (nI A)], (zw_C g1 gl a1 al))) 1 rfl ?_
                    exact zr_ret rfl trivial ⟨rfl, g1, gl, a1, al, _, bt, rfl, hK1, hr1⟩
                  · skip
                    rw [if_neg h8]
                    refine zr_go (t := (184, [some (.ref 0), some (.int (nI m)), some (.int (nI s0)), some (.int z), some (.int (nI A)), some (.int (nI B)), some (.int (nI s)), some (.int (nI m)), none, none], [.int 1, .int z], (zw_C g1 gl a1 al))) 2 rfl ?_
                    refine zr_if (c := z = 1) (t := (187, [some (.ref 0), some (.int (nI m)), some (.int (nI s0)), some (.int z), some (.int (nI A)), some (.int (nI B)), some (.int (nI s)), some (.int (nI m)), none, none], [], (zw_C g1 gl a1 al))) (f := (192, [some (.ref 0), some (.int (nI m)), some (.int (nI s0)), some (.int z), some (.int (nI A)), some (.int (nI B)), some (.int (nI s)), some (.int (nI m)), none, none], [], (zw_C g1 gl a1 al))) rfl (fun h9 => ?_) (fun h9 => ?_)
                    · skip
                      rw [if_pos h9, ← hB]
                      refine zr_go (t := (194, [some (.ref 0), some (.int (nI m)), some (.int (nI s0)), some (.int z), some (.int (nI A)), some (.int (nI B)), some (.int (nI s)), some (.int (nI m)), none, none], [.int (nI B)], (zw_C g1 gl a1 al))) 2 rfl ?_
                      exact zr_ret rfl trivial ⟨rfl, g1, gl, a1, al, _, bt, rfl, hK1, hr1⟩
                    · skip
                      rw [if_neg h9, ← hs]
                      refine zr_go (t := (194, [some (.ref 0), some (.int (nI m)), some (.int (nI s0)), some (.int z), some (.int (nI A)), some (.int (nI B)), some (.int (nI s)), some (.int (nI m)), none, none], [.int (nI s)], (zw_C g1 gl a1 al))) 1 rfl ?_
                      exact zr_ret rfl trivial ⟨rfl, g1, gl, a1, al, _, bt, rfl, hK1, hr1⟩
                · skip
                  refine zr_go (t := (57, [some (.ref 0), some (.int (nI m)), some (.int (nI s0)), some (.int z), some (.int (nI A)), some (.int (nI B)), some (.int (nI s)), some (.int (nI t)), none, none], [.int (nI s)], (zw_C g1 gl a1 al))) 1 rfl ?_
                  refine zr_call (t := (60, [some (.ref 0), some (.int (nI m)), some (.int (nI s0)), some (.int z), some (.int (nI A)), some (.int (nI B)), some (.int (nI s)), some (.int (nI t)), none, none], [], (zw_C g1 gl a1 al))) rfl (Nat.le_of_ble_eq_true rfl : 1 ≤ 5) (zs_C_nextSeed g1 gl a1 al s hsl) ?_
                  rintro _ _ ⟨rfl, rfl⟩
                  show zm_Run zt_get 5 zt_X_drawn (60, [some (.ref 0), some (.int (nI m)), some (.int (nI s0)), some (.int z), some (.int (nI A)), some (.int (nI B)), some (.int (nI s)), some (.int (nI t)), none, none], [.int (nI (zk_nx s))], (zw_C g1 gl a1 al)) _
                  obtain ⟨s1, hs1⟩ : ∃ q, q = zk_nx s := ⟨_, rfl⟩
                  rw [← hs1]
                  have hs1l : s1 < 2147483648 := by rw [hs1]; exact zk_nx_lt _
                  have hs1e : s1 = zk_s s0 (2 * t + 1) := by rw [hs1, hs]; rfl
                  refine zr_go (t := (67, [some (.ref 0), some (.int (nI m)), some (.int (nI s0)), some (.int z), some (.int (nI A)), some (.int (nI B)), some (.int (nI s1)), some (.int (nI t)), none, none], [.int 65536, .int (nI s1)], (zw_C g1 gl a1 al))) 3 rfl ?_
                  refine zr_cd (t := (68, [some (.ref 0), some (.int (nI m)), some (.int (nI s0)), some (.int z), some (.int (nI A)), some (.int (nI B)), some (.int (nI s1)), some (.int (nI t)), none, none], [.int ((nI s1) / 65536)], (zw_C g1 gl a1 al))) rfl (zn_ne0 (b := 65536) rfl (by decide) (by decide)) ?_
                  rw [show (nI s1) / 65536 = nI (s1 / 65536) from (zn_div rfl rfl (by omega) (by omega) (by omega))]
                  refine zr_go (t := (75, [some (.ref 0), some (.int (nI m)), some (.int (nI s0)), some (.int z), some (.int (nI A)), some (.int (nI B)), some (.int (nI s1)), some (.int (nI t)), none, none], [.int (g1 17), .int (nI (s1 / 65536))], (zw_C g1 gl a1 al))) 3 rfl ?_
                  rw [h17]
                  refine zr_call (t := (78, [some (.ref 0), some (.int (nI m)), some (.int (nI s0)), some (.int z), some (.int (nI A)), some (.int (nI B)), some (.int (nI s1)), some (.int (nI t)), none, none], [], (zw_C g1 gl a1 al))) rfl (Nat.le_of_ble_eq_true rfl : 1 ≤ 5) (zs_C_modN g1 gl a1 al (nI (s1 / 65536)) (s1 / 65536) (zv_np P N) rfl (by omega) hnp0 (by omega)) ?_
                  rintro _ _ ⟨rfl, rfl⟩
                  show zm_Run zt_get 5 zt_X_drawn (78, [some (.ref 0), some (.int (nI m)), some (.int (nI s0)), some (.int z), some (.int (nI A)), some (.int (nI B)), some (.int (nI s1)), some (.int (nI t)), none, none], [.int (nI (s1 / 65536 % zv_np P N))], (zw_C g1 gl a1 al)) _
                  obtain ⟨p, hp⟩ : ∃ q, q = s1 / 65536 % zv_np P N := ⟨_, rfl⟩
                  rw [← hp]
                  have hpl : p < zv_np P N := by rw [hp]; exact Nat.mod_lt _ hnp0
                  have hpe : p = zk_pt (zv_np P N) s0 (2 * t + 1) := by rw [hp, hs1e]; rfl
                  refine zr_go (t := (82, [some (.ref 0), some (.int (nI m)), some (.int (nI s0)), some (.int z), some (.int (nI A)), some (.int (nI B)), some (.int (nI s1)), some (.int (nI t)), some (.int (nI p)), none], [.int (nI s1)], (zw_C g1 gl a1 al))) 2 rfl ?_
                  refine zr_call (t := (85, [some (.ref 0), some (.int (nI m)), some (.int (nI s0)), some (.int z), some (.int (nI A)), some (.int (nI B)), some (.int (nI s1)), some (.int (nI t)), some (.int (nI p)), none], [], (zw_C g1 gl a1 al))) rfl (Nat.le_of_ble_eq_true rfl : 1 ≤ 5) (zs_C_nextSeed g1 gl a1 al s1 hs1l) ?_
                  rintro _ _ ⟨rfl, rfl⟩
                  show zm_Run zt_get 5 zt_X_drawn (85, [some (.ref 0), some (.int (nI m)), some (.int (nI s0)), some (.int z), some (.int (nI A)), some (.int (nI B)), some (.int (nI s1)), some (.int (nI t)), some (.int (nI p)), none], [.int (nI (zk_nx s1))], (zw_C g1 gl a1 al)) _
                  obtain ⟨s2, hs2⟩ : ∃ q, q = zk_nx s1 := ⟨_, rfl⟩
                  rw [← hs2]
                  have hs2l : s2 < 2147483648 := by rw [hs2]; exact zk_nx_lt _
                  have hs2e : s2 = zk_s s0 (2 * t + 2) := by rw [hs2, hs1e]; rfl
                  refine zr_go (t := (92, [some (.ref 0), some (.int (nI m)), some (.int (nI s0)), some (.int z), some (.int (nI A)), some (.int (nI B)), some (.int (nI s2)), some (.int (nI t)), some (.int (nI p)), none], [.int 65536, .int (nI s2)], (zw_C g1 gl a1 al))) 3 rfl ?_
                  refine zr_cd (t := (93, [some (.ref 0), some (.int (nI m)), some (.int (nI s0)), some (.int z), some (.int (nI A)), some (.int (nI B)), some (.int (nI s2)), some (.int (nI t)), some (.int (nI p)), none], [.int ((nI s2) / 65536)], (zw_C g1 gl a1 al))) rfl (zn_ne0 (b := 65536) rfl (by decide) (by decide)) ?_
                  rw [show (nI s2) / 65536 = nI (s2 / 65536) from (zn_div rfl rfl (by omega) (by omega) (by omega))]
                  refine zr_go (t := (100, [some (.ref 0), some (.int (nI m)), some (.int (nI s0)), some (.int z), some (.int (nI A)), some (.int (nI B)), some (.int (nI s2)), some (.int (nI t)), some (.int (nI p)), none], [.int (g1 17), .int (nI (s2 / 65536))], (zw_C g1 gl a1 al))) 3 rfl ?_
                  rw [h17]
                  refine zr_call (t := (103, [some (.ref 0), some (.int (nI m)), some (.int (nI s0)), some (.int z), some (.int (nI A)), some (.int (nI B)), some (.int (nI s2)), some (.int (nI t)), some (.int (nI p)), none], [], (zw_C g1 gl a1 al))) rfl (Nat.le_of_ble_eq_true rfl : 1 ≤ 5) (zs_C_modN g1 gl a1 al (nI (s2 / 65536)) (s2 / 65536) (zv_np P N) rfl (by omega) hnp0 (by omega)) ?_
                  rintro _ _ ⟨rfl, rfl⟩
                  show zm_Run zt_get 5 zt_X_drawn (103, [some (.ref 0), some (.int (nI m)), some (.int (nI s0)), some (.int z), some (.int (nI A)), some (.int (nI B)), some (.int (nI s2)), some (.int (nI t)), some (.int (nI p)), none], [.int (nI (s2 / 65536 % zv_np P N))], (zw_C g1 gl a1 al)) _
                  obtain ⟨q, hq⟩ : ∃ q, q = s2 / 65536 % zv_np P N := ⟨_, rfl⟩
                  rw [← hq]
                  have hql : q < zv_np P N := by rw [hq]; exact Nat.mod_lt _ hnp0
                  have hqe : q = zk_pt (zv_np P N) s0 (2 * t + 2) := by rw [hq, hs2e]; rfl
                  refine zr_go (t := (113, [some (.ref 0), some (.int (nI m)), some (.int (nI s0)), some (.int z), some (.int (nI A)), some (.int (nI B)), some (.int (nI s2)), some (.int (nI t)), some (.int (nI p)), some (.int (nI q))], [.int (nI p), .ref 4, .int (nI A)], (zw_C g1 gl a1 al))) 5 rfl ?_
                  refine zr_call (t := (116, [some (.ref 0), some (.int (nI m)), some (.int (nI s0)), some (.int z), some (.int (nI A)), some (.int (nI B)), some (.int (nI s2)), some (.int (nI t)), some (.int (nI p)), some (.int (nI q))], [.int (nI A)], (zw_C g1 gl a1 al))) rfl (Nat.le_of_ble_eq_true rfl : 1 ≤ 5) (zs_C_isOn g1 gl a1 al p (zv_val P N c (zv_y P N p)) (by omega) (hv.2.2.1 p hpl) (by have := zv_val_lt (N := N) (c := c) (x := zv_y P N p) hP0; omega)) ?_
                  rintro _ _ ⟨rfl, rfl⟩
                  show zm_Run zt_get 5 zt_X_drawn (116, [some (.ref 0), some (.int (nI m)), some (.int (nI s0)), some (.int z), some (.int (nI A)), some (.int (nI B)), some (.int (nI s2)), some (.int (nI t)), some (.int (nI p)), some (.int (nI q))], [.int (nI ((zw_oo P N c p).toNat)), .int (nI A)], (zw_C g1 gl a1 al)) _
                  have hl_p := zb_le (zw_oo P N c p)
                  refine zr_ieq (x := nI ((zw_oo P N c p).toNat)) (y := 0) ((zw_oo P N c p).toNat) 0 rfl rfl (by omega) (by omega) (t := (123, [some (.ref 0), some (.int (nI m)), some (.int (nI s0)), some (.int z), some (.int (nI A)), some (.int (nI B)), some (.int (nI s2)), some (.int (nI t)), some (.int (nI p)), some (.int (nI q))], [.int (nI A)], (zw_C g1 gl a1 al))) (f := (119, [some (.ref 0), some (.int (nI m)), some (.int (nI s0)), some (.int z), some (.int (nI A)), some (.int (nI B)), some (.int (nI s2)), some (.int (nI t)), some (.int (nI p)), some (.int (nI q))], [.int (nI A)], (zw_C g1 gl a1 al))) rfl (fun hop => ?_) (fun hop => ?_)
                  · skip
                    refine zr_go (t := (130, [some (.ref 0), some (.int (nI m)), some (.int (nI s0)), some (.int z), some (.int (nI A)), some (.int (nI B)), some (.int (nI s2)), some (.int (nI t)), some (.int (nI p)), some (.int (nI q))], [.int (nI q), .ref 4, .int 0, .int (nI A)], (zw_C g1 gl a1 al))) 4 rfl ?_
                    refine zr_call (t := (133, [some (.ref 0), some (.int (nI m)), some (.int (nI s0)), some (.int z), some (.int (nI A)), some (.int (nI B)), some (.int (nI s2)), some (.int (nI t)), some (.int (nI p)), some (.int (nI q))], [.int 0, .int (nI A)], (zw_C g1 gl a1 al))) rfl (Nat.le_of_ble_eq_true rfl : 1 ≤ 5) (zs_C_isOn g1 gl a1 al q (zv_val P N c (zv_y P N q)) (by omega) (hv.2.2.1 q hql) (by have := zv_val_lt (N := N) (c := c) (x := zv_y P N q) hP0; omega)) ?_
                    rintro _ _ ⟨rfl, rfl⟩
                    show zm_Run zt_get 5 zt_X_drawn (133, [some (.ref 0), some (.int (nI m)), some (.int (nI s0)), some (.int z), some (.int (nI A)), some (.int (nI B)), some (.int (nI s2)), some (.int (nI t)), some (.int (nI p)), some (.int (nI q))], [.int (nI ((zw_oo P N c q).toNat)), .int 0, .int (nI A)], (zw_C g1 gl a1 al)) _
                    have hl_q := zb_le (zw_oo P N c q)
                    refine zr_ieq (x := nI ((zw_oo P N c q).toNat)) (y := 0) ((zw_oo P N c q).toNat) 0 rfl rfl (by omega) (by omega) (t := (140, [some (.ref 0), some (.int (nI m)), some (.int (nI s0)), some (.int z), some (.int (nI A)), some (.int (nI B)), some (.int (nI s2)), some (.int (nI t)), some (.int (nI p)), some (.int (nI q))], [.int 0, .int (nI A)], (zw_C g1 gl a1 al))) (f := (136, [some (.ref 0), some (.int (nI m)), some (.int (nI s0)), some (.int z), some (.int (nI A)), some (.int (nI B)), some (.int (nI s2)), some (.int (nI t)), some (.int (nI p)), some (.int (nI q))], [.int 0, .int (nI A)], (zw_C g1 gl a1 al))) rfl (fun hoq => ?_) (fun hoq => ?_)
                    · skip
                      refine zr_go (t := (155, [some (.ref 0), some (.int (nI m)), some (.int (nI s0)), some (.int z), some (.int ((nI A) + (0 + 0))), some (.int (nI B)), some (.int (nI s2)), some (.int (nI t)), some (.int (nI p)), some (.int (nI q))], [.int (nI q), .int (nI p), .ref 4, .int (nI B)], (zw_C g1 gl a1 al))) 9 rfl ?_
                      refine zr_call (t := (158, [some (.ref 0), some (.int (nI m)), some (.int (nI s0)), some (.int z), some (.int ((nI A) + (0 + 0))), some (.int (nI B)), some (.int (nI s2)), some (.int (nI t)), some (.int (nI p)), some (.int (nI q))], [.int (nI B)], (zw_C g1 gl a1 al))) rfl (Nat.le_of_ble_eq_true rfl : 3 ≤ 5) (zs_C_areCol g1 gl a1 al P N hQ.2.1 hQ.2.2.1 hP0 hP5 hN6 p q (zv_val P N c (zv_y P N p)) (zv_val P N c (zv_y P N q)) (by omega) (by omega) (hv.2.2.1 p hpl) (by have := zv_val_lt (N := N) (c := c) (x := zv_y P N p) hP0; omega) (hv.2.2.1 q hql) (by have := zv_val_lt (N := N) (c := c) (x := zv_y P N q) hP0; omega) (zz_nm P N c (zv_y P N p)) (zv_y P N q) (fun i hi => hv.2.2.2.1 p hpl i hi) (fun i _ => by have := zz_nm_lt (N := N) (c := c) (x := zv_y P N p) hP0 i; omega) (fun i hi => hQ.2.2.2.2 q i hql hi) (fun i _ => zv_y4 hok)) ?_
                      rintro _ _ ⟨rfl, rfl⟩
                      show zm_Run zt_get 5 zt_X_drawn (158, [some (.ref 0), some (.int (nI m)), some (.int (nI s0)), some (.int z), some (.int ((nI A) + (0 + 0))), some (.int (nI B)), some (.int (nI s2)), some (.int (nI t)), some (.int (nI p)), some (.int (nI q))], [.int (nI ((zj_jn P N c p q).toNat)), .int (nI B)], (zw_C g1 gl a1 al)) _
                      have hl_j := zb_le (zj_jn P N c p q)
                      refine zr_ieq (x := nI ((zj_jn P N c p q).toNat)) (y := 0) ((zj_jn P N c p q).toNat) 0 rfl rfl (by omega) (by omega) (t := (165, [some (.ref 0), some (.int (nI m)), some (.int (nI s0)), some (.int z), some (.int ((nI A) + (0 + 0))), some (.int (nI B)), some (.int (nI s2)), some (.int (nI t)), some (.int (nI p)), some (.int (nI q))], [.int (nI B)], (zw_C g1 gl a1 al))) (f := (161, [some (.ref 0), some (.int (nI m)), some (.int (nI s0)), some (.int z), some (.int ((nI A) + (0 + 0))), some (.int (nI B)), some (.int (nI s2)), some (.int (nI t)), some (.int (nI p)), some (.int (nI q))], [.int (nI B)], (zw_C g1 gl a1 al))) rfl (fun hj => ?_) (fun hj => ?_)
                      · skip
                        refine zr_go (t := (49, [some (.ref 0), some (.int (nI m)), some (.int (nI s0)), some (.int z), some (.int ((nI A) + (0 + 0))), some (.int ((nI B) + 0)), some (.int (nI s2)), some (.int ((nI t) + 1)), some (.int (nI p)), some (.int (nI q))], [], (zw_C g1 gl a1 al))) 5 rfl ?_
                        have hA2 : A + (0 + 0) = zS (zk_on (zv_np P N) s0 (zw_oo P N c)) (t + 1) := by rw [hA]; show _ = zS (zk_on (zv_np P N) s0 (zw_oo P N c)) t + ((zw_oo P N c (zk_pt (zv_np P N) s0 (2 * t + 1))).toNat + (zw_oo P N c (zk_pt (zv_np P N) s0 (2 * t + 2))).toNat); rw [← hpe, ← hqe]; omega
                        have hB2 : B + 0 = zS (zj_pr P N c s0) (t + 1) := by rw [hB]; show _ = zS (zj_pr P N c s0) t + (zj_jn P N c (zk_pt (zv_np P N) s0 (2 * t + 1)) (zk_pt (zv_np P N) s0 (2 * t + 2))).toNat; rw [← hpe, ← hqe]; omega
                        rw [show (nI t) + 1 = nI (t + 1) from (zn_add rfl rfl)]
                        rw [show (nI A) + (0 + 0) = nI (A + (0 + 0)) from (zn_add rfl (zn_add rfl rfl))]
                        rw [show (nI B) + 0 = nI (B + 0) from (zn_add rfl rfl)]
                        refine zr_forget [some (.ref 0), some (.int (nI m)), some (.int (nI s0)), some (.int z), some (.int (nI (A + (0 + 0)))), some (.int (nI (B + 0))), some (.int (nI s2)), some (.int (nI (t + 1))), none, none] ⟨Or.inr rfl, Or.inr rfl, Or.inr rfl, Or.inr rfl, Or.inr rfl, Or.inr rfl, Or.inr rfl, Or.inr rfl, Or.inl rfl, Or.inl rfl, trivial⟩ ?_
                        exact ih (t + 1, A + (0 + 0), B + 0, s2) ⟨by omega, hA2, hB2, hs2e⟩ (by omega)
                      · skip
                        refine zr_go (t := (49, [some (.ref 0), some (.int (nI m)), some (.int (nI s0)), some (.int z), some (.int ((nI A) + (0 + 0))), some (.int ((nI B) + 1)), some (.int (nI s2)), some (.int ((nI t) + 1)), some (.int (nI p)), some (.int (nI q))], [], (zw_C g1 gl a1 al))) 6 rfl ?_
                        have hA2 : A + (0 + 0) = zS (zk_on (zv_np P N) s0 (zw_oo P N c)) (t + 1) := by rw [hA]; show _ = zS (zk_on (zv_np P N) s0 (zw_oo P N c)) t + ((zw_oo P N c (zk_pt (zv_np P N) s0 (2 * t + 1))).toNat + (zw_oo P N c (zk_pt (zv_np P N) s0 (2 * t + 2))).toNat); rw [← hpe, ← hqe]; omega
                        have hB2 : B + 1 = zS (zj_pr P N c s0) (t + 1) := by rw [hB]; show _ = zS (zj_pr P N c s0) t + (zj_jn P N c (zk_pt (zv_np P N) s0 (2 * t + 1)) (zk_pt (zv_np P N) s0 (2 * t + 2))).toNat; rw [← hpe, ← hqe]; omega
                        rw [show (nI t) + 1 = nI (t + 1) from (zn_add rfl rfl)]
                        rw [show (nI A) + (0 + 0) = nI (A + (0 + 0)) from (zn_add rfl (zn_add rfl rfl))]
                        rw [show (nI B) + 1 = nI (B + 1) from (zn_add rfl rfl)]
                        refine zr_forget [some (.ref 0), some (.int (nI m)), some (.int (nI s0)), some (.int z), some (.int (nI (A + (0 + 0)))), some (.int (nI (B + 1))), some (.int (nI s2)), some (.int (nI (t + 1))), none, none] ⟨Or.inr rfl, Or.inr rfl, Or.inr rfl, Or.inr rfl, Or.inr rfl, Or.inr rfl, Or.inr rfl, Or.inr rfl, Or.inl rfl, Or.inl rfl, trivial⟩ ?_
                        exact ih (t + 1, A + (0 + 0), B + 1, s2) ⟨by omega, hA2, hB2, hs2e⟩ (by omega)
                    · skip
                      refine zr_go (t := (155, [some (.ref 0), some (.int (nI m)), some (.int (nI s0)), some (.int z), some (.int ((nI A) + (0 + 1))), some (.int (nI B)), some (.int (nI s2)), some (.int (nI t)), some (.int (nI p)), some (.int (nI q))], [.int (nI q), .int (nI p), .ref 4, .int (nI B)], (zw_C g1 gl a1 al))) 10 rfl ?_
                      refine zr_call (t := (158, [some (.ref 0), some (.int (nI m)), some (.int (nI s0)), some (.int z), some (.int ((nI A) + (0 + 1))), some (.int (nI B)), some (.int (nI s2)), some (.int (nI t)), some (.int (nI p)), some (.int (nI q))], [.int (nI B)], (zw_C g1 gl a1 al))) rfl (Nat.le_of_ble_eq_true rfl : 3 ≤ 5) (zs_C_areCol g1 gl a1 al P N hQ.2.1 hQ.2.2.1 hP0 hP5 hN6 p q (zv_val P N c (zv_y P N p)) (zv_val P N c (zv_y P N q)) (by omega) (by omega) (hv.2.2.1 p hpl) (by have := zv_val_lt (N := N) (c := c) (x := zv_y P N p) hP0; omega) (hv.2.2.1 q hql) (by have := zv_val_lt (N := N) (c := c) (x := zv_y P N q) hP0; omega) (zz_nm P N c (zv_y P N p)) (zv_y P N q) (fun i hi => hv.2.2.2.1 p hpl i hi) (fun i _ => by have := zz_nm_lt (N := N) (c := c) (x := zv_y P N p) hP0 i; omega) (fun i hi => hQ.2.2.2.2 q i hql hi) (fun i _ => zv_y4 hok)) ?_
                      rintro _ _ ⟨rfl, rfl⟩
                      show zm_Run zt_get 5 zt_X_drawn (158, [some (.ref 0), some (.int (nI m)), some (.int (nI s0)), some (.int z), some (.int ((nI A) + (0 + 1))), some (.int (nI B)), some (.int (nI s2)), some (.int (nI t)), some (.int (nI p)), some (.int (nI q))], [.int (nI ((zj_jn P N c p q).toNat)), .int (nI B)], (zw_C g1 gl a1 al)) _
                      have hl_j := zb_le (zj_jn P N c p q)
                      refine zr_ieq (x := nI ((zj_jn P N c p q).toNat)) (y := 0) ((zj_jn P N c p q).toNat) 0 rfl rfl (by omega) (by omega) (t := (165, [some (.ref 0), some (.int (nI m)), some (.int (nI s0)), some (.int z), some (.int ((nI A) + (0 + 1))), some (.int (nI B)), some (.int (nI s2)), some (.int (nI t)), some (.int (nI p)), some (.int (nI q))], [.int (nI B)], (zw_C g1 gl a1 al))) (f := (161, [some (.ref 0), some (.int (nI m)), some (.int (nI s0)), some (.int z), some (.int ((nI A) + (0 + 1))), some (.int (nI B)), some (.int (nI s2)), some (.int (nI t)), some (.int (nI p)), some (.int (nI q))], [.int (nI B)], (zw_C g1 gl a1 al))) rfl (fun hj => ?_) (fun hj => ?_)
                      · skip
                        refine zr_go (t := (49, [some (.ref 0), some (.int (nI m)), some (.int (nI s0)), some (.int z), some (.int ((nI A) + (0 + 1))), some (.int ((nI B) + 0)), some (.int (nI s2)), some (.int ((nI t) + 1)), some (.int (nI p)), some (.int (nI q))], [], (zw_C g1 gl a1 al))) 5 rfl ?_
                        have hA2 : A + (0 + 1) = zS (zk_on (zv_np P N) s0 (zw_oo P N c)) (t + 1) := by rw [hA]; show _ = zS (zk_on (zv_np P N) s0 (zw_oo P N c)) t + ((zw_oo P N c (zk_pt (zv_np P N) s0 (2 * t + 1))).toNat + (zw_oo P N c (zk_pt (zv_np P N) s0 (2 * t + 2))).toNat); rw [← hpe, ← hqe]; omega
                        have hB2 : B + 0 = zS (zj_pr P N c s0) (t + 1) := by rw [hB]; show _ = zS (zj_pr P N c s0) t + (zj_jn P N c (zk_pt (zv_np P N) s0 (2 * t + 1)) (zk_pt (zv_np P N) s0 (2 * t + 2))).toNat; rw [← hpe, ← hqe]; omega
                        rw [show (nI t) + 1 = nI (t + 1) from (zn_add rfl rfl)]
                        rw [show (nI A) + (0 + 1) = nI (A + (0 + 1)) from (zn_add rfl (zn_add rfl rfl))]
                        rw [show (nI B) + 0 = nI (B + 0) from (zn_add rfl rfl)]
                        refine zr_forget [some (.ref 0), some (.int (nI m)), some (.int (nI s0)), some (.int z), some (.int (nI (A + (0 + 1)))), some (.int (nI (B + 0))), some (.int (nI s2)), some (.int (nI (t + 1))), none, none] ⟨Or.inr rfl, Or.inr rfl, Or.inr rfl, Or.inr rfl, Or.inr rfl, Or.inr rfl, Or.inr rfl, Or.inr rfl, Or.inl rfl, Or.inl rfl, trivial⟩ ?_
                        exact ih (t + 1, A + (0 + 1), B + 0, s2) ⟨by omega, hA2, hB2, hs2e⟩ (by omega)
                      · skip
                        refine zr_go (t := (49, [some (.ref 0), some (.int (nI m)), some (.int (nI s0)), some (.int z), some (.int ((nI A) + (0 + 1))), some (.int ((nI B) + 1)), some (.int (nI s2)), some (.int ((nI t) + 1)), some (.int (nI p)), some (.int (nI q))], [], (zw_C g1 gl a1 al))) 6 rfl ?_
                        have hA2 : A + (0 + 1) = zS (zk_on (zv_np P N) s0 (zw_oo P N c)) (t + 1) := by rw [hA]; show _ = zS (zk_on (zv_np P N) s0 (zw_oo P N c)) t + ((zw_oo P N c (zk_pt (zv_np P N) s0 (2 * t + 1))).toNat + (zw_oo P N c (zk_pt (zv_np P N) s0 (2 * t + 2))).toNat); rw [← hpe, ← hqe]; omega
                        have hB2 : B + 1 = zS (zj_pr P N c s0) (t + 1) := by rw [hB]; show _ = zS (zj_pr P N c s0) t + (zj_jn P N c (zk_pt (zv_np P N) s0 (2 * t + 1)) (zk_pt (zv_np P N) s0 (2 * t + 2))).toNat; rw [← hpe, ← hqe]; omega
                        rw [show (nI t) + 1 = nI (t + 1) from (zn_add rfl rfl)]
                        rw [show (nI A) + (0 + 1) = nI (A + (0 + 1)) from (zn_add rfl (zn_add rfl rfl))]
                        rw [show (nI B) + 1 = nI (B + 1) from (zn_add rfl rfl)]
                        refine zr_forget [some (.ref 0), some (.int (nI m)), some (.int (nI s0)), some (.int z), some (.int (nI (A + (0 + 1)))), some (.int (nI (B + 1))), some (.int (nI s2)), some (.int (nI (t + 1))), none, none] ⟨Or.inr rfl, Or.inr rfl, Or.inr rfl, Or.inr rfl, Or.inr rfl, Or.inr rfl, Or.inr rfl, Or.inr rfl, Or.inl rfl, Or.inl rfl, trivial⟩ ?_
                        exact ih (t + 1, A + (0 + 1), B + 1, s2) ⟨by omega, hA2, hB2, hs2e⟩ (by omega)
                  · skip
                    refine zr_go (t := (130, [some (.ref 0), some (.int (nI m)), some (.int (nI s0)), some (.int z), some (.int (nI A)), some (.int (nI B)), some (.int (nI s2)), some (.int (nI t)), some (.int (nI p)), some (.int (nI q))], [.int (nI q), .ref 4, .int 1, .int (nI A)], (zw_C g1 gl a1 al))) 5 rfl ?_
                    refine zr_call (t := (133, [some (.ref 0), some (.int (nI m)), some (.int (nI s0)), some (.int z), some (.int (nI A)), some (.int (nI B)), some (.int (nI s2)), some (.int (nI t)), some (.int (nI p)), some (.int (nI q))], [.int 1, .int (nI A)], (zw_C g1 gl a1 al))) rfl (Nat.le_of_ble_eq_true rfl : 1 ≤ 5) (zs_C_isOn g1 gl a1 al q (zv_val P N c (zv_y P N q)) (by omega) (hv.2.2.1 q hql) (by have := zv_val_lt (N := N) (c := c) (x := zv_y P N q) hP0; omega)) ?_
                    rintro _ _ ⟨rfl, rfl⟩
                    show zm_Run zt_get 5 zt_X_drawn (133, [some (.ref 0), some (.int (nI m)), some (.int (nI s0)), some (.int z), some (.int (nI A)), some (.int (nI B)), some (.int (nI s2)), some (.int (nI t)), some (.int (nI p)), some (.int (nI q))], [.int (nI ((zw_oo P N c q).toNat)), .int 1, .int (nI A)], (zw_C g1 gl a1 al)) _
                    have hl_q := zb_le (zw_oo P N c q)
                    refine zr_ieq (x := nI ((zw_oo P N c q).toNat)) (y := 0) ((zw_oo P N c q).toNat) 0 rfl rfl (by omega) (by omega) (t := (140, [some (.ref 0), some (.int (nI m)), some (.int (nI s0)), some (.int z), some (.int (nI A)), some (.int (nI B)), some (.int (nI s2)), some (.int (nI t)), some (.int (nI p)), some (.int (nI q))], [.int 1, .int (nI A)], (zw_C g1 gl a1 al))) (f := (136, [some (.ref 0), some (.int (nI m)), some (.int (nI s0)), some (.int z), some (.int (nI A)), some (.int (nI B)), some (.int (nI s2)), some (.int (nI t)), some (.int (nI p)), some (.int (nI q))], [.int 1, .int (nI A)], (zw_C g1 gl a1 al))) rfl (fun hoq => ?_) (fun hoq => ?_)
                    · skip
                      refine zr_go (t := (155, [some (.ref 0), some (.int (nI m)), some (.int (nI s0)), some (.int z), some (.int ((nI A) + (1 + 0))), some (.int (nI B)), some (.int (nI s2)), some (.int (nI t)), some (.int (nI p)), some (.int (nI q))], [.int (nI q), .int (nI p), .ref 4, .int (nI B)], (zw_C g1 gl a1 al))) 9 rfl ?_
                      refine zr_call (t := (158, [some (.ref 0), some (.int (nI m)), some (.int (nI s0)), some (.int z), some (.int ((nI A) + (1 + 0))), some (.int (nI B)), some (.int (nI s2)), some (.int (nI t)), some (.int (nI p)), some (.int (nI q))], [.int (nI B)], (zw_C g1 gl a1 al))) rfl (Nat.le_of_ble_eq_true rfl : 3 ≤ 5) (zs_C_areCol g1 gl a1 al P N hQ.2.1 hQ.2.2.1 hP0 hP5 hN6 p q (zv_val P N c (zv_y P N p)) (zv_val P N c (zv_y P N q)) (by omega) (by omega) (hv.2.2.1 p hpl) (by have := zv_val_lt (N := N) (c := c) (x := zv_y P N p) hP0; omega) (hv.2.2.1 q hql) (by have := zv_val_lt (N := N) (c := c) (x := zv_y P N q) hP0; omega) (zz_nm P N c (zv_y P N p)) (zv_y P N q) (fun i hi => hv.2.2.2.1 p hpl i hi) (fun i _ => by have := zz_nm_lt (N := N) (c := c) (x := zv_y P N p) hP0 i; omega) (fun i hi => hQ.2.2.2.2 q i hql hi) (fun i _ => zv_y4 hok)) ?_
                      rintro _ _ ⟨rfl, rfl⟩
                      show zm_Run zt_get 5 zt_X_drawn (158, [some (.ref 0), some (.int (nI m)), some (.int (nI s0)), some (.int z), some (.int ((nI A) + (1 + 0))), some (.int (nI B)), some (.int (nI s2)), some (.int (nI t)), some (.int (nI p)), some (.int (nI q))], [.int (nI ((zj_jn P N c p q).toNat)), .int (nI B)], (zw_C g1 gl a1 al)) _
                      have hl_j := zb_le (zj_jn P N c p q)
                      refine zr_ieq (x := nI ((zj_jn P N c p q).toNat)) (y := 0) ((zj_jn P N c p q).toNat) 0 rfl rfl (by omega) (by omega) (t := (165, [some (.ref 0), some (.int (nI m)), some (.int (nI s0)), some (.int z), some (.int ((nI A) + (1 + 0))), some (.int (nI B)), some (.int (nI s2)), some (.int (nI t)), some (.int (nI p)), some (.int (nI q))], [.int (nI B)], (zw_C g1 gl a1 al))) (f := (161, [some (.ref 0), some (.int (nI m)), some (.int (nI s0)), some (.int z), some (.int ((nI A) + (1 + 0))), some (.int (nI B)), some (.int (nI s2)), some (.int (nI t)), some (.int (nI p)), some (.int (nI q))], [.int (nI B)], (zw_C g1 gl a1 al))) rfl (fun hj => ?_) (fun hj => ?_)
                      · skip
                        refine zr_go (t := (49, [some (.ref 0), some (.int (nI m)), some (.int (nI s0)), some (.int z), some (.int ((nI A) + (1 + 0))), some (.int ((nI B) + 0)), some (.int (nI s2)), some (.int ((nI t) + 1)), some (.int (nI p)), some (.int (nI q))], [], (zw_C g1 gl a1 al))) 5 rfl ?_
                        have hA2 : A + (1 + 0) = zS (zk_on (zv_np P N) s0 (zw_oo P N c)) (t + 1) := by rw [hA]; show _ = zS (zk_on (zv_np P N) s0 (zw_oo P N c)) t + ((zw_oo P N c (zk_pt (zv_np P N) s0 (2 * t + 1))).toNat + (zw_oo P N c (zk_pt (zv_np P N) s0 (2 * t + 2))).toNat); rw [← hpe, ← hqe]; omega
                        have hB2 : B + 0 = zS (zj_pr P N c s0) (t + 1) := by rw [hB]; show _ = zS (zj_pr P N c s0) t + (zj_jn P N c (zk_pt (zv_np P N) s0 (2 * t + 1)) (zk_pt (zv_np P N) s0 (2 * t + 2))).toNat; rw [← hpe, ← hqe]; omega
                        rw [show (nI t) + 1 = nI (t + 1) from (zn_add rfl rfl)]
                        rw [show (nI A) + (1 + 0) = nI (A + (1 + 0)) from (zn_add rfl (zn_add rfl rfl))]
                        rw [show (nI B) + 0 = nI (B + 0) from (zn_add rfl rfl)]
                        refine zr_forget [some (.ref 0), some (.int (nI m)), some (.int (nI s0)), some (.int z), some (.int (nI (A + (1 + 0)))), some (.int (nI (B + 0))), some (.int (nI s2)), some (.int (nI (t + 1))), none, none] ⟨Or.inr rfl, Or.inr rfl, Or.inr rfl, Or.inr rfl, Or.inr rfl, Or.inr rfl, Or.inr rfl, Or.inr rfl, Or.inl rfl, Or.inl rfl, trivial⟩ ?_
                        exact ih (t + 1, A + (1 + 0), B + 0, s2) ⟨by omega, hA2, hB2, hs2e⟩ (by omega)
                      · skip
                        refine zr_go (t := (49, [some (.ref 0), some (.int (nI m)), some (.int (nI s0)), some (.int z), some (.int ((nI A) + (1 + 0))), some (.int ((nI B) + 1)), some (.int (nI s2)), some (.int ((nI t) + 1)), some (.int (nI p)), some (.int (nI q))], [], (zw_C g1 gl a1 al))) 6 rfl ?_
                        have hA2 : A + (1 + 0) = zS (zk_on (zv_np P N) s0 (zw_oo P N c)) (t + 1) := by rw [hA]; show _ = zS (zk_on (zv_np P N) s0 (zw_oo P N c)) t + ((zw_oo P N c (zk_pt (zv_np P N) s0 (2 * t + 1))).toNat + (zw_oo P N c (zk_pt (zv_np P N) s0 (2 * t + 2))).toNat); rw [← hpe, ← hqe]; omega
                        have hB2 : B + 1 = zS (zj_pr P N c s0) (t + 1) := by rw [hB]; show _ = zS (zj_pr P N c s0) t + (zj_jn P N c (zk_pt (zv_np P N) s0 (2 * t + 1)) (zk_pt (zv_np P N) s0 (2 * t + 2))).toNat; rw [← hpe, ← hqe]; omega
                        rw [show (nI t) + 1 = nI (t + 1) from (zn_add rfl rfl)]
                        rw [show (nI A) + (1 + 0) = nI (A + (1 + 0)) from (zn_add rfl (zn_add rfl rfl))]
                        rw [show (nI B) + 1 = nI (B + 1) from (zn_add rfl rfl)]
                        refine zr_forget [some (.ref 0), some (.int (nI m)), some (.int (nI s0)), some (.int z), some (.int (nI (A + (1 + 0)))), some (.int (nI (B + 1))), some (.int (nI s2)), some (.int (nI (t + 1))), none, none] ⟨Or.inr rfl, Or.inr rfl, Or.inr rfl, Or.inr rfl, Or.inr rfl, Or.inr rfl, Or.inr rfl, Or.inr rfl, Or.inl rfl, Or.inl rfl, trivial⟩ ?_
                        exact ih (t + 1, A + (1 + 0), B + 1, s2) ⟨by omega, hA2, hB2, hs2e⟩ (by omega)
                    · skip
                      refine zr_go (t := (155, [some (.ref 0), some (.int (nI m)), some (.int (nI s0)), some (.int z), some (.int ((nI A) + (1 + 1))), some (.int (nI B)), some (.int (nI s2)), some (.int (nI t)), some (.int (nI p)), some (.int (nI q))], [.int (nI q), .int (nI p), .ref 4, .int (nI B)], (zw_C g1 gl a1 al))) 10 rfl ?_
                      refine zr_call (t := (158, [some (.ref 0), some (.int (nI m)), some (.int (nI s0)), some (.int z), some (.int ((nI A) + (1 + 1))), some (.int (nI B)), some (.int (nI s2)), some (.int (nI t)), some (.int (nI p)), some (.int (nI q))], [.int (nI B)], (zw_C g1 gl a1 al))) rfl (Nat.le_of_ble_eq_true rfl : 3 ≤ 5) (zs_C_areCol g1 gl a1 al P N hQ.2.1 hQ.2.2.1 hP0 hP5 hN6 p q (zv_val P N c (zv_y P N p)) (zv_val P N c (zv_y P N q)) (by omega) (by omega) (hv.2.2.1 p hpl) (by have := zv_val_lt (N := N) (c := c) (x := zv_y P N p) hP0; omega) (hv.2.2.1 q hql) (by have := zv_val_lt (N := N) (c := c) (x := zv_y P N q) hP0; omega) (zz_nm P N c (zv_y P N p)) (zv_y P N q) (fun i hi => hv.2.2.2.1 p hpl i hi) (fun i _ => by have := zz_nm_lt (N := N) (c := c) (x := zv_y P N p) hP0 i; omega) (fun i hi => hQ.2.2.2.2 q i hql hi) (fun i _ => zv_y4 hok)) ?_
                      rintro _ _ ⟨rfl, rfl⟩
                      show zm_Run zt_get 5 zt_X_drawn (158, [some (.ref 0), some (.int (nI m)), some (.int (nI s0)), some (.int z), some (.int ((nI A) + (1 + 1))), some (.int (nI B)), some (.int (nI s2)), some (.int (nI t)), some (.int (nI p)), some (.int (nI q))], [.int (nI ((zj_jn P N c p q).toNat)), .int (nI B)], (zw_C g1 gl a1 al)) _
                      have hl_j := zb_le (zj_jn P N c p q)
                      refine zr_ieq (x := nI ((zj_jn P N c p q).toNat)) (y := 0) ((zj_jn P N c p q).toNat) 0 rfl rfl (by omega) (by omega) (t := (165, [some (.ref 0), some (.int (nI m)), some (.int (nI s0)), some (.int z), some (.int ((nI A) + (1 + 1))), some (.int (nI B)), some (.int (nI s2)), some (.int (nI t)), some (.int (nI p)), some (.int (nI q))], [.int (nI B)], (zw_C g1 gl a1 al))) (f := (161, [some (.ref 0), some (.int (nI m)), some (.int (nI s0)), some (.int z), some (.int ((nI A) + (1 + 1))), some (.int (nI B)), some (.int (nI s2)), some (.int (nI t)), some (.int (nI p)), some (.int (nI q))], [.int (nI B)], (zw_C g1 gl a1 al))) rfl (fun hj => ?_) (fun hj => ?_)
                      · skip
                        refine zr_go (t := (49, [some (.ref 0), some (.int (nI m)), some (.int (nI s0)), some (.int z), some (.int ((nI A) + (1 + 1))), some (.int ((nI B) + 0)), some (.int (nI s2)), some (.int ((nI t) + 1)), some (.int (nI p)), some (.int (nI q))], [], (zw_C g1 gl a1 al))) 5 rfl ?_
                        have hA2 : A + (1 + 1) = zS (zk_on (zv_np P N) s0 (zw_oo P N c)) (t + 1) := by rw [hA]; show _ = zS (zk_on (zv_np P N) s0 (zw_oo P N c)) t + ((zw_oo P N c (zk_pt (zv_np P N) s0 (2 * t + 1))).toNat + (zw_oo P N c (zk_pt (zv_np P N) s0 (2 * t + 2))).toNat); rw [← hpe, ← hqe]; omega
                        have hB2 : B + 0 = zS (zj_pr P N c s0) (t + 1) := by rw [hB]; show _ = zS (zj_pr P N c s0) t + (zj_jn P N c (zk_pt (zv_np P N) s0 (2 * t + 1)) (zk_pt (zv_np P N) s0 (2 * t + 2))).toNat; rw [← hpe, ← hqe]; omega
                        rw [show (nI t) + 1 = nI (t + 1) from (zn_add rfl rfl)]
                        rw [show (nI A) + (1 + 1) = nI (A + (1 + 1)) from (zn_add rfl (zn_add rfl rfl))]
                        rw [show (nI B) + 0 = nI (B + 0) from (zn_add rfl rfl)]
                        refine zr_forget [some (.ref 0), some (.int (nI m)), some (.int (nI s0)), some (.int z), some (.int (nI (A + (1 + 1)))), some (.int (nI (B + 0))), some (.int (nI s2)), some (.int (nI (t + 1))), none, none] ⟨Or.inr rfl, Or.inr rfl, Or.inr rfl, Or.inr rfl, Or.inr rfl, Or.inr rfl, Or.inr rfl, Or.inr rfl, Or.inl rfl, Or.inl rfl, trivial⟩ ?_
                        exact ih (t + 1, A + (1 + 1), B + 0, s2) ⟨by omega, hA2, hB2, hs2e⟩ (by omega)
                      · skip
                        refine zr_go (t := (49, [some (.ref 0), some (.int (nI m)), some (.int (nI s0)), some (.int z), some (.int ((nI A) + (1 + 1))), some (.int ((nI B) + 1)), some (.int (nI s2)), some (.int ((nI t) + 1)), some (.int (nI p)), some (.int (nI q))], [], (zw_C g1 gl a1 al))) 6 rfl ?_
                        have hA2 : A + (1 + 1) = zS (zk_on (zv_np P N) s0 (zw_oo P N c)) (t + 1) := by rw [hA]; show _ = zS (zk_on (zv_np P N) s0 (zw_oo P N c)) t + ((zw_oo P N c (zk_pt (zv_np P N) s0 (2 * t + 1))).toNat + (zw_oo P N c (zk_pt (zv_np P N) s0 (2 * t + 2))).toNat); rw [← hpe, ← hqe]; omega
                        have hB2 : B + 1 = zS (zj_pr P N c s0) (t + 1) := by rw [hB]; show _ = zS (zj_pr P N c s0) t + (zj_jn P N c (zk_pt (zv_np P N) s0 (2 * t + 1)) (zk_pt (zv_np P N) s0 (2 * t + 2))).toNat; rw [← hpe, ← hqe]; omega
                        rw [show (nI t) + 1 = nI (t + 1) from (zn_add rfl rfl)]
                        rw [show (nI A) + (1 + 1) = nI (A + (1 + 1)) from (zn_add rfl (zn_add rfl rfl))]
                        rw [show (nI B) + 1 = nI (B + 1) from (zn_add rfl rfl)]
                        refine zr_forget [some (.ref 0), some (.int (nI m)), some (.int (nI s0)), some (.int z), some (.int (nI (A + (1 + 1)))), some (.int (nI (B + 1))), some (.int (nI s2)), some (.int (nI (t + 1))), none, none] ⟨Or.inr rfl, Or.inr rfl, Or.inr rfl, Or.inr rfl, Or.inr rfl, Or.inr rfl, Or.inr rfl, Or.inr rfl, Or.inl rfl, Or.inl rfl, trivial⟩ ?_
                        exact ih (t + 1, A + (1 + 1), B + 1, s2) ⟨by omega, hA2, hB2, hs2e⟩ (by omega)
            · skip
              have hPp : ¬ 0 < P := of_decide_eq_false (zb_0n _ h6)
              rw [if_neg hPp]
              refine zr_go (t := (36, [some (.ref 0), some (.int (nI m)), some (.int (nI s0)), some (.int z), none, none, none, none, none, none], [.int (-103)], (zw_C g1 gl a1 al))) 1 rfl ?_
              exact zr_ret rfl trivial ⟨rfl, g1, gl, a1, al, _, bt, rfl, hK1, hr1⟩
          · skip
            rw [if_neg (fun q => h5 q.2.2.2)]
            refine zr_go (t := (26, [some (.ref 0), some (.int x), some (.int y), some (.int z), none, none, none, none, none, none], [.int (-102)], (zw_C g gl a al))) 1 rfl ?_
            exact zr_ret rfl trivial ⟨rfl, g, gl, a, al, sv, bt, rfl, hK, hr⟩
