/-! the class: digest itself (written by wip/whole/gen_c21.py) -/
theorem zp_C_digest (w0 : List zm_E) (P N : Nat) (c : Nat → Nat) (n0 : Nat) (e0 : Nat → Nat) (n1 : Nat) (e1 : Nat → Nat) (n : Nat) (cd : Nat → Nat) (K M : Nat) (e : Nat → Nat) (fr fi wa : Nat) (hw : zKW w0 P N c n0 e0 n1 e1 n cd K M e fr fi wa) (hJ : zJ) (hJ2 : zJ2) : zm_Ev zt_get 8 87 [.ref 0] w0 (fun v w => v = some (.long (ac_digest P N c n0 e0 n1 e1 n cd fr fi wa)) ∧ zKW w P N c n0 e0 n1 e1 n cd K M e fr fi wa) := by
  obtain ⟨g, gl, a, al, sv, bt, rfl, hK, hr⟩ := hw
  refine zr_ev zt_X_digest rfl rfl ?_
  show zm_Run zt_get 7 zt_X_digest (0, [some (.ref 0), none, none, none, none], [], (zw_C g gl a al)) _
  have tail30 : ∀ g2 gl2 a2 al2 sv2 bt2, zK_1 g2 a2 al2 P N c sv2 bt2 n0 e0 n1 e1 → zK_r g2 a2 n cd K M e fr fi wa → zm_Run zt_get 7 zt_X_digest (30, [some (.ref 0), some (.long (ac_h2 P N c n0 e0 n1 e1)), none, none, none], [], (zw_C g2 gl2 a2 al2)) (fun v w => v = some (.long (ac_digest P N c n0 e0 n1 e1 n cd fr fi wa)) ∧ zKW w P N c n0 e0 n1 e1 n cd K M e fr fi wa) := by
    intro g2 gl2 a2 al2 sv2 bt2 hK2 hr2
    obtain ⟨H0, hH0⟩ : ∃ q, q = ac_h2 P N c n0 e0 n1 e1 := ⟨_, rfl⟩
    rw [← hH0]
    obtain ⟨hn064, hn164, hbtn⟩ := zK_n0 hK2
    have h24 := hK2.2.2.2.2.1
    have h26 := hK2.2.2.2.2.2.1
    obtain ⟨⟨h6, hn28, hcd, hcd1⟩, hr22⟩ := id hr2
    refine zr_go (t := (32, [some (.ref 0), some (.long H0), none, some (.int 0), none], [], (zw_C g2 gl2 a2 al2))) 2 rfl ?_
    refine zr_loop (fun zq : Nat × Int64 => (32, [some (.ref 0), some (.long zq.2), none, some (.int (nI zq.1)), none], [], (zw_C g2 gl2 a2 al2))) (fun zq => zq.1 ≤ 2 ∧ zq.2 = zh_lists (zj_nn n0 n1) (zj_en P N c e0 e1) H0 zq.1) (fun zq => 2 - zq.1) ?_ (0, H0) ⟨by omega, rfl⟩
    rintro ⟨q, y⟩ ⟨hq, hy⟩ ih
    try dsimp only at *
    refine zr_go (t := (34, [some (.ref 0), some (.long y), none, some (.int (nI q)), none], [.int 1, .int (nI q)], (zw_C g2 gl2 a2 al2))) 2 rfl ?_
    refine zr_igt (x := nI q) (y := 1) q 1 rfl rfl (by omega) (by omega) (t := (80, [some (.ref 0), some (.long y), none, some (.int (nI q)), none], [], (zw_C g2 gl2 a2 al2))) (f := (37, [some (.ref 0), some (.long y), none, some (.int (nI q)), none], [], (zw_C g2 gl2 a2 al2))) rfl (fun h1 => ?_) (fun h1 => ?_)
    · skip
      have eq : q = 2 := by omega
      subst eq
      obtain ⟨H1, hH1⟩ : ∃ q, q = zh_lists (zj_nn n0 n1) (zj_en P N c e0 e1) H0 2 := ⟨_, rfl⟩
      have hy2 : y = H1 := hy.trans hH1.symm
      rw [hy2]
      refine zr_go (t := (82, [some (.ref 0), some (.long H1), none, some (.int 0), none], [], (zw_C g2 gl2 a2 al2))) 2 rfl ?_
      refine zr_loop (fun zq : Nat × Int64 => (82, [some (.ref 0), some (.long zq.2), none, some (.int (nI zq.1)), none], [], (zw_C g2 gl2 a2 al2))) (fun zq => zq.1 ≤ n ∧ zq.2 = zh_f H1 (fun i9 => (nI (cd i9)).toInt64) zq.1) (fun zq => n - zq.1) ?_ (0, H1) ⟨by omega, rfl⟩
      rintro ⟨k, u⟩ ⟨hk, hu⟩ ih2
      try dsimp only at *
      refine zr_go (t := (90, [some (.ref 0), some (.long u), none, some (.int (nI k)), none], [.int (g2 6), .int (nI k)], (zw_C g2 gl2 a2 al2))) 4 rfl ?_
      refine zr_ige (x := nI k) (y := g2 6) k n rfl h6 (by omega) (by omega) (t := (116, [some (.ref 0), some (.long u), none, some (.int (nI k)), none], [], (zw_C g2 gl2 a2 al2))) (f := (93, [some (.ref 0), some (.long u), none, some (.int (nI k)), none], [], (zw_C g2 gl2 a2 al2))) rfl (fun h8 => ?_) (fun h8 => ?_)
      · skip
        have hu2 := hu
        rw [show k = n by omega] at hu2
        obtain ⟨H2, hH2⟩ : ∃ q, q = zh_f H1 (fun i9 => (nI (cd i9)).toInt64) n := ⟨_, rfl⟩
        rw [← hH2] at hu2
        rw [hu2]
        refine zr_go (t := (118, [some (.ref 0), some (.long H2), none, some (.int 0), none], [], (zw_C g2 gl2 a2 al2))) 2 rfl ?_
        refine zr_loop (fun zq : Nat × Int64 × (Nat → Int32) × (Nat → Int64) × (Nat → Nat → Int32) × (Nat → Nat → Int64) => (118, [some (.ref 0), some (.long zq.2.1), none, some (.int (nI zq.1)), none], [], (zw_C zq.2.2.1 zq.2.2.2.1 zq.2.2.2.2.1 zq.2.2.2.2.2))) (fun zq => zq.1 ≤ 9 ∧ zq.2.1 = zh_f H2 (fun i9 => (ac_count P N c n0 n1 n fr fi wa (nI i9)).toInt64) zq.1 ∧ ∃ sv3 bt3, zK_1 zq.2.2.1 zq.2.2.2.2.1 zq.2.2.2.2.2 P N c sv3 bt3 n0 e0 n1 e1 ∧ zK_r zq.2.2.1 zq.2.2.2.2.1 n cd K M e fr fi wa) (fun zq => 9 - zq.1) ?_ (0, H2, g2, gl2, a2, al2) ⟨by omega, rfl, sv2, bt2, hK2, hr2⟩
        rintro ⟨m, x, g3, gl3, a3, al3⟩ ⟨hm, hx, sv3, bt3, hK3, hr3⟩ ih3
        try dsimp only at *
        refine zr_go (t := (121, [some (.ref 0), some (.long x), none, some (.int (nI m)), none], [.int 8, .int (nI m)], (zw_C g3 gl3 a3 al3))) 2 rfl ?_
        refine zr_igt (x := nI m) (y := 8) m 8 rfl rfl (by omega) (by omega) (t := (143, [some (.ref 0), some (.long x), none, some (.int (nI m)), none], [], (zw_C g3 gl3 a3 al3))) (f := (124, [some (.ref 0), some (.long x), none, some (.int (nI m)), none], [], (zw_C g3 gl3 a3 al3))) rfl (fun h9 => ?_) (fun h9 => ?_)
        · skip
          refine zr_go (t := (144, [some (.ref 0), some (.long x), none, some (.int (nI m)), none], [.long x], (zw_C g3 gl3 a3 al3))) 1 rfl ?_
          exact zr_ret rfl trivial ⟨by rw [hx, show m = 9 by omega, hH2, hH1, hH0]; rfl, g3, gl3, a3, al3, sv3, bt3, rfl, hK3, hr3⟩
        · skip
          refine zr_go (t := (131, [some (.ref 0), some (.long x), none, some (.int (nI m)), none], [.int (nI m), .ref 0, .long (31 * x)], (zw_C g3 gl3 a3 al3))) 5 rfl ?_
          refine zr_call (t := (134, [some (.ref 0), some (.long x), none, some (.int (nI m)), none], [.long (31 * x)], (zw_C g3 gl3 a3 al3))) rfl (Nat.le_of_ble_eq_true rfl : 6 ≤ 7) (zp_C_count (zw_C g3 gl3 a3 al3) P N c n0 e0 n1 e1 n cd K M e fr fi wa ⟨g3, gl3, a3, al3, sv3, bt3, rfl, hK3, hr3⟩ hJ (nI m)) ?_
          rintro _ _ ⟨rfl, g4, gl4, a4, al4, sv4, bt4, rfl, hK4, hr4⟩
          show zm_Run zt_get 7 zt_X_digest (134, [some (.ref 0), some (.long x), none, some (.int (nI m)), none], [.int (ac_count P N c n0 n1 n fr fi wa (nI m)), .long (31 * x)], (zw_C g4 gl4 a4 al4)) _
          refine zr_go (t := (118, [some (.ref 0), some (.long ((31 * x) + ((ac_count P N c n0 n1 n fr fi wa (nI m)).toInt64))), none, some (.int ((nI m) + 1)), none], [], (zw_C g4 gl4 a4 al4))) 5 rfl ?_
          rw [show (nI m) + 1 = nI (m + 1) from (zn_add rfl rfl)]
          exact ih3 (m + 1, 31 * x + (ac_count P N c n0 n1 n fr fi wa (nI m)).toInt64, g4, gl4, a4, al4) ⟨by omega, by rw [hx]; rfl, sv4, bt4, hK4, hr4⟩ (by omega)
      · skip
        refine zr_go (t := (106, [some (.ref 0), some (.long u), none, some (.int (nI k)), none], [.int (nI k), .ref 10, .long (31 * u)], (zw_C g2 gl2 a2 al2))) 7 rfl ?_
        refine zr_cd (t := (107, [some (.ref 0), some (.long u), none, some (.int (nI k)), none], [.int ((a2 10) (nI k).toNatClampNeg), .long (31 * u)], (zw_C g2 gl2 a2 al2))) rfl (pk_in k 28 (by omega) rfl (by omega)) ?_
        rw [pk_cl (x := (nI k)) k rfl (by omega)]
        rw [show (a2 10) k = nI (cd k) from hcd k h8]
        refine zr_go (t := (82, [some (.ref 0), some (.long ((31 * u) + ((nI (cd k)).toInt64))), none, some (.int ((nI k) + 1)), none], [], (zw_C g2 gl2 a2 al2))) 5 rfl ?_
        rw [show (nI k) + 1 = nI (k + 1) from (zn_add rfl rfl)]
        exact ih2 (k + 1, 31 * u + (nI (cd k)).toInt64) ⟨by omega, by rw [hu]; rfl⟩ (by omega)
    · skip
      rcases (show q = 0 ∨ q = 1 by omega) with rfl | rfl
      · skip
        refine zr_go (t := (40, [some (.ref 0), some (.long y), none, some (.int (nI 0)), some (.int 0)], [], (zw_C g2 gl2 a2 al2))) 2 rfl ?_
        refine zr_loop (fun zq : Nat × Int64 => (40, [some (.ref 0), some (.long zq.2), none, some (.int (nI 0)), some (.int (nI zq.1))], [], (zw_C g2 gl2 a2 al2))) (fun zq => zq.1 ≤ n0 ∧ zq.2 = zh_f y (fun i9 => (nI (zj_en P N c e0 e1 0 i9)).toInt64) zq.1) (fun zq => n0 - zq.1) ?_ (0, y) ⟨by omega, rfl⟩
        rintro ⟨k, u⟩ ⟨hk, hu⟩ ih2
        try dsimp only at *
        refine zr_go (t := (44, [some (.ref 0), some (.long u), none, some (.int (nI 0)), some (.int (nI k))], [.int (nI 0), .ref 0, .int (nI k)], (zw_C g2 gl2 a2 al2))) 3 rfl ?_
        refine zr_call (t := (47, [some (.ref 0), some (.long u), none, some (.int (nI 0)), some (.int (nI k))], [.int (nI k)], (zw_C g2 gl2 a2 al2))) rfl (Nat.le_of_ble_eq_true rfl : 1 ≤ 7) (zs_C_sideOf_0 g2 gl2 a2 al2) ?_
        rintro _ _ ⟨rfl, rfl⟩
        show zm_Run zt_get 7 zt_X_digest (47, [some (.ref 0), some (.long u), none, some (.int (nI 0)), some (.int (nI k))], [.ref 6, .int (nI k)], (zw_C g2 gl2 a2 al2)) _
        refine zr_go (t := (50, [some (.ref 0), some (.long u), none, some (.int (nI 0)), some (.int (nI k))], [.int (g2 24), .int (nI k)], (zw_C g2 gl2 a2 al2))) 1 rfl ?_
        refine zr_ige (x := nI k) (y := g2 24) k n0 rfl h24 (by omega) (by omega) (t := (74, [some (.ref 0), some (.long u), none, some (.int (nI 0)), some (.int (nI k))], [], (zw_C g2 gl2 a2 al2))) (f := (53, [some (.ref 0), some (.long u), none, some (.int (nI 0)), some (.int (nI k))], [], (zw_C g2 gl2 a2 al2))) rfl (fun h8 => ?_) (fun h8 => ?_)
        · skip
          refine zr_go (t := (32, [some (.ref 0), some (.long u), none, some (.int ((nI 0) + 1)), some (.int (nI k))], [], (zw_C g2 gl2 a2 al2))) 2 rfl ?_
          rw [show (nI 0) + 1 = nI (0 + 1) from (zn_add rfl rfl)]
          refine zr_forget [some (.ref 0), some (.long u), none, some (.int (nI (0 + 1))), none] ⟨Or.inr rfl, Or.inr rfl, Or.inr rfl, Or.inr rfl, Or.inl rfl, trivial⟩ ?_
          exact ih (0 + 1, u) ⟨by omega, by rw [hu, show k = n0 by omega, hy]; rfl⟩ (by omega)
        · skip
          have hb := hbtn (Or.inl (by omega))
          subst hb
          refine zr_go (t := (62, [some (.ref 0), some (.long u), none, some (.int (nI 0)), some (.int (nI k))], [.int (nI k), .int (nI 0), .ref 0, .long (31 * u)], (zw_C g2 gl2 a2 al2))) 6 rfl ?_
          refine zr_call (t := (65, [some (.ref 0), some (.long u), none, some (.int (nI 0)), some (.int (nI k))], [.long (31 * u)], (zw_C g2 gl2 a2 al2))) rfl (Nat.le_of_ble_eq_true rfl : 1 ≤ 7) (zs_C_entryOf_0 g2 gl2 a2 al2 P N c sv2 n0 e0 n1 e1 hK2 k h8) ?_
          rintro _ _ ⟨rfl, rfl⟩
          show zm_Run zt_get 7 zt_X_digest (65, [some (.ref 0), some (.long u), none, some (.int (nI 0)), some (.int (nI k))], [.int (nI (zj_x P N c (e0 k))), .long (31 * u)], (zw_C g2 gl2 a2 al2)) _
          refine zr_go (t := (40, [some (.ref 0), some (.long ((31 * u) + ((nI (zj_x P N c (e0 k))).toInt64))), none, some (.int (nI 0)), some (.int ((nI k) + 1))], [], (zw_C g2 gl2 a2 al2))) 5 rfl ?_
          rw [show (nI k) + 1 = nI (k + 1) from (zn_add rfl rfl)]
          exact ih2 (k + 1, 31 * u + (nI (zj_x P N c (e0 k))).toInt64) ⟨by omega, by rw [hu]; rfl⟩ (by omega)
      · skip
        refine zr_go (t := (40, [some (.ref 0), some (.long y), none, some (.int (nI 1)), some (.int 0)], [], (zw_C g2 gl2 a2 al2))) 2 rfl ?_
        refine zr_loop (fun zq : Nat × Int64 => (40, [some (.ref 0), some (.long zq.2), none, some (.int (nI 1)), some (.int (nI zq.1))], [], (zw_C g2 gl2 a2 al2))) (fun zq => zq.1 ≤ n1 ∧ zq.2 = zh_f y (fun i9 => (nI (zj_en P N c e0 e1 1 i9)).toInt64) zq.1) (fun zq => n1 - zq.1) ?_ (0, y) ⟨by omega, rfl⟩
        rintro ⟨k, u⟩ ⟨hk, hu⟩ ih2
        try dsimp only at *
        refine zr_go (t := (44, [some (.ref 0), some (.long u), none, some (.int (nI 1)), some (.int (nI k))], [.int (nI 1), .ref 0, .int (nI k)], (zw_C g2 gl2 a2 al2))) 3 rfl ?_
        refine zr_call (t := (47, [some (.ref 0), some (.long u), none, some (.int (nI 1)), some (.int (nI k))], [.int (nI k)], (zw_C g2 gl2 a2 al2))) rfl (Nat.le_of_ble_eq_true rfl : 1 ≤ 7) (zs_C_sideOf_1 g2 gl2 a2 al2) ?_
        rintro _ _ ⟨rfl, rfl⟩
        show zm_Run zt_get 7 zt_X_digest (47, [some (.ref 0), some (.long u), none, some (.int (nI 1)), some (.int (nI k))], [.ref 7, .int (nI k)], (zw_C g2 gl2 a2 al2)) _
        refine zr_go (t := (50, [some (.ref 0), some (.long u), none, some (.int (nI 1)), some (.int (nI k))], [.int (g2 26), .int (nI k)], (zw_C g2 gl2 a2 al2))) 1 rfl ?_
        refine zr_ige (x := nI k) (y := g2 26) k n1 rfl h26 (by omega) (by omega) (t := (74, [some (.ref 0), some (.long u), none, some (.int (nI 1)), some (.int (nI k))], [], (zw_C g2 gl2 a2 al2))) (f := (53, [some (.ref 0), some (.long u), none, some (.int (nI 1)), some (.int (nI k))], [], (zw_C g2 gl2 a2 al2))) rfl (fun h8 => ?_) (fun h8 => ?_)
        · skip
          refine zr_go (t := (32, [some (.ref 0), some (.long u), none, some (.int ((nI 1) + 1)), some (.int (nI k))], [], (zw_C g2 gl2 a2 al2))) 2 rfl ?_
          rw [show (nI 1) + 1 = nI (1 + 1) from (zn_add rfl rfl)]
          refine zr_forget [some (.ref 0), some (.long u), none, some (.int (nI (1 + 1))), none] ⟨Or.inr rfl, Or.inr rfl, Or.inr rfl, Or.inr rfl, Or.inl rfl, trivial⟩ ?_
          exact ih (1 + 1, u) ⟨by omega, by rw [hu, show k = n1 by omega, hy]; rfl⟩ (by omega)
        · skip
          have hb := hbtn (Or.inr (by omega))
          subst hb
          refine zr_go (t := (62, [some (.ref 0), some (.long u), none, some (.int (nI 1)), some (.int (nI k))], [.int (nI k), .int (nI 1), .ref 0, .long (31 * u)], (zw_C g2 gl2 a2 al2))) 6 rfl ?_
          refine zr_call (t := (65, [some (.ref 0), some (.long u), none, some (.int (nI 1)), some (.int (nI k))], [.long (31 * u)], (zw_C g2 gl2 a2 al2))) rfl (Nat.le_of_ble_eq_true rfl : 1 ≤ 7) (zs_C_entryOf_1 g2 gl2 a2 al2 P N c sv2 n0 e0 n1 e1 hK2 k h8) ?_
          rintro _ _ ⟨rfl, rfl⟩
          show zm_Run zt_get 7 zt_X_digest (65, [some (.ref 0), some (.long u), none, some (.int (nI 1)), some (.int (nI k))], [.int (nI (e1 k)), .long (31 * u)], (zw_C g2 gl2 a2 al2)) _
          refine zr_go (t := (40, [some (.ref 0), some (.long ((31 * u) + ((nI (e1 k)).toInt64))), none, some (.int (nI 1)), some (.int ((nI k) + 1))], [], (zw_C g2 gl2 a2 al2))) 5 rfl ?_
          rw [show (nI k) + 1 = nI (k + 1) from (zn_add rfl rfl)]
          exact ih2 (k + 1, 31 * u + (nI (e1 k)).toInt64) ⟨by omega, by rw [hu]; rfl⟩ (by omega)
  have tail17 : ∀ g1 a1 sv1, zK_1 g1 a1 al P N c sv1 bt n0 e0 n1 e1 → zK_r g1 a1 n cd K M e fr fi wa → zm_Run zt_get 7 zt_X_digest (17, [some (.ref 0), some (.long (ac_h1 P N c)), none, none, none], [], (zw_C g1 gl a1 al)) (fun v w => v = some (.long (ac_digest P N c n0 e0 n1 e1 n cd fr fi wa)) ∧ zKW w P N c n0 e0 n1 e1 n cd K M e fr fi wa) := by
    intro g1 a1 sv1 hK1 hr1
    refine zr_go (t := (18, [some (.ref 0), some (.long (ac_h1 P N c)), none, none, none], [.ref 0], (zw_C g1 gl a1 al))) 1 rfl ?_
    refine zr_call (t := (21, [some (.ref 0), some (.long (ac_h1 P N c)), none, none, none], [], (zw_C g1 gl a1 al))) rfl (Nat.le_of_ble_eq_true rfl : 5 ≤ 7) (zs_C_hasFlats g1 gl a1 al hJ P N c sv1 bt n0 e0 n1 e1 hK1) ?_
    rintro _ _ ⟨rfl, g2, a2, al2, rfl, hK2, he2⟩
    have hjb := zb_le (zj_ok P N c)
    have hr2 := zK_r_e he2 hr1
    show zm_Run zt_get 7 zt_X_digest (21, [some (.ref 0), some (.long (ac_h1 P N c)), none, none, none], [.int (nI ((zj_ok P N c).toNat))], (zw_C g2 gl a2 al2)) _
    refine zr_ieq (x := nI ((zj_ok P N c).toNat)) (y := 0) ((zj_ok P N c).toNat) 0 rfl rfl (by omega) (by omega) (t := (30, [some (.ref 0), some (.long (ac_h1 P N c)), none, none, none], [], (zw_C g2 gl a2 al2))) (f := (24, [some (.ref 0), some (.long (ac_h1 P N c)), none, none, none], [], (zw_C g2 gl a2 al2))) rfl (fun h1 => ?_) (fun h1 => ?_)
    · skip
      have hj := zb_0n _ h1
      have h2e : ac_h2 P N c n0 e0 n1 e1 = ac_h1 P N c := if_neg (by rw [hj]; decide)
      rw [← h2e]
      exact tail30 g2 gl a2 al2 _ _ hK2 hr2
    · skip
      have hj := zb_1n _ h1
      have h2e : ac_h2 P N c n0 e0 n1 e1 = zj_hl P N c n0 e0 n1 e1 (ac_h1 P N c) := if_pos hj
      rw [hj] at hK2
      refine zr_go (t := (26, [some (.ref 0), some (.long (ac_h1 P N c)), none, none, none], [.long (ac_h1 P N c), .ref 0], (zw_C g2 gl a2 al2))) 2 rfl ?_
      refine zr_call (t := (29, [some (.ref 0), some (.long (ac_h1 P N c)), none, none, none], [], (zw_C g2 gl a2 al2))) rfl (Nat.le_of_ble_eq_true rfl : 4 ≤ 7) (zs_C_digestFlats g2 gl a2 al2 P N c (decide (0 < P)) n0 e0 n1 e1 n cd K M e fr fi wa hK2 hr2 hJ hJ2 (ac_h1 P N c)) ?_
      rintro _ _ ⟨rfl, rfl⟩
      show zm_Run zt_get 7 zt_X_digest (29, [some (.ref 0), some (.long (ac_h1 P N c)), none, none, none], [.long (zj_hl P N c n0 e0 n1 e1 (ac_h1 P N c))], (zw_C g2 gl a2 al2)) _
      rw [← h2e]
      refine zr_go (t := (30, [some (.ref 0), some (.long (ac_h2 P N c n0 e0 n1 e1)), none, none, none], [], (zw_C g2 gl a2 al2))) 1 rfl ?_
      exact tail30 g2 gl a2 al2 _ _ hK2 hr2
  refine zr_go (t := (5, [some (.ref 0), some (.long 1499), none, none, none], [.ref 0], (zw_C g gl a al))) 3 rfl ?_
  refine zr_call (t := (8, [some (.ref 0), some (.long 1499), none, none, none], [], (zw_C g gl a al))) rfl (Nat.le_of_ble_eq_true rfl : 4 ≤ 7) (zs_C_hasForm g gl a al P N c sv bt n0 e0 n1 e1 hK) ?_
  rintro _ _ ⟨rfl, g1, a1, rfl, hK1, he1⟩
  have hdb := zb_le (decide (0 < P))
  have hr1 := zK_r_e he1 hr
  show zm_Run zt_get 7 zt_X_digest (8, [some (.ref 0), some (.long 1499), none, none, none], [.int (nI ((decide (0 < P)).toNat))], (zw_C g1 gl a1 al)) _
  refine zr_ieq (x := nI ((decide (0 < P)).toNat)) (y := 0) ((decide (0 < P)).toNat) 0 rfl rfl (by omega) (by omega) (t := (17, [some (.ref 0), some (.long 1499), none, none, none], [], (zw_C g1 gl a1 al))) (f := (11, [some (.ref 0), some (.long 1499), none, none, none], [], (zw_C g1 gl a1 al))) rfl (fun h1 => ?_) (fun h1 => ?_)
  · skip
    have hPp : ¬ 0 < P := of_decide_eq_false (zb_0n _ h1)
    have h1e : ac_h1 P N c = 1499 := if_neg hPp
    rw [← h1e]
    exact tail17 g1 a1 _ hK1 hr1
  · skip
    have hd := zb_1n _ h1
    have hPp : 0 < P := of_decide_eq_true hd
    rw [hd] at hK1
    have h1e : ac_h1 P N c = zj_hf P N c 1499 := if_pos hPp
    refine zr_go (t := (13, [some (.ref 0), some (.long 1499), none, none, none], [.long 1499, .ref 0], (zw_C g1 gl a1 al))) 2 rfl ?_
    refine zr_call (t := (16, [some (.ref 0), some (.long 1499), none, none, none], [], (zw_C g1 gl a1 al))) rfl (Nat.le_of_ble_eq_true rfl : 7 ≤ 7) (zs_C_digestForm g1 gl a1 al P N c bt n0 e0 n1 e1 n cd K M e fr fi wa hK1 hr1 hPp 1499) ?_
    rintro _ _ ⟨rfl, g3, a3, rfl, hK3, hr3⟩
    show zm_Run zt_get 7 zt_X_digest (16, [some (.ref 0), some (.long 1499), none, none, none], [.long (zj_hf P N c 1499)], (zw_C g3 gl a3 al)) _
    rw [← h1e]
    refine zr_go (t := (17, [some (.ref 0), some (.long (ac_h1 P N c)), none, none, none], [], (zw_C g3 gl a3 al))) 1 rfl ?_
    exact tail17 g3 a3 _ hK3 hr3
