/-! the class: small questions (written by wip/whole/gen_c13.py) -/
theorem zs_C_hasPoint (g : Nat → Int32) (gl : Nat → Int64) (a : Nat → Nat → Int32) (al : Nat → Nat → Int64) (P N : Nat) (c : Nat → Nat) (sv bt : Bool) (n0 : Nat) (e0 : Nat → Nat) (n1 : Nat) (e1 : Nat → Nat) (hK : zK_1 g a al P N c sv bt n0 e0 n1 e1) (x : Int32) : zm_Ev zt_get 5 94 [.ref 0, .int x] (zw_C g gl a al) (fun v w => v = some (.int (nI (decide (0 < P) && zx_in x (zv_np P N)).toNat)) ∧ ∃ g' a', w = zw_C g' gl a' al ∧ zK_1 g' a' al P N c (decide (0 < P)) bt n0 e0 n1 e1 ∧ zK_e g a g' a') := by
  refine zr_ev zt_X_hasPoint rfl rfl ?_
  show zm_Run zt_get 4 zt_X_hasPoint (0, [some (.ref 0), some (.int x)], [], (zw_C g gl a al)) _
  refine zr_go (t := (1, [some (.ref 0), some (.int x)], [.ref 0], (zw_C g gl a al))) 1 rfl ?_
  refine zr_call (t := (4, [some (.ref 0), some (.int x)], [], (zw_C g gl a al))) rfl (Nat.le_of_ble_eq_true rfl : 4 ≤ 4) (zs_C_hasForm g gl a al P N c sv bt n0 e0 n1 e1 hK) ?_
  rintro _ _ ⟨rfl, g1, a1, rfl, hK1, he1⟩
  have hdb := zb_le (decide (0 < P))
  show zm_Run zt_get 4 zt_X_hasPoint (4, [some (.ref 0), some (.int x)], [.int (nI ((decide (0 < P)).toNat))], (zw_C g1 gl a1 al)) _
  refine zr_ieq (x := nI ((decide (0 < P)).toNat)) (y := 0) ((decide (0 < P)).toNat) 0 rfl rfl (by omega) (by omega) (t := (26, [some (.ref 0), some (.int x)], [], (zw_C g1 gl a1 al))) (f := (7, [some (.ref 0), some (.int x)], [], (zw_C g1 gl a1 al))) rfl (fun h1 => ?_) (fun h1 => ?_)
  · skip
    have hd := zb_0n _ h1
    have hP : ¬ 0 < P := of_decide_eq_false hd
    refine zr_go (t := (27, [some (.ref 0), some (.int x)], [.int 0], (zw_C g1 gl a1 al))) 1 rfl ?_
    exact zr_ret rfl (Or.inl rfl) ⟨by rw [hd]; rfl, g1, a1, rfl, hK1, he1⟩
  · skip
    have hd := zb_1n _ h1
    rw [hd] at hK1
    have hP0 : 0 < P := of_decide_eq_true hd
    obtain ⟨hm, hc4, h4, h5, h24, h26, h12, hcase⟩ := id hK1
    rcases hcase with ⟨_, _, q, _⟩ | ⟨⟨hok, h11, hcP, hQ⟩, hsv, hbt, hnb⟩
    · skip
      cases q
    · skip
      have hv := hsv rfl
      have hN6 := zv_okN hok
      have hN3 := hok.2.1
      obtain ⟨-, hnp1, hnp0⟩ := zv_nums hok
      have hon1 := (zj_nums (c := c) hok).1
      have h17 := hQ.2.2.2.1
      have h18 := hv.1
      refine zr_go (t := (8, [some (.ref 0), some (.int x)], [.int x], (zw_C g1 gl a1 al))) 1 rfl ?_
      refine zr_if (c := x < 0) (t := (26, [some (.ref 0), some (.int x)], [], (zw_C g1 gl a1 al))) (f := (11, [some (.ref 0), some (.int x)], [], (zw_C g1 gl a1 al))) rfl (fun h2 => ?_) (fun h2 => ?_)
      · skip
        refine zr_go (t := (27, [some (.ref 0), some (.int x)], [.int 0], (zw_C g1 gl a1 al))) 1 rfl ?_
        exact zr_ret rfl (Or.inl rfl) ⟨by rw [hd, zx_no (fun q => by rw [Int32.lt_iff_toInt_lt, show (0 : Int32).toInt = 0 from rfl] at h2; omega)]; rfl, g1, a1, rfl, by rw [hd]; exact hK1, he1⟩
      · skip
        obtain ⟨hx1, hx2⟩ := zk_of0 (zx_nn h2)
        generalize hXk : zx_k x = k at hx1 hx2
        subst hx2
        refine zr_go (t := (19, [some (.ref 0), some (.int (nI k))], [.int (g1 17), .int (nI k)], (zw_C g1 gl a1 al))) 4 rfl ?_
        refine zr_ige (x := nI k) (y := g1 17) k (zv_np P N) rfl h17 (by omega) (by omega) (t := (26, [some (.ref 0), some (.int (nI k))], [], (zw_C g1 gl a1 al))) (f := (22, [some (.ref 0), some (.int (nI k))], [], (zw_C g1 gl a1 al))) rfl (fun h3 => ?_) (fun h3 => ?_)
        · skip
          refine zr_go (t := (27, [some (.ref 0), some (.int (nI k))], [.int 0], (zw_C g1 gl a1 al))) 1 rfl ?_
          exact zr_ret rfl (Or.inl rfl) ⟨by rw [hd, zx_no (fun q => by rw [nI_toInt (by omega)] at q; omega)]; rfl, g1, a1, rfl, by rw [hd]; exact hK1, he1⟩
        · skip
          refine zr_go (t := (27, [some (.ref 0), some (.int (nI k))], [.int 1], (zw_C g1 gl a1 al))) 2 rfl ?_
          exact zr_ret rfl (Or.inr rfl) ⟨by rw [hd, zx_yes (by rw [nI_toInt (by omega)]; omega)]; rfl, g1, a1, rfl, by rw [hd]; exact hK1, he1⟩
theorem zs_C_isGreatest (g : Nat → Int32) (gl : Nat → Int64) (a : Nat → Nat → Int32) (al : Nat → Nat → Int64) (m : Nat) (h25 : g 25 = nI m) (hm : m < 1000) (x : Int32) : zm_Ev zt_get 1 96 [.ref 0, .int x] (zw_C g gl a al) (fun v w => v = some (.int (nI (zx_in x m).toNat)) ∧ w = (zw_C g gl a al)) := by
  refine zr_ev zt_X_isGreatest rfl rfl ?_
  show zm_Run zt_get 0 zt_X_isGreatest (0, [some (.ref 0), some (.int x)], [], (zw_C g gl a al)) _
  refine zr_go (t := (1, [some (.ref 0), some (.int x)], [.int x], (zw_C g gl a al))) 1 rfl ?_
  refine zr_if (c := x < 0) (t := (19, [some (.ref 0), some (.int x)], [], (zw_C g gl a al))) (f := (4, [some (.ref 0), some (.int x)], [], (zw_C g gl a al))) rfl (fun h2 => ?_) (fun h2 => ?_)
  · skip
    refine zr_go (t := (20, [some (.ref 0), some (.int x)], [.int 0], (zw_C g gl a al))) 1 rfl ?_
    exact zr_ret rfl (Or.inl rfl) ⟨by rw [zx_no (fun q => by rw [Int32.lt_iff_toInt_lt, show (0 : Int32).toInt = 0 from rfl] at h2; omega)]; rfl, rfl⟩
  · skip
    obtain ⟨hx1, hx2⟩ := zk_of0 (zx_nn h2)
    generalize hXk : zx_k x = k at hx1 hx2
    subst hx2
    refine zr_go (t := (12, [some (.ref 0), some (.int (nI k))], [.int (g 25), .int (nI k)], (zw_C g gl a al))) 4 rfl ?_
    refine zr_ige (x := nI k) (y := g 25) k m rfl h25 (by omega) (by omega) (t := (19, [some (.ref 0), some (.int (nI k))], [], (zw_C g gl a al))) (f := (15, [some (.ref 0), some (.int (nI k))], [], (zw_C g gl a al))) rfl (fun h3 => ?_) (fun h3 => ?_)
    · skip
      refine zr_go (t := (20, [some (.ref 0), some (.int (nI k))], [.int 0], (zw_C g gl a al))) 1 rfl ?_
      exact zr_ret rfl (Or.inl rfl) ⟨by rw [zx_no (fun q => by rw [nI_toInt (by omega)] at q; omega)]; rfl, rfl⟩
    · skip
      refine zr_go (t := (20, [some (.ref 0), some (.int (nI k))], [.int 1], (zw_C g gl a al))) 2 rfl ?_
      exact zr_ret rfl (Or.inr rfl) ⟨by rw [zx_yes (by rw [nI_toInt (by omega)]; omega)]; rfl, rfl⟩
theorem zs_C_isMember (g : Nat → Int32) (gl : Nat → Int64) (a : Nat → Nat → Int32) (al : Nat → Nat → Int64) (P N : Nat) (c : Nat → Nat) (sv : Bool) (n0 : Nat) (e0 : Nat → Nat) (n1 : Nat) (e1 : Nat → Nat) (hK : zK_1 g a al P N c sv true n0 e0 n1 e1) (x : Int32) : zm_Ev zt_get 6 95 [.ref 0, .int x] (zw_C g gl a al) (fun v w => v = some (.int (nI (zx_in x (zv_np P N) && zw_oo P N c (zx_k x)).toNat)) ∧ ∃ g' a', w = zw_C g' gl a' al ∧ zK_1 g' a' al P N c (decide (0 < P)) true n0 e0 n1 e1 ∧ zK_e g a g' a') := by
  refine zr_ev zt_X_isMember rfl rfl ?_
  show zm_Run zt_get 5 zt_X_isMember (0, [some (.ref 0), some (.int x)], [], (zw_C g gl a al)) _
  refine zr_go (t := (2, [some (.ref 0), some (.int x)], [.int x, .ref 0], (zw_C g gl a al))) 2 rfl ?_
  refine zr_call (t := (5, [some (.ref 0), some (.int x)], [], (zw_C g gl a al))) rfl (Nat.le_of_ble_eq_true rfl : 5 ≤ 5) (zs_C_hasPoint g gl a al P N c sv true n0 e0 n1 e1 hK x) ?_
  rintro _ _ ⟨rfl, g1, a1, rfl, hK1, he1⟩
  have hdb := zb_le (decide (0 < P) && zx_in x (zv_np P N))
  show zm_Run zt_get 5 zt_X_isMember (5, [some (.ref 0), some (.int x)], [.int (nI ((decide (0 < P) && zx_in x (zv_np P N)).toNat))], (zw_C g1 gl a1 al)) _
  have hd : decide (0 < P) = true := by
    obtain ⟨-, -, -, -, -, -, -, hcase⟩ := hK
    rcases hcase with ⟨_, _, _, q, _⟩ | ⟨⟨hok, _⟩, _⟩
    · cases q
    · exact decide_eq_true (zv_Pn hok)
  refine zr_ieq (x := nI ((decide (0 < P) && zx_in x (zv_np P N)).toNat)) (y := 0) ((decide (0 < P) && zx_in x (zv_np P N)).toNat) 0 rfl rfl (by omega) (by omega) (t := (43, [some (.ref 0), some (.int x)], [], (zw_C g1 gl a1 al))) (f := (8, [some (.ref 0), some (.int x)], [], (zw_C g1 gl a1 al))) rfl (fun h1 => ?_) (fun h1 => ?_)
  · skip
    have hx := zb_0n _ h1
    rw [hd, Bool.true_and] at hx
    refine zr_go (t := (44, [some (.ref 0), some (.int x)], [.int 0], (zw_C g1 gl a1 al))) 1 rfl ?_
    exact zr_ret rfl (Or.inl rfl) ⟨by rw [hx]; rfl, g1, a1, rfl, hK1, he1⟩
  · skip
    have hx := zb_1n _ h1
    rw [hd, Bool.true_and] at hx
    rw [hd] at hK1
    obtain ⟨hx1, hx2⟩ := zx_of hx
    obtain ⟨p, hp⟩ : ∃ p, p = zx_k x := ⟨_, rfl⟩
    rw [← hp] at hx1 hx2 ⊢
    rw [hx, Bool.true_and]
    clear hp
    subst hx2
    obtain ⟨hm, hc4, h4, h5, h24, h26, h12, hcase⟩ := id hK1
    rcases hcase with ⟨_, _, q, _⟩ | ⟨⟨hok, h11, hcP, hQ⟩, hsv, hbt, hnb⟩
    · skip
      cases q
    · skip
      obtain ⟨-, hnp1, hnp0⟩ := zv_nums hok
      have hrk := (hsv rfl).2.2.2.2.1 p hx1
      obtain ⟨-, hns, ht, hs, hl⟩ := hbt rfl
      have h23 := hs.1
      have hon1 := (zj_nums (c := c) hok).1
      refine zr_go (t := (16, [some (.ref 0), some (.int (nI p))], [.int (nI p), .ref 19], (zw_C g1 gl a1 al))) 4 rfl ?_
      refine zr_cd (t := (17, [some (.ref 0), some (.int (nI p))], [.int ((a1 19) (nI p).toNatClampNeg)], (zw_C g1 gl a1 al))) rfl (pk_in p 156 (by omega) rfl (by omega)) ?_
      rw [pk_cl (x := (nI p)) p rfl (by omega)]
      rw [hrk]
      cases ho : zw_oo P N c p with
      | false =>
        rw [ho] at hrk
        show zm_Run zt_get 5 zt_X_isMember (17, [some (.ref 0), some (.int (nI p))], [.int (-1)], (zw_C g1 gl a1 al)) _
        refine zr_if (c := (-1) < 0) (t := (43, [some (.ref 0), some (.int (nI p))], [], (zw_C g1 gl a1 al))) (f := (20, [some (.ref 0), some (.int (nI p))], [], (zw_C g1 gl a1 al))) rfl (fun h2 => ?_) (fun h2 => ?_)
        · skip
          refine zr_go (t := (44, [some (.ref 0), some (.int (nI p))], [.int 0], (zw_C g1 gl a1 al))) 1 rfl ?_
          exact zr_ret rfl (Or.inl rfl) ⟨rfl, g1, a1, rfl, by rw [hd]; exact hK1, he1⟩
        · skip
          exact absurd (by decide) h2
      | true =>
        rw [ho] at hrk
        have hrk : a1 19 p = nI (zC (zw_oo P N c) p) := hrk
        have hzl : zC (zw_oo P N c) p < zw_on P N c := zC_lt ho hx1
        show zm_Run zt_get 5 zt_X_isMember (17, [some (.ref 0), some (.int (nI p))], [.int (nI (zC (zw_oo P N c) p))], (zw_C g1 gl a1 al)) _
        refine zr_ilt (x := nI (zC (zw_oo P N c) p)) (y := 0) (zC (zw_oo P N c) p) 0 rfl rfl (by omega) (by omega) (t := (43, [some (.ref 0), some (.int (nI p))], [], (zw_C g1 gl a1 al))) (f := (20, [some (.ref 0), some (.int (nI p))], [], (zw_C g1 gl a1 al))) rfl (fun h2 => ?_) (fun h2 => ?_)
        · skip
          exfalso; omega
        · skip
          refine zr_go (t := (28, [some (.ref 0), some (.int (nI p))], [.int (nI p), .ref 19], (zw_C g1 gl a1 al))) 4 rfl ?_
          refine zr_cd (t := (29, [some (.ref 0), some (.int (nI p))], [.int ((a1 19) (nI p).toNatClampNeg)], (zw_C g1 gl a1 al))) rfl (pk_in p 156 (by omega) rfl (by omega)) ?_
          rw [pk_cl (x := (nI p)) p rfl (by omega)]
          rw [hrk]
          refine zr_go (t := (36, [some (.ref 0), some (.int (nI p))], [.int (g1 23), .int (nI (zC (zw_oo P N c) p))], (zw_C g1 gl a1 al))) 3 rfl ?_
          refine zr_ige (x := nI (zC (zw_oo P N c) p)) (y := g1 23) (zC (zw_oo P N c) p) (zw_on P N c) rfl h23 (by omega) (by omega) (t := (43, [some (.ref 0), some (.int (nI p))], [], (zw_C g1 gl a1 al))) (f := (39, [some (.ref 0), some (.int (nI p))], [], (zw_C g1 gl a1 al))) rfl (fun h3 => ?_) (fun h3 => ?_)
          · skip
            exfalso; omega
          · skip
            refine zr_go (t := (44, [some (.ref 0), some (.int (nI p))], [.int 1], (zw_C g1 gl a1 al))) 2 rfl ?_
            exact zr_ret rfl (Or.inr rfl) ⟨rfl, g1, a1, rfl, by rw [hd]; exact hK1, he1⟩
theorem zs_C_pointTotal (g : Nat → Int32) (gl : Nat → Int64) (a : Nat → Nat → Int32) (al : Nat → Nat → Int64) (P N : Nat) (c : Nat → Nat) (sv bt : Bool) (n0 : Nat) (e0 : Nat → Nat) (n1 : Nat) (e1 : Nat → Nat) (hK : zK_1 g a al P N c sv bt n0 e0 n1 e1) : zm_Ev zt_get 5 97 [.ref 0] (zw_C g gl a al) (fun v w => v = some (.int (nI (if 0 < P then zv_np P N else 0))) ∧ ∃ g' a', w = zw_C g' gl a' al ∧ zK_1 g' a' al P N c (decide (0 < P)) bt n0 e0 n1 e1 ∧ zK_e g a g' a') := by
  refine zr_ev zt_X_pointTotal rfl rfl ?_
  show zm_Run zt_get 4 zt_X_pointTotal (0, [some (.ref 0)], [], (zw_C g gl a al)) _
  refine zr_go (t := (1, [some (.ref 0)], [.ref 0], (zw_C g gl a al))) 1 rfl ?_
  refine zr_call (t := (4, [some (.ref 0)], [], (zw_C g gl a al))) rfl (Nat.le_of_ble_eq_true rfl : 4 ≤ 4) (zs_C_hasForm g gl a al P N c sv bt n0 e0 n1 e1 hK) ?_
  rintro _ _ ⟨rfl, g1, a1, rfl, hK1, he1⟩
  have hdb := zb_le (decide (0 < P))
  show zm_Run zt_get 4 zt_X_pointTotal (4, [some (.ref 0)], [.int (nI ((decide (0 < P)).toNat))], (zw_C g1 gl a1 al)) _
  refine zr_ieq (x := nI ((decide (0 < P)).toNat)) (y := 0) ((decide (0 < P)).toNat) 0 rfl rfl (by omega) (by omega) (t := (17, [some (.ref 0)], [], (zw_C g1 gl a1 al))) (f := (7, [some (.ref 0)], [], (zw_C g1 gl a1 al))) rfl (fun h1 => ?_) (fun h1 => ?_)
  · skip
    have hd := zb_0n _ h1
    have hP : ¬ 0 < P := of_decide_eq_false hd
    refine zr_go (t := (18, [some (.ref 0)], [.int 0], (zw_C g1 gl a1 al))) 1 rfl ?_
    exact zr_ret rfl trivial ⟨by rw [if_neg hP]; rfl, g1, a1, rfl, hK1, he1⟩
  · skip
    have hd := zb_1n _ h1
    rw [hd] at hK1
    have hP0 : 0 < P := of_decide_eq_true hd
    obtain ⟨hm, hc4, h4, h5, h24, h26, h12, hcase⟩ := id hK1
    rcases hcase with ⟨_, _, q, _⟩ | ⟨⟨hok, h11, hcP, hQ⟩, hsv, hbt, hnb⟩
    · skip
      cases q
    · skip
      have hv := hsv rfl
      have hN6 := zv_okN hok
      have hN3 := hok.2.1
      obtain ⟨-, hnp1, hnp0⟩ := zv_nums hok
      have hon1 := (zj_nums (c := c) hok).1
      have h17 := hQ.2.2.2.1
      have h18 := hv.1
      refine zr_go (t := (18, [some (.ref 0)], [.int (g1 17)], (zw_C g1 gl a1 al))) 4 rfl ?_
      rw [show g1 17 = nI (zv_np P N) from h17]
      exact zr_ret rfl trivial ⟨by rw [if_pos hP0], g1, a1, rfl, by rw [hd]; exact hK1, he1⟩
theorem zs_C_memberTotal (g : Nat → Int32) (gl : Nat → Int64) (a : Nat → Nat → Int32) (al : Nat → Nat → Int64) (P N : Nat) (c : Nat → Nat) (sv bt : Bool) (n0 : Nat) (e0 : Nat → Nat) (n1 : Nat) (e1 : Nat → Nat) (hK : zK_1 g a al P N c sv bt n0 e0 n1 e1) : zm_Ev zt_get 5 98 [.ref 0] (zw_C g gl a al) (fun v w => v = some (.int (nI (if 0 < P then zw_on P N c else 0))) ∧ ∃ g' a', w = zw_C g' gl a' al ∧ zK_1 g' a' al P N c (decide (0 < P)) bt n0 e0 n1 e1 ∧ zK_e g a g' a') := by
  refine zr_ev zt_X_memberTotal rfl rfl ?_
  show zm_Run zt_get 4 zt_X_memberTotal (0, [some (.ref 0)], [], (zw_C g gl a al)) _
  refine zr_go (t := (1, [some (.ref 0)], [.ref 0], (zw_C g gl a al))) 1 rfl ?_
  refine zr_call (t := (4, [some (.ref 0)], [], (zw_C g gl a al))) rfl (Nat.le_of_ble_eq_true rfl : 4 ≤ 4) (zs_C_hasForm g gl a al P N c sv bt n0 e0 n1 e1 hK) ?_
  rintro _ _ ⟨rfl, g1, a1, rfl, hK1, he1⟩
  have hdb := zb_le (decide (0 < P))
  show zm_Run zt_get 4 zt_X_memberTotal (4, [some (.ref 0)], [.int (nI ((decide (0 < P)).toNat))], (zw_C g1 gl a1 al)) _
  refine zr_ieq (x := nI ((decide (0 < P)).toNat)) (y := 0) ((decide (0 < P)).toNat) 0 rfl rfl (by omega) (by omega) (t := (17, [some (.ref 0)], [], (zw_C g1 gl a1 al))) (f := (7, [some (.ref 0)], [], (zw_C g1 gl a1 al))) rfl (fun h1 => ?_) (fun h1 => ?_)
  · skip
    have hd := zb_0n _ h1
    have hP : ¬ 0 < P := of_decide_eq_false hd
    refine zr_go (t := (18, [some (.ref 0)], [.int 0], (zw_C g1 gl a1 al))) 1 rfl ?_
    exact zr_ret rfl trivial ⟨by rw [if_neg hP]; rfl, g1, a1, rfl, hK1, he1⟩
  · skip
    have hd := zb_1n _ h1
    rw [hd] at hK1
    have hP0 : 0 < P := of_decide_eq_true hd
    obtain ⟨hm, hc4, h4, h5, h24, h26, h12, hcase⟩ := id hK1
    rcases hcase with ⟨_, _, q, _⟩ | ⟨⟨hok, h11, hcP, hQ⟩, hsv, hbt, hnb⟩
    · skip
      cases q
    · skip
      have hv := hsv rfl
      have hN6 := zv_okN hok
      have hN3 := hok.2.1
      obtain ⟨-, hnp1, hnp0⟩ := zv_nums hok
      have hon1 := (zj_nums (c := c) hok).1
      have h17 := hQ.2.2.2.1
      have h18 := hv.1
      refine zr_go (t := (18, [some (.ref 0)], [.int (g1 18)], (zw_C g1 gl a1 al))) 4 rfl ?_
      rw [show g1 18 = nI (zw_on P N c) from h18]
      exact zr_ret rfl trivial ⟨by rw [if_pos hP0], g1, a1, rfl, by rw [hd]; exact hK1, he1⟩
theorem zs_C_sideOf_0 (g : Nat → Int32) (gl : Nat → Int64) (a : Nat → Nat → Int32) (al : Nat → Nat → Int64) : zm_Ev zt_get 1 99 [.ref 0, .int (nI 0)] (zw_C g gl a al) (fun v w => v = some (.ref 6) ∧ w = (zw_C g gl a al)) := by
  refine zr_ev zt_X_sideOf rfl rfl ?_
  show zm_Run zt_get 0 zt_X_sideOf (0, [some (.ref 0), some (.int (nI 0))], [], (zw_C g gl a al)) _
  refine zr_go (t := (1, [some (.ref 0), some (.int (nI 0))], [.int (nI 0)], (zw_C g gl a al))) 1 rfl ?_
  refine zr_ine (x := nI 0) (y := 0) 0 0 rfl rfl (by omega) (by omega) (t := (11, [some (.ref 0), some (.int (nI 0))], [], (zw_C g gl a al))) (f := (4, [some (.ref 0), some (.int (nI 0))], [], (zw_C g gl a al))) rfl (fun h1 => ?_) (fun h1 => ?_)
  · skip
    exact absurd rfl h1
  · skip
    refine zr_go (t := (15, [some (.ref 0), some (.int (nI 0))], [.ref 6], (zw_C g gl a al))) 3 rfl ?_
    exact zr_ret rfl trivial ⟨rfl, rfl⟩
theorem zs_C_sideOf_1 (g : Nat → Int32) (gl : Nat → Int64) (a : Nat → Nat → Int32) (al : Nat → Nat → Int64) : zm_Ev zt_get 1 99 [.ref 0, .int (nI 1)] (zw_C g gl a al) (fun v w => v = some (.ref 7) ∧ w = (zw_C g gl a al)) := by
  refine zr_ev zt_X_sideOf rfl rfl ?_
  show zm_Run zt_get 0 zt_X_sideOf (0, [some (.ref 0), some (.int (nI 1))], [], (zw_C g gl a al)) _
  refine zr_go (t := (1, [some (.ref 0), some (.int (nI 1))], [.int (nI 1)], (zw_C g gl a al))) 1 rfl ?_
  refine zr_ine (x := nI 1) (y := 0) 1 0 rfl rfl (by omega) (by omega) (t := (11, [some (.ref 0), some (.int (nI 1))], [], (zw_C g gl a al))) (f := (4, [some (.ref 0), some (.int (nI 1))], [], (zw_C g gl a al))) rfl (fun h1 => ?_) (fun h1 => ?_)
  · skip
    refine zr_go (t := (15, [some (.ref 0), some (.int (nI 1))], [.ref 7], (zw_C g gl a al))) 2 rfl ?_
    exact zr_ret rfl trivial ⟨rfl, rfl⟩
  · skip
    exact absurd h1 (by decide)
theorem zs_C_searchOf_0 (g : Nat → Int32) (gl : Nat → Int64) (a : Nat → Nat → Int32) (al : Nat → Nat → Int64) : zm_Ev zt_get 1 100 [.ref 0, .int (nI 0)] (zw_C g gl a al) (fun v w => v = some (.ref 8) ∧ w = (zw_C g gl a al)) := by
  refine zr_ev zt_X_searchOf rfl rfl ?_
  show zm_Run zt_get 0 zt_X_searchOf (0, [some (.ref 0), some (.int (nI 0))], [], (zw_C g gl a al)) _
  refine zr_go (t := (1, [some (.ref 0), some (.int (nI 0))], [.int (nI 0)], (zw_C g gl a al))) 1 rfl ?_
  refine zr_ine (x := nI 0) (y := 0) 0 0 rfl rfl (by omega) (by omega) (t := (11, [some (.ref 0), some (.int (nI 0))], [], (zw_C g gl a al))) (f := (4, [some (.ref 0), some (.int (nI 0))], [], (zw_C g gl a al))) rfl (fun h1 => ?_) (fun h1 => ?_)
  · skip
    exact absurd rfl h1
  · skip
    refine zr_go (t := (15, [some (.ref 0), some (.int (nI 0))], [.ref 8], (zw_C g gl a al))) 3 rfl ?_
    exact zr_ret rfl trivial ⟨rfl, rfl⟩
theorem zs_C_searchOf_1 (g : Nat → Int32) (gl : Nat → Int64) (a : Nat → Nat → Int32) (al : Nat → Nat → Int64) : zm_Ev zt_get 1 100 [.ref 0, .int (nI 1)] (zw_C g gl a al) (fun v w => v = some (.ref 9) ∧ w = (zw_C g gl a al)) := by
  refine zr_ev zt_X_searchOf rfl rfl ?_
  show zm_Run zt_get 0 zt_X_searchOf (0, [some (.ref 0), some (.int (nI 1))], [], (zw_C g gl a al)) _
  refine zr_go (t := (1, [some (.ref 0), some (.int (nI 1))], [.int (nI 1)], (zw_C g gl a al))) 1 rfl ?_
  refine zr_ine (x := nI 1) (y := 0) 1 0 rfl rfl (by omega) (by omega) (t := (11, [some (.ref 0), some (.int (nI 1))], [], (zw_C g gl a al))) (f := (4, [some (.ref 0), some (.int (nI 1))], [], (zw_C g gl a al))) rfl (fun h1 => ?_) (fun h1 => ?_)
  · skip
    refine zr_go (t := (15, [some (.ref 0), some (.int (nI 1))], [.ref 9], (zw_C g gl a al))) 2 rfl ?_
    exact zr_ret rfl trivial ⟨rfl, rfl⟩
  · skip
    exact absurd h1 (by decide)
theorem zs_C_entryOf_0 (g : Nat → Int32) (gl : Nat → Int64) (a : Nat → Nat → Int32) (al : Nat → Nat → Int64) (P N : Nat) (c : Nat → Nat) (sv : Bool) (n0 : Nat) (e0 : Nat → Nat) (n1 : Nat) (e1 : Nat → Nat) (hK : zK_1 g a al P N c sv true n0 e0 n1 e1) (k : Nat) (hk : k < n0) : zm_Ev zt_get 1 101 [.ref 0, .int (nI 0), .int (nI k)] (zw_C g gl a al) (fun v w => v = some (.int (nI (zX (zw_oo P N c) (zv_np P N) (e0 k)))) ∧ w = (zw_C g gl a al)) := by
  obtain ⟨hm, hc4, h4, h5, h24, h26, h12, hcase⟩ := id hK
  rcases hcase with ⟨_, _, _, q, _⟩ | ⟨⟨hok, h11, hcP, hQ⟩, hsv, hbt, hnb⟩
  · cases q
  obtain ⟨hsv1, hns, ht, hs, hl0, hl1, hl2, hl3⟩ := hbt rfl
  have hmb := (hsv hsv1).2.2.2.2.2
  have hon1 := (zj_nums (c := c) hok).1
  obtain ⟨hk1, hk2⟩ := hl2 k hk
  refine zr_ev zt_X_entryOf rfl rfl ?_
  show zm_Run zt_get 0 zt_X_entryOf (0, [some (.ref 0), some (.int (nI 0)), some (.int (nI k))], [], (zw_C g gl a al)) _
  refine zr_go (t := (1, [some (.ref 0), some (.int (nI 0)), some (.int (nI k))], [.int (nI 0)], (zw_C g gl a al))) 1 rfl ?_
  refine zr_ine (x := nI 0) (y := 0) 0 0 rfl rfl (by omega) (by omega) (t := (24, [some (.ref 0), some (.int (nI 0)), some (.int (nI k))], [], (zw_C g gl a al))) (f := (4, [some (.ref 0), some (.int (nI 0)), some (.int (nI k))], [], (zw_C g gl a al))) rfl (fun h1 => ?_) (fun h1 => ?_)
  · skip
    exact absurd rfl h1
  · skip
    refine zr_go (t := (19, [some (.ref 0), some (.int (nI 0)), some (.int (nI k))], [.int (nI k), .ref 26, .ref 18], (zw_C g gl a al))) 7 rfl ?_
    refine zr_cd (t := (20, [some (.ref 0), some (.int (nI 0)), some (.int (nI k))], [.int ((a 26) (nI k).toNatClampNeg), .ref 18], (zw_C g gl a al))) rfl (pk_in k 64 (by omega) rfl (by omega)) ?_
    rw [pk_cl (x := (nI k)) k rfl (by omega)]
    rw [show (a 26) k = nI (e0 k) from hk1]
    refine zr_cd (t := (21, [some (.ref 0), some (.int (nI 0)), some (.int (nI k))], [.int ((a 18) (nI (e0 k)).toNatClampNeg)], (zw_C g gl a al))) rfl (pk_in (e0 k) 156 (by omega) rfl (by omega)) ?_
    rw [pk_cl (x := (nI (e0 k))) (e0 k) rfl (by omega)]
    rw [show (a 18) (e0 k) = nI (zX (zw_oo P N c) (zv_np P N) (e0 k)) from hmb (e0 k) hk2]
    refine zr_go (t := (33, [some (.ref 0), some (.int (nI 0)), some (.int (nI k))], [.int (nI (zX (zw_oo P N c) (zv_np P N) (e0 k)))], (zw_C g gl a al))) 1 rfl ?_
    exact zr_ret rfl trivial ⟨rfl, rfl⟩
theorem zs_C_entryOf_1 (g : Nat → Int32) (gl : Nat → Int64) (a : Nat → Nat → Int32) (al : Nat → Nat → Int64) (P N : Nat) (c : Nat → Nat) (sv : Bool) (n0 : Nat) (e0 : Nat → Nat) (n1 : Nat) (e1 : Nat → Nat) (hK : zK_1 g a al P N c sv true n0 e0 n1 e1) (k : Nat) (hk : k < n1) : zm_Ev zt_get 1 101 [.ref 0, .int (nI 1), .int (nI k)] (zw_C g gl a al) (fun v w => v = some (.int (nI (e1 k))) ∧ w = (zw_C g gl a al)) := by
  obtain ⟨hm, hc4, h4, h5, h24, h26, h12, hcase⟩ := id hK
  rcases hcase with ⟨_, _, _, q, _⟩ | ⟨⟨hok, h11, hcP, hQ⟩, hsv, hbt, hnb⟩
  · cases q
  obtain ⟨hsv1, hns, ht, hs, hl0, hl1, hl2, hl3⟩ := hbt rfl
  have hmb := (hsv hsv1).2.2.2.2.2
  have hon1 := (zj_nums (c := c) hok).1
  obtain ⟨hk1, hk2⟩ := hl3 k hk
  refine zr_ev zt_X_entryOf rfl rfl ?_
  show zm_Run zt_get 0 zt_X_entryOf (0, [some (.ref 0), some (.int (nI 1)), some (.int (nI k))], [], (zw_C g gl a al)) _
  refine zr_go (t := (1, [some (.ref 0), some (.int (nI 1)), some (.int (nI k))], [.int (nI 1)], (zw_C g gl a al))) 1 rfl ?_
  refine zr_ine (x := nI 1) (y := 0) 1 0 rfl rfl (by omega) (by omega) (t := (24, [some (.ref 0), some (.int (nI 1)), some (.int (nI k))], [], (zw_C g gl a al))) (f := (4, [some (.ref 0), some (.int (nI 1)), some (.int (nI k))], [], (zw_C g gl a al))) rfl (fun h1 => ?_) (fun h1 => ?_)
  · skip
    refine zr_go (t := (32, [some (.ref 0), some (.int (nI 1)), some (.int (nI k))], [.int (nI k), .ref 29], (zw_C g gl a al))) 4 rfl ?_
    refine zr_cd (t := (33, [some (.ref 0), some (.int (nI 1)), some (.int (nI k))], [.int ((a 29) (nI k).toNatClampNeg)], (zw_C g gl a al))) rfl (pk_in k 64 (by omega) rfl (by omega)) ?_
    rw [pk_cl (x := (nI k)) k rfl (by omega)]
    rw [show (a 29) k = nI (e1 k) from hk1]
    exact zr_ret rfl trivial ⟨rfl, rfl⟩
  · skip
    exact absurd h1 (by decide)
theorem zs_C_missing_0 (g : Nat → Int32) (gl : Nat → Int64) (a : Nat → Nat → Int32) (al : Nat → Nat → Int64) (P N : Nat) (c : Nat → Nat) (sv : Bool) (n0 : Nat) (e0 : Nat → Nat) (n1 : Nat) (e1 : Nat → Nat) (hK : zK_1 g a al P N c sv true n0 e0 n1 e1) (hJ : zJ) : zm_Ev zt_get 2 102 [.ref 0, .int (nI 0)] (zw_C g gl a al) (fun v w => v = some (.int (nI (zj_gm P N c) - nI (zC (lb (zg_or (fun k => zj_p P N c (e0 k)) n0)) 64))) ∧ w = (zw_C g gl a al)) := by
  obtain ⟨hm, hc4, h4, h5, h24, h26, h12, hcase⟩ := id hK
  rcases hcase with ⟨_, _, _, q, _⟩ | ⟨⟨hok, h11, hcP, hQ⟩, hsv, hbt, hnb⟩
  · cases q
  obtain ⟨hsv1, hns, ht, hs, hl0, hl1, hl2, hl3⟩ := hbt rfl
  have hmb := (hsv hsv1).2.2.2.2.2
  have hon1 := (zj_nums (c := c) hok).1
  obtain ⟨hn45, -, -, hgm45⟩ := hJ P N c hok hns
  obtain ⟨h23, h25, h24c, h25c, h27c, h28c⟩ := hs
  refine zr_ev zt_X_missing rfl rfl ?_
  show zm_Run zt_get 1 zt_X_missing (0, [some (.ref 0), some (.int (nI 0))], [], (zw_C g gl a al)) _
  refine zr_go (t := (4, [some (.ref 0), some (.int (nI 0))], [.int (1 - (nI 0)), .ref 0], (zw_C g gl a al))) 4 rfl ?_
  rw [show (1 : Int32) - nI 0 = 1 from rfl]
  show zm_Run zt_get 1 zt_X_missing (4, [some (.ref 0), some (.int (nI 0))], [.int (nI 1), .ref 0], (zw_C g gl a al)) _
  refine zr_call (t := (7, [some (.ref 0), some (.int (nI 0))], [], (zw_C g gl a al))) rfl (Nat.le_of_ble_eq_true rfl : 1 ≤ 1) (zs_C_sideOf_1 g gl a al) ?_
  rintro _ _ ⟨rfl, rfl⟩
  show zm_Run zt_get 1 zt_X_missing (7, [some (.ref 0), some (.int (nI 0))], [.ref 7], (zw_C g gl a al)) _
  refine zr_go (t := (12, [some (.ref 0), some (.int (nI 0))], [.int (nI 0), .ref 0, .int (g 25)], (zw_C g gl a al))) 3 rfl ?_
  refine zr_call (t := (15, [some (.ref 0), some (.int (nI 0))], [.int (g 25)], (zw_C g gl a al))) rfl (Nat.le_of_ble_eq_true rfl : 1 ≤ 1) (zs_C_sideOf_0 g gl a al) ?_
  rintro _ _ ⟨rfl, rfl⟩
  show zm_Run zt_get 1 zt_X_missing (15, [some (.ref 0), some (.int (nI 0))], [.ref 6, .int (g 25)], (zw_C g gl a al)) _
  refine zr_call (t := (18, [some (.ref 0), some (.int (nI 0))], [.int (g 25)], (zw_C g gl a al))) rfl (Nat.le_of_ble_eq_true rfl : 1 ≤ 1) (zs_C_covered_6 g gl a al n0 h24 (by omega) e0 (fun k hk => (hl2 k hk).1) (zw_on P N c) (by omega) (fun k hk => (hl2 k hk).2) (zj_p P N c) h24c) ?_
  rintro _ _ ⟨rfl, rfl⟩
  show zm_Run zt_get 1 zt_X_missing (18, [some (.ref 0), some (.int (nI 0))], [.long (zg_or (fun k => zj_p P N c (e0 k)) n0), .int (g 25)], (zw_C g gl a al)) _
  refine zr_call (t := (21, [some (.ref 0), some (.int (nI 0))], [.int (g 25)], (zw_C g gl a al))) rfl (Nat.le_of_ble_eq_true rfl : 1 ≤ 1) (zs_C_bitCount g gl a al (zg_or (fun k => zj_p P N c (e0 k)) n0)) ?_
  rintro _ _ ⟨rfl, rfl⟩
  show zm_Run zt_get 1 zt_X_missing (21, [some (.ref 0), some (.int (nI 0))], [.int (nI (zC (lb (zg_or (fun k => zj_p P N c (e0 k)) n0)) 64)), .int (g 25)], (zw_C g gl a al)) _
  refine zr_go (t := (22, [some (.ref 0), some (.int (nI 0))], [.int ((g 25) - (nI (zC (lb (zg_or (fun k => zj_p P N c (e0 k)) n0)) 64)))], (zw_C g gl a al))) 1 rfl ?_
  rw [h25]
  exact zr_ret rfl trivial ⟨rfl, rfl⟩
theorem zs_C_missing_1 (g : Nat → Int32) (gl : Nat → Int64) (a : Nat → Nat → Int32) (al : Nat → Nat → Int64) (P N : Nat) (c : Nat → Nat) (sv : Bool) (n0 : Nat) (e0 : Nat → Nat) (n1 : Nat) (e1 : Nat → Nat) (hK : zK_1 g a al P N c sv true n0 e0 n1 e1) (hJ : zJ) : zm_Ev zt_get 2 102 [.ref 0, .int (nI 1)] (zw_C g gl a al) (fun v w => v = some (.int (nI (zw_on P N c) - nI (zC (lb (zg_or (fun k => zj_m P N c (e1 k)) n1)) 64))) ∧ w = (zw_C g gl a al)) := by
  obtain ⟨hm, hc4, h4, h5, h24, h26, h12, hcase⟩ := id hK
  rcases hcase with ⟨_, _, _, q, _⟩ | ⟨⟨hok, h11, hcP, hQ⟩, hsv, hbt, hnb⟩
  · cases q
  obtain ⟨hsv1, hns, ht, hs, hl0, hl1, hl2, hl3⟩ := hbt rfl
  have hmb := (hsv hsv1).2.2.2.2.2
  have hon1 := (zj_nums (c := c) hok).1
  obtain ⟨hn45, -, -, hgm45⟩ := hJ P N c hok hns
  obtain ⟨h23, h25, h24c, h25c, h27c, h28c⟩ := hs
  refine zr_ev zt_X_missing rfl rfl ?_
  show zm_Run zt_get 1 zt_X_missing (0, [some (.ref 0), some (.int (nI 1))], [], (zw_C g gl a al)) _
  refine zr_go (t := (4, [some (.ref 0), some (.int (nI 1))], [.int (1 - (nI 1)), .ref 0], (zw_C g gl a al))) 4 rfl ?_
  rw [show (1 : Int32) - nI 1 = 0 from rfl]
  show zm_Run zt_get 1 zt_X_missing (4, [some (.ref 0), some (.int (nI 1))], [.int (nI 0), .ref 0], (zw_C g gl a al)) _
  refine zr_call (t := (7, [some (.ref 0), some (.int (nI 1))], [], (zw_C g gl a al))) rfl (Nat.le_of_ble_eq_true rfl : 1 ≤ 1) (zs_C_sideOf_0 g gl a al) ?_
  rintro _ _ ⟨rfl, rfl⟩
  show zm_Run zt_get 1 zt_X_missing (7, [some (.ref 0), some (.int (nI 1))], [.ref 6], (zw_C g gl a al)) _
  refine zr_go (t := (12, [some (.ref 0), some (.int (nI 1))], [.int (nI 1), .ref 0, .int (g 23)], (zw_C g gl a al))) 3 rfl ?_
  refine zr_call (t := (15, [some (.ref 0), some (.int (nI 1))], [.int (g 23)], (zw_C g gl a al))) rfl (Nat.le_of_ble_eq_true rfl : 1 ≤ 1) (zs_C_sideOf_1 g gl a al) ?_
  rintro _ _ ⟨rfl, rfl⟩
  show zm_Run zt_get 1 zt_X_missing (15, [some (.ref 0), some (.int (nI 1))], [.ref 7, .int (g 23)], (zw_C g gl a al)) _
  refine zr_call (t := (18, [some (.ref 0), some (.int (nI 1))], [.int (g 23)], (zw_C g gl a al))) rfl (Nat.le_of_ble_eq_true rfl : 1 ≤ 1) (zs_C_covered_7 g gl a al n1 h26 (by omega) e1 (fun k hk => (hl3 k hk).1) (zj_gm P N c) (by omega) (fun k hk => (hl3 k hk).2) (zj_m P N c) h27c) ?_
  rintro _ _ ⟨rfl, rfl⟩
  show zm_Run zt_get 1 zt_X_missing (18, [some (.ref 0), some (.int (nI 1))], [.long (zg_or (fun k => zj_m P N c (e1 k)) n1), .int (g 23)], (zw_C g gl a al)) _
  refine zr_call (t := (21, [some (.ref 0), some (.int (nI 1))], [.int (g 23)], (zw_C g gl a al))) rfl (Nat.le_of_ble_eq_true rfl : 1 ≤ 1) (zs_C_bitCount g gl a al (zg_or (fun k => zj_m P N c (e1 k)) n1)) ?_
  rintro _ _ ⟨rfl, rfl⟩
  show zm_Run zt_get 1 zt_X_missing (21, [some (.ref 0), some (.int (nI 1))], [.int (nI (zC (lb (zg_or (fun k => zj_m P N c (e1 k)) n1)) 64)), .int (g 23)], (zw_C g gl a al)) _
  refine zr_go (t := (22, [some (.ref 0), some (.int (nI 1))], [.int ((g 23) - (nI (zC (lb (zg_or (fun k => zj_m P N c (e1 k)) n1)) 64)))], (zw_C g gl a al))) 1 rfl ?_
  rw [h23]
  exact zr_ret rfl trivial ⟨rfl, rfl⟩
theorem zs_C_forget (g : Nat → Int32) (gl : Nat → Int64) (a : Nat → Nat → Int32) (al : Nat → Nat → Int64) : zm_Ev zt_get 1 93 [.ref 0] (zw_C g gl a al) (fun v w => v = none ∧ w = (zw_C (upd (upd (upd (upd g 4 0) 5 0) 24 0) 26 0) gl a al)) := by
  refine zr_ev zt_X_forget rfl rfl ?_
  show zm_Run zt_get 0 zt_X_forget (0, [some (.ref 0)], [], (zw_C g gl a al)) _
  refine zr_go (t := (2, [some (.ref 0)], [.int 0, .ref 0], (zw_C g gl a al))) 2 rfl ?_
  refine zr_cd (t := (5, [some (.ref 0)], [], (zw_C (upd g 4 0) gl a al))) rfl (Or.inl rfl) ?_
  refine zr_go (t := (7, [some (.ref 0)], [.int 0, .ref 0], (zw_C (upd g 4 0) gl a al))) 2 rfl ?_
  refine zr_cd (t := (10, [some (.ref 0)], [], (zw_C (upd (upd g 4 0) 5 0) gl a al))) rfl (Or.inl rfl) ?_
  refine zr_go (t := (26, [some (.ref 0)], [], (zw_C (upd (upd (upd (upd g 4 0) 5 0) 24 0) 26 0) gl a al))) 8 rfl ?_
  exact zr_ret rfl trivial ⟨rfl, rfl⟩
