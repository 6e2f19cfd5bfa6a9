/-! the class: finish, ways (written by wip/whole/gen_c17.py) -/
def zj_wk0 (P N : Nat) (c : Nat → Nat) (n0 : Nat) (e0 : Nat → Nat) : Nat × Int64 := zg_wk (zj_p P N c) (zj_kp P N c) (zj_m P N c) (zj_gm P N c) (40 - n0) (zy_all (zj_gm P N c) &&& (zg_or (fun k => zj_p P N c (e0 k)) n0 ^^^ -1)) (zy_all (zw_on P N c) &&& (zg_or (fun k => zj_kp P N c (e0 k)) n0 ^^^ -1)) (zg_or (fun k => zf_b (e0 k)) n0) (0, 0)
def zj_wk1 (P N : Nat) (c : Nat → Nat) (n1 : Nat) (e1 : Nat → Nat) : Nat × Int64 := zg_wk (zj_m P N c) (zj_km P N c) (zj_p P N c) (zw_on P N c) (40 - n1) (zy_all (zw_on P N c) &&& (zg_or (fun k => zj_m P N c (e1 k)) n1 ^^^ -1)) (zy_all (zj_gm P N c) &&& (zg_or (fun k => zj_km P N c (e1 k)) n1 ^^^ -1)) (zg_or (fun k => zf_b (e1 k)) n1) (0, 0)
def zj_f0 (P N : Nat) (c : Nat → Nat) (n0 : Nat) (e0 : Nat → Nat) : Int64 := (zj_wk0 P N c n0 e0).2 &&& (zg_or (fun k => zf_b (e0 k)) n0 ^^^ -1)
def zj_f1 (P N : Nat) (c : Nat → Nat) (n1 : Nat) (e1 : Nat → Nat) : Int64 := (zj_wk1 P N c n1 e1).2 &&& (zg_or (fun k => zf_b (e1 k)) n1 ^^^ -1)
theorem zg_ap_lt {e : Nat → Nat} {l m : Nat} {x : Int64} {n : Nat} (he : ∀ k, k < l → e k < m) (hn : n ≤ m) : ∀ j, j < l + zC (lb x) n → zg_ap e l x n j < m := by
  intro j hj
  unfold zg_ap
  split
  · exact he j (by assumption)
  · have := (zX_ok (f := lb x) (n := n) (l := j - l) (by omega)).1
    omega
theorem zx_k0 : zx_k 0 = 0 := rfl
theorem zx_k1 : zx_k 1 = 1 := rfl
theorem zp_C_finish (w0 : List zm_E) (P N : Nat) (c : Nat → Nat) (n0 : Nat) (e0 : Nat → Nat) (n1 : Nat) (e1 : Nat → Nat) (n : Nat) (cd : Nat → Nat) (K M : Nat) (e : Nat → Nat) (fr fi wa : Nat) (hw : zKW w0 P N c n0 e0 n1 e1 n cd K M e fr fi wa) (hJ : zJ) (hB0 : zj_ok P N c = true → (zj_wk0 P N c n0 e0).1 < 2 ^ 31) (hroom0 : zj_ok P N c = true → n0 + zC (lb (zj_f0 P N c n0 e0)) (zw_on P N c) < 64) (hB1 : zj_ok P N c = true → (zj_wk1 P N c n1 e1).1 < 2 ^ 31) (hroom1 : zj_ok P N c = true → n1 + zC (lb (zj_f1 P N c n1 e1)) (zj_gm P N c) < 64) (hfi : fi < 1000) (x : Int32) : zm_Ev zt_get 46 75 [.ref 0, .int x] w0 (fun v w => (zx_in x 2 = false ∧ v = some (.int (-102)) ∧ zKW w P N c n0 e0 n1 e1 n cd K M e fr fi wa) ∨ (zx_in x 2 = true ∧ ¬ (zj_ok P N c = true ∧ fi < 20) ∧ v = some (.int (-103)) ∧ zKW w P N c n0 e0 n1 e1 n cd K M e fr fi wa) ∨ ((zj_ok P N c = true ∧ fi < 20) ∧ ((x = 0 ∧ (((zj_wk0 P N c n0 e0).1 = 0 ∧ v = some (.int (-1)) ∧ zKW w P N c n0 e0 n1 e1 n cd K M e fr (fi + 1) wa) ∨ ((zj_wk0 P N c n0 e0).1 ≠ 0 ∧ v = some (.int (nI (zC (lb (zj_f0 P N c n0 e0)) (zw_on P N c)))) ∧ zKW w P N c (n0 + zC (lb (zj_f0 P N c n0 e0)) (zw_on P N c)) (zg_ap e0 n0 (zj_f0 P N c n0 e0) (zw_on P N c)) n1 e1 n cd K M e fr (fi + 1) wa))) ∨ (x = 1 ∧ (((zj_wk1 P N c n1 e1).1 = 0 ∧ v = some (.int (-1)) ∧ zKW w P N c n0 e0 n1 e1 n cd K M e fr (fi + 1) wa) ∨ ((zj_wk1 P N c n1 e1).1 ≠ 0 ∧ v = some (.int (nI (zC (lb (zj_f1 P N c n1 e1)) (zj_gm P N c)))) ∧ zKW w P N c n0 e0 (n1 + zC (lb (zj_f1 P N c n1 e1)) (zj_gm P N c)) (zg_ap e1 n1 (zj_f1 P N c n1 e1) (zj_gm P N c)) n cd K M e fr (fi + 1) wa)))))) := by
  obtain ⟨g, gl, a, al, sv, bt, rfl, hK, hr⟩ := hw
  refine zr_ev zt_X_finish rfl rfl ?_
  show zm_Run zt_get 45 zt_X_finish (0, [some (.ref 0), some (.int x), none, none, none], [], (zw_C g gl a al)) _
  refine zr_go (t := (1, [some (.ref 0), some (.int x), none, none, none], [.int x], (zw_C g gl a al))) 1 rfl ?_
  refine zr_if (c := x = 0) (t := (12, [some (.ref 0), some (.int x), none, none, none], [], (zw_C g gl a al))) (f := (4, [some (.ref 0), some (.int x), none, none, none], [], (zw_C g gl a al))) rfl (fun h4 => ?_) (fun h4 => ?_)
  · skip
    subst h4
    refine zr_go (t := (13, [some (.ref 0), some (.int (nI 0)), none, none, none], [.ref 0], (zw_C g gl a al))) 1 rfl ?_
    refine zr_call (t := (16, [some (.ref 0), some (.int (nI 0)), none, none, none], [], (zw_C g gl a al))) rfl (Nat.le_of_ble_eq_true rfl : 5 ≤ 45) (zs_C_hasFlats g gl a al hJ P N c sv bt n0 e0 n1 e1 hK) ?_
    rintro _ _ ⟨rfl, g1, a1, al1, rfl, hK1, he1⟩
    have hjb := zb_le (zj_ok P N c)
    have hr1 := zK_r_e he1 hr
    show zm_Run zt_get 45 zt_X_finish (16, [some (.ref 0), some (.int (nI 0)), none, none, none], [.int (nI ((zj_ok P N c).toNat))], (zw_C g1 gl a1 al1)) _
    refine zr_ieq (x := nI ((zj_ok P N c).toNat)) (y := 0) ((zj_ok P N c).toNat) 0 rfl rfl (by omega) (by omega) (t := (28, [some (.ref 0), some (.int (nI 0)), none, none, none], [], (zw_C g1 gl a1 al1))) (f := (19, [some (.ref 0), some (.int (nI 0)), none, none, none], [], (zw_C g1 gl a1 al1))) rfl (fun h1 => ?_) (fun h1 => ?_)
    · skip
      have hj := zb_0n _ h1
      refine zr_go (t := (30, [some (.ref 0), some (.int (nI 0)), none, none, none], [.int (-103)], (zw_C g1 gl a1 al1))) 1 rfl ?_
      exact zr_ret rfl trivial (Or.inr (Or.inl ⟨by decide, fun q => by rw [hj] at q; exact absurd q.1 (by decide), rfl, g1, gl, a1, al1, _, _, rfl, hK1, hr1⟩))
    · skip
      have hj := zb_1n _ h1
      have hPp := (zj_okP hj).1
      have hjj := hj
      have hBB := hB0 hj
      have hRR := hroom0 hj
      obtain ⟨hm, hc4, h4, h5, h24, h26, h12, hcase⟩ := id hK1
      rcases hcase with ⟨q1, q2, q, q3, _⟩ | ⟨⟨hok, h11, hcP, hQ⟩, hsv, hbt, hnb⟩
      · skip
        exfalso; omega
      · skip
        have hN6 := zv_okN hok
        have hN3 := hok.2.1
        obtain ⟨hP0, hP5⟩ := zv_P5 hok.1
        obtain ⟨-, hnp1, hnp0⟩ := zv_nums hok
        have hon1 := (zj_nums (c := c) hok).1
        have hns1 := (zj_nums (c := c) hok).2
        have hd : decide (0 < P) = true := decide_eq_true hP0
        have hv := hsv hd
        have h17 := hQ.2.2.2.1
        have h18 := hv.1
        have h19 : g1 19 = nI (zj_ns P N c) := hv.2.1
        obtain ⟨-, hns, ht, hs, hl0, hl1, hl2, hl3⟩ := hbt hj
        obtain ⟨h20, h21, h22, h21c, h22c, h23c⟩ := ht
        obtain ⟨h23, h25, hc24, hc25, hc27, hc28⟩ := hs
        obtain ⟨hn45, hnl105, hnp30, hgm45⟩ := hJ P N c hok hns
        have hfv := hr1.2.2.2.1
        refine zr_go (t := (25, [some (.ref 0), some (.int (nI 0)), none, none, none], [.int 20, .int (g1 2)], (zw_C g1 gl a1 al1))) 3 rfl ?_
        refine zr_ilt (x := g1 2) (y := 20) fi 20 hfv rfl (by omega) (by omega) (t := (31, [some (.ref 0), some (.int (nI 0)), none, none, none], [], (zw_C g1 gl a1 al1))) (f := (28, [some (.ref 0), some (.int (nI 0)), none, none, none], [], (zw_C g1 gl a1 al1))) rfl (fun h2 => ?_) (fun h2 => ?_)
        · skip
          refine zr_go (t := (43, [some (.ref 0), some (.int (nI 0)), none, none, none], [.int (nI 0), .ref 0], (zw_C (upd g1 2 ((g1 2) + 1)) gl a1 al1))) 8 rfl ?_
          rw [show (g1 2) + 1 = nI (fi + 1) from (zn_add hfv rfl)]
          refine zr_call (t := (46, [some (.ref 0), some (.int (nI 0)), none, none, none], [], (zw_C (upd g1 2 (nI (fi + 1))) gl a1 al1))) rfl (Nat.le_of_ble_eq_true rfl : 1 ≤ 45) (zs_C_sideOf_0 (upd g1 2 (nI (fi + 1))) gl a1 al1) ?_
          rintro _ _ ⟨rfl, rfl⟩
          show zm_Run zt_get 45 zt_X_finish (46, [some (.ref 0), some (.int (nI 0)), none, none, none], [.ref 6], (zw_C (upd g1 2 (nI (fi + 1))) gl a1 al1)) _
          refine zr_go (t := (49, [some (.ref 0), some (.int (nI 0)), some (.ref 6), none, none], [.int (nI 0), .ref 0], (zw_C (upd g1 2 (nI (fi + 1))) gl a1 al1))) 3 rfl ?_
          refine zr_call (t := (52, [some (.ref 0), some (.int (nI 0)), some (.ref 6), none, none], [], (zw_C (upd g1 2 (nI (fi + 1))) gl a1 al1))) rfl (Nat.le_of_ble_eq_true rfl : 1 ≤ 45) (zs_C_searchOf_0 (upd g1 2 (nI (fi + 1))) gl a1 al1) ?_
          rintro _ _ ⟨rfl, rfl⟩
          show zm_Run zt_get 45 zt_X_finish (52, [some (.ref 0), some (.int (nI 0)), some (.ref 6), none, none], [.ref 8], (zw_C (upd g1 2 (nI (fi + 1))) gl a1 al1)) _
          refine zr_go (t := (54, [some (.ref 0), some (.int (nI 0)), some (.ref 6), some (.ref 8), none], [.ref 8], (zw_C (upd g1 2 (nI (fi + 1))) gl a1 al1))) 2 rfl ?_
          refine zr_call (t := (57, [some (.ref 0), some (.int (nI 0)), some (.ref 6), some (.ref 8), none], [], (zw_C (upd g1 2 (nI (fi + 1))) gl a1 al1))) rfl (Nat.le_of_ble_eq_true rfl : 45 ≤ 45) (zs_C_run_8 (upd g1 2 (nI (fi + 1))) gl a1 al1 n0 h24 (by omega) e0 (fun k hk => (hl2 k hk).1) (zw_on P N c) (by omega) (fun k hk => (hl2 k hk).2) h23 (by omega) (zj_gm P N c) (by omega) h25 (by omega) (zj_p P N c) hc24 (zj_kp P N c) hc25 (zj_m P N c) hc27 hBB) ?_
          rintro _ _ ⟨rfl, rfl⟩
          show zm_Run zt_get 45 zt_X_finish (57, [some (.ref 0), some (.int (nI 0)), some (.ref 6), some (.ref 8), none], [], (zw_C (upd (upd g1 2 (nI (fi + 1))) 27 (nI ((zj_wk0 P N c n0 e0).1))) (vp_updL gl 28 ((zj_wk0 P N c n0 e0).2)) a1 al1)) _
          refine zr_go (t := (61, [some (.ref 0), some (.int (nI 0)), some (.ref 6), some (.ref 8), none], [.int (nI ((zj_wk0 P N c n0 e0).1))], (zw_C (upd (upd g1 2 (nI (fi + 1))) 27 (nI ((zj_wk0 P N c n0 e0).1))) (vp_updL gl 28 ((zj_wk0 P N c n0 e0).2)) a1 al1))) 2 rfl ?_
          refine zr_ine (x := nI ((zj_wk0 P N c n0 e0).1)) (y := 0) ((zj_wk0 P N c n0 e0).1) 0 rfl rfl (by omega) (by omega) (t := (66, [some (.ref 0), some (.int (nI 0)), some (.ref 6), some (.ref 8), none], [], (zw_C (upd (upd g1 2 (nI (fi + 1))) 27 (nI ((zj_wk0 P N c n0 e0).1))) (vp_updL gl 28 ((zj_wk0 P N c n0 e0).2)) a1 al1))) (f := (64, [some (.ref 0), some (.int (nI 0)), some (.ref 6), some (.ref 8), none], [], (zw_C (upd (upd g1 2 (nI (fi + 1))) 27 (nI ((zj_wk0 P N c n0 e0).1))) (vp_updL gl 28 ((zj_wk0 P N c n0 e0).2)) a1 al1))) rfl (fun h3 => ?_) (fun h3 => ?_)
          · skip
            refine zr_go (t := (78, [some (.ref 0), some (.int (nI 0)), some (.ref 6), some (.ref 8), some (.int (g1 24))], [.ref 6, .long ((zj_wk0 P N c n0 e0).2), .ref 6], (zw_C (upd (upd g1 2 (nI (fi + 1))) 27 (nI ((zj_wk0 P N c n0 e0).1))) (vp_updL gl 28 ((zj_wk0 P N c n0 e0).2)) a1 al1))) 7 rfl ?_
            refine zr_call (t := (81, [some (.ref 0), some (.int (nI 0)), some (.ref 6), some (.ref 8), some (.int (g1 24))], [.long ((zj_wk0 P N c n0 e0).2), .ref 6], (zw_C (upd (upd g1 2 (nI (fi + 1))) 27 (nI ((zj_wk0 P N c n0 e0).1))) (vp_updL gl 28 ((zj_wk0 P N c n0 e0).2)) a1 al1))) rfl (Nat.le_of_ble_eq_true rfl : 1 ≤ 45) (zs_C_taken_6 (upd (upd g1 2 (nI (fi + 1))) 27 (nI ((zj_wk0 P N c n0 e0).1))) (vp_updL gl 28 ((zj_wk0 P N c n0 e0).2)) a1 al1 n0 h24 (by omega) e0 (fun k hk => (hl2 k hk).1) (zw_on P N c) (by omega) (fun k hk => (hl2 k hk).2)) ?_
            rintro _ _ ⟨rfl, rfl⟩
            show zm_Run zt_get 45 zt_X_finish (81, [some (.ref 0), some (.int (nI 0)), some (.ref 6), some (.ref 8), some (.int (g1 24))], [.long (zg_or (fun k => zf_b (e0 k)) n0), .long ((zj_wk0 P N c n0 e0).2), .ref 6], (zw_C (upd (upd g1 2 (nI (fi + 1))) 27 (nI ((zj_wk0 P N c n0 e0).1))) (vp_updL gl 28 ((zj_wk0 P N c n0 e0).2)) a1 al1)) _
            refine zr_go (t := (86, [some (.ref 0), some (.int (nI 0)), some (.ref 6), some (.ref 8), some (.int (g1 24))], [.long (((zj_wk0 P N c n0 e0).2) &&& ((zg_or (fun k => zf_b (e0 k)) n0) ^^^ (-1))), .ref 6], (zw_C (upd (upd g1 2 (nI (fi + 1))) 27 (nI ((zj_wk0 P N c n0 e0).1))) (vp_updL gl 28 ((zj_wk0 P N c n0 e0).2)) a1 al1))) 3 rfl ?_
            rw [show ((zj_wk0 P N c n0 e0).2) &&& ((zg_or (fun k => zf_b (e0 k)) n0) ^^^ (-1)) = zj_f0 P N c n0 e0 from rfl]
            refine zr_call (t := (89, [some (.ref 0), some (.int (nI 0)), some (.ref 6), some (.ref 8), some (.int (g1 24))], [], (zw_C (upd (upd g1 2 (nI (fi + 1))) 27 (nI ((zj_wk0 P N c n0 e0).1))) (vp_updL gl 28 ((zj_wk0 P N c n0 e0).2)) a1 al1))) rfl (Nat.le_of_ble_eq_true rfl : 2 ≤ 45) (zs_C_appendAll_6 (upd (upd g1 2 (nI (fi + 1))) 27 (nI ((zj_wk0 P N c n0 e0).1))) (vp_updL gl 28 ((zj_wk0 P N c n0 e0).2)) a1 al1 (zw_on P N c) h23 (zj_f0 P N c n0 e0) n0 h24 (by omega) e0 (fun k hk => (hl2 k hk).1) (by omega)) ?_
            rintro _ _ ⟨rfl, FF, rfl, hFF⟩
            show zm_Run zt_get 45 zt_X_finish (89, [some (.ref 0), some (.int (nI 0)), some (.ref 6), some (.ref 8), some (.int (g1 24))], [], (zw_C (upd (upd (upd g1 2 (nI (fi + 1))) 24 (nI (n0 + zC (lb (zj_f0 P N c n0 e0)) (zw_on P N c)))) 27 (nI ((zj_wk0 P N c n0 e0).1))) (vp_updL gl 28 ((zj_wk0 P N c n0 e0).2)) (va_up a1 26 FF) al1)) _
            refine zr_go (t := (96, [some (.ref 0), some (.int (nI 0)), some (.ref 6), some (.ref 8), some (.int (g1 24))], [.int ((nI (n0 + zC (lb (zj_f0 P N c n0 e0)) (zw_on P N c))) - (g1 24))], (zw_C (upd (upd (upd g1 2 (nI (fi + 1))) 24 (nI (n0 + zC (lb (zj_f0 P N c n0 e0)) (zw_on P N c)))) 27 (nI ((zj_wk0 P N c n0 e0).1))) (vp_updL gl 28 ((zj_wk0 P N c n0 e0).2)) (va_up a1 26 FF) al1))) 4 rfl ?_
            rw [h24, show nI (n0 + zC (lb (zj_f0 P N c n0 e0)) (zw_on P N c)) - nI n0 = nI (zC (lb (zj_f0 P N c n0 e0)) (zw_on P N c)) from (zn_sub rfl rfl (by omega)).trans (congrArg nI (by omega))]
            exact zr_ret rfl trivial (Or.inr (Or.inr ⟨⟨hjj, h2⟩, Or.inl ⟨rfl, Or.inr ⟨h3, rfl, _, _, _, al1, _, _, rfl, ⟨hm, hc4, h4, h5, rfl, h26, h12, Or.inr ⟨⟨hok, h11, hcP, hQ⟩, hsv, fun _ => ⟨hd, hns, ⟨h20, h21, h22, h21c, h22c, h23c⟩, ⟨h23, h25, hc24, hc25, hc27, hc28⟩, ⟨hRR, hl1, fun j hj => ⟨hFF j hj, zg_ap_lt (fun k hk => (hl2 k hk).2) (Nat.le_refl _) j hj⟩, hl3⟩⟩, fun q => by rw [hjj] at q; cases q⟩⟩, ⟨hr1.1, hr1.2.1, hr1.2.2.1, rfl, hr1.2.2.2.2⟩⟩⟩⟩))
          · skip
            refine zr_go (t := (65, [some (.ref 0), some (.int (nI 0)), some (.ref 6), some (.ref 8), none], [.int (-1)], (zw_C (upd (upd g1 2 (nI (fi + 1))) 27 (nI ((zj_wk0 P N c n0 e0).1))) (vp_updL gl 28 ((zj_wk0 P N c n0 e0).2)) a1 al1))) 1 rfl ?_
            exact zr_ret rfl trivial (Or.inr (Or.inr ⟨⟨hjj, h2⟩, Or.inl ⟨rfl, Or.inl ⟨h3, rfl, _, _, a1, al1, _, _, rfl, hK1, ⟨hr1.1, hr1.2.1, hr1.2.2.1, rfl, hr1.2.2.2.2⟩⟩⟩⟩))
        · skip
          refine zr_go (t := (30, [some (.ref 0), some (.int (nI 0)), none, none, none], [.int (-103)], (zw_C g1 gl a1 al1))) 1 rfl ?_
          exact zr_ret rfl trivial (Or.inr (Or.inl ⟨by decide, fun q => by omega, rfl, g1, gl, a1, al1, _, _, rfl, hK1, hr1⟩))
  · skip
    refine zr_go (t := (6, [some (.ref 0), some (.int x), none, none, none], [.int 1, .int x], (zw_C g gl a al))) 2 rfl ?_
    refine zr_if (c := x = 1) (t := (12, [some (.ref 0), some (.int x), none, none, none], [], (zw_C g gl a al))) (f := (9, [some (.ref 0), some (.int x), none, none, none], [], (zw_C g gl a al))) rfl (fun h5 => ?_) (fun h5 => ?_)
    · skip
      subst h5
      refine zr_go (t := (13, [some (.ref 0), some (.int (nI 1)), none, none, none], [.ref 0], (zw_C g gl a al))) 1 rfl ?_
      refine zr_call (t := (16, [some (.ref 0), some (.int (nI 1)), none, none, none], [], (zw_C g gl a al))) rfl (Nat.le_of_ble_eq_true rfl : 5 ≤ 45) (zs_C_hasFlats g gl a al hJ P N c sv bt n0 e0 n1 e1 hK) ?_
      rintro _ _ ⟨rfl, g1, a1, al1, rfl, hK1, he1⟩
      have hjb := zb_le (zj_ok P N c)
      have hr1 := zK_r_e he1 hr
      show zm_Run zt_get 45 zt_X_finish (16, [some (.ref 0), some (.int (nI 1)), none, none, none], [.int (nI ((zj_ok P N c).toNat))], (zw_C g1 gl a1 al1)) _
      refine zr_ieq (x := nI ((zj_ok P N c).toNat)) (y := 0) ((zj_ok P N c).toNat) 0 rfl rfl (by omega) (by omega) (t := (28, [some (.ref 0), some (.int (nI 1)), none, none, none], [], (zw_C g1 gl a1 al1))) (f := (19, [some (.ref 0), some (.int (nI 1)), none, none, none], [], (zw_C g1 gl a1 al1))) rfl (fun h1 => ?_) (fun h1 => ?_)
      · skip
        have hj := zb_0n _ h1
        refine zr_go (t := (30, [some (.ref 0), some (.int (nI 1)), none, none, none], [.int (-103)], (zw_C g1 gl a1 al1))) 1 rfl ?_
        exact zr_ret rfl trivial (Or.inr (Or.inl ⟨by decide, fun q => by rw [hj] at q; exact absurd q.1 (by decide), rfl, g1, gl, a1, al1, _, _, rfl, hK1, hr1⟩))
      · skip
        have hj := zb_1n _ h1
        have hPp := (zj_okP hj).1
        have hjj := hj
        have hBB := hB1 hj
        have hRR := hroom1 hj
        obtain ⟨hm, hc4, h4, h5, h24, h26, h12, hcase⟩ := id hK1
        rcases hcase with ⟨q1, q2, q, q3, _⟩ | ⟨⟨hok, h11, hcP, hQ⟩, hsv, hbt, hnb⟩
        · skip
          exfalso; omega
        · skip
          have hN6 := zv_okN hok
          have hN3 := hok.2.1
          obtain ⟨hP0, hP5⟩ := zv_P5 hok.1
          obtain ⟨-, hnp1, hnp0⟩ := zv_nums hok
          have hon1 := (zj_nums (c := c) hok).1
          have hns1 := (zj_nums (c := c) hok).2
          have hd : decide (0 < P) = true := decide_eq_true hP0
          have hv := hsv hd
          have h17 := hQ.2.2.2.1
          have h18 := hv.1
          have h19 : g1 19 = nI (zj_ns P N c) := hv.2.1
          obtain ⟨-, hns, ht, hs, hl0, hl1, hl2, hl3⟩ := hbt hj
          obtain ⟨h20, h21, h22, h21c, h22c, h23c⟩ := ht
          obtain ⟨h23, h25, hc24, hc25, hc27, hc28⟩ := hs
          obtain ⟨hn45, hnl105, hnp30, hgm45⟩ := hJ P N c hok hns
          have hfv := hr1.2.2.2.1
          refine zr_go (t := (25, [some (.ref 0), some (.int (nI 1)), none, none, none], [.int 20, .int (g1 2)], (zw_C g1 gl a1 al1))) 3 rfl ?_
          refine zr_ilt (x := g1 2) (y := 20) fi 20 hfv rfl (by omega) (by omega) (t := (31, [some (.ref 0), some (.int (nI 1)), none, none, none], [], (zw_C g1 gl a1 al1))) (f := (28, [some (.ref 0), some (.int (nI 1)), none, none, none], [], (zw_C g1 gl a1 al1))) rfl (fun h2 => ?_) (fun h2 => ?_)
          · skip
            refine zr_go (t := (43, [some (.ref 0), some (.int (nI 1)), none, none, none], [.int (nI 1), .ref 0], (zw_C (upd g1 2 ((g1 2) + 1)) gl a1 al1))) 8 rfl ?_
            rw [show (g1 2) + 1 = nI (fi + 1) from (zn_add hfv rfl)]
            refine zr_call (t := (46, [some (.ref 0), some (.int (nI 1)), none, none, none], [], (zw_C (upd g1 2 (nI (fi + 1))) gl a1 al1))) rfl (Nat.le_of_ble_eq_true rfl : 1 ≤ 45) (zs_C_sideOf_1 (upd g1 2 (nI (fi + 1))) gl a1 al1) ?_
            rintro _ _ ⟨rfl, rfl⟩
            show zm_Run zt_get 45 zt_X_finish (46, [some (.ref 0), some (.int (nI 1)), none, none, none], [.ref 7], (zw_C (upd g1 2 (nI (fi + 1))) gl a1 al1)) _
            refine zr_go (t := (49, [some (.ref 0), some (.int (nI 1)), some (.ref 7), none, none], [.int (nI 1), .ref 0], (zw_C (upd g1 2 (nI (fi + 1))) gl a1 al1))) 3 rfl ?_
            refine zr_call (t := (52, [some (.ref 0), some (.int (nI 1)), some (.ref 7), none, none], [], (zw_C (upd g1 2 (nI (fi + 1))) gl a1 al1))) rfl (Nat.le_of_ble_eq_true rfl : 1 ≤ 45) (zs_C_searchOf_1 (upd g1 2 (nI (fi + 1))) gl a1 al1) ?_
            rintro _ _ ⟨rfl, rfl⟩
            show zm_Run zt_get 45 zt_X_finish (52, [some (.ref 0), some (.int (nI 1)), some (.ref 7), none, none], [.ref 9], (zw_C (upd g1 2 (nI (fi + 1))) gl a1 al1)) _
            refine zr_go (t := (54, [some (.ref 0), some (.int (nI 1)), some (.ref 7), some (.ref 9), none], [.ref 9], (zw_C (upd g1 2 (nI (fi + 1))) gl a1 al1))) 2 rfl ?_
            refine zr_call (t := (57, [some (.ref 0), some (.int (nI 1)), some (.ref 7), some (.ref 9), none], [], (zw_C (upd g1 2 (nI (fi + 1))) gl a1 al1))) rfl (Nat.le_of_ble_eq_true rfl : 45 ≤ 45) (zs_C_run_9 (upd g1 2 (nI (fi + 1))) gl a1 al1 n1 h26 (by omega) e1 (fun k hk => (hl3 k hk).1) (zj_gm P N c) (by omega) (fun k hk => (hl3 k hk).2) h25 (by omega) (zw_on P N c) (by omega) h23 (by omega) (zj_m P N c) hc27 (zj_km P N c) hc28 (zj_p P N c) hc24 hBB) ?_
            rintro _ _ ⟨rfl, rfl⟩
            show zm_Run zt_get 45 zt_X_finish (57, [some (.ref 0), some (.int (nI 1)), some (.ref 7), some (.ref 9), none], [], (zw_C (upd (upd g1 2 (nI (fi + 1))) 29 (nI ((zj_wk1 P N c n1 e1).1))) (vp_updL gl 30 ((zj_wk1 P N c n1 e1).2)) a1 al1)) _
            refine zr_go (t := (61, [some (.ref 0), some (.int (nI 1)), some (.ref 7), some (.ref 9), none], [.int (nI ((zj_wk1 P N c n1 e1).1))], (zw_C (upd (upd g1 2 (nI (fi + 1))) 29 (nI ((zj_wk1 P N c n1 e1).1))) (vp_updL gl 30 ((zj_wk1 P N c n1 e1).2)) a1 al1))) 2 rfl ?_
            refine zr_ine (x := nI ((zj_wk1 P N c n1 e1).1)) (y := 0) ((zj_wk1 P N c n1 e1).1) 0 rfl rfl (by omega) (by omega) (t := (66, [some (.ref 0), some (.int (nI 1)), some (.ref 7), some (.ref 9), none], [], (zw_C (upd (upd g1 2 (nI (fi + 1))) 29 (nI ((zj_wk1 P N c n1 e1).1))) (vp_updL gl 30 ((zj_wk1 P N c n1 e1).2)) a1 al1))) (f := (64, [some (.ref 0), some (.int (nI 1)), some (.ref 7), some (.ref 9), none], [], (zw_C (upd (upd g1 2 (nI (fi + 1))) 29 (nI ((zj_wk1 P N c n1 e1).1))) (vp_updL gl 30 ((zj_wk1 P N c n1 e1).2)) a1 al1))) rfl (fun h3 => ?_) (fun h3 => ?_)
            · skip
              refine zr_go (t := (78, [some (.ref 0), some (.int (nI 1)), some (.ref 7), some (.ref 9), some (.int (g1 26))], [.ref 7, .long ((zj_wk1 P N c n1 e1).2), .ref 7], (zw_C (upd (upd g1 2 (nI (fi + 1))) 29 (nI ((zj_wk1 P N c n1 e1).1))) (vp_updL gl 30 ((zj_wk1 P N c n1 e1).2)) a1 al1))) 7 rfl ?_
              refine zr_call (t := (81, [some (.ref 0), some (.int (nI 1)), some (.ref 7), some (.ref 9), some (.int (g1 26))], [.long ((zj_wk1 P N c n1 e1).2), .ref 7], (zw_C (upd (upd g1 2 (nI (fi + 1))) 29 (nI ((zj_wk1 P N c n1 e1).1))) (vp_updL gl 30 ((zj_wk1 P N c n1 e1).2)) a1 al1))) rfl (Nat.le_of_ble_eq_true rfl : 1 ≤ 45) (zs_C_taken_7 (upd (upd g1 2 (nI (fi + 1))) 29 (nI ((zj_wk1 P N c n1 e1).1))) (vp_updL gl 30 ((zj_wk1 P N c n1 e1).2)) a1 al1 n1 h26 (by omega) e1 (fun k hk => (hl3 k hk).1) (zj_gm P N c) (by omega) (fun k hk => (hl3 k hk).2)) ?_
              rintro _ _ ⟨rfl, rfl⟩
              show zm_Run zt_get 45 zt_X_finish (81, [some (.ref 0), some (.int (nI 1)), some (.ref 7), some (.ref 9), some (.int (g1 26))], [.long (zg_or (fun k => zf_b (e1 k)) n1), .long ((zj_wk1 P N c n1 e1).2), .ref 7], (zw_C (upd (upd g1 2 (nI (fi + 1))) 29 (nI ((zj_wk1 P N c n1 e1).1))) (vp_updL gl 30 ((zj_wk1 P N c n1 e1).2)) a1 al1)) _
              refine zr_go (t := (86, [some (.ref 0), some (.int (nI 1)), some (.ref 7), some (.ref 9), some (.int (g1 26))], [.long (((zj_wk1 P N c n1 e1).2) &&& ((zg_or (fun k => zf_b (e1 k)) n1) ^^^ (-1))), .ref 7], (zw_C (upd (upd g1 2 (nI (fi + 1))) 29 (nI ((zj_wk1 P N c n1 e1).1))) (vp_updL gl 30 ((zj_wk1 P N c n1 e1).2)) a1 al1))) 3 rfl ?_
              rw [show ((zj_wk1 P N c n1 e1).2) &&& ((zg_or (fun k => zf_b (e1 k)) n1) ^^^ (-1)) = zj_f1 P N c n1 e1 from rfl]
              refine zr_call (t := (89, [some (.ref 0), some (.int (nI 1)), some (.ref 7), some (.ref 9), some (.int (g1 26))], [], (zw_C (upd (upd g1 2 (nI (fi + 1))) 29 (nI ((zj_wk1 P N c n1 e1).1))) (vp_updL gl 30 ((zj_wk1 P N c n1 e1).2)) a1 al1))) rfl (Nat.le_of_ble_eq_true rfl : 2 ≤ 45) (zs_C_appendAll_7 (upd (upd g1 2 (nI (fi + 1))) 29 (nI ((zj_wk1 P N c n1 e1).1))) (vp_updL gl 30 ((zj_wk1 P N c n1 e1).2)) a1 al1 (zj_gm P N c) h25 (zj_f1 P N c n1 e1) n1 h26 (by omega) e1 (fun k hk => (hl3 k hk).1) (by omega)) ?_
              rintro _ _ ⟨rfl, FF, rfl, hFF⟩
              show zm_Run zt_get 45 zt_X_finish (89, [some (.ref 0), some (.int (nI 1)), some (.ref 7), some (.ref 9), some (.int (g1 26))], [], (zw_C (upd (upd (upd g1 2 (nI (fi + 1))) 26 (nI (n1 + zC (lb (zj_f1 P N c n1 e1)) (zj_gm P N c)))) 29 (nI ((zj_wk1 P N c n1 e1).1))) (vp_updL gl 30 ((zj_wk1 P N c n1 e1).2)) (va_up a1 29 FF) al1)) _
              refine zr_go (t := (96, [some (.ref 0), some (.int (nI 1)), some (.ref 7), some (.ref 9), some (.int (g1 26))], [.int ((nI (n1 + zC (lb (zj_f1 P N c n1 e1)) (zj_gm P N c))) - (g1 26))], (zw_C (upd (upd (upd g1 2 (nI (fi + 1))) 26 (nI (n1 + zC (lb (zj_f1 P N c n1 e1)) (zj_gm P N c)))) 29 (nI ((zj_wk1 P N c n1 e1).1))) (vp_updL gl 30 ((zj_wk1 P N c n1 e1).2)) (va_up a1 29 FF) al1))) 4 rfl ?_
              rw [h26, show nI (n1 + zC (lb (zj_f1 P N c n1 e1)) (zj_gm P N c)) - nI n1 = nI (zC (lb (zj_f1 P N c n1 e1)) (zj_gm P N c)) from (zn_sub rfl rfl (by omega)).trans (congrArg nI (by omega))]
              exact zr_ret rfl trivial (Or.inr (Or.inr ⟨⟨hjj, h2⟩, Or.inr ⟨rfl, Or.inr ⟨h3, rfl, _, _, _, al1, _, _, rfl, ⟨hm, hc4, h4, h5, h24, rfl, h12, Or.inr ⟨⟨hok, h11, hcP, hQ⟩, hsv, fun _ => ⟨hd, hns, ⟨h20, h21, h22, h21c, h22c, h23c⟩, ⟨h23, h25, hc24, hc25, hc27, hc28⟩, ⟨hl0, hRR, hl2, fun j hj => ⟨hFF j hj, zg_ap_lt (fun k hk => (hl3 k hk).2) (Nat.le_refl _) j hj⟩⟩⟩, fun q => by rw [hjj] at q; cases q⟩⟩, ⟨hr1.1, hr1.2.1, hr1.2.2.1, rfl, hr1.2.2.2.2⟩⟩⟩⟩))
            · skip
              refine zr_go (t := (65, [some (.ref 0), some (.int (nI 1)), some (.ref 7), some (.ref 9), none], [.int (-1)], (zw_C (upd (upd g1 2 (nI (fi + 1))) 29 (nI ((zj_wk1 P N c n1 e1).1))) (vp_updL gl 30 ((zj_wk1 P N c n1 e1).2)) a1 al1))) 1 rfl ?_
              exact zr_ret rfl trivial (Or.inr (Or.inr ⟨⟨hjj, h2⟩, Or.inr ⟨rfl, Or.inl ⟨h3, rfl, _, _, a1, al1, _, _, rfl, hK1, ⟨hr1.1, hr1.2.1, hr1.2.2.1, rfl, hr1.2.2.2.2⟩⟩⟩⟩))
          · skip
            refine zr_go (t := (30, [some (.ref 0), some (.int (nI 1)), none, none, none], [.int (-103)], (zw_C g1 gl a1 al1))) 1 rfl ?_
            exact zr_ret rfl trivial (Or.inr (Or.inl ⟨by decide, fun q => by omega, rfl, g1, gl, a1, al1, _, _, rfl, hK1, hr1⟩))
    · skip
      refine zr_go (t := (11, [some (.ref 0), some (.int x), none, none, none], [.int (-102)], (zw_C g gl a al))) 1 rfl ?_
      exact zr_ret rfl trivial (Or.inl ⟨zx_2n h4 h5, rfl, g, gl, a, al, sv, bt, rfl, hK, hr⟩)
theorem zp_C_ways (w0 : List zm_E) (P N : Nat) (c : Nat → Nat) (n0 : Nat) (e0 : Nat → Nat) (n1 : Nat) (e1 : Nat → Nat) (n : Nat) (cd : Nat → Nat) (K M : Nat) (e : Nat → Nat) (fr fi wa : Nat) (hw : zKW w0 P N c n0 e0 n1 e1 n cd K M e fr fi wa) (hJ : zJ) (hB0 : zj_ok P N c = true → (zj_wk0 P N c n0 e0).1 < 2 ^ 31) (hB1 : zj_ok P N c = true → (zj_wk1 P N c n1 e1).1 < 2 ^ 31) (hwa : wa < 1000) (x : Int32) : zm_Ev zt_get 46 76 [.ref 0, .int x] w0 (fun v w => (zx_in x 2 = false ∧ v = some (.int (-102)) ∧ zKW w P N c n0 e0 n1 e1 n cd K M e fr fi wa) ∨ (zx_in x 2 = true ∧ ¬ (zj_ok P N c = true ∧ wa < 12) ∧ v = some (.int (-103)) ∧ zKW w P N c n0 e0 n1 e1 n cd K M e fr fi wa) ∨ ((zj_ok P N c = true ∧ wa < 12) ∧ zKW w P N c n0 e0 n1 e1 n cd K M e fr fi (wa + 1) ∧ ((x = 0 ∧ v = some (.int (nI (zj_wk0 P N c n0 e0).1))) ∨ (x = 1 ∧ v = some (.int (nI (zj_wk1 P N c n1 e1).1)))))) := by
  obtain ⟨g, gl, a, al, sv, bt, rfl, hK, hr⟩ := hw
  refine zr_ev zt_X_ways rfl rfl ?_
  show zm_Run zt_get 45 zt_X_ways (0, [some (.ref 0), some (.int x), none], [], (zw_C g gl a al)) _
  refine zr_go (t := (1, [some (.ref 0), some (.int x), none], [.int x], (zw_C g gl a al))) 1 rfl ?_
  refine zr_if (c := x = 0) (t := (12, [some (.ref 0), some (.int x), none], [], (zw_C g gl a al))) (f := (4, [some (.ref 0), some (.int x), none], [], (zw_C g gl a al))) rfl (fun h4 => ?_) (fun h4 => ?_)
  · skip
    subst h4
    refine zr_go (t := (13, [some (.ref 0), some (.int (nI 0)), none], [.ref 0], (zw_C g gl a al))) 1 rfl ?_
    refine zr_call (t := (16, [some (.ref 0), some (.int (nI 0)), none], [], (zw_C g gl a al))) rfl (Nat.le_of_ble_eq_true rfl : 5 ≤ 45) (zs_C_hasFlats g gl a al hJ P N c sv bt n0 e0 n1 e1 hK) ?_
    rintro _ _ ⟨rfl, g1, a1, al1, rfl, hK1, he1⟩
    have hjb := zb_le (zj_ok P N c)
    have hr1 := zK_r_e he1 hr
    show zm_Run zt_get 45 zt_X_ways (16, [some (.ref 0), some (.int (nI 0)), none], [.int (nI ((zj_ok P N c).toNat))], (zw_C g1 gl a1 al1)) _
    refine zr_ieq (x := nI ((zj_ok P N c).toNat)) (y := 0) ((zj_ok P N c).toNat) 0 rfl rfl (by omega) (by omega) (t := (28, [some (.ref 0), some (.int (nI 0)), none], [], (zw_C g1 gl a1 al1))) (f := (19, [some (.ref 0), some (.int (nI 0)), none], [], (zw_C g1 gl a1 al1))) rfl (fun h1 => ?_) (fun h1 => ?_)
    · skip
      have hj := zb_0n _ h1
      refine zr_go (t := (30, [some (.ref 0), some (.int (nI 0)), none], [.int (-103)], (zw_C g1 gl a1 al1))) 1 rfl ?_
      exact zr_ret rfl trivial (Or.inr (Or.inl ⟨by decide, fun q => by rw [hj] at q; exact absurd q.1 (by decide), rfl, g1, gl, a1, al1, _, _, rfl, hK1, hr1⟩))
    · skip
      have hj := zb_1n _ h1
      have hPp := (zj_okP hj).1
      have hjj := hj
      have hBB := hB0 hj
      obtain ⟨hm, hc4, h4, h5, h24, h26, h12, hcase⟩ := id hK1
      rcases hcase with ⟨q1, q2, q, q3, _⟩ | ⟨⟨hok, h11, hcP, hQ⟩, hsv, hbt, hnb⟩
      · skip
        exfalso; omega
      · skip
        have hN6 := zv_okN hok
        have hN3 := hok.2.1
        obtain ⟨hP0, hP5⟩ := zv_P5 hok.1
        obtain ⟨-, hnp1, hnp0⟩ := zv_nums hok
        have hon1 := (zj_nums (c := c) hok).1
        have hns1 := (zj_nums (c := c) hok).2
        have hd : decide (0 < P) = true := decide_eq_true hP0
        have hv := hsv hd
        have h17 := hQ.2.2.2.1
        have h18 := hv.1
        have h19 : g1 19 = nI (zj_ns P N c) := hv.2.1
        obtain ⟨-, hns, ht, hs, hl0, hl1, hl2, hl3⟩ := hbt hj
        obtain ⟨h20, h21, h22, h21c, h22c, h23c⟩ := ht
        obtain ⟨h23, h25, hc24, hc25, hc27, hc28⟩ := hs
        obtain ⟨hn45, hnl105, hnp30, hgm45⟩ := hJ P N c hok hns
        have hfv := hr1.2.2.2.2
        refine zr_go (t := (25, [some (.ref 0), some (.int (nI 0)), none], [.int 12, .int (g1 3)], (zw_C g1 gl a1 al1))) 3 rfl ?_
        refine zr_ilt (x := g1 3) (y := 12) wa 12 hfv rfl (by omega) (by omega) (t := (31, [some (.ref 0), some (.int (nI 0)), none], [], (zw_C g1 gl a1 al1))) (f := (28, [some (.ref 0), some (.int (nI 0)), none], [], (zw_C g1 gl a1 al1))) rfl (fun h2 => ?_) (fun h2 => ?_)
        · skip
          refine zr_go (t := (43, [some (.ref 0), some (.int (nI 0)), none], [.int (nI 0), .ref 0], (zw_C (upd g1 3 ((g1 3) + 1)) gl a1 al1))) 8 rfl ?_
          rw [show (g1 3) + 1 = nI (wa + 1) from (zn_add hfv rfl)]
          refine zr_call (t := (46, [some (.ref 0), some (.int (nI 0)), none], [], (zw_C (upd g1 3 (nI (wa + 1))) gl a1 al1))) rfl (Nat.le_of_ble_eq_true rfl : 1 ≤ 45) (zs_C_searchOf_0 (upd g1 3 (nI (wa + 1))) gl a1 al1) ?_
          rintro _ _ ⟨rfl, rfl⟩
          show zm_Run zt_get 45 zt_X_ways (46, [some (.ref 0), some (.int (nI 0)), none], [.ref 8], (zw_C (upd g1 3 (nI (wa + 1))) gl a1 al1)) _
          refine zr_go (t := (48, [some (.ref 0), some (.int (nI 0)), some (.ref 8)], [.ref 8], (zw_C (upd g1 3 (nI (wa + 1))) gl a1 al1))) 2 rfl ?_
          refine zr_call (t := (51, [some (.ref 0), some (.int (nI 0)), some (.ref 8)], [], (zw_C (upd g1 3 (nI (wa + 1))) gl a1 al1))) rfl (Nat.le_of_ble_eq_true rfl : 45 ≤ 45) (zs_C_run_8 (upd g1 3 (nI (wa + 1))) gl a1 al1 n0 h24 (by omega) e0 (fun k hk => (hl2 k hk).1) (zw_on P N c) (by omega) (fun k hk => (hl2 k hk).2) h23 (by omega) (zj_gm P N c) (by omega) h25 (by omega) (zj_p P N c) hc24 (zj_kp P N c) hc25 (zj_m P N c) hc27 hBB) ?_
          rintro _ _ ⟨rfl, rfl⟩
          show zm_Run zt_get 45 zt_X_ways (51, [some (.ref 0), some (.int (nI 0)), some (.ref 8)], [], (zw_C (upd (upd g1 3 (nI (wa + 1))) 27 (nI ((zj_wk0 P N c n0 e0).1))) (vp_updL gl 28 ((zj_wk0 P N c n0 e0).2)) a1 al1)) _
          refine zr_go (t := (55, [some (.ref 0), some (.int (nI 0)), some (.ref 8)], [.int (nI ((zj_wk0 P N c n0 e0).1))], (zw_C (upd (upd g1 3 (nI (wa + 1))) 27 (nI ((zj_wk0 P N c n0 e0).1))) (vp_updL gl 28 ((zj_wk0 P N c n0 e0).2)) a1 al1))) 2 rfl ?_
          exact zr_ret rfl trivial (Or.inr (Or.inr ⟨⟨hjj, h2⟩, ⟨_, _, a1, al1, _, _, rfl, hK1, ⟨hr1.1, hr1.2.1, hr1.2.2.1, hr1.2.2.2.1, rfl⟩⟩, Or.inl ⟨rfl, rfl⟩⟩))
        · skip
          refine zr_go (t := (30, [some (.ref 0), some (.int (nI 0)), none], [.int (-103)], (zw_C g1 gl a1 al1))) 1 rfl ?_
          exact zr_ret rfl trivial (Or.inr (Or.inl ⟨by decide, fun q => by omega, rfl, g1, gl, a1, al1, _, _, rfl, hK1, hr1⟩))
  · skip
    refine zr_go (t := (6, [some (.ref 0), some (.int x), none], [.int 1, .int x], (zw_C g gl a al))) 2 rfl ?_
    refine zr_if (c := x = 1) (t := (12, [some (.ref 0), some (.int x), none], [], (zw_C g gl a al))) (f := (9, [some (.ref 0), some (.int x), none], [], (zw_C g gl a al))) rfl (fun h5 => ?_) (fun h5 => ?_)
    · skip
      subst h5
      refine zr_go (t := (13, [some (.ref 0), some (.int (nI 1)), none], [.ref 0], (zw_C g gl a al))) 1 rfl ?_
      refine zr_call (t := (16, [some (.ref 0), some (.int (nI 1)), none], [], (zw_C g gl a al))) rfl (Nat.le_of_ble_eq_true rfl : 5 ≤ 45) (zs_C_hasFlats g gl a al hJ P N c sv bt n0 e0 n1 e1 hK) ?_
      rintro _ _ ⟨rfl, g1, a1, al1, rfl, hK1, he1⟩
      have hjb := zb_le (zj_ok P N c)
      have hr1 := zK_r_e he1 hr
      show zm_Run zt_get 45 zt_X_ways (16, [some (.ref 0), some (.int (nI 1)), none], [.int (nI ((zj_ok P N c).toNat))], (zw_C g1 gl a1 al1)) _
      refine zr_ieq (x := nI ((zj_ok P N c).toNat)) (y := 0) ((zj_ok P N c).toNat) 0 rfl rfl (by omega) (by omega) (t := (28, [some (.ref 0), some (.int (nI 1)), none], [], (zw_C g1 gl a1 al1))) (f := (19, [some (.ref 0), some (.int (nI 1)), none], [], (zw_C g1 gl a1 al1))) rfl (fun h1 => ?_) (fun h1 => ?_)
      · skip
        have hj := zb_0n _ h1
        refine zr_go (t := (30, [some (.ref 0), some (.int (nI 1)), none], [.int (-103)], (zw_C g1 gl a1 al1))) 1 rfl ?_
        exact zr_ret rfl trivial (Or.inr (Or.inl ⟨by decide, fun q => by rw [hj] at q; exact absurd q.1 (by decide), rfl, g1, gl, a1, al1, _, _, rfl, hK1, hr1⟩))
      · skip
        have hj := zb_1n _ h1
        have hPp := (zj_okP hj).1
        have hjj := hj
        have hBB := hB1 hj
        obtain ⟨hm, hc4, h4, h5, h24, h26, h12, hcase⟩ := id hK1
        rcases hcase with ⟨q1, q2, q, q3, _⟩ | ⟨⟨hok, h11, hcP, hQ⟩, hsv, hbt, hnb⟩
        · skip
          exfalso; omega
        · skip
          have hN6 := zv_okN hok
          have hN3 := hok.2.1
          obtain ⟨hP0, hP5⟩ := zv_P5 hok.1
          obtain ⟨-, hnp1, hnp0⟩ := zv_nums hok
          have hon1 := (zj_nums (c := c) hok).1
          have hns1 := (zj_nums (c := c) hok).2
          have hd : decide (0 < P) = true := decide_eq_true hP0
          have hv := hsv hd
          have h17 := hQ.2.2.2.1
          have h18 := hv.1
          have h19 : g1 19 = nI (zj_ns P N c) := hv.2.1
          obtain ⟨-, hns, ht, hs, hl0, hl1, hl2, hl3⟩ := hbt hj
          obtain ⟨h20, h21, h22, h21c, h22c, h23c⟩ := ht
          obtain ⟨h23, h25, hc24, hc25, hc27, hc28⟩ := hs
          obtain ⟨hn45, hnl105, hnp30, hgm45⟩ := hJ P N c hok hns
          have hfv := hr1.2.2.2.2
          refine zr_go (t := (25, [some (.ref 0), some (.int (nI 1)), none], [.int 12, .int (g1 3)], (zw_C g1 gl a1 al1))) 3 rfl ?_
          refine zr_ilt (x := g1 3) (y := 12) wa 12 hfv rfl (by omega) (by omega) (t := (31, [some (.ref 0), some (.int (nI 1)), none], [], (zw_C g1 gl a1 al1))) (f := (28, [some (.ref 0), some (.int (nI 1)), none], [], (zw_C g1 gl a1 al1))) rfl (fun h2 => ?_) (fun h2 => ?_)
          · skip
            refine zr_go (t := (43, [some (.ref 0), some (.int (nI 1)), none], [.int (nI 1), .ref 0], (zw_C (upd g1 3 ((g1 3) + 1)) gl a1 al1))) 8 rfl ?_
            rw [show (g1 3) + 1 = nI (wa + 1) from (zn_add hfv rfl)]
            refine zr_call (t := (46, [some (.ref 0), some (.int (nI 1)), none], [], (zw_C (upd g1 3 (nI (wa + 1))) gl a1 al1))) rfl (Nat.le_of_ble_eq_true rfl : 1 ≤ 45) (zs_C_searchOf_1 (upd g1 3 (nI (wa + 1))) gl a1 al1) ?_
            rintro _ _ ⟨rfl, rfl⟩
            show zm_Run zt_get 45 zt_X_ways (46, [some (.ref 0), some (.int (nI 1)), none], [.ref 9], (zw_C (upd g1 3 (nI (wa + 1))) gl a1 al1)) _
            refine zr_go (t := (48, [some (.ref 0), some (.int (nI 1)), some (.ref 9)], [.ref 9], (zw_C (upd g1 3 (nI (wa + 1))) gl a1 al1))) 2 rfl ?_
            refine zr_call (t := (51, [some (.ref 0), some (.int (nI 1)), some (.ref 9)], [], (zw_C (upd g1 3 (nI (wa + 1))) gl a1 al1))) rfl (Nat.le_of_ble_eq_true rfl : 45 ≤ 45) (zs_C_run_9 (upd g1 3 (nI (wa + 1))) gl a1 al1 n1 h26 (by omega) e1 (fun k hk => (hl3 k hk).1) (zj_gm P N c) (by omega) (fun k hk => (hl3 k hk).2) h25 (by omega) (zw_on P N c) (by omega) h23 (by omega) (zj_m P N c) hc27 (zj_km P N c) hc28 (zj_p P N c) hc24 hBB) ?_
            rintro _ _ ⟨rfl, rfl⟩
            show zm_Run zt_get 45 zt_X_ways (51, [some (.ref 0), some (.int (nI 1)), some (.ref 9)], [], (zw_C (upd (upd g1 3 (nI (wa + 1))) 29 (nI ((zj_wk1 P N c n1 e1).1))) (vp_updL gl 30 ((zj_wk1 P N c n1 e1).2)) a1 al1)) _
            refine zr_go (t := (55, [some (.ref 0), some (.int (nI 1)), some (.ref 9)], [.int (nI ((zj_wk1 P N c n1 e1).1))], (zw_C (upd (upd g1 3 (nI (wa + 1))) 29 (nI ((zj_wk1 P N c n1 e1).1))) (vp_updL gl 30 ((zj_wk1 P N c n1 e1).2)) a1 al1))) 2 rfl ?_
            exact zr_ret rfl trivial (Or.inr (Or.inr ⟨⟨hjj, h2⟩, ⟨_, _, a1, al1, _, _, rfl, hK1, ⟨hr1.1, hr1.2.1, hr1.2.2.1, hr1.2.2.2.1, rfl⟩⟩, Or.inr ⟨rfl, rfl⟩⟩))
          · skip
            refine zr_go (t := (30, [some (.ref 0), some (.int (nI 1)), none], [.int (-103)], (zw_C g1 gl a1 al1))) 1 rfl ?_
            exact zr_ret rfl trivial (Or.inr (Or.inl ⟨by decide, fun q => by omega, rfl, g1, gl, a1, al1, _, _, rfl, hK1, hr1⟩))
    · skip
      refine zr_go (t := (11, [some (.ref 0), some (.int x), none], [.int (-102)], (zw_C g gl a al))) 1 rfl ?_
      exact zr_ret rfl trivial (Or.inl ⟨zx_2n h4 h5, rfl, g, gl, a, al, sv, bt, rfl, hK, hr⟩)
