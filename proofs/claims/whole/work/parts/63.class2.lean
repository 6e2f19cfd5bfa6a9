/-! the class: the page (written by wip/whole/gen_c2.py) -/
/-- the page as the class holds it -/
def zC_p (g : Nat → Int32) (a : Nat → Nat → Int32) (n : Nat) (cd : Nat → Nat) : Prop := g 6 = nI n ∧ n ≤ 28 ∧ (∀ k, k < n → a 10 k = nI (cd k)) ∧ ∀ k, k < n → 32 ≤ cd k ∧ cd k ≤ 126
def zc_w (P m : Nat) : Nat := if m = 0 then zp_most P else m
def zC_r (g : Nat → Int32) (P m r d : Nat) : Prop := g 7 = nI P ∧ g 8 = nI (zc_w P m) ∧ g 9 = nI r ∧ g 10 = nI d
theorem zs_C_append (g : Nat → Int32) (gl : Nat → Int64) (a : Nat → Nat → Int32) (al : Nat → Nat → Int64) (n : Nat) (hn : g 6 = nI n) (hn1 : n < 28) (x : Int32) : zm_Ev zt_get 1 22 [.ref 1, .int x] (zw_C g gl a al) (fun v w => v = none ∧ w = (zw_C (upd g 6 (nI (n + 1))) gl (va_up a 10 (upd (a 10) n x)) al)) := by
  refine zr_ev zt_P_append rfl rfl ?_
  show zm_Run zt_get 0 zt_P_append (0, [some (.ref 1), some (.int x)], [], (zw_C g gl a al)) _
  refine zr_go (t := (6, [some (.ref 1), some (.int x)], [.int 28, .int (g 6)], (zw_C g gl a al))) 3 rfl ?_
  refine zr_ige (x := g 6) (y := 28) n 28 hn rfl (by omega) (by omega) (t := (29, [some (.ref 1), some (.int x)], [], (zw_C g gl a al))) (f := (9, [some (.ref 1), some (.int x)], [], (zw_C g gl a al))) rfl (fun h1 => ?_) (fun h1 => ?_)
  · skip
    exfalso; omega
  · skip
    refine zr_go (t := (18, [some (.ref 1), some (.int x)], [.int x, .int (g 6), .ref 10], (zw_C g gl a al))) 5 rfl ?_
    refine zr_cd (t := (19, [some (.ref 1), some (.int x)], [], (zw_C g gl (va_up a 10 (upd (a 10) ((g 6).toNatClampNeg) x)) al))) rfl (pk_in n 28 (by omega) hn (by omega)) ?_
    rw [pk_cl (x := (g 6)) n hn (by omega)]
    refine zr_go (t := (29, [some (.ref 1), some (.int x)], [], (zw_C (upd g 6 ((g 6) + 1)) gl (va_up a 10 (upd (a 10) n x)) al))) 6 rfl ?_
    rw [show (g 6) + 1 = nI (n + 1) from zn_add hn rfl]
    exact zr_ret rfl trivial ⟨rfl, rfl⟩
theorem zs_C_letter (g : Nat → Int32) (gl : Nat → Int64) (a : Nat → Nat → Int32) (al : Nat → Nat → Int64) (n : Nat) (hn : g 6 = nI n) (hn28 : n ≤ 28) (x : Int32) : zm_Ev zt_get 2 56 [.ref 0, .int x] (zw_C g gl a al) (fun v w => (¬ (32 ≤ x ∧ x ≤ 126) ∧ v = some (.int (-102)) ∧ w = (zw_C g gl a al)) ∨ ((32 ≤ x ∧ x ≤ 126) ∧ n = 28 ∧ v = some (.int (-104)) ∧ w = (zw_C g gl a al)) ∨ ((32 ≤ x ∧ x ≤ 126) ∧ n < 28 ∧ v = some (.int (nI (n + 1))) ∧ w = (zw_C (upd g 6 (nI (n + 1))) gl (va_up a 10 (upd (a 10) n x)) al))) := by
  refine zr_ev zt_X_letter rfl rfl ?_
  show zm_Run zt_get 1 zt_X_letter (0, [some (.ref 0), some (.int x)], [], (zw_C g gl a al)) _
  refine zr_go (t := (3, [some (.ref 0), some (.int x)], [.int 32, .int x], (zw_C g gl a al))) 2 rfl ?_
  refine zr_if (c := x < 32) (t := (12, [some (.ref 0), some (.int x)], [], (zw_C g gl a al))) (f := (6, [some (.ref 0), some (.int x)], [], (zw_C g gl a al))) rfl (fun h1 => ?_) (fun h1 => ?_)
  · skip
    refine zr_go (t := (14, [some (.ref 0), some (.int x)], [.int (-102)], (zw_C g gl a al))) 1 rfl ?_
    exact zr_ret rfl trivial (Or.inl ⟨fun q => (by have q1 := q.1; rw [Int32.le_iff_toInt_le] at q1; rw [Int32.lt_iff_toInt_lt] at h1; omega), rfl, rfl⟩)
  · skip
    refine zr_go (t := (9, [some (.ref 0), some (.int x)], [.int 126, .int x], (zw_C g gl a al))) 2 rfl ?_
    refine zr_if (c := x ≤ 126) (t := (15, [some (.ref 0), some (.int x)], [], (zw_C g gl a al))) (f := (12, [some (.ref 0), some (.int x)], [], (zw_C g gl a al))) rfl (fun h2 => ?_) (fun h2 => ?_)
    · skip
      have hc : (32 ≤ x ∧ x ≤ 126) := ⟨by rw [Int32.le_iff_toInt_le]; rw [Int32.lt_iff_toInt_lt] at h1; omega, h2⟩
      refine zr_go (t := (24, [some (.ref 0), some (.int x)], [.int 28, .int (g 6)], (zw_C g gl a al))) 4 rfl ?_
      refine zr_ilt (x := g 6) (y := 28) n 28 hn rfl (by omega) (by omega) (t := (30, [some (.ref 0), some (.int x)], [], (zw_C g gl a al))) (f := (27, [some (.ref 0), some (.int x)], [], (zw_C g gl a al))) rfl (fun h3 => ?_) (fun h3 => ?_)
      · skip
        refine zr_go (t := (35, [some (.ref 0), some (.int x)], [.int x, .ref 1], (zw_C g gl a al))) 3 rfl ?_
        refine zr_call (t := (38, [some (.ref 0), some (.int x)], [], (zw_C g gl a al))) rfl (Nat.le_of_ble_eq_true rfl : 1 ≤ 1) (zs_C_append g gl a al n hn h3 x) ?_
        rintro _ _ ⟨rfl, rfl⟩
        show zm_Run zt_get 1 zt_X_letter (38, [some (.ref 0), some (.int x)], [], (zw_C (upd g 6 (nI (n + 1))) gl (va_up a 10 (upd (a 10) n x)) al)) _
        refine zr_go (t := (45, [some (.ref 0), some (.int x)], [.int (nI (n + 1))], (zw_C (upd g 6 (nI (n + 1))) gl (va_up a 10 (upd (a 10) n x)) al))) 3 rfl ?_
        exact zr_ret rfl trivial (Or.inr (Or.inr ⟨hc, h3, rfl, rfl⟩))
      · skip
        refine zr_go (t := (29, [some (.ref 0), some (.int x)], [.int (-104)], (zw_C g gl a al))) 1 rfl ?_
        exact zr_ret rfl trivial (Or.inr (Or.inl ⟨hc, by omega, rfl, rfl⟩))
    · skip
      refine zr_go (t := (14, [some (.ref 0), some (.int x)], [.int (-102)], (zw_C g gl a al))) 1 rfl ?_
      exact zr_ret rfl trivial (Or.inl ⟨fun q => h2 q.2, rfl, rfl⟩)
theorem zs_C_blank (g : Nat → Int32) (gl : Nat → Int64) (a : Nat → Nat → Int32) (al : Nat → Nat → Int64) : zm_Ev zt_get 1 57 [.ref 0] (zw_C g gl a al) (fun v w => v = some (.int (g 6)) ∧ w = (zw_C (upd g 6 0) gl a al)) := by
  refine zr_ev zt_X_blank rfl rfl ?_
  show zm_Run zt_get 0 zt_X_blank (0, [some (.ref 0), none], [], (zw_C g gl a al)) _
  refine zr_go (t := (17, [some (.ref 0), some (.int (g 6))], [.int (g 6)], (zw_C (upd g 6 0) gl a al))) 9 rfl ?_
  exact zr_ret rfl trivial ⟨rfl, rfl⟩
def zp_m0 (c : Nat) : Nat := if c = 50 then 6 else if c = 51 then 5 else if c = 53 then 4 else 0
theorem zs_C_most (g : Nat → Int32) (gl : Nat → Int64) (a : Nat → Nat → Int32) (al : Nat → Nat → Int64) (c : Nat) (hc : c ≤ 126) : zm_Ev zt_get 1 26 [.ref 1] (zw_C (upd g 7 (nI c - 48)) gl a al) (fun v w => v = some (.int (nI (zp_m0 c))) ∧ w = (zw_C (upd g 7 (nI c - 48)) gl a al)) := by
  have ei : (nI c - 48).toInt = (c : Int) - 48 := pk_sub_toInt (b := 48) (by omega) (by decide)
  refine zr_ev zt_P_mostVariables rfl rfl ?_
  show zm_Run zt_get 0 zt_P_mostVariables (0, [some (.ref 1)], [], (zw_C (upd g 7 (nI c - 48)) gl a al)) _
  refine zr_go (t := (4, [some (.ref 1)], [.int (nI c - 48)], (zw_C (upd g 7 (nI c - 48)) gl a al))) 2 rfl ?_
  by_cases h : c = 50 ∨ c = 51 ∨ c = 52 ∨ c = 53
  · skip
    rcases h with rfl | rfl | rfl | rfl
    · skip
      refine zr_step (c := none) (t := ((zm_sw 4 39 2 5 #[32, 35, 39, 37] (nI 50 - 48)), [some (.ref 1)], [], (zw_C (upd g 7 (nI 50 - 48)) gl a al))) rfl trivial ?_
      rw [show zm_sw 4 39 2 5 #[32, 35, 39, 37] (nI 50 - 48) = 36 from by decide]
      refine zr_go (t := (38, [some (.ref 1)], [.int 6], (zw_C (upd g 7 (nI 50 - 48)) gl a al))) 1 rfl ?_
      exact zr_ret rfl trivial ⟨rfl, rfl⟩
    · skip
      refine zr_step (c := none) (t := ((zm_sw 4 39 2 5 #[32, 35, 39, 37] (nI 51 - 48)), [some (.ref 1)], [], (zw_C (upd g 7 (nI 51 - 48)) gl a al))) rfl trivial ?_
      rw [show zm_sw 4 39 2 5 #[32, 35, 39, 37] (nI 51 - 48) = 39 from by decide]
      refine zr_go (t := (40, [some (.ref 1)], [.int 5], (zw_C (upd g 7 (nI 51 - 48)) gl a al))) 1 rfl ?_
      exact zr_ret rfl trivial ⟨rfl, rfl⟩
    · skip
      refine zr_step (c := none) (t := ((zm_sw 4 39 2 5 #[32, 35, 39, 37] (nI 52 - 48)), [some (.ref 1)], [], (zw_C (upd g 7 (nI 52 - 48)) gl a al))) rfl trivial ?_
      rw [show zm_sw 4 39 2 5 #[32, 35, 39, 37] (nI 52 - 48) = 43 from by decide]
      refine zr_go (t := (44, [some (.ref 1)], [.int 0], (zw_C (upd g 7 (nI 52 - 48)) gl a al))) 1 rfl ?_
      exact zr_ret rfl trivial ⟨rfl, rfl⟩
    · skip
      refine zr_step (c := none) (t := ((zm_sw 4 39 2 5 #[32, 35, 39, 37] (nI 53 - 48)), [some (.ref 1)], [], (zw_C (upd g 7 (nI 53 - 48)) gl a al))) rfl trivial ?_
      rw [show zm_sw 4 39 2 5 #[32, 35, 39, 37] (nI 53 - 48) = 41 from by decide]
      refine zr_go (t := (42, [some (.ref 1)], [.int 4], (zw_C (upd g 7 (nI 53 - 48)) gl a al))) 1 rfl ?_
      exact zr_ret rfl trivial ⟨rfl, rfl⟩
  · skip
    refine zr_step (c := none) (t := ((zm_sw 4 39 2 5 #[32, 35, 39, 37] (nI c - 48)), [some (.ref 1)], [], (zw_C (upd g 7 (nI c - 48)) gl a al))) rfl trivial ?_
    rw [show zm_sw 4 39 2 5 #[32, 35, 39, 37] (nI c - 48) = 43 from by unfold zm_sw; rw [if_pos (by rw [ei]; omega)]; rfl]
    refine zr_go (t := (44, [some (.ref 1)], [.int 0], (zw_C (upd g 7 (nI c - 48)) gl a al))) 1 rfl ?_
    exact zr_ret rfl trivial ⟨by unfold zp_m0; rw [if_neg (by omega), if_neg (by omega), if_neg (by omega)]; rfl, rfl⟩
theorem zc_wJ {P m r d : Nat} (h : zp_J P m r d) : zc_w P m ≤ 6 ∧ 3 ≤ zc_w P m ∧ r < zc_w P m ∧ (m = 0 → r = 0 ∧ d ≤ zc_w P m) ∧ (m ≠ 0 → 0 < r → d ≤ zc_w P m - r) := by
  have hm := zp_most_le P
  obtain ⟨h1, h2⟩ := h
  unfold zc_w
  rcases h2 with ⟨a1, a2, a3⟩ | ⟨a1, a2, a3, a4⟩
  · rw [if_pos a1]; omega
  · rw [if_neg (by omega)]; omega
theorem zc_d6 {P m r d : Nat} (h : zp_J P m r d) : d ≤ 6 := by
  have hm := zp_most_le P
  obtain ⟨h1, h2⟩ := h
  rcases h2 with ⟨a1, a2, a3⟩ | ⟨a1, a2, a3, a4⟩ <;> omega
theorem zc_digw {P m r d c : Nat} (h : zp_J P m r d) : zp_dig P m r d c = (decide (d < zc_w P m - r) && decide (48 ≤ c ∧ c < 48 + P)) := by
  obtain ⟨h1, h2⟩ := h
  unfold zp_dig zc_w
  rcases h2 with ⟨a1, a2, a3⟩ | ⟨a1, a2, a3, a4⟩
  · rw [if_pos a1, if_pos a1, a2, Nat.sub_zero, decide_eq_decide.mpr (show (48 ≤ c ∧ c ≤ 48 + P - 1) ↔ (48 ≤ c ∧ c < 48 + P) by omega)]
  · rw [if_neg (by omega), if_neg (by omega), decide_eq_decide.mpr (show (48 ≤ c ∧ c ≤ 48 + P - 1) ↔ (48 ≤ c ∧ c < 48 + P) by omega)]
theorem zs_C_addsDigit (g : Nat → Int32) (gl : Nat → Int64) (a : Nat → Nat → Int32) (al : Nat → Nat → Int64) (P m r d : Nat) (hr : zC_r g P m r d) (hJ : zp_J P m r d) (c : Nat) (hc : c ≤ 126) : zm_Ev zt_get 1 28 [.ref 1, .int (nI c - 48)] (zw_C g gl a al) (fun v w => (zp_dig P m r d c = true ∧ v = some (.int 1) ∧ w = (zw_C (upd g 10 (nI (d + 1))) gl a al)) ∨ (zp_dig P m r d c = false ∧ v = some (.int 0) ∧ w = (zw_C g gl a al))) := by
  obtain ⟨h7, h8, h9, h10⟩ := hr
  have hwp : zc_w P m ≤ 6 ∧ 3 ≤ zc_w P m ∧ r < zc_w P m ∧ (m = 0 → r = 0 ∧ d ≤ zc_w P m) ∧ (m ≠ 0 → 0 < r → d ≤ zc_w P m - r) := zc_wJ hJ
  obtain ⟨hw6, hw3, hrw, hm0, hm1⟩ := hwp
  have hP5 : P ≤ 5 := by have := hJ.1; omega
  have hd6 : d ≤ 6 := zc_d6 hJ
  rw [zc_digw hJ]
  refine zr_ev zt_P_addsDigit rfl rfl ?_
  show zm_Run zt_get 0 zt_P_addsDigit (0, [some (.ref 1), some (.int (nI c - 48))], [], (zw_C g gl a al)) _
  by_cases hc48 : c < 48
  · skip
    refine zr_go (t := (1, [some (.ref 1), some (.int (nI c - 48))], [.int (nI c - 48)], (zw_C g gl a al))) 1 rfl ?_
    refine zr_if (c := (nI c - 48) < 0) (t := (28, [some (.ref 1), some (.int (nI c - 48))], [], (zw_C g gl a al))) (f := (4, [some (.ref 1), some (.int (nI c - 48))], [], (zw_C g gl a al))) rfl (fun h1 => ?_) (fun h1 => ?_)
    · skip
      refine zr_go (t := (29, [some (.ref 1), some (.int (nI c - 48))], [.int 0], (zw_C g gl a al))) 1 rfl ?_
      exact zr_ret rfl (Or.inl rfl) (Or.inr ⟨by rw [decide_eq_false (show ¬ (48 ≤ c ∧ c < 48 + P) by omega), Bool.and_false], rfl, rfl⟩)
    · skip
      exact absurd (pk_sneg (b := 48) (by decide) hc48) h1
  · skip
    rw [show nI c - 48 = nI (c - 48) from pk_sub (b := 48) (by omega)]
    refine zr_go (t := (1, [some (.ref 1), some (.int (nI (c - 48)))], [.int (nI (c - 48))], (zw_C g gl a al))) 1 rfl ?_
    refine zr_ilt (x := nI (c - 48)) (y := 0) (c - 48) 0 rfl rfl (by omega) (by omega) (t := (28, [some (.ref 1), some (.int (nI (c - 48)))], [], (zw_C g gl a al))) (f := (4, [some (.ref 1), some (.int (nI (c - 48)))], [], (zw_C g gl a al))) rfl (fun h1 => ?_) (fun h1 => ?_)
    · skip
      exfalso; omega
    · skip
      refine zr_go (t := (9, [some (.ref 1), some (.int (nI (c - 48)))], [.int (g 7), .int (nI (c - 48))], (zw_C g gl a al))) 3 rfl ?_
      refine zr_ige (x := nI (c - 48)) (y := g 7) (c - 48) P rfl h7 (by omega) (by omega) (t := (28, [some (.ref 1), some (.int (nI (c - 48)))], [], (zw_C g gl a al))) (f := (12, [some (.ref 1), some (.int (nI (c - 48)))], [], (zw_C g gl a al))) rfl (fun h2 => ?_) (fun h2 => ?_)
      · skip
        refine zr_go (t := (29, [some (.ref 1), some (.int (nI (c - 48)))], [.int 0], (zw_C g gl a al))) 1 rfl ?_
        exact zr_ret rfl (Or.inl rfl) (Or.inr ⟨by rw [decide_eq_false (show ¬ (48 ≤ c ∧ c < 48 + P) by omega), Bool.and_false], rfl, rfl⟩)
      · skip
        refine zr_go (t := (25, [some (.ref 1), some (.int (nI (c - 48)))], [.int ((g 8) - (g 9)), .int (g 10)], (zw_C g gl a al))) 7 rfl ?_
        refine zr_ilt (x := g 10) (y := (g 8) - (g 9)) d ((zc_w P m) - r) h10 (zn_sub h8 h9 (by omega)) (by omega) (by omega) (t := (30, [some (.ref 1), some (.int (nI (c - 48)))], [], (zw_C g gl a al))) (f := (28, [some (.ref 1), some (.int (nI (c - 48)))], [], (zw_C g gl a al))) rfl (fun h3 => ?_) (fun h3 => ?_)
        · skip
          refine zr_go (t := (41, [some (.ref 1), some (.int (nI (c - 48)))], [.int 1], (zw_C (upd g 10 ((g 10) + 1)) gl a al))) 7 rfl ?_
          rw [show (g 10) + 1 = nI (d + 1) from zn_add h10 rfl]
          exact zr_ret rfl (Or.inr rfl) (Or.inl ⟨by rw [decide_eq_true h3, decide_eq_true (show 48 ≤ c ∧ c < 48 + P by omega)]; rfl, rfl, rfl⟩)
        · skip
          refine zr_go (t := (29, [some (.ref 1), some (.int (nI (c - 48)))], [.int 0], (zw_C g gl a al))) 1 rfl ?_
          exact zr_ret rfl (Or.inl rfl) (Or.inr ⟨by rw [decide_eq_false (show ¬ d < zc_w P m - r by omega), Bool.false_and], rfl, rfl⟩)
theorem zs_C_endsRow (g : Nat → Int32) (gl : Nat → Int64) (a : Nat → Nat → Int32) (al : Nat → Nat → Int64) (P m r d : Nat) (hr : zC_r g P m r d) (hJ : zp_J P m r d) (hmr : r = 0 → m = 0) : zm_Ev zt_get 1 27 [.ref 1] (zw_C g gl a al) (fun v w => (zp_sla m r d 47 = true ∧ v = some (.int 1) ∧ ∃ x8 x9 x10, w = (zw_C (upd (upd (upd g 8 x8) 9 x9) 10 x10) gl a al) ∧ zC_r (upd (upd (upd g 8 x8) 9 x9) 10 x10) P (if m = 0 then d else m) (r + 1) 0) ∨ (zp_sla m r d 47 = false ∧ v = some (.int 0) ∧ ∃ x8, w = (zw_C (upd g 8 x8) gl a al))) := by
  obtain ⟨h7, h8, h9, h10⟩ := hr
  have hwp : zc_w P m ≤ 6 ∧ 3 ≤ zc_w P m ∧ r < zc_w P m ∧ (m = 0 → r = 0 ∧ d ≤ zc_w P m) ∧ (m ≠ 0 → 0 < r → d ≤ zc_w P m - r) := zc_wJ hJ
  obtain ⟨hw6, hw3, hrw, hm0, hm1⟩ := hwp
  have hP5 : P ≤ 5 := by have := hJ.1; omega
  have hd6 : d ≤ 6 := zc_d6 hJ
  obtain ⟨hJ1, hJ2⟩ := id hJ
  refine zr_ev zt_P_endsRow rfl rfl ?_
  show zm_Run zt_get 0 zt_P_endsRow (0, [some (.ref 1)], [], (zw_C g gl a al)) _
  refine zr_go (t := (4, [some (.ref 1)], [.int (g 9)], (zw_C g gl a al))) 2 rfl ?_
  refine zr_ine (x := g 9) (y := 0) r 0 h9 rfl (by omega) (by omega) (t := (23, [some (.ref 1)], [], (zw_C g gl a al))) (f := (7, [some (.ref 1)], [], (zw_C g gl a al))) rfl (fun h1 => ?_) (fun h1 => ?_)
  · skip
    have hmne : m ≠ 0 := fun q => h1 (hm0 q).1
    have hwm : zc_w P m = m := if_neg hmne
    have hdm := hm1 hmne (by omega)
    have hs : zp_sla m r d 47 = (decide (d = m - r) && decide (r < m - 1)) := by unfold zp_sla; rw [if_neg hmne]; rfl
    have h8m : zc_w P (if m = 0 then d else m) = zc_w P m := by rw [if_neg hmne]
    refine zr_go (t := (36, [some (.ref 1)], [.int ((g 8) - (g 9)), .int (g 10)], (zw_C g gl a al))) 7 rfl ?_
    refine zr_ilt (x := g 10) (y := (g 8) - (g 9)) d ((zc_w P m) - r) h10 (zn_sub h8 h9 (by omega)) (by omega) (by omega) (t := (52, [some (.ref 1)], [], (zw_C g gl a al))) (f := (39, [some (.ref 1)], [], (zw_C g gl a al))) rfl (fun h4 => ?_) (fun h4 => ?_)
    · skip
      refine zr_go (t := (53, [some (.ref 1)], [.int 0], (zw_C g gl a al))) 1 rfl ?_
      exact zr_ret rfl (Or.inl rfl) (Or.inr ⟨by rw [hs, decide_eq_false (by omega), Bool.false_and], rfl, (g 8), rfl⟩)
    · skip
      refine zr_go (t := (49, [some (.ref 1)], [.int ((g 8) - 1), .int (g 9)], (zw_C g gl a al))) 6 rfl ?_
      refine zr_ilt (x := g 9) (y := (g 8) - 1) r ((zc_w P m) - 1) h9 (zn_sub h8 rfl (by omega)) (by omega) (by omega) (t := (54, [some (.ref 1)], [], (zw_C g gl a al))) (f := (52, [some (.ref 1)], [], (zw_C g gl a al))) rfl (fun h5 => ?_) (fun h5 => ?_)
      · skip
        refine zr_go (t := (70, [some (.ref 1)], [.int 1], (zw_C (upd (upd g 9 ((g 9) + 1)) 10 0) gl a al))) 10 rfl ?_
        exact zr_ret rfl (Or.inr rfl) (Or.inl ⟨by rw [hs, decide_eq_true (by omega), decide_eq_true (by omega)]; rfl, rfl, (g 8), _, _, rfl, h7, h8m ▸ h8, zn_add h9 rfl, rfl⟩)
      · skip
        refine zr_go (t := (53, [some (.ref 1)], [.int 0], (zw_C g gl a al))) 1 rfl ?_
        exact zr_ret rfl (Or.inl rfl) (Or.inr ⟨by rw [hs, decide_eq_false (show ¬ r < m - 1 by omega), Bool.and_false], rfl, (g 8), rfl⟩)
  · skip
    have hmz : m = 0 := hmr h1
    have hs : zp_sla m r d 47 = decide (3 ≤ d) := by unfold zp_sla; rw [if_pos hmz]; rfl
    have hwz : zc_w P m = zp_most P := if_pos hmz
    have hmost := zp_most_le P
    refine zr_go (t := (12, [some (.ref 1)], [.int 3, .int (g 10)], (zw_C g gl a al))) 3 rfl ?_
    refine zr_ilt (x := g 10) (y := 3) d 3 h10 rfl (by omega) (by omega) (t := (23, [some (.ref 1)], [], (zw_C g gl a al))) (f := (15, [some (.ref 1)], [], (zw_C g gl a al))) rfl (fun h2 => ?_) (fun h2 => ?_)
    · skip
      refine zr_go (t := (36, [some (.ref 1)], [.int ((g 8) - (g 9)), .int (g 10)], (zw_C g gl a al))) 7 rfl ?_
      refine zr_ilt (x := g 10) (y := (g 8) - (g 9)) d ((zc_w P m) - r) h10 (zn_sub h8 h9 (by omega)) (by omega) (by omega) (t := (52, [some (.ref 1)], [], (zw_C g gl a al))) (f := (39, [some (.ref 1)], [], (zw_C g gl a al))) rfl (fun h4 => ?_) (fun h4 => ?_)
      · skip
        refine zr_go (t := (53, [some (.ref 1)], [.int 0], (zw_C g gl a al))) 1 rfl ?_
        exact zr_ret rfl (Or.inl rfl) (Or.inr ⟨by rw [hs, decide_eq_false (by omega)], rfl, (g 8), rfl⟩)
      · skip
        refine zr_go (t := (49, [some (.ref 1)], [.int ((g 8) - 1), .int (g 9)], (zw_C g gl a al))) 6 rfl ?_
        refine zr_ilt (x := g 9) (y := (g 8) - 1) r ((zc_w P m) - 1) h9 (zn_sub h8 rfl (by omega)) (by omega) (by omega) (t := (54, [some (.ref 1)], [], (zw_C g gl a al))) (f := (52, [some (.ref 1)], [], (zw_C g gl a al))) rfl (fun h5 => ?_) (fun h5 => ?_)
        · skip
          refine zr_go (t := (70, [some (.ref 1)], [.int 1], (zw_C (upd (upd g 9 ((g 9) + 1)) 10 0) gl a al))) 10 rfl ?_
          exact zr_ret rfl (Or.inr rfl) (Or.inl ⟨(by exfalso; omega), rfl, (g 8), _, _, rfl, h7, (by exfalso; omega), zn_add h9 rfl, rfl⟩)
        · skip
          refine zr_go (t := (53, [some (.ref 1)], [.int 0], (zw_C g gl a al))) 1 rfl ?_
          exact zr_ret rfl (Or.inl rfl) (Or.inr ⟨by rw [hs, decide_eq_false (by omega)], rfl, (g 8), rfl⟩)
    · skip
      refine zr_go (t := (23, [some (.ref 1)], [], (zw_C (upd g 8 (g 10)) gl a al))) 4 rfl ?_
      have hwd : zc_w P (if m = 0 then d else m) = d := by rw [if_pos hmz]; exact if_neg (by omega)
      refine zr_go (t := (36, [some (.ref 1)], [.int ((g 10) - (g 9)), .int (g 10)], (zw_C (upd g 8 (g 10)) gl a al))) 7 rfl ?_
      refine zr_ilt (x := g 10) (y := (g 10) - (g 9)) d (d - r) h10 (zn_sub h10 h9 (by omega)) (by omega) (by omega) (t := (52, [some (.ref 1)], [], (zw_C (upd g 8 (g 10)) gl a al))) (f := (39, [some (.ref 1)], [], (zw_C (upd g 8 (g 10)) gl a al))) rfl (fun h4 => ?_) (fun h4 => ?_)
      · skip
        refine zr_go (t := (53, [some (.ref 1)], [.int 0], (zw_C (upd g 8 (g 10)) gl a al))) 1 rfl ?_
        exact zr_ret rfl (Or.inl rfl) (Or.inr ⟨(by exfalso; omega), rfl, (g 10), rfl⟩)
      · skip
        refine zr_go (t := (49, [some (.ref 1)], [.int ((g 10) - 1), .int (g 9)], (zw_C (upd g 8 (g 10)) gl a al))) 6 rfl ?_
        refine zr_ilt (x := g 9) (y := (g 10) - 1) r (d - 1) h9 (zn_sub h10 rfl (by omega)) (by omega) (by omega) (t := (54, [some (.ref 1)], [], (zw_C (upd g 8 (g 10)) gl a al))) (f := (52, [some (.ref 1)], [], (zw_C (upd g 8 (g 10)) gl a al))) rfl (fun h5 => ?_) (fun h5 => ?_)
        · skip
          refine zr_go (t := (70, [some (.ref 1)], [.int 1], (zw_C (upd (upd (upd g 8 (g 10)) 9 ((g 9) + 1)) 10 0) gl a al))) 10 rfl ?_
          exact zr_ret rfl (Or.inr rfl) (Or.inl ⟨by rw [hs, decide_eq_true (by omega)], rfl, (g 10), _, _, rfl, h7, (h10.trans (congrArg nI hwd.symm)), zn_add h9 rfl, rfl⟩)
        · skip
          refine zr_go (t := (53, [some (.ref 1)], [.int 0], (zw_C (upd g 8 (g 10)) gl a al))) 1 rfl ?_
          exact zr_ret rfl (Or.inl rfl) (Or.inr ⟨(by exfalso; omega), rfl, (g 10), rfl⟩)
theorem zp_mr {cd : Nat → Nat} : ∀ k P m r d, zp_st cd k = some (P, m, r, d) → r = 0 → m = 0
  | 0, P, m, r, d, h, _ => by
    have h : some (0, 0, 0, 0) = some (P, m, r, d) := h
    cases h; rfl
  | k + 1, P, m, r, d, h, hr => by
    cases q : zp_st cd k with
    | none =>
      have h : (match zp_st cd k with | some s => zp_step k s (cd k) | none => none) = some (P, m, r, d) := h
      rw [q] at h; cases h
    | some s =>
      obtain ⟨P0, m0, r0, d0⟩ := s
      have ih := zp_mr k P0 m0 r0 d0 q
      rw [zp_st_succ q] at h
      unfold zp_step at h
      split at h
      · split at h
        · cases h; rfl
        · cases h
      · split at h
        · split at h
          · cases h; exact ih hr
          · cases h
        · have h : zp_nx P0 m0 r0 d0 (cd k) = some (P, m, r, d) := h
          unfold zp_nx at h
          split at h
          · cases h; exact ih hr
          · split at h
            · cases h; omega
            · cases h
theorem zp_48 {m r d : Nat} {c : Nat} (h : c ≠ 47) : zp_sla m r d c = false := by unfold zp_sla; rw [decide_eq_false h, Bool.false_and]
theorem zp_47 {P m r d : Nat} : zp_dig P m r d 47 = false := by unfold zp_dig; rw [decide_eq_false (show ¬ (48 ≤ 47 ∧ 47 ≤ 48 + P - 1) by omega), Bool.and_false]
/-- what stands while the page is read -/
def zC_s (g : Nat → Int32) (k P m r d : Nat) : Prop := (k = 0 ∧ m = 0 ∧ r = 0 ∧ d = 0 ∧ g 9 = 0 ∧ g 10 = 0) ∨ (0 < k ∧ zC_r g P m r d ∧ zp_J P m r d ∧ (r = 0 → m = 0))
theorem zs_C_accepts (g : Nat → Int32) (gl : Nat → Int64) (a : Nat → Nat → Int32) (al : Nat → Nat → Int64) (k P m r d c : Nat) (hk : k < 1000) (hc : c ≤ 126) (hs : zC_s g k P m r d) : zm_Ev zt_get 2 25 [.ref 1, .int (nI k), .int (nI c)] (zw_C g gl a al) (fun v w => ∃ x7 x8 x9 x10, w = (zw_C (upd (upd (upd (upd g 7 x7) 8 x8) 9 x9) 10 x10) gl a al) ∧ ((zp_step k (P, m, r, d) c = none ∧ v = some (.int 0)) ∨ ∃ P2 m2 r2 d2, zp_step k (P, m, r, d) c = some (P2, m2, r2, d2) ∧ v = some (.int 1) ∧ zC_s (upd (upd (upd (upd g 7 x7) 8 x8) 9 x9) 10 x10) (k + 1) P2 m2 r2 d2)) := by
  have hid : ∀ x : Nat → Int32, zw_C g gl a al = zw_C (upd (upd (upd (upd g 7 (g 7)) 8 (g 8)) 9 (g 9)) 10 (g 10)) gl a al := fun _ => rfl
  refine zr_ev zt_P_accepts rfl rfl ?_
  show zm_Run zt_get 1 zt_P_accepts (0, [some (.ref 1), some (.int (nI k)), some (.int (nI c))], [], (zw_C g gl a al)) _
  refine zr_go (t := (1, [some (.ref 1), some (.int (nI k)), some (.int (nI c))], [.int (nI k)], (zw_C g gl a al))) 1 rfl ?_
  refine zr_ine (x := nI k) (y := 0) k 0 rfl rfl (by omega) (by omega) (t := (33, [some (.ref 1), some (.int (nI k)), some (.int (nI c))], [], (zw_C g gl a al))) (f := (4, [some (.ref 1), some (.int (nI k)), some (.int (nI c))], [], (zw_C g gl a al))) rfl (fun h1 => ?_) (fun h1 => ?_)
  · skip
    have hs : 0 < k ∧ zC_r g P m r d ∧ zp_J P m r d ∧ (r = 0 → m = 0) := by rcases hs with q | q; omega; exact q
    obtain ⟨-, hr, hJ, hmr⟩ := hs
    obtain ⟨h7, h8, h9, h10⟩ := id hr
    refine zr_go (t := (35, [some (.ref 1), some (.int (nI k)), some (.int (nI c))], [.int 1, .int (nI k)], (zw_C g gl a al))) 2 rfl ?_
    refine zr_ine (x := nI k) (y := 1) k 1 rfl rfl (by omega) (by omega) (t := (50, [some (.ref 1), some (.int (nI k)), some (.int (nI c))], [], (zw_C g gl a al))) (f := (38, [some (.ref 1), some (.int (nI k)), some (.int (nI c))], [], (zw_C g gl a al))) rfl (fun h2 => ?_) (fun h2 => ?_)
    · skip
      have hst : zp_step k (P, m, r, d) c = zp_nx P m r d c := by unfold zp_step; rw [if_neg h1, if_neg h2]
      refine zr_go (t := (53, [some (.ref 1), some (.int (nI k)), some (.int (nI c))], [.int 47, .int (nI c)], (zw_C g gl a al))) 2 rfl ?_
      refine zr_ine (x := nI c) (y := 47) c 47 rfl rfl (by omega) (by omega) (t := (63, [some (.ref 1), some (.int (nI k)), some (.int (nI c))], [], (zw_C g gl a al))) (f := (56, [some (.ref 1), some (.int (nI k)), some (.int (nI c))], [], (zw_C g gl a al))) rfl (fun h3 => ?_) (fun h3 => ?_)
      · skip
        have hsl := zp_48 (m := m) (r := r) (d := d) h3
        refine zr_go (t := (68, [some (.ref 1), some (.int (nI k)), some (.int (nI c))], [.int ((nI c) - 48), .ref 1], (zw_C g gl a al))) 4 rfl ?_
        refine zr_call (t := (71, [some (.ref 1), some (.int (nI k)), some (.int (nI c))], [], (zw_C g gl a al))) rfl (Nat.le_of_ble_eq_true rfl : 1 ≤ 1) (zs_C_addsDigit g gl a al P m r d hr hJ c hc) ?_
        rintro _ _ (⟨hd, rfl, rfl⟩ | ⟨hd, rfl, rfl⟩)
        · skip
          show zm_Run zt_get 1 zt_P_accepts (71, [some (.ref 1), some (.int (nI k)), some (.int (nI c))], [.int 1], (zw_C (upd g 10 (nI (d + 1))) gl a al)) _
          exact zr_ret rfl (Or.inr rfl) ⟨g 7, g 8, g 9, nI (d + 1), rfl, Or.inr ⟨P, m, r, d + 1, by rw [hst]; unfold zp_nx; rw [if_pos hd], rfl, Or.inr ⟨Nat.succ_pos k, ⟨h7, h8, h9, rfl⟩, zp_J_dig hJ hd, hmr⟩⟩⟩
        · skip
          show zm_Run zt_get 1 zt_P_accepts (71, [some (.ref 1), some (.int (nI k)), some (.int (nI c))], [.int 0], (zw_C g gl a al)) _
          exact zr_ret rfl (Or.inl rfl) ⟨g 7, g 8, g 9, g 10, rfl, Or.inl ⟨by rw [hst]; unfold zp_nx; rw [if_neg (by rw [hd]; decide), if_neg (by rw [hsl]; decide)], rfl⟩⟩
      · skip
        subst h3
        refine zr_go (t := (57, [some (.ref 1), some (.int (nI k)), some (.int (nI 47))], [.ref 1], (zw_C g gl a al))) 1 rfl ?_
        refine zr_call (t := (60, [some (.ref 1), some (.int (nI k)), some (.int (nI 47))], [], (zw_C g gl a al))) rfl (Nat.le_of_ble_eq_true rfl : 1 ≤ 1) (zs_C_endsRow g gl a al P m r d hr hJ hmr) ?_
        rintro _ _ (⟨hd, rfl, x8, x9, x10, rfl, hr2⟩ | ⟨hd, rfl, x8, rfl⟩)
        · skip
          show zm_Run zt_get 1 zt_P_accepts (60, [some (.ref 1), some (.int (nI k)), some (.int (nI 47))], [.int 1], (zw_C (upd (upd (upd g 8 x8) 9 x9) 10 x10) gl a al)) _
          refine zr_go (t := (71, [some (.ref 1), some (.int (nI k)), some (.int (nI 47))], [.int 1], (zw_C (upd (upd (upd g 8 x8) 9 x9) 10 x10) gl a al))) 1 rfl ?_
          exact zr_ret rfl (Or.inr rfl) ⟨g 7, x8, x9, x10, rfl, Or.inr ⟨P, _, r + 1, 0, by rw [hst]; unfold zp_nx; rw [if_neg (by rw [zp_47]; decide), if_pos hd], rfl, Or.inr ⟨Nat.succ_pos k, hr2, zp_J_sla hJ hd, fun q => by omega⟩⟩⟩
        · skip
          show zm_Run zt_get 1 zt_P_accepts (60, [some (.ref 1), some (.int (nI k)), some (.int (nI 47))], [.int 0], (zw_C (upd g 8 x8) gl a al)) _
          refine zr_go (t := (71, [some (.ref 1), some (.int (nI k)), some (.int (nI 47))], [.int 0], (zw_C (upd g 8 x8) gl a al))) 1 rfl ?_
          exact zr_ret rfl (Or.inl rfl) ⟨g 7, x8, g 9, g 10, rfl, Or.inl ⟨by rw [hst]; unfold zp_nx; rw [if_neg (by rw [zp_47]; decide), if_neg (by rw [hd]; decide)], rfl⟩⟩
    · skip
      have hst : zp_step k (P, m, r, d) c = (if c = 58 then some (P, m, r, d) else none) := by unfold zp_step; rw [if_neg h1, if_pos h2]
      refine zr_go (t := (41, [some (.ref 1), some (.int (nI k)), some (.int (nI c))], [.int 58, .int (nI c)], (zw_C g gl a al))) 2 rfl ?_
      refine zr_ine (x := nI c) (y := 58) c 58 rfl rfl (by omega) (by omega) (t := (48, [some (.ref 1), some (.int (nI k)), some (.int (nI c))], [], (zw_C g gl a al))) (f := (44, [some (.ref 1), some (.int (nI k)), some (.int (nI c))], [], (zw_C g gl a al))) rfl (fun h3 => ?_) (fun h3 => ?_)
      · skip
        refine zr_go (t := (49, [some (.ref 1), some (.int (nI k)), some (.int (nI c))], [.int 0], (zw_C g gl a al))) 1 rfl ?_
        exact zr_ret rfl (Or.inl rfl) ⟨g 7, g 8, g 9, g 10, rfl, Or.inl ⟨by rw [hst, if_neg h3], rfl⟩⟩
      · skip
        refine zr_go (t := (49, [some (.ref 1), some (.int (nI k)), some (.int (nI c))], [.int 1], (zw_C g gl a al))) 2 rfl ?_
        exact zr_ret rfl (Or.inr rfl) ⟨g 7, g 8, g 9, g 10, rfl, Or.inr ⟨P, m, r, d, by rw [hst, if_pos h3], rfl, Or.inr ⟨Nat.succ_pos k, hr, hJ, hmr⟩⟩⟩
  · skip
    have hs : m = 0 ∧ r = 0 ∧ d = 0 ∧ g 9 = 0 ∧ g 10 = 0 := by rcases hs with q | q; exact q.2; omega
    obtain ⟨hm, hr, hd, h9, h10⟩ := hs
    have hst : zp_step k (P, m, r, d) c = (if c = 50 ∨ c = 51 ∨ c = 53 then some (c - 48, 0, 0, 0) else none) := by unfold zp_step; rw [if_pos h1]
    refine zr_go (t := (9, [some (.ref 1), some (.int (nI k)), some (.int (nI c))], [.int ((nI c) - 48), .ref 1], (zw_C g gl a al))) 4 rfl ?_
    refine zr_go (t := (14, [some (.ref 1), some (.int (nI k)), some (.int (nI c))], [.ref 1, .ref 1], (zw_C (upd g 7 ((nI c) - 48)) gl a al))) 3 rfl ?_
    refine zr_call (t := (17, [some (.ref 1), some (.int (nI k)), some (.int (nI c))], [.ref 1], (zw_C (upd g 7 ((nI c) - 48)) gl a al))) rfl (Nat.le_of_ble_eq_true rfl : 1 ≤ 1) (zs_C_most g gl a al c hc) ?_
    rintro _ _ ⟨rfl, rfl⟩
    show zm_Run zt_get 1 zt_P_accepts (17, [some (.ref 1), some (.int (nI k)), some (.int (nI c))], [.int (nI (zp_m0 c)), .ref 1], (zw_C (upd g 7 ((nI c) - 48)) gl a al)) _
    refine zr_go (t := (24, [some (.ref 1), some (.int (nI k)), some (.int (nI c))], [.int (nI (zp_m0 c))], (zw_C (upd (upd g 7 ((nI c) - 48)) 8 (nI (zp_m0 c))) gl a al))) 3 rfl ?_
    have hm6 : zp_m0 c ≤ 6 := by unfold zp_m0; split; omega; split; omega; split <;> omega
    refine zr_ile (x := nI (zp_m0 c)) (y := 0) (zp_m0 c) 0 rfl rfl (by omega) (by omega) (t := (31, [some (.ref 1), some (.int (nI k)), some (.int (nI c))], [], (zw_C (upd (upd g 7 ((nI c) - 48)) 8 (nI (zp_m0 c))) gl a al))) (f := (27, [some (.ref 1), some (.int (nI k)), some (.int (nI c))], [], (zw_C (upd (upd g 7 ((nI c) - 48)) 8 (nI (zp_m0 c))) gl a al))) rfl (fun h2 => ?_) (fun h2 => ?_)
    · skip
      refine zr_go (t := (32, [some (.ref 1), some (.int (nI k)), some (.int (nI c))], [.int 0], (zw_C (upd (upd g 7 ((nI c) - 48)) 8 (nI (zp_m0 c))) gl a al))) 1 rfl ?_
      exact zr_ret rfl (Or.inl rfl) ⟨nI c - 48, nI (zp_m0 c), g 9, g 10, rfl, Or.inl ⟨by rw [hst, if_neg (fun q => by rcases q with rfl | rfl | rfl <;> exact absurd h2 (by decide))], rfl⟩⟩
    · skip
      have hcc : c = 50 ∨ c = 51 ∨ c = 53 := by unfold zp_m0 at h2; split at h2; omega; split at h2; omega; split at h2 <;> omega
      have hw0 : zp_m0 c = zc_w (c - 48) 0 := by rcases hcc with rfl | rfl | rfl <;> rfl
      refine zr_go (t := (32, [some (.ref 1), some (.int (nI k)), some (.int (nI c))], [.int 1], (zw_C (upd (upd g 7 ((nI c) - 48)) 8 (nI (zp_m0 c))) gl a al))) 2 rfl ?_
      exact zr_ret rfl (Or.inr rfl) ⟨nI c - 48, nI (zp_m0 c), g 9, g 10, rfl, Or.inr ⟨c - 48, 0, 0, 0, by rw [hst, if_pos hcc], rfl, Or.inr ⟨Nat.succ_pos k, ⟨pk_sub (b := 48) (by omega), congrArg nI hw0, h9, h10⟩, ⟨by omega, Or.inl ⟨rfl, rfl, Nat.zero_le _⟩⟩, fun _ => rfl⟩⟩⟩
theorem zs_C_firstWrong (g : Nat → Int32) (gl : Nat → Int64) (a : Nat → Nat → Int32) (al : Nat → Nat → Int64) (n : Nat) (cd : Nat → Nat) (hp : zC_p g a n cd) : zm_Ev zt_get 3 23 [.ref 1] (zw_C g gl a al) (fun v w => v = some (.int (nI (zp_len cd n))) ∧ ∃ x7 x8 x9 x10, w = (zw_C (upd (upd (upd (upd g 7 x7) 8 x8) 9 x9) 10 x10) gl a al) ∧ (zp_len cd n = n → ∃ P m r d, zp_st cd n = some (P, m, r, d) ∧ zC_s (upd (upd (upd (upd g 7 x7) 8 x8) 9 x9) 10 x10) n P m r d)) := by
  obtain ⟨hn, hn28, hcd, hcd1⟩ := hp
  refine zr_ev zt_P_firstWrong rfl rfl ?_
  show zm_Run zt_get 2 zt_P_firstWrong (0, [some (.ref 1), none], [], (zw_C g gl a al)) _
  refine zr_go (t := (12, [some (.ref 1), some (.int 0)], [], (zw_C (upd (upd g 9 0) 10 0) gl a al))) 8 rfl ?_
  refine zr_loop (fun zq : Nat × Int32 × Int32 × Int32 × Int32 => (12, [some (.ref 1), some (.int (nI zq.1))], [], (zw_C (upd (upd (upd (upd g 7 zq.2.1) 8 zq.2.2.1) 9 zq.2.2.2.1) 10 zq.2.2.2.2) gl a al))) (fun zq => zq.1 ≤ n ∧ zM (fun t => (zp_st cd (t + 1)).isNone) zq.1 (n - zq.1) = zp_len cd n ∧ ∃ P m r d, zp_st cd zq.1 = some (P, m, r, d) ∧ zC_s (upd (upd (upd (upd g 7 zq.2.1) 8 zq.2.2.1) 9 zq.2.2.2.1) 10 zq.2.2.2.2) zq.1 P m r d) (fun zq => n - zq.1) ?_ (0, g 7, g 8, 0, 0) ⟨by omega, rfl, 0, 0, 0, 0, rfl, Or.inl ⟨rfl, rfl, rfl, rfl, rfl, rfl⟩⟩
  rintro ⟨k, y7, y8, y9, y10⟩ ⟨hk, hz, P, m, r, d, hst, hs⟩ ih
  try dsimp only at *
  refine zr_go (t := (17, [some (.ref 1), some (.int (nI k))], [.int (g 6), .int (nI k)], (zw_C (upd (upd (upd (upd g 7 y7) 8 y8) 9 y9) 10 y10) gl a al))) 3 rfl ?_
  refine zr_ige (x := nI k) (y := g 6) k n rfl hn (by omega) (by omega) (t := (42, [some (.ref 1), some (.int (nI k))], [], (zw_C (upd (upd (upd (upd g 7 y7) 8 y8) 9 y9) 10 y10) gl a al))) (f := (20, [some (.ref 1), some (.int (nI k))], [], (zw_C (upd (upd (upd (upd g 7 y7) 8 y8) 9 y9) 10 y10) gl a al))) rfl (fun h1 => ?_) (fun h1 => ?_)
  · skip
    have ek : k = n := by omega
    rw [show n - k = 0 by omega] at hz
    have hz : k = zp_len cd n := hz
    subst ek
    refine zr_go (t := (46, [some (.ref 1), some (.int (nI k))], [.int (g 6)], (zw_C (upd (upd (upd (upd g 7 y7) 8 y8) 9 y9) 10 y10) gl a al))) 2 rfl ?_
    rw [hn]
    exact zr_ret rfl trivial ⟨by rw [← hz], y7, y8, y9, y10, rfl, fun _ => ⟨P, m, r, d, hst, hs⟩⟩
  · skip
    have h64 : n - k = (n - (k + 1)) + 1 := by omega
    have hck := hcd1 k h1
    refine zr_go (t := (27, [some (.ref 1), some (.int (nI k))], [.int (nI k), .ref 10, .int (nI k), .ref 1], (zw_C (upd (upd (upd (upd g 7 y7) 8 y8) 9 y9) 10 y10) gl a al))) 5 rfl ?_
    refine zr_cd (t := (28, [some (.ref 1), some (.int (nI k))], [.int ((a 10) (nI k).toNatClampNeg), .int (nI k), .ref 1], (zw_C (upd (upd (upd (upd g 7 y7) 8 y8) 9 y9) 10 y10) gl a al))) rfl (pk_in k 28 (by omega) rfl (by omega)) ?_
    rw [pk_cl (x := (nI k)) k rfl (by omega)]
    rw [show (a 10) k = nI (cd k) from hcd k (by omega)]
    refine zr_call (t := (31, [some (.ref 1), some (.int (nI k))], [], (zw_C (upd (upd (upd (upd g 7 y7) 8 y8) 9 y9) 10 y10) gl a al))) rfl (Nat.le_of_ble_eq_true rfl : 2 ≤ 2) (zs_C_accepts (upd (upd (upd (upd g 7 y7) 8 y8) 9 y9) 10 y10) gl a al k P m r d (cd k) (by omega) hck.2 hs) ?_
    rintro _ _ ⟨x7, x8, x9, x10, rfl, ⟨hno, rfl⟩ | ⟨P2, m2, r2, d2, hyes, rfl, hs2⟩⟩
    · skip
      show zm_Run zt_get 2 zt_P_firstWrong (31, [some (.ref 1), some (.int (nI k))], [.int (nI 0)], (zw_C (upd (upd (upd (upd g 7 x7) 8 x8) 9 x9) 10 x10) gl a al)) _
      have hnext := zp_st_succ hst
      refine zr_ine (x := nI 0) (y := 0) 0 0 rfl rfl (by omega) (by omega) (t := (36, [some (.ref 1), some (.int (nI k))], [], (zw_C (upd (upd (upd (upd g 7 x7) 8 x8) 9 x9) 10 x10) gl a al))) (f := (34, [some (.ref 1), some (.int (nI k))], [], (zw_C (upd (upd (upd (upd g 7 x7) 8 x8) 9 x9) 10 x10) gl a al))) rfl (fun h2 => ?_) (fun h2 => ?_)
      · skip
        exact absurd rfl h2
      · skip
        have hl : k = zp_len cd n := by rw [← hz, h64, zM_here (f := (fun t => (zp_st cd (t + 1)).isNone)) (by show (zp_st cd (k + 1)).isNone = true; rw [hnext, hno]; rfl)]
        refine zr_go (t := (35, [some (.ref 1), some (.int (nI k))], [.int (nI k)], (zw_C (upd (upd (upd (upd g 7 x7) 8 x8) 9 x9) 10 x10) gl a al))) 1 rfl ?_
        exact zr_ret rfl trivial ⟨by rw [← hl], x7, x8, x9, x10, rfl, fun q => absurd (hl.trans q) (by omega)⟩
    · skip
      show zm_Run zt_get 2 zt_P_firstWrong (31, [some (.ref 1), some (.int (nI k))], [.int (nI 1)], (zw_C (upd (upd (upd (upd g 7 x7) 8 x8) 9 x9) 10 x10) gl a al)) _
      have hnext := zp_st_succ hst
      refine zr_ine (x := nI 1) (y := 0) 1 0 rfl rfl (by omega) (by omega) (t := (36, [some (.ref 1), some (.int (nI k))], [], (zw_C (upd (upd (upd (upd g 7 x7) 8 x8) 9 x9) 10 x10) gl a al))) (f := (34, [some (.ref 1), some (.int (nI k))], [], (zw_C (upd (upd (upd (upd g 7 x7) 8 x8) 9 x9) 10 x10) gl a al))) rfl (fun h2 => ?_) (fun h2 => ?_)
      · skip
        refine zr_go (t := (12, [some (.ref 1), some (.int ((nI k) + 1))], [], (zw_C (upd (upd (upd (upd g 7 x7) 8 x8) 9 x9) 10 x10) gl a al))) 2 rfl ?_
        rw [show (nI k) + 1 = nI (k + 1) from (zn_add rfl rfl)]
        exact ih (k + 1, x7, x8, x9, x10) ⟨by omega, by rw [← hz, h64, zM_none (f := (fun t => (zp_st cd (t + 1)).isNone)) (by show (zp_st cd (k + 1)).isNone = false; rw [hnext, hyes]; rfl)], P2, m2, r2, d2, hnext.trans hyes, hs2⟩ (by omega)
      · skip
        exact absurd h2 (by decide)
theorem zs_C_fault (g : Nat → Int32) (gl : Nat → Int64) (a : Nat → Nat → Int32) (al : Nat → Nat → Int64) (n : Nat) (cd : Nat → Nat) (hp : zC_p g a n cd) : zm_Ev zt_get 4 58 [.ref 0] (zw_C g gl a al) (fun v w => v = some (.int (nI (zp_len cd n))) ∧ ∃ x7 x8 x9 x10, w = (zw_C (upd (upd (upd (upd g 7 x7) 8 x8) 9 x9) 10 x10) gl a al)) := by
  refine zr_ev zt_X_fault rfl rfl ?_
  show zm_Run zt_get 3 zt_X_fault (0, [some (.ref 0)], [], (zw_C g gl a al)) _
  refine zr_go (t := (4, [some (.ref 0)], [.ref 1], (zw_C g gl a al))) 2 rfl ?_
  refine zr_call (t := (7, [some (.ref 0)], [], (zw_C g gl a al))) rfl (Nat.le_of_ble_eq_true rfl : 3 ≤ 3) (zs_C_firstWrong g gl a al n cd hp) ?_
  rintro _ _ ⟨rfl, x7, x8, x9, x10, rfl, -⟩
  show zm_Run zt_get 3 zt_X_fault (7, [some (.ref 0)], [.int (nI (zp_len cd n))], (zw_C (upd (upd (upd (upd g 7 x7) 8 x8) 9 x9) 10 x10) gl a al)) _
  exact zr_ret rfl trivial ⟨rfl, x7, x8, x9, x10, rfl⟩
