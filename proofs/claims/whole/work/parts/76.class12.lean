/-! the class: its state (written by wip/whole/gen_c12.py) -/
def zK_l (a : Nat → Nat → Int32) (P N : Nat) (c : Nat → Nat) (n0 : Nat) (e0 : Nat → Nat) (n1 : Nat) (e1 : Nat → Nat) : Prop := n0 < 64 ∧ n1 < 64 ∧ (∀ k, k < n0 → a 26 k = nI (e0 k) ∧ e0 k < zw_on P N c) ∧ ∀ k, k < n1 → a 29 k = nI (e1 k) ∧ e1 k < zj_gm P N c
def zK_q (g : Nat → Int32) (a : Nat → Nat → Int32) (P N : Nat) (c : Nat → Nat) : Prop := zv_ok P N ∧ g 11 = nI P ∧ (∀ k l, k < N → l < N → zx_S c k l < P) ∧ zQ_P g a P N
/-- the class holds this form (none: P is 0), surveyed or not, built or not, and these lists -/
def zK_1 (g : Nat → Int32) (a : Nat → Nat → Int32) (al : Nat → Nat → Int64) (P N : Nat) (c : Nat → Nat) (sv bt : Bool) (n0 : Nat) (e0 : Nat → Nat) (n1 : Nat) (e1 : Nat → Nat) : Prop := zC_m (a 11) 6 c ∧ (∀ k, k < 36 → c k ≤ 4) ∧ g 4 = nI sv.toNat ∧ g 5 = nI bt.toNat ∧ g 24 = nI n0 ∧ g 26 = nI n1 ∧ g 12 = nI N ∧ ((P = 0 ∧ N = 0 ∧ sv = false ∧ bt = false ∧ n0 = 0 ∧ n1 = 0 ∧ g 11 = 2 ∧ g 15 = 2 ∧ g 16 = 0) ∨ (zK_q g a P N c ∧ (sv = true → zQ_v g a P N c) ∧ (bt = true → sv = true ∧ zj_ns P N c = 0 ∧ zK_t g al P N c ∧ zK_s g al P N c ∧ zK_l a P N c n0 e0 n1 e1) ∧ (bt = false → n0 = 0 ∧ n1 = 0)))
/-- what else the class holds is as it was -/
def zK_e (g : Nat → Int32) (a : Nat → Nat → Int32) (g' : Nat → Int32) (a' : Nat → Nat → Int32) : Prop := (∀ k, k < 4 ∨ (5 < k ∧ k < 15) → g' k = g k) ∧ ∀ k, k < 15 → a' k = a k
def zj_ok (P N : Nat) (c : Nat → Nat) : Bool := decide (0 < P) && decide (zj_ns P N c = 0)
theorem zK_e_rfl {g : Nat → Int32} {a : Nat → Nat → Int32} : zK_e g a g a := ⟨fun _ _ => rfl, fun _ _ => rfl⟩
theorem zK_e_tr {g : Nat → Int32} {a : Nat → Nat → Int32} {g1 : Nat → Int32} {a1 : Nat → Nat → Int32} {g2 : Nat → Int32} {a2 : Nat → Nat → Int32} (h : zK_e g a g1 a1) (k : zK_e g1 a1 g2 a2) : zK_e g a g2 a2 := ⟨fun i hi => (k.1 i hi).trans (h.1 i hi), fun i hi => (k.2 i hi).trans (h.2 i hi)⟩
theorem zK_eu {g g1 : Nat → Int32} {a a1 : Nat → Nat → Int32} {k : Nat} {x : Int32} (h : zK_e g a g1 a1) (hk : ¬ (k < 4 ∨ (5 < k ∧ k < 15))) : zK_e g a (upd g1 k x) a1 := ⟨fun i hi => (pk_un (fun e : i = k => hk (by rw [← e]; exact hi))).trans (h.1 i hi), h.2⟩
theorem zK_ea {g g1 : Nat → Int32} {a a1 : Nat → Nat → Int32} {k : Nat} {f : Nat → Int32} (h : zK_e g a g1 a1) (hk : ¬ k < 15) : zK_e g a g1 (va_up a1 k f) := ⟨h.1, fun i hi => (if_neg (fun e : i = k => hk (by rw [← e]; exact hi)) : va_up a1 k f i = a1 i).trans (h.2 i hi)⟩
theorem zv_Pn {P N : Nat} (h : zv_ok P N) : 0 < P := (zv_P5 h.1).1
theorem zb_1n (b : Bool) (h : b.toNat ≠ 0) : b = true := by cases b <;> first | rfl | exact absurd rfl h
theorem zb_0n (b : Bool) (h : b.toNat = 0) : b = false := by cases b <;> first | rfl | cases h
theorem zs_C_hasForm (g : Nat → Int32) (gl : Nat → Int64) (a : Nat → Nat → Int32) (al : Nat → Nat → Int64) (P N : Nat) (c : Nat → Nat) (sv bt : Bool) (n0 : Nat) (e0 : Nat → Nat) (n1 : Nat) (e1 : Nat → Nat) (hK : zK_1 g a al P N c sv bt n0 e0 n1 e1) : zm_Ev zt_get 4 90 [.ref 0] (zw_C g gl a al) (fun v w => v = some (.int (nI (decide (0 < P)).toNat)) ∧ ∃ g' a', w = (zw_C g' gl a' al) ∧ zK_1 g' a' al P N c (decide (0 < P)) bt n0 e0 n1 e1 ∧ zK_e g a g' a') := by
  obtain ⟨hm, hc4, h4, h5, h24, h26, h12, hcase⟩ := id hK
  refine zr_ev zt_X_hasForm rfl rfl ?_
  show zm_Run zt_get 3 zt_X_hasForm (0, [some (.ref 0)], [], (zw_C g gl a al)) _
  rcases hcase with ⟨rfl, rfl, rfl, rfl, rfl, rfl, h11, h15, h16⟩ | ⟨⟨hok, h11, hcP, hQ⟩, hsv, hbt, hnb⟩
  · skip
    refine zr_go (t := (7, [some (.ref 0)], [.int (g 12)], (zw_C g gl a al))) 3 rfl ?_
    refine zr_ine (x := g 12) (y := 0) 0 0 h12 rfl (by omega) (by omega) (t := (12, [some (.ref 0)], [], (zw_C g gl a al))) (f := (10, [some (.ref 0)], [], (zw_C g gl a al))) rfl (fun h1 => ?_) (fun h1 => ?_)
    · skip
      exact absurd rfl h1
    · skip
      refine zr_go (t := (11, [some (.ref 0)], [.int 0], (zw_C g gl a al))) 1 rfl ?_
      exact zr_ret rfl (Or.inl rfl) ⟨rfl, g, a, rfl, hK, zK_e_rfl⟩
  · skip
    have hP0 := zv_Pn hok
    have hN6 := zv_okN hok
    have hN3 := hok.2.1
    have hsb := zb_le sv
    have hd : decide (0 < P) = true := decide_eq_true hP0
    rw [hd]
    refine zr_go (t := (7, [some (.ref 0)], [.int (g 12)], (zw_C g gl a al))) 3 rfl ?_
    refine zr_ine (x := g 12) (y := 0) N 0 h12 rfl (by omega) (by omega) (t := (12, [some (.ref 0)], [], (zw_C g gl a al))) (f := (10, [some (.ref 0)], [], (zw_C g gl a al))) rfl (fun h1 => ?_) (fun h1 => ?_)
    · skip
      refine zr_go (t := (16, [some (.ref 0)], [.int (g 4)], (zw_C g gl a al))) 2 rfl ?_
      refine zr_ine (x := g 4) (y := 0) sv.toNat 0 h4 rfl (by omega) (by omega) (t := (35, [some (.ref 0)], [], (zw_C g gl a al))) (f := (19, [some (.ref 0)], [], (zw_C g gl a al))) rfl (fun h2 => ?_) (fun h2 => ?_)
      · skip
        have es := zb_1n sv h2
        subst es
        refine zr_go (t := (36, [some (.ref 0)], [.int 1], (zw_C g gl a al))) 1 rfl ?_
        exact zr_ret rfl (Or.inr rfl) ⟨rfl, g, a, rfl, hK, zK_e_rfl⟩
      · skip
        refine zr_go (t := (27, [some (.ref 0)], [.ref 2, .ref 4], (zw_C g gl a al))) 4 rfl ?_
        refine zr_call (t := (30, [some (.ref 0)], [], (zw_C g gl a al))) rfl (Nat.le_of_ble_eq_true rfl : 3 ≤ 3) (zs_C_survey g gl a al P N hQ c hm hc4) ?_
        rintro _ _ ⟨rfl, x18, x19, f16, f17, f18, f19, rfl, hv⟩
        show zm_Run zt_get 3 zt_X_hasForm (30, [some (.ref 0)], [], (zw_C (upd (upd g 18 x18) 19 x19) gl (va_up (va_up (va_up (va_up a 16 f16) 17 f17) 18 f18) 19 f19) al)) _
        refine zr_go (t := (32, [some (.ref 0)], [.int 1, .ref 0], (zw_C (upd (upd g 18 x18) 19 x19) gl (va_up (va_up (va_up (va_up a 16 f16) 17 f17) 18 f18) 19 f19) al))) 2 rfl ?_
        refine zr_cd (t := (35, [some (.ref 0)], [], (zw_C (upd (upd (upd g 4 1) 18 x18) 19 x19) gl (va_up (va_up (va_up (va_up a 16 f16) 17 f17) 18 f18) 19 f19) al))) rfl (Or.inr rfl) ?_
        refine zr_go (t := (36, [some (.ref 0)], [.int 1], (zw_C (upd (upd (upd g 4 1) 18 x18) 19 x19) gl (va_up (va_up (va_up (va_up a 16 f16) 17 f17) 18 f18) 19 f19) al))) 1 rfl ?_
        have es := zb_0n sv h2
        subst es
        have hb : bt = false := by
          cases hbb : bt with
          | false => rfl
          | true => exact absurd (hbt hbb).1 (by decide)
        subst hb
        exact zr_ret rfl (Or.inr rfl) ⟨rfl, _, _, rfl, ⟨hm, hc4, rfl, h5, h24, h26, h12, Or.inr ⟨⟨hok, h11, hcP, hQ⟩, fun _ => hv, fun q => absurd q (by decide), hnb⟩⟩, zK_ea (zK_ea (zK_ea (zK_ea (zK_eu (zK_eu (zK_eu zK_e_rfl (by decide)) (by decide)) (by decide)) (by decide)) (by decide)) (by decide)) (by decide)⟩
    · skip
      exfalso; omega
theorem zs_C_hasFlats (g : Nat → Int32) (gl : Nat → Int64) (a : Nat → Nat → Int32) (al : Nat → Nat → Int64) (hJ : zJ) (P N : Nat) (c : Nat → Nat) (sv bt : Bool) (n0 : Nat) (e0 : Nat → Nat) (n1 : Nat) (e1 : Nat → Nat) (hK : zK_1 g a al P N c sv bt n0 e0 n1 e1) : zm_Ev zt_get 5 91 [.ref 0] (zw_C g gl a al) (fun v w => v = some (.int (nI (zj_ok P N c).toNat)) ∧ ∃ g' a' al', w = (zw_C g' gl a' al') ∧ zK_1 g' a' al' P N c (decide (0 < P)) (zj_ok P N c) n0 e0 n1 e1 ∧ zK_e g a g' a') := by
  refine zr_ev zt_X_hasFlats rfl rfl ?_
  show zm_Run zt_get 4 zt_X_hasFlats (0, [some (.ref 0)], [], (zw_C g gl a al)) _
  refine zr_go (t := (1, [some (.ref 0)], [.ref 0], (zw_C g gl a al))) 1 rfl ?_
  refine zr_call (t := (4, [some (.ref 0)], [], (zw_C g gl a al))) rfl (Nat.le_of_ble_eq_true rfl : 4 ≤ 4) (zs_C_hasForm g gl a al P N c sv bt n0 e0 n1 e1 hK) ?_
  rintro _ _ ⟨rfl, g1, a1, rfl, hK1, he1⟩
  obtain ⟨hm, hc4, h4, h5, h24, h26, h12, hcase⟩ := id hK1
  show zm_Run zt_get 4 zt_X_hasFlats (4, [some (.ref 0)], [.int (nI ((decide (0 < P)).toNat))], (zw_C g1 gl a1 al)) _
  have hdb := zb_le (decide (0 < P))
  refine zr_ieq (x := nI ((decide (0 < P)).toNat)) (y := 0) ((decide (0 < P)).toNat) 0 rfl rfl (by omega) (by omega) (t := (17, [some (.ref 0)], [], (zw_C g1 gl a1 al))) (f := (7, [some (.ref 0)], [], (zw_C g1 gl a1 al))) rfl (fun h1 => ?_) (fun h1 => ?_)
  · skip
    have hd := zb_0n _ h1
    have hj : zj_ok P N c = false := by unfold zj_ok; rw [hd]; rfl
    rw [hd] at hK1 hcase h4
    have hP : P = 0 := by have := of_decide_eq_false hd; omega
    have hb : bt = false := by
      rcases hcase with ⟨_, _, _, hb, _⟩ | ⟨⟨hok, _⟩, _⟩
      · exact hb
      · have := zv_Pn hok; omega
    subst hb
    refine zr_go (t := (18, [some (.ref 0)], [.int 0], (zw_C g1 gl a1 al))) 1 rfl ?_
    exact zr_ret rfl (Or.inl rfl) ⟨by rw [hj]; rfl, g1, a1, al, rfl, by rw [hd, hj]; exact hK1, he1⟩
  · skip
    have hd := zb_1n _ h1
    rw [hd] at hK1 hcase h4
    rcases hcase with ⟨_, _, q, _⟩ | ⟨⟨hok, h11, hcP, hQ⟩, hsv, hbt, hnb⟩
    · skip
      cases q
    · skip
      have hv := hsv rfl
      have h19 : g1 19 = nI (zj_ns P N c) := hv.2.1
      have hnum := (zj_nums (c := c) hok).2
      have hbb := zb_le bt
      refine zr_go (t := (14, [some (.ref 0)], [.int (g1 19)], (zw_C g1 gl a1 al))) 3 rfl ?_
      refine zr_ile (x := g1 19) (y := 0) (zj_ns P N c) 0 h19 rfl (by omega) (by omega) (t := (19, [some (.ref 0)], [], (zw_C g1 gl a1 al))) (f := (17, [some (.ref 0)], [], (zw_C g1 gl a1 al))) rfl (fun h2 => ?_) (fun h2 => ?_)
      · skip
        have hns : zj_ns P N c = 0 := by omega
        have hj : zj_ok P N c = true := by unfold zj_ok; rw [hd, decide_eq_true hns]; rfl
        rw [hd, hj]
        refine zr_go (t := (23, [some (.ref 0)], [.int (g1 5)], (zw_C g1 gl a1 al))) 2 rfl ?_
        refine zr_ine (x := g1 5) (y := 0) bt.toNat 0 h5 rfl (by omega) (by omega) (t := (46, [some (.ref 0)], [], (zw_C g1 gl a1 al))) (f := (26, [some (.ref 0)], [], (zw_C g1 gl a1 al))) rfl (fun h3 => ?_) (fun h3 => ?_)
        · skip
          have eb := zb_1n bt h3
          subst eb
          refine zr_go (t := (47, [some (.ref 0)], [.int 1], (zw_C g1 gl a1 al))) 1 rfl ?_
          exact zr_ret rfl (Or.inr rfl) ⟨rfl, g1, a1, al, rfl, hK1, he1⟩
        · skip
          have eb := zb_0n bt h3
          subst eb
          obtain ⟨hn0, hn1⟩ := hnb rfl
          subst hn0 hn1
          obtain ⟨hn45, hnl105, hnp30, hgm⟩ := hJ P N c hok hns
          refine zr_go (t := (34, [some (.ref 0)], [.ref 4, .ref 5], (zw_C g1 gl a1 al))) 4 rfl ?_
          refine zr_call (t := (37, [some (.ref 0)], [], (zw_C g1 gl a1 al))) rfl (Nat.le_of_ble_eq_true rfl : 4 ≤ 4) (zs_C_build g1 gl a1 al P N hQ c hv (by omega) hnl105 hnp30) ?_
          rintro _ _ ⟨rfl, F21, F22, F23, rfl, hF21, hF22, hF23⟩
          show zm_Run zt_get 4 zt_X_hasFlats (37, [some (.ref 0)], [], (zw_C (upd (upd (upd g1 20 (nI (zw_on P N c))) 21 (nI (zf_nl (zf_L P N c) (zw_on P N c)))) 22 (nI (zf_np (zf_L P N c) (zw_on P N c)))) gl a1 (va_up (va_up (va_up al 21 F21) 22 F22) 23 F23))) _
          refine zr_go (t := (38, [some (.ref 0)], [.ref 0], (zw_C (upd (upd (upd g1 20 (nI (zw_on P N c))) 21 (nI (zf_nl (zf_L P N c) (zw_on P N c)))) 22 (nI (zf_np (zf_L P N c) (zw_on P N c)))) gl a1 (va_up (va_up (va_up al 21 F21) 22 F22) 23 F23)))) 1 rfl ?_
          have ht : zK_t (upd (upd (upd g1 20 (nI (zw_on P N c))) 21 (nI (zf_nl (zf_L P N c) (zw_on P N c)))) 22 (nI (zf_np (zf_L P N c) (zw_on P N c)))) (va_up (va_up (va_up al 21 F21) 22 F22) 23 F23) P N c := ⟨rfl, rfl, rfl, hF21, hF22, hF23⟩
          refine zr_call (t := (41, [some (.ref 0)], [], (zw_C (upd (upd (upd g1 20 (nI (zw_on P N c))) 21 (nI (zf_nl (zf_L P N c) (zw_on P N c)))) 22 (nI (zf_np (zf_L P N c) (zw_on P N c)))) gl a1 (va_up (va_up (va_up al 21 F21) 22 F22) 23 F23)))) rfl (Nat.le_of_ble_eq_true rfl : 3 ≤ 4) (zs_C_fillSides (upd (upd (upd g1 20 (nI (zw_on P N c))) 21 (nI (zf_nl (zf_L P N c) (zw_on P N c)))) 22 (nI (zf_np (zf_L P N c) (zw_on P N c)))) gl a1 (va_up (va_up (va_up al 21 F21) 22 F22) 23 F23) P N hQ c hv hns hJ ht) ?_
          rintro _ _ ⟨rfl, x23, x25, F24, F25, F27, F28, rfl, hs⟩
          show zm_Run zt_get 4 zt_X_hasFlats (41, [some (.ref 0)], [], (zw_C (upd (upd (upd (upd (upd g1 20 (nI (zw_on P N c))) 21 (nI (zf_nl (zf_L P N c) (zw_on P N c)))) 22 (nI (zf_np (zf_L P N c) (zw_on P N c)))) 23 x23) 25 x25) gl a1 (va_up (va_up (va_up (va_up (va_up (va_up (va_up al 21 F21) 22 F22) 23 F23) 24 F24) 25 F25) 27 F27) 28 F28))) _
          refine zr_go (t := (43, [some (.ref 0)], [.int 1, .ref 0], (zw_C (upd (upd (upd (upd (upd g1 20 (nI (zw_on P N c))) 21 (nI (zf_nl (zf_L P N c) (zw_on P N c)))) 22 (nI (zf_np (zf_L P N c) (zw_on P N c)))) 23 x23) 25 x25) gl a1 (va_up (va_up (va_up (va_up (va_up (va_up (va_up al 21 F21) 22 F22) 23 F23) 24 F24) 25 F25) 27 F27) 28 F28)))) 2 rfl ?_
          refine zr_cd (t := (46, [some (.ref 0)], [], (zw_C (upd (upd (upd (upd (upd (upd g1 5 1) 20 (nI (zw_on P N c))) 21 (nI (zf_nl (zf_L P N c) (zw_on P N c)))) 22 (nI (zf_np (zf_L P N c) (zw_on P N c)))) 23 x23) 25 x25) gl a1 (va_up (va_up (va_up (va_up (va_up (va_up (va_up al 21 F21) 22 F22) 23 F23) 24 F24) 25 F25) 27 F27) 28 F28)))) rfl (Or.inr rfl) ?_
          refine zr_go (t := (47, [some (.ref 0)], [.int 1], (zw_C (upd (upd (upd (upd (upd (upd g1 5 1) 20 (nI (zw_on P N c))) 21 (nI (zf_nl (zf_L P N c) (zw_on P N c)))) 22 (nI (zf_np (zf_L P N c) (zw_on P N c)))) 23 x23) 25 x25) gl a1 (va_up (va_up (va_up (va_up (va_up (va_up (va_up al 21 F21) 22 F22) 23 F23) 24 F24) 25 F25) 27 F27) 28 F28)))) 1 rfl ?_
          exact zr_ret rfl (Or.inr rfl) ⟨rfl, _, _, _, rfl, ⟨hm, hc4, h4, rfl, h24, h26, h12, Or.inr ⟨⟨hok, h11, hcP, hQ⟩, fun _ => hv, fun _ => ⟨rfl, hns, ht, hs, by decide, by decide, fun k h => absurd h (Nat.not_lt_zero k), fun k h => absurd h (Nat.not_lt_zero k)⟩, fun q => absurd q (by decide)⟩⟩, zK_eu (zK_eu (zK_eu (zK_eu (zK_eu (zK_eu he1 (by decide)) (by decide)) (by decide)) (by decide)) (by decide)) (by decide)⟩
      · skip
        have hns : ¬ zj_ns P N c = 0 := by omega
        have hj : zj_ok P N c = false := by unfold zj_ok; rw [decide_eq_false hns, Bool.and_false]
        rw [hd, hj]
        have hb : bt = false := by
          cases hbb : bt with
          | false => rfl
          | true => exact absurd (hbt hbb).2.1 hns
        subst hb
        refine zr_go (t := (18, [some (.ref 0)], [.int 0], (zw_C g1 gl a1 al))) 1 rfl ?_
        exact zr_ret rfl (Or.inl rfl) ⟨rfl, g1, a1, al, rfl, hK1, he1⟩
