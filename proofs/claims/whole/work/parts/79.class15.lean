/-! the class: form, flats .. left (written by wip/whole/gen_c15.py) -/
theorem zp_cP {cd : Nat → Nat} {n P N i j : Nat} (h : zp_text cd n P N) (hij : i ≤ j) (hj : j < N) (c0 : Nat → Nat) : zp_c cd N c0 (6 * i + j) < P := by
  obtain ⟨hok, -, -, hd⟩ := zp_text_one h
  have hN := zv_okN hok
  have := hd i j hij hj
  unfold zp_c
  rw [if_pos (by omega), show (6 * i + j) / 6 = i by omega, show (6 * i + j) % 6 = j by omega]
  omega
theorem zp_cS {cd : Nat → Nat} {n P N : Nat} {c : Nat → Nat} (h : zp_text cd n P N) (c0 : Nat → Nat) (hc : ∀ i j, i ≤ j → j < N → c (6 * i + j) = zp_c cd N c0 (6 * i + j)) : ∀ k l, k < N → l < N → zx_S c k l < P := by
  intro k l hk hl
  unfold zx_S zq_pl
  split
  · rw [hc k l (by omega) hl]; exact zp_cP h (by omega) hl c0
  · rw [hc l k (by omega) hk]; exact zp_cP h (by omega) hk c0
theorem zK_1_q {g : Nat → Int32} {a : Nat → Nat → Int32} {al : Nat → Nat → Int64} {P N : Nat} {c : Nat → Nat} {sv bt : Bool} {n0 : Nat} {e0 : Nat → Nat} {n1 : Nat} {e1 : Nat → Nat} (h : zK_1 g a al P N c sv bt n0 e0 n1 e1) : ∃ P0 N0, g 15 = nI P0 ∧ g 16 = nI N0 ∧ P0 ≤ 5 ∧ N0 ≤ 6 ∧ ∀ P' N', zv_ok P' N' → P0 = P' → N0 = N' → zQ_P g a P' N' := by
  obtain ⟨-, -, -, -, -, -, -, ⟨-, -, -, -, -, -, -, h15, h16⟩ | ⟨⟨hok, -, -, hQ⟩, -⟩⟩ := h
  · exact ⟨2, 0, h15, h16, by decide, by decide, fun P' N' q _ q2 => by have := q.2.1; omega⟩
  · exact ⟨P, N, hQ.2.1, hQ.2.2.1, (zv_P5 hok.1).2, zv_okN hok, fun P' N' _ q1 q2 => by subst q1 q2; exact hQ⟩
theorem zx_13l {x : Int32} (h : x < 1) : zx_13 x = false := by
  rw [Int32.lt_iff_toInt_lt, show (1 : Int32).toInt = 1 from rfl] at h
  exact decide_eq_false (fun q => by omega)
theorem zx_13g {x : Int32} (h : ¬ x ≤ 3) : zx_13 x = false := by
  rw [Int32.le_iff_toInt_le, show (3 : Int32).toInt = 3 from rfl] at h
  exact decide_eq_false (fun q => by omega)
theorem zx_13t {x : Int32} (h1 : ¬ x < 1) (h : x ≤ 3) : zx_13 x = true := by
  rw [Int32.lt_iff_toInt_lt, show (1 : Int32).toInt = 1 from rfl] at h1
  rw [Int32.le_iff_toInt_le, show (3 : Int32).toInt = 3 from rfl] at h
  exact decide_eq_true (by omega)
/-- the masks of flats are sets of members -/
def zJ2 : Prop := ∀ (P N : Nat) (c : Nat → Nat), zv_ok P N → zj_ns P N c = 0 → ∀ d k, 1 ≤ d → d ≤ 3 → k < zf_tot (zf_L P N c) (zw_on P N c) d → ∀ j, lb (zf_mk (zf_L P N c) (zw_on P N c) d k) j = true → j < zw_on P N c
def zj_tot (P N : Nat) (c : Nat → Nat) (d : Nat) : Nat := zf_tot (zf_L P N c) (zw_on P N c) d
def zj_mk (P N : Nat) (c : Nat → Nat) (d k : Nat) : Int64 := zf_mk (zf_L P N c) (zw_on P N c) d k
def zj_x (P N : Nat) (c : Nat → Nat) (r : Nat) : Nat := zX (zw_oo P N c) (zv_np P N) r
def ac_flats (P N : Nat) (c : Nat → Nat) (x : Int32) : Int32 := if zx_13 x = true then (if zj_ok P N c = true then nI (zj_tot P N c (zx_k x)) else -103) else -102
def ac_flat (P N : Nat) (c : Nat → Nat) (x y z : Int32) : Int32 := if zx_13 x = true then (if zj_ok P N c = true then (if zx_in y (zj_tot P N c (zx_k x)) = true ∧ zx_in z (zC (lb (zj_mk P N c (zx_k x) (zx_k y))) 64) = true then nI (zj_x P N c (zX (lb (zj_mk P N c (zx_k x) (zx_k y))) 64 (zx_k z))) else -101) else -103) else -102
theorem zj_okP {P N : Nat} {c : Nat → Nat} (h : zj_ok P N c = true) : 0 < P ∧ zj_ns P N c = 0 := by
  unfold zj_ok at h
  rw [Bool.and_eq_true] at h
  exact ⟨of_decide_eq_true h.1, of_decide_eq_true h.2⟩
theorem zK_tt {g : Nat → Int32} {al : Nat → Nat → Int64} {P N : Nat} {c : Nat → Nat} (h : zK_t g al P N c) (d : Nat) : (if d = 1 then g 20 else if d = 2 then g 21 else g 22) = nI (zj_tot P N c d) := by
  rw [h.1, h.2.1, h.2.2.1, zn_if3]; rfl
theorem zK_tm {g : Nat → Int32} {al : Nat → Nat → Int64} {P N : Nat} {c : Nat → Nat} (h : zK_t g al P N c) {d : Nat} (h1 : 1 ≤ d) (h3 : d ≤ 3) {k : Nat} (hk : k < zj_tot P N c d) : (if d = 1 then zf_b k else if d = 2 then al 22 k else al 23 k) = zj_mk P N c d k := by
  obtain ⟨-, -, -, -, hl, hp⟩ := h
  unfold zj_tot zf_tot at hk
  unfold zj_mk zf_mk
  by_cases q : d = 1
  · rw [if_pos q, if_pos q]
  · rw [if_neg q] at hk ⊢
    rw [if_neg q]
    by_cases q2 : d = 2
    · rw [if_pos q2] at hk ⊢
      rw [if_pos q2, hl k hk]
    · rw [if_neg q2] at hk ⊢
      rw [if_neg q2, hp k hk]
theorem zJ_tot {P N : Nat} {c : Nat → Nat} (hJ : zJ) (hok : zv_ok P N) (hns : zj_ns P N c = 0) {d : Nat} (h1 : 1 ≤ d) (h3 : d ≤ 3) : zj_tot P N c d ≤ 105 ∧ (d = 3 → zj_tot P N c d ≤ 30) := by
  obtain ⟨a1, a2, a3, -⟩ := hJ P N c hok hns
  unfold zj_tot zf_tot
  constructor
  · split
    · omega
    · split <;> omega
  · intro q
    rw [if_neg (by omega), if_neg (by omega)]; exact a3
theorem zp_C_form (w0 : List zm_E) (P N : Nat) (c : Nat → Nat) (n0 : Nat) (e0 : Nat → Nat) (n1 : Nat) (e1 : Nat → Nat) (n : Nat) (cd : Nat → Nat) (K M : Nat) (e : Nat → Nat) (fr fi wa : Nat) (hw : zKW w0 P N c n0 e0 n1 e1 n cd K M e fr fi wa) : zm_Ev zt_get 5 59 [.ref 0] w0 (fun v w => ((¬ ∃ P' N', zp_text cd n P' N') ∧ v = some (.int (-103)) ∧ zKW w P N c n0 e0 n1 e1 n cd K M e fr fi wa) ∨ ∃ P' N' c', zp_text cd n P' N' ∧ v = some (.int (nI (zv_np P' N'))) ∧ (∀ i j, i ≤ j → j < N' → c' (6 * i + j) = zp_c cd N' (fun _ => 0) (6 * i + j)) ∧ zKW w P' N' c' 0 e0 0 e1 0 cd K M e (fr + 1) fi wa) := by
  obtain ⟨g, gl, a, al, sv, bt, rfl, hK, hr⟩ := hw
  obtain ⟨hm, hc4, -⟩ := id hK
  obtain ⟨hp, hri, hfr, hr2⟩ := id hr
  obtain ⟨P0, N0, h15, h16, hP05, hN06, hold⟩ := zK_1_q hK
  refine zr_ev zt_X_form rfl rfl ?_
  show zm_Run zt_get 4 zt_X_form (0, [some (.ref 0)], [], (zw_C g gl a al)) _
  refine zr_go (t := (4, [some (.ref 0)], [.ref 1], (zw_C g gl a al))) 2 rfl ?_
  refine zr_call (t := (7, [some (.ref 0)], [], (zw_C g gl a al))) rfl (Nat.le_of_ble_eq_true rfl : 4 ≤ 4) (zs_C_isText g gl a al n cd hp) ?_
  rintro _ _ ⟨x7, x8, x9, x10, rfl, (⟨P2, N2, htx, rfl, rfl, rfl⟩ | ⟨hno, rfl⟩)⟩
  · skip
    show zm_Run zt_get 4 zt_X_form (7, [some (.ref 0)], [.int (nI 1)], (zw_C (upd (upd (upd (upd g 7 (nI P2)) 8 (nI N2)) 9 x9) 10 x10) gl a al)) _
    obtain ⟨hok, -, -, -⟩ := zp_text_one htx
    refine zr_ine (x := nI 1) (y := 0) 1 0 rfl rfl (by omega) (by omega) (t := (13, [some (.ref 0)], [], (zw_C (upd (upd (upd (upd g 7 (nI P2)) 8 (nI N2)) 9 x9) 10 x10) gl a al))) (f := (10, [some (.ref 0)], [], (zw_C (upd (upd (upd (upd g 7 (nI P2)) 8 (nI N2)) 9 x9) 10 x10) gl a al))) rfl (fun h1 => ?_) (fun h1 => ?_)
    · skip
      refine zr_go (t := (21, [some (.ref 0)], [.ref 2, .ref 1], (zw_C (upd (upd (upd (upd g 7 (nI P2)) 8 (nI N2)) 9 x9) 10 x10) gl a al))) 4 rfl ?_
      refine zr_call (t := (24, [some (.ref 0)], [], (zw_C (upd (upd (upd (upd g 7 (nI P2)) 8 (nI N2)) 9 x9) 10 x10) gl a al))) rfl (Nat.le_of_ble_eq_true rfl : 3 ≤ 4) (zs_C_copyTo (upd (upd (upd (upd g 7 (nI P2)) 8 (nI N2)) 9 x9) 10 x10) gl a al n cd hp P2 N2 htx rfl rfl (fun _ => 0) c hm hc4) ?_
      rintro _ _ ⟨rfl, f11, c2, rfl, hm2, hc24, hc2⟩
      show zm_Run zt_get 4 zt_X_form (24, [some (.ref 0)], [], (zw_C (upd (upd (upd (upd (upd (upd g 7 (nI P2)) 8 (nI N2)) 9 x9) 10 x10) 11 (nI P2)) 12 (nI N2)) gl (va_up a 11 f11) al)) _
      refine zr_go (t := (50, [some (.ref 0)], [.ref 2, .ref 4], (zw_C (upd (upd (upd (upd (upd (upd (upd (upd g 1 ((g 1) + 1)) 6 0) 7 (nI P2)) 8 (nI N2)) 9 x9) 10 x10) 11 (nI P2)) 12 (nI N2)) gl (va_up a 11 f11) al))) 14 rfl ?_
      rw [show (g 1) + 1 = nI (fr + 1) from (zn_add hfr rfl)]
      refine zr_call (t := (53, [some (.ref 0)], [], (zw_C (upd (upd (upd (upd (upd (upd (upd (upd g 1 (nI (fr + 1))) 6 0) 7 (nI P2)) 8 (nI N2)) 9 x9) 10 x10) 11 (nI P2)) 12 (nI N2)) gl (va_up a 11 f11) al))) rfl (Nat.le_of_ble_eq_true rfl : 3 ≤ 4) (zs_C_layPoints (upd (upd (upd (upd (upd (upd (upd (upd g 1 (nI (fr + 1))) 6 0) 7 (nI P2)) 8 (nI N2)) 9 x9) 10 x10) 11 (nI P2)) 12 (nI N2)) gl (va_up a 11 f11) al P2 N2 P0 N0 hok rfl rfl h15 h16 hP05 hN06 (fun q1 q2 => hold P2 N2 hok q1 q2)) ?_
      rintro _ _ ⟨rfl, x15, x16, x17, f15, rfl, hQ2⟩
      show zm_Run zt_get 4 zt_X_form (53, [some (.ref 0)], [], (zw_C (upd (upd (upd (upd (upd (upd (upd (upd (upd (upd (upd g 1 (nI (fr + 1))) 6 0) 7 (nI P2)) 8 (nI N2)) 9 x9) 10 x10) 11 (nI P2)) 12 (nI N2)) 15 x15) 16 x16) 17 x17) gl (va_up (va_up a 11 f11) 15 f15) al)) _
      refine zr_go (t := (54, [some (.ref 0)], [.ref 0], (zw_C (upd (upd (upd (upd (upd (upd (upd (upd (upd (upd (upd g 1 (nI (fr + 1))) 6 0) 7 (nI P2)) 8 (nI N2)) 9 x9) 10 x10) 11 (nI P2)) 12 (nI N2)) 15 x15) 16 x16) 17 x17) gl (va_up (va_up a 11 f11) 15 f15) al))) 1 rfl ?_
      refine zr_call (t := (57, [some (.ref 0)], [], (zw_C (upd (upd (upd (upd (upd (upd (upd (upd (upd (upd (upd g 1 (nI (fr + 1))) 6 0) 7 (nI P2)) 8 (nI N2)) 9 x9) 10 x10) 11 (nI P2)) 12 (nI N2)) 15 x15) 16 x16) 17 x17) gl (va_up (va_up a 11 f11) 15 f15) al))) rfl (Nat.le_of_ble_eq_true rfl : 1 ≤ 4) (zs_C_forget (upd (upd (upd (upd (upd (upd (upd (upd (upd (upd (upd g 1 (nI (fr + 1))) 6 0) 7 (nI P2)) 8 (nI N2)) 9 x9) 10 x10) 11 (nI P2)) 12 (nI N2)) 15 x15) 16 x16) 17 x17) gl (va_up (va_up a 11 f11) 15 f15) al) ?_
      rintro _ _ ⟨rfl, rfl⟩
      show zm_Run zt_get 4 zt_X_form (57, [some (.ref 0)], [], (zw_C (upd (upd (upd (upd (upd (upd (upd (upd (upd (upd (upd (upd (upd (upd (upd g 1 (nI (fr + 1))) 4 0) 5 0) 6 0) 7 (nI P2)) 8 (nI N2)) 9 x9) 10 x10) 11 (nI P2)) 12 (nI N2)) 15 x15) 16 x16) 17 x17) 24 0) 26 0) gl (va_up (va_up a 11 f11) 15 f15) al)) _
      refine zr_go (t := (64, [some (.ref 0)], [.int x17], (zw_C (upd (upd (upd (upd (upd (upd (upd (upd (upd (upd (upd (upd (upd (upd (upd g 1 (nI (fr + 1))) 4 0) 5 0) 6 0) 7 (nI P2)) 8 (nI N2)) 9 x9) 10 x10) 11 (nI P2)) 12 (nI N2)) 15 x15) 16 x16) 17 x17) 24 0) 26 0) gl (va_up (va_up a 11 f11) 15 f15) al))) 3 rfl ?_
      exact zr_ret rfl trivial (Or.inr ⟨P2, N2, c2, htx, by rw [show x17 = nI (zv_np P2 N2) from hQ2.2.2.2.1], hc2, _, gl, _, al, false, false, rfl, ⟨hm2, hc24, rfl, rfl, rfl, rfl, rfl, Or.inr ⟨⟨hok, rfl, zp_cS htx _ hc2, hQ2⟩, fun q => absurd q (by decide), fun q => absurd q (by decide), fun _ => ⟨rfl, rfl⟩⟩⟩, ⟨rfl, by omega, fun k h => absurd h (Nat.not_lt_zero k), fun k h => absurd h (Nat.not_lt_zero k)⟩, hri, rfl, hr2⟩)
    · skip
      exact absurd h1 (by decide)
  · skip
    show zm_Run zt_get 4 zt_X_form (7, [some (.ref 0)], [.int (nI 0)], (zw_C (upd (upd (upd (upd g 7 x7) 8 x8) 9 x9) 10 x10) gl a al)) _
    refine zr_ine (x := nI 0) (y := 0) 0 0 rfl rfl (by omega) (by omega) (t := (13, [some (.ref 0)], [], (zw_C (upd (upd (upd (upd g 7 x7) 8 x8) 9 x9) 10 x10) gl a al))) (f := (10, [some (.ref 0)], [], (zw_C (upd (upd (upd (upd g 7 x7) 8 x8) 9 x9) 10 x10) gl a al))) rfl (fun h1 => ?_) (fun h1 => ?_)
    · skip
      exact absurd rfl h1
    · skip
      refine zr_go (t := (12, [some (.ref 0)], [.int (-103)], (zw_C (upd (upd (upd (upd g 7 x7) 8 x8) 9 x9) 10 x10) gl a al))) 1 rfl ?_
      exact zr_ret rfl trivial (Or.inl ⟨hno, rfl, _, gl, a, al, sv, bt, rfl, hK, hr⟩)
theorem zp_C_flats (w0 : List zm_E) (P N : Nat) (c : Nat → Nat) (n0 : Nat) (e0 : Nat → Nat) (n1 : Nat) (e1 : Nat → Nat) (n : Nat) (cd : Nat → Nat) (K M : Nat) (e : Nat → Nat) (fr fi wa : Nat) (hw : zKW w0 P N c n0 e0 n1 e1 n cd K M e fr fi wa) (hJ : zJ) (x : Int32) : zm_Ev zt_get 6 67 [.ref 0, .int x] w0 (fun v w => v = some (.int (ac_flats P N c x)) ∧ zKW w P N c n0 e0 n1 e1 n cd K M e fr fi wa) := by
  obtain ⟨g, gl, a, al, sv, bt, rfl, hK, hr⟩ := hw
  unfold ac_flats
  refine zr_ev zt_X_flats rfl rfl ?_
  show zm_Run zt_get 5 zt_X_flats (0, [some (.ref 0), some (.int x)], [], (zw_C g gl a al)) _
  refine zr_go (t := (2, [some (.ref 0), some (.int x)], [.int 1, .int x], (zw_C g gl a al))) 2 rfl ?_
  refine zr_if (c := x < 1) (t := (10, [some (.ref 0), some (.int x)], [], (zw_C g gl a al))) (f := (5, [some (.ref 0), some (.int x)], [], (zw_C g gl a al))) rfl (fun h1 => ?_) (fun h1 => ?_)
  · skip
    refine zr_go (t := (12, [some (.ref 0), some (.int x)], [.int (-102)], (zw_C g gl a al))) 1 rfl ?_
    exact zr_ret rfl trivial ⟨by rw [if_neg (by rw [zx_13l h1]; decide)], g, gl, a, al, sv, bt, rfl, hK, hr⟩
  · skip
    refine zr_go (t := (7, [some (.ref 0), some (.int x)], [.int 3, .int x], (zw_C g gl a al))) 2 rfl ?_
    refine zr_if (c := x ≤ 3) (t := (13, [some (.ref 0), some (.int x)], [], (zw_C g gl a al))) (f := (10, [some (.ref 0), some (.int x)], [], (zw_C g gl a al))) rfl (fun h2 => ?_) (fun h2 => ?_)
    · skip
      have hx := zx_13t h1 h2
      rw [if_pos hx]
      obtain ⟨hd1, hd3, hxk⟩ := zx_13of hx
      generalize zx_k x = d at hd1 hd3 hxk ⊢
      subst hxk
      refine zr_go (t := (14, [some (.ref 0), some (.int (nI d))], [.ref 0], (zw_C g gl a al))) 1 rfl ?_
      refine zr_call (t := (17, [some (.ref 0), some (.int (nI d))], [], (zw_C g gl a al))) rfl (Nat.le_of_ble_eq_true rfl : 5 ≤ 5) (zs_C_hasFlats g gl a al hJ P N c sv bt n0 e0 n1 e1 hK) ?_
      rintro _ _ ⟨rfl, g1, a1, al1, rfl, hK1, he1⟩
      have hjb := zb_le (zj_ok P N c)
      have hr1 := zK_r_e he1 hr
      show zm_Run zt_get 5 zt_X_flats (17, [some (.ref 0), some (.int (nI d))], [.int (nI ((zj_ok P N c).toNat))], (zw_C g1 gl a1 al1)) _
      refine zr_ine (x := nI ((zj_ok P N c).toNat)) (y := 0) ((zj_ok P N c).toNat) 0 rfl rfl (by omega) (by omega) (t := (23, [some (.ref 0), some (.int (nI d))], [], (zw_C g1 gl a1 al1))) (f := (20, [some (.ref 0), some (.int (nI d))], [], (zw_C g1 gl a1 al1))) rfl (fun h3 => ?_) (fun h3 => ?_)
      · skip
        have hj := zb_1n _ h3
        rw [if_pos hj]
        have hPp := (zj_okP hj).1
        obtain ⟨hm, hc4, h4, h5, h24, h26, h12, hcase⟩ := id hK1
        rcases hcase with ⟨q1, q2, q, q3, _⟩ | ⟨⟨hok, h11, hcP, hQ⟩, hsv, hbt, hnb⟩
        · skip
          exfalso; omega
        · skip
          have hN6 := zv_okN hok
          have hN3 := hok.2.1
          obtain ⟨hP0, hP5⟩ := zv_P5 hok.1
          obtain ⟨-, hnp1, hnp0⟩ := zv_nums hok
          have hon1 := (zj_nums (c := c) hok).1
          have hns1 := (zj_nums (c := c) hok).2
          have hd : decide (0 < P) = true := decide_eq_true hP0
          have hv := hsv hd
          have h17 := hQ.2.2.2.1
          have h18 := hv.1
          have h19 : g1 19 = nI (zj_ns P N c) := hv.2.1
          obtain ⟨-, hns, ht, hs, hl⟩ := hbt hj
          obtain ⟨hn45, -⟩ := hJ P N c hok hns
          obtain ⟨htot1, htot2⟩ := zJ_tot hJ hok hns hd1 hd3
          have htt := zK_tt ht d
          refine zr_go (t := (28, [some (.ref 0), some (.int (nI d))], [.int (nI d), .ref 5], (zw_C g1 gl a1 al1))) 3 rfl ?_
          refine zr_call (t := (31, [some (.ref 0), some (.int (nI d))], [], (zw_C g1 gl a1 al1))) rfl (Nat.le_of_ble_eq_true rfl : 1 ≤ 5) (zs_C_totalOf g1 gl a1 al1 d hd1 hd3) ?_
          rintro _ _ ⟨rfl, rfl⟩
          show zm_Run zt_get 5 zt_X_flats (31, [some (.ref 0), some (.int (nI d))], [.int (if d = 1 then g1 20 else if d = 2 then g1 21 else g1 22)], (zw_C g1 gl a1 al1)) _
          exact zr_ret rfl trivial ⟨by rw [htt], g1, gl, a1, al1, _, _, rfl, hK1, hr1⟩
      · skip
        have hj := zb_0n _ h3
        rw [if_neg (by rw [hj]; decide)]
        refine zr_go (t := (22, [some (.ref 0), some (.int (nI d))], [.int (-103)], (zw_C g1 gl a1 al1))) 1 rfl ?_
        exact zr_ret rfl trivial ⟨rfl, g1, gl, a1, al1, _, _, rfl, hK1, hr1⟩
    · skip
      refine zr_go (t := (12, [some (.ref 0), some (.int x)], [.int (-102)], (zw_C g gl a al))) 1 rfl ?_
      exact zr_ret rfl trivial ⟨by rw [if_neg (by rw [zx_13g h2]; decide)], g, gl, a, al, sv, bt, rfl, hK, hr⟩
theorem zp_C_flat (w0 : List zm_E) (P N : Nat) (c : Nat → Nat) (n0 : Nat) (e0 : Nat → Nat) (n1 : Nat) (e1 : Nat → Nat) (n : Nat) (cd : Nat → Nat) (K M : Nat) (e : Nat → Nat) (fr fi wa : Nat) (hw : zKW w0 P N c n0 e0 n1 e1 n cd K M e fr fi wa) (hJ : zJ) (hJ2 : zJ2) (x y z : Int32) : zm_Ev zt_get 6 68 [.ref 0, .int x, .int y, .int z] w0 (fun v w => v = some (.int (ac_flat P N c x y z)) ∧ zKW w P N c n0 e0 n1 e1 n cd K M e fr fi wa) := by
  obtain ⟨g, gl, a, al, sv, bt, rfl, hK, hr⟩ := hw
  unfold ac_flat
  refine zr_ev zt_X_flat rfl rfl ?_
  show zm_Run zt_get 5 zt_X_flat (0, [some (.ref 0), some (.int x), some (.int y), some (.int z), none, none, none], [], (zw_C g gl a al)) _
  refine zr_go (t := (2, [some (.ref 0), some (.int x), some (.int y), some (.int z), none, none, none], [.int 1, .int x], (zw_C g gl a al))) 2 rfl ?_
  refine zr_if (c := x < 1) (t := (10, [some (.ref 0), some (.int x), some (.int y), some (.int z), none, none, none], [], (zw_C g gl a al))) (f := (5, [some (.ref 0), some (.int x), some (.int y), some (.int z), none, none, none], [], (zw_C g gl a al))) rfl (fun h1 => ?_) (fun h1 => ?_)
  · skip
    refine zr_go (t := (12, [some (.ref 0), some (.int x), some (.int y), some (.int z), none, none, none], [.int (-102)], (zw_C g gl a al))) 1 rfl ?_
    exact zr_ret rfl trivial ⟨by rw [if_neg (by rw [zx_13l h1]; decide)], g, gl, a, al, sv, bt, rfl, hK, hr⟩
  · skip
    refine zr_go (t := (7, [some (.ref 0), some (.int x), some (.int y), some (.int z), none, none, none], [.int 3, .int x], (zw_C g gl a al))) 2 rfl ?_
    refine zr_if (c := x ≤ 3) (t := (13, [some (.ref 0), some (.int x), some (.int y), some (.int z), none, none, none], [], (zw_C g gl a al))) (f := (10, [some (.ref 0), some (.int x), some (.int y), some (.int z), none, none, none], [], (zw_C g gl a al))) rfl (fun h2 => ?_) (fun h2 => ?_)
    · skip
      have hx := zx_13t h1 h2
      rw [if_pos hx]
      obtain ⟨hd1, hd3, hxk⟩ := zx_13of hx
      generalize zx_k x = d at hd1 hd3 hxk ⊢
      subst hxk
      refine zr_go (t := (14, [some (.ref 0), some (.int (nI d)), some (.int y), some (.int z), none, none, none], [.ref 0], (zw_C g gl a al))) 1 rfl ?_
      refine zr_call (t := (17, [some (.ref 0), some (.int (nI d)), some (.int y), some (.int z), none, none, none], [], (zw_C g gl a al))) rfl (Nat.le_of_ble_eq_true rfl : 5 ≤ 5) (zs_C_hasFlats g gl a al hJ P N c sv bt n0 e0 n1 e1 hK) ?_
      rintro _ _ ⟨rfl, g1, a1, al1, rfl, hK1, he1⟩
      have hjb := zb_le (zj_ok P N c)
      have hr1 := zK_r_e he1 hr
      show zm_Run zt_get 5 zt_X_flat (17, [some (.ref 0), some (.int (nI d)), some (.int y), some (.int z), none, none, none], [.int (nI ((zj_ok P N c).toNat))], (zw_C g1 gl a1 al1)) _
      refine zr_ine (x := nI ((zj_ok P N c).toNat)) (y := 0) ((zj_ok P N c).toNat) 0 rfl rfl (by omega) (by omega) (t := (23, [some (.ref 0), some (.int (nI d)), some (.int y), some (.int z), none, none, none], [], (zw_C g1 gl a1 al1))) (f := (20, [some (.ref 0), some (.int (nI d)), some (.int y), some (.int z), none, none, none], [], (zw_C g1 gl a1 al1))) rfl (fun h3 => ?_) (fun h3 => ?_)
      · skip
        have hj := zb_1n _ h3
        rw [if_pos hj]
        have hPp := (zj_okP hj).1
        obtain ⟨hm, hc4, h4, h5, h24, h26, h12, hcase⟩ := id hK1
        rcases hcase with ⟨q1, q2, q, q3, _⟩ | ⟨⟨hok, h11, hcP, hQ⟩, hsv, hbt, hnb⟩
        · skip
          exfalso; omega
        · skip
          have hN6 := zv_okN hok
          have hN3 := hok.2.1
          obtain ⟨hP0, hP5⟩ := zv_P5 hok.1
          obtain ⟨-, hnp1, hnp0⟩ := zv_nums hok
          have hon1 := (zj_nums (c := c) hok).1
          have hns1 := (zj_nums (c := c) hok).2
          have hd : decide (0 < P) = true := decide_eq_true hP0
          have hv := hsv hd
          have h17 := hQ.2.2.2.1
          have h18 := hv.1
          have h19 : g1 19 = nI (zj_ns P N c) := hv.2.1
          obtain ⟨-, hns, ht, hs, hl⟩ := hbt hj
          obtain ⟨hn45, -⟩ := hJ P N c hok hns
          obtain ⟨htot1, htot2⟩ := zJ_tot hJ hok hns hd1 hd3
          have htt := zK_tt ht d
          generalize htd : zj_tot P N c d = td at htot1 htot2 htt ⊢
          refine zr_go (t := (24, [some (.ref 0), some (.int (nI d)), some (.int y), some (.int z), none, none, none], [.int y], (zw_C g1 gl a1 al1))) 1 rfl ?_
          refine zr_if (c := y < 0) (t := (39, [some (.ref 0), some (.int (nI d)), some (.int y), some (.int z), none, none, none], [], (zw_C g1 gl a1 al1))) (f := (27, [some (.ref 0), some (.int (nI d)), some (.int y), some (.int z), none, none, none], [], (zw_C g1 gl a1 al1))) rfl (fun h4 => ?_) (fun h4 => ?_)
          · skip
            refine zr_go (t := (41, [some (.ref 0), some (.int (nI d)), some (.int y), some (.int z), none, none, none], [.int (-101)], (zw_C g1 gl a1 al1))) 1 rfl ?_
            exact zr_ret rfl trivial ⟨by rw [if_neg (fun q => by rw [zx_rl h4] at q; exact absurd q.1 (by decide))], g1, gl, a1, al1, _, _, rfl, hK1, hr1⟩
          · skip
            obtain ⟨hy1, hy2⟩ := zk_of0 (zx_nn h4)
            generalize hyk : zx_k y = f at hy1 hy2 ⊢
            subst hy2
            refine zr_go (t := (33, [some (.ref 0), some (.int (nI d)), some (.int (nI f)), some (.int z), none, none, none], [.int (nI d), .ref 5, .int (nI f)], (zw_C g1 gl a1 al1))) 4 rfl ?_
            refine zr_call (t := (36, [some (.ref 0), some (.int (nI d)), some (.int (nI f)), some (.int z), none, none, none], [.int (nI f)], (zw_C g1 gl a1 al1))) rfl (Nat.le_of_ble_eq_true rfl : 1 ≤ 5) (zs_C_totalOf g1 gl a1 al1 d hd1 hd3) ?_
            rintro _ _ ⟨rfl, rfl⟩
            show zm_Run zt_get 5 zt_X_flat (36, [some (.ref 0), some (.int (nI d)), some (.int (nI f)), some (.int z), none, none, none], [.int (if d = 1 then g1 20 else if d = 2 then g1 21 else g1 22), .int (nI f)], (zw_C g1 gl a1 al1)) _
            rw [htt]
            refine zr_ilt (x := nI f) (y := nI td) f td rfl rfl (by omega) (by omega) (t := (42, [some (.ref 0), some (.int (nI d)), some (.int (nI f)), some (.int z), none, none, none], [], (zw_C g1 gl a1 al1))) (f := (39, [some (.ref 0), some (.int (nI d)), some (.int (nI f)), some (.int z), none, none, none], [], (zw_C g1 gl a1 al1))) rfl (fun h5 => ?_) (fun h5 => ?_)
            · skip
              have hyin : zx_in (nI f) td = true := zx_yes (by rw [nI_toInt (by omega)]; omega)
              refine zr_go (t := (48, [some (.ref 0), some (.int (nI d)), some (.int (nI f)), some (.int z), none, none, none], [.int (nI f), .int (nI d), .ref 5], (zw_C g1 gl a1 al1))) 4 rfl ?_
              have hmk := zK_tm ht hd1 hd3 (k := f) (by rw [htd]; exact h5)
              have hbits := hJ2 P N c hok hns d f hd1 hd3 (show f < zj_tot P N c d by rw [htd]; exact h5)
              generalize hXX : zj_mk P N c d f = X at hmk ⊢
              have hbits : ∀ j, lb X j = true → j < zw_on P N c := by rw [← hXX]; exact hbits
              refine zr_call (t := (51, [some (.ref 0), some (.int (nI d)), some (.int (nI f)), some (.int z), none, none, none], [], (zw_C g1 gl a1 al1))) rfl (Nat.le_of_ble_eq_true rfl : 1 ≤ 5) (zs_C_maskOf g1 gl a1 al1 d f hd1 hd3 (fun q => by omega) (fun q => by have := htot2 q; omega)) ?_
              rintro _ _ ⟨rfl, rfl⟩
              show zm_Run zt_get 5 zt_X_flat (51, [some (.ref 0), some (.int (nI d)), some (.int (nI f)), some (.int z), none, none, none], [.long (if d = 1 then zf_b f else if d = 2 then al1 22 f else al1 23 f)], (zw_C g1 gl a1 al1)) _
              rw [hmk]
              refine zr_go (t := (54, [some (.ref 0), some (.int (nI d)), some (.int (nI f)), some (.int z), some (.long X), none, none], [.int z], (zw_C g1 gl a1 al1))) 2 rfl ?_
              refine zr_if (c := z < 0) (t := (66, [some (.ref 0), some (.int (nI d)), some (.int (nI f)), some (.int z), some (.long X), none, none], [], (zw_C g1 gl a1 al1))) (f := (57, [some (.ref 0), some (.int (nI d)), some (.int (nI f)), some (.int z), some (.long X), none, none], [], (zw_C g1 gl a1 al1))) rfl (fun h6 => ?_) (fun h6 => ?_)
              · skip
                refine zr_go (t := (68, [some (.ref 0), some (.int (nI d)), some (.int (nI f)), some (.int z), some (.long X), none, none], [.int (-101)], (zw_C g1 gl a1 al1))) 1 rfl ?_
                exact zr_ret rfl trivial ⟨by rw [if_neg (fun q => by rw [zx_rl h6] at q; exact absurd q.2 (by decide))], g1, gl, a1, al1, _, _, rfl, hK1, hr1⟩
              · skip
                obtain ⟨hz1, hz2⟩ := zk_of0 (zx_nn h6)
                generalize hzk : zx_k z = t at hz1 hz2 ⊢
                subst hz2
                have hc64 := zC_le (lb X) 64
                refine zr_go (t := (60, [some (.ref 0), some (.int (nI d)), some (.int (nI f)), some (.int (nI t)), some (.long X), none, none], [.long X, .int (nI t)], (zw_C g1 gl a1 al1))) 2 rfl ?_
                refine zr_call (t := (63, [some (.ref 0), some (.int (nI d)), some (.int (nI f)), some (.int (nI t)), some (.long X), none, none], [.int (nI t)], (zw_C g1 gl a1 al1))) rfl (Nat.le_of_ble_eq_true rfl : 1 ≤ 5) (zs_C_bitCount g1 gl a1 al1 X) ?_
                rintro _ _ ⟨rfl, rfl⟩
                show zm_Run zt_get 5 zt_X_flat (63, [some (.ref 0), some (.int (nI d)), some (.int (nI f)), some (.int (nI t)), some (.long X), none, none], [.int (nI (zC (lb X) 64)), .int (nI t)], (zw_C g1 gl a1 al1)) _
                refine zr_ilt (x := nI t) (y := nI (zC (lb X) 64)) t (zC (lb X) 64) rfl rfl (by omega) (by omega) (t := (69, [some (.ref 0), some (.int (nI d)), some (.int (nI f)), some (.int (nI t)), some (.long X), none, none], [], (zw_C g1 gl a1 al1))) (f := (66, [some (.ref 0), some (.int (nI d)), some (.int (nI f)), some (.int (nI t)), some (.long X), none, none], [], (zw_C g1 gl a1 al1))) rfl (fun h7 => ?_) (fun h7 => ?_)
                · skip
                  have hzin : zx_in (nI t) (zC (lb X) 64) = true := zx_yes (by rw [nI_toInt (by omega)]; omega)
                  rw [if_pos ⟨hyin, hzin⟩]
                  refine zr_go (t := (72, [some (.ref 0), some (.int (nI d)), some (.int (nI f)), some (.int (nI t)), some (.long X), none, some (.int 0)], [], (zw_C g1 gl a1 al1))) 2 rfl ?_
                  refine zr_loop (fun zq : Nat × Int64 × Nat => (72, [some (.ref 0), some (.int (nI d)), some (.int (nI f)), some (.int (nI t)), some (.long zq.2.1), none, some (.int (nI zq.1))], [], (zw_C g1 gl a1 al1))) (fun zq => zq.1 ≤ t ∧ zq.2.1 = zg_rest X zq.2.2 ∧ zC (lb X) zq.2.2 = zq.1) (fun zq => t - zq.1) ?_ (0, X, 0) ⟨by omega, (zg_rest_0 X).symm, rfl⟩
                  rintro ⟨k, m, j⟩ ⟨hk, hm2, hj2⟩ ih
                  try dsimp only at *
                  subst hm2
                  obtain ⟨i, hi, hji, hi64, hbi, hgap, hrest, hcnt⟩ := zg_nx (x := X) (p := j) (by omega)
                  refine zr_go (t := (75, [some (.ref 0), some (.int (nI d)), some (.int (nI f)), some (.int (nI t)), some (.long (zg_rest X j)), none, some (.int (nI k))], [.int (nI t), .int (nI k)], (zw_C g1 gl a1 al1))) 2 rfl ?_
                  refine zr_ige (x := nI k) (y := nI t) k t rfl rfl (by omega) (by omega) (t := (93, [some (.ref 0), some (.int (nI d)), some (.int (nI f)), some (.int (nI t)), some (.long (zg_rest X j)), none, some (.int (nI k))], [], (zw_C g1 gl a1 al1))) (f := (78, [some (.ref 0), some (.int (nI d)), some (.int (nI f)), some (.int (nI t)), some (.long (zg_rest X j)), none, some (.int (nI k))], [], (zw_C g1 gl a1 al1))) rfl (fun h8 => ?_) (fun h8 => ?_)
                  · skip
                    have hin := hbits i hbi
                    have hci : zC (lb X) i = t := by have h9 : zC (lb X) (i + 1) = zC (lb X) i + (lb X i).toNat := rfl; rw [hbi] at h9; have h9 : zC (lb X) (i + 1) = zC (lb X) i + 1 := h9; omega
                    have hxi : zX (lb X) 64 t = i := by rw [← hci]; exact zX_at hbi hi64
                    rw [hxi]
                    refine zr_go (t := (102, [some (.ref 0), some (.int (nI d)), some (.int (nI f)), some (.int (nI t)), some (.long (zg_rest X j)), none, some (.int (nI k))], [.long (zg_rest X j), .ref 18], (zw_C g1 gl a1 al1))) 4 rfl ?_
                    refine zr_call (t := (105, [some (.ref 0), some (.int (nI d)), some (.int (nI f)), some (.int (nI t)), some (.long (zg_rest X j)), none, some (.int (nI k))], [.ref 18], (zw_C g1 gl a1 al1))) rfl (Nat.le_of_ble_eq_true rfl : 2 ≤ 5) (zs_C_lowestBit g1 gl a1 al1 (zg_rest X j)) ?_
                    rintro _ _ ⟨rfl, rfl⟩
                    show zm_Run zt_get 5 zt_X_flat (105, [some (.ref 0), some (.int (nI d)), some (.int (nI f)), some (.int (nI t)), some (.long (zg_rest X j)), none, some (.int (nI k))], [.int (nI (lb_low (zg_rest X j))), .ref 18], (zw_C g1 gl a1 al1)) _
                    rw [← hi]
                    refine zr_cd (t := (106, [some (.ref 0), some (.int (nI d)), some (.int (nI f)), some (.int (nI t)), some (.long (zg_rest X j)), none, some (.int (nI k))], [.int ((a1 18) (nI i).toNatClampNeg)], (zw_C g1 gl a1 al1))) rfl (pk_in i 156 (by omega) rfl (by omega)) ?_
                    rw [pk_cl (x := (nI i)) i rfl (by omega)]
                    rw [show (a1 18) i = nI (zj_x P N c i) from hv.2.2.2.2.2 i hin]
                    exact zr_ret rfl trivial ⟨rfl, g1, gl, a1, al1, _, _, rfl, hK1, hr1⟩
                  · skip
                    refine zr_go (t := (72, [some (.ref 0), some (.int (nI d)), some (.int (nI f)), some (.int (nI t)), some (.long ((zg_rest X j) &&& ((zg_rest X j) - 1))), none, some (.int ((nI k) + 1))], [], (zw_C g1 gl a1 al1))) 8 rfl ?_
                    rw [hrest]
                    rw [show (nI k) + 1 = nI (k + 1) from (zn_add rfl rfl)]
                    exact ih (k + 1, zg_rest X (i + 1), i + 1) ⟨by omega, rfl, by (try dsimp only); omega⟩ (by omega)
                · skip
                  have hzn : zx_in (nI t) (zC (lb X) 64) = false := zx_no (fun q => by rw [nI_toInt (by omega)] at q; omega)
                  refine zr_go (t := (68, [some (.ref 0), some (.int (nI d)), some (.int (nI f)), some (.int (nI t)), some (.long X), none, none], [.int (-101)], (zw_C g1 gl a1 al1))) 1 rfl ?_
                  exact zr_ret rfl trivial ⟨by rw [if_neg (fun q => by rw [hzn] at q; exact absurd q.2 (by decide))], g1, gl, a1, al1, _, _, rfl, hK1, hr1⟩
            · skip
              have hyn : zx_in (nI f) td = false := zx_no (fun q => by rw [nI_toInt (by omega)] at q; omega)
              refine zr_go (t := (41, [some (.ref 0), some (.int (nI d)), some (.int (nI f)), some (.int z), none, none, none], [.int (-101)], (zw_C g1 gl a1 al1))) 1 rfl ?_
              exact zr_ret rfl trivial ⟨by rw [if_neg (fun q => by rw [hyn] at q; exact absurd q.1 (by decide))], g1, gl, a1, al1, _, _, rfl, hK1, hr1⟩
      · skip
        have hj := zb_0n _ h3
        rw [if_neg (by rw [hj]; decide)]
        refine zr_go (t := (22, [some (.ref 0), some (.int (nI d)), some (.int y), some (.int z), none, none, none], [.int (-103)], (zw_C g1 gl a1 al1))) 1 rfl ?_
        exact zr_ret rfl trivial ⟨rfl, g1, gl, a1, al1, _, _, rfl, hK1, hr1⟩
    · skip
      refine zr_go (t := (12, [some (.ref 0), some (.int x), some (.int y), some (.int z), none, none, none], [.int (-102)], (zw_C g gl a al))) 1 rfl ?_
      exact zr_ret rfl trivial ⟨by rw [if_neg (by rw [zx_13g h2]; decide)], g, gl, a, al, sv, bt, rfl, hK, hr⟩
def zj_rk (P N : Nat) (c : Nat → Nat) (x : Int32) : Nat := zC (zw_oo P N c) (zx_k x)
def zj_mb (P N : Nat) (c : Nat → Nat) (x : Int32) : Bool := zx_in x (zv_np P N) && zw_oo P N c (zx_k x)
def ac_near (P N : Nat) (c : Nat → Nat) (x y z : Int32) : Int32 := if zj_ok P N c = true then (if zj_mb P N c x = true ∧ zx_in y (zj_gm P N c) = true then (if zx_in z 2 = true then (if z = 0 then nI (zC (lb (zj_m P N c (zx_k y) &&& zf_L P N c (zj_rk P N c x))) 64) else if zj_m P N c (zx_k y) &&& zf_L P N c (zj_rk P N c x) = 0 then -1 else nI (zj_x P N c (lb_low (zj_m P N c (zx_k y) &&& zf_L P N c (zj_rk P N c x))))) else -102) else -101) else -103
theorem zf_L_lt {P N : Nat} {c : Nat → Nat} {r j : Nat} (h : zw_on P N c ≤ 64) (q : lb (zf_L P N c r) j = true) : j < zw_on P N c := by
  unfold zf_L at q
  rw [lb_L _ h, Bool.and_eq_true] at q
  exact of_decide_eq_true q.1
theorem lb_low_n0 {x : Int64} (h : ¬ x = 0) : lb_low x < 64 ∧ lb x (lb_low x) = true := by
  rcases lb_low_ge (x := x) with ⟨-, h2⟩ | ⟨h1, h2, -⟩
  · exact absurd (lb_is0.mpr h2) h
  · exact ⟨h1, h2⟩
theorem zj_mbP {P N : Nat} {c : Nat → Nat} {x : Int32} (h : zj_mb P N c x = true) : zx_k x < zv_np P N ∧ x = nI (zx_k x) ∧ zw_oo P N c (zx_k x) = true ∧ zj_rk P N c x < zw_on P N c := by
  unfold zj_mb at h
  rw [Bool.and_eq_true] at h
  obtain ⟨h1, h2⟩ := zx_of h.1
  exact ⟨h1, h2, h.2, zC_lt h.2 h1⟩
theorem zp_C_near (w0 : List zm_E) (P N : Nat) (c : Nat → Nat) (n0 : Nat) (e0 : Nat → Nat) (n1 : Nat) (e1 : Nat → Nat) (n : Nat) (cd : Nat → Nat) (K M : Nat) (e : Nat → Nat) (fr fi wa : Nat) (hw : zKW w0 P N c n0 e0 n1 e1 n cd K M e fr fi wa) (hJ : zJ) (x y z : Int32) : zm_Ev zt_get 7 69 [.ref 0, .int x, .int y, .int z] w0 (fun v w => v = some (.int (ac_near P N c x y z)) ∧ zKW w P N c n0 e0 n1 e1 n cd K M e fr fi wa) := by
  obtain ⟨g, gl, a, al, sv, bt, rfl, hK, hr⟩ := hw
  unfold ac_near
  refine zr_ev zt_X_near rfl rfl ?_
  show zm_Run zt_get 6 zt_X_near (0, [some (.ref 0), some (.int x), some (.int y), some (.int z), none, none, none], [], (zw_C g gl a al)) _
  refine zr_go (t := (1, [some (.ref 0), some (.int x), some (.int y), some (.int z), none, none, none], [.ref 0], (zw_C g gl a al))) 1 rfl ?_
  refine zr_call (t := (4, [some (.ref 0), some (.int x), some (.int y), some (.int z), none, none, none], [], (zw_C g gl a al))) rfl (Nat.le_of_ble_eq_true rfl : 5 ≤ 6) (zs_C_hasFlats g gl a al hJ P N c sv bt n0 e0 n1 e1 hK) ?_
  rintro _ _ ⟨rfl, g1, a1, al1, rfl, hK1, he1⟩
  have hjb := zb_le (zj_ok P N c)
  have hr1 := zK_r_e he1 hr
  show zm_Run zt_get 6 zt_X_near (4, [some (.ref 0), some (.int x), some (.int y), some (.int z), none, none, none], [.int (nI ((zj_ok P N c).toNat))], (zw_C g1 gl a1 al1)) _
  refine zr_ine (x := nI ((zj_ok P N c).toNat)) (y := 0) ((zj_ok P N c).toNat) 0 rfl rfl (by omega) (by omega) (t := (10, [some (.ref 0), some (.int x), some (.int y), some (.int z), none, none, none], [], (zw_C g1 gl a1 al1))) (f := (7, [some (.ref 0), some (.int x), some (.int y), some (.int z), none, none, none], [], (zw_C g1 gl a1 al1))) rfl (fun h1 => ?_) (fun h1 => ?_)
  · skip
    have hj := zb_1n _ h1
    rw [if_pos hj]
    have hPp := (zj_okP hj).1
    have hK1b := hK1
    rw [hj] at hK1b
    refine zr_go (t := (12, [some (.ref 0), some (.int x), some (.int y), some (.int z), none, none, none], [.int x, .ref 0], (zw_C g1 gl a1 al1))) 2 rfl ?_
    refine zr_call (t := (15, [some (.ref 0), some (.int x), some (.int y), some (.int z), none, none, none], [], (zw_C g1 gl a1 al1))) rfl (Nat.le_of_ble_eq_true rfl : 6 ≤ 6) (zs_C_isMember g1 gl a1 al1 P N c (decide (0 < P)) n0 e0 n1 e1 hK1b x) ?_
    rintro _ _ ⟨rfl, g2, a2, rfl, hK2, he2⟩
    have hmb := zb_le (zx_in x (zv_np P N) && zw_oo P N c (zx_k x))
    have hr2 := zK_r_e he2 hr1
    show zm_Run zt_get 6 zt_X_near (15, [some (.ref 0), some (.int x), some (.int y), some (.int z), none, none, none], [.int (nI ((zx_in x (zv_np P N) && zw_oo P N c (zx_k x)).toNat))], (zw_C g2 gl a2 al1)) _
    refine zr_ieq (x := nI ((zx_in x (zv_np P N) && zw_oo P N c (zx_k x)).toNat)) (y := 0) ((zx_in x (zv_np P N) && zw_oo P N c (zx_k x)).toNat) 0 rfl rfl (by omega) (by omega) (t := (26, [some (.ref 0), some (.int x), some (.int y), some (.int z), none, none, none], [], (zw_C g2 gl a2 al1))) (f := (18, [some (.ref 0), some (.int x), some (.int y), some (.int z), none, none, none], [], (zw_C g2 gl a2 al1))) rfl (fun h2 => ?_) (fun h2 => ?_)
    · skip
      have hx : zj_mb P N c x = false := zb_0n _ h2
      refine zr_go (t := (28, [some (.ref 0), some (.int x), some (.int y), some (.int z), none, none, none], [.int (-101)], (zw_C g2 gl a2 al1))) 1 rfl ?_
      exact zr_ret rfl trivial ⟨by rw [if_neg (fun q => by rw [hx] at q; exact absurd q.1 (by decide))], g2, gl, a2, al1, _, _, rfl, hK2, hr2⟩
    · skip
      have hx : zj_mb P N c x = true := zb_1n _ h2
      have hj : true = true := rfl
      obtain ⟨hm, hc4, h4, h5, h24, h26, h12, hcase⟩ := id hK2
      rcases hcase with ⟨q1, q2, q, q3, _⟩ | ⟨⟨hok, h11, hcP, hQ⟩, hsv, hbt, hnb⟩
      · skip
        exfalso; omega
      · skip
        have hN6 := zv_okN hok
        have hN3 := hok.2.1
        obtain ⟨hP0, hP5⟩ := zv_P5 hok.1
        obtain ⟨-, hnp1, hnp0⟩ := zv_nums hok
        have hon1 := (zj_nums (c := c) hok).1
        have hns1 := (zj_nums (c := c) hok).2
        have hd : decide (0 < P) = true := decide_eq_true hP0
        have hv := hsv hd
        have h17 := hQ.2.2.2.1
        have h18 := hv.1
        have h19 : g2 19 = nI (zj_ns P N c) := hv.2.1
        obtain ⟨-, hns, ht, hs, hl0, hl1, hl2, hl3⟩ := hbt hj
        obtain ⟨h20, h21, h22, h21c, h22c, h23c⟩ := ht
        obtain ⟨h23, h25, hc24, hc25, hc27, hc28⟩ := hs
        obtain ⟨hn45, hnl105, hnp30, hgm45⟩ := hJ P N c hok hns
        obtain ⟨hx1, hx2, hx3, hx4⟩ := zj_mbP hx
        refine zr_go (t := (20, [some (.ref 0), some (.int x), some (.int y), some (.int z), none, none, none], [.int y, .ref 0], (zw_C g2 gl a2 al1))) 2 rfl ?_
        refine zr_call (t := (23, [some (.ref 0), some (.int x), some (.int y), some (.int z), none, none, none], [], (zw_C g2 gl a2 al1))) rfl (Nat.le_of_ble_eq_true rfl : 1 ≤ 6) (zs_C_isGreatest g2 gl a2 al1 (zj_gm P N c) h25 (by omega) y) ?_
        rintro _ _ ⟨rfl, rfl⟩
        show zm_Run zt_get 6 zt_X_near (23, [some (.ref 0), some (.int x), some (.int y), some (.int z), none, none, none], [.int (nI ((zx_in y (zj_gm P N c)).toNat))], (zw_C g2 gl a2 al1)) _
        have hyb := zb_le (zx_in y (zj_gm P N c))
        refine zr_ine (x := nI ((zx_in y (zj_gm P N c)).toNat)) (y := 0) ((zx_in y (zj_gm P N c)).toNat) 0 rfl rfl (by omega) (by omega) (t := (29, [some (.ref 0), some (.int x), some (.int y), some (.int z), none, none, none], [], (zw_C g2 gl a2 al1))) (f := (26, [some (.ref 0), some (.int x), some (.int y), some (.int z), none, none, none], [], (zw_C g2 gl a2 al1))) rfl (fun h3 => ?_) (fun h3 => ?_)
        · skip
          have hy := zb_1n _ h3
          rw [if_pos ⟨hx, hy⟩]
          obtain ⟨hy1, hy2⟩ := zx_of hy
          have hrk : a2 19 (zx_k x) = nI (zj_rk P N c x) := by have h9 := hv.2.2.2.2.1 (zx_k x) hx1; rw [hx3] at h9; exact h9
          clear hx h2 hy h3 hyb hmb hx3
          generalize zj_rk P N c x = r at hx4 hrk ⊢
          generalize zx_k x = p at hx1 hx2 hrk ⊢
          generalize zx_k y = f at hy1 hy2 ⊢
          subst hx2 hy2
          obtain ⟨X, hX⟩ : ∃ X, X = zj_m P N c f &&& zf_L P N c r := ⟨_, rfl⟩
          rw [← hX]
          refine zr_go (t := (30, [some (.ref 0), some (.int (nI p)), some (.int (nI f)), some (.int z), none, none, none], [.int z], (zw_C g2 gl a2 al1))) 1 rfl ?_
          refine zr_if (c := z = 0) (t := (41, [some (.ref 0), some (.int (nI p)), some (.int (nI f)), some (.int z), none, none, none], [], (zw_C g2 gl a2 al1))) (f := (33, [some (.ref 0), some (.int (nI p)), some (.int (nI f)), some (.int z), none, none, none], [], (zw_C g2 gl a2 al1))) rfl (fun h4 => ?_) (fun h4 => ?_)
          · skip
            subst h4
            rw [if_pos (by decide), if_pos rfl]
            refine zr_go (t := (49, [some (.ref 0), some (.int (nI p)), some (.int (nI f)), some (.int (nI 0)), none, none, none], [.int (nI p), .ref 19], (zw_C g2 gl a2 al1))) 4 rfl ?_
            refine zr_cd (t := (50, [some (.ref 0), some (.int (nI p)), some (.int (nI f)), some (.int (nI 0)), none, none, none], [.int ((a2 19) (nI p).toNatClampNeg)], (zw_C g2 gl a2 al1))) rfl (pk_in p 156 (by omega) rfl (by omega)) ?_
            rw [pk_cl (x := (nI p)) p rfl (by omega)]
            rw [show (a2 19) p = nI r from hrk]
            refine zr_go (t := (60, [some (.ref 0), some (.int (nI p)), some (.int (nI f)), some (.int (nI 0)), some (.int (nI r)), none, none], [.int (nI f), .ref 27], (zw_C g2 gl a2 al1))) 5 rfl ?_
            refine zr_cd (t := (61, [some (.ref 0), some (.int (nI p)), some (.int (nI f)), some (.int (nI 0)), some (.int (nI r)), none, none], [.long ((al1 27) (nI f).toNatClampNeg)], (zw_C g2 gl a2 al1))) rfl (pk_in f 64 (by omega) rfl (by omega)) ?_
            rw [pk_cl (x := (nI f)) f rfl (by omega)]
            rw [hc27 f hy1]
            refine zr_go (t := (70, [some (.ref 0), some (.int (nI p)), some (.int (nI f)), some (.int (nI 0)), some (.int (nI r)), none, none], [.int (nI r), .ref 21, .long (zj_m P N c f)], (zw_C g2 gl a2 al1))) 4 rfl ?_
            refine zr_cd (t := (71, [some (.ref 0), some (.int (nI p)), some (.int (nI f)), some (.int (nI 0)), some (.int (nI r)), none, none], [.long ((al1 21) (nI r).toNatClampNeg), .long (zj_m P N c f)], (zw_C g2 gl a2 al1))) rfl (pk_in r 64 (by omega) rfl (by omega)) ?_
            rw [pk_cl (x := (nI r)) r rfl (by omega)]
            rw [h21c r hx4]
            refine zr_go (t := (74, [some (.ref 0), some (.int (nI p)), some (.int (nI f)), some (.int (nI 0)), some (.int (nI r)), some (.long ((zj_m P N c f) &&& (zf_L P N c r))), none], [], (zw_C g2 gl a2 al1))) 2 rfl ?_
            rw [← hX]
            refine zr_go (t := (75, [some (.ref 0), some (.int (nI p)), some (.int (nI f)), some (.int (nI 0)), some (.int (nI r)), some (.long X), none], [.int (nI 0)], (zw_C g2 gl a2 al1))) 1 rfl ?_
            refine zr_ine (x := nI 0) (y := 0) 0 0 rfl rfl (by omega) (by omega) (t := (84, [some (.ref 0), some (.int (nI p)), some (.int (nI f)), some (.int (nI 0)), some (.int (nI r)), some (.long X), none], [], (zw_C g2 gl a2 al1))) (f := (78, [some (.ref 0), some (.int (nI p)), some (.int (nI f)), some (.int (nI 0)), some (.int (nI r)), some (.long X), none], [], (zw_C g2 gl a2 al1))) rfl (fun h6 => ?_) (fun h6 => ?_)
            · skip
              exact absurd rfl h6
            · skip
              refine zr_go (t := (80, [some (.ref 0), some (.int (nI p)), some (.int (nI f)), some (.int (nI 0)), some (.int (nI r)), some (.long X), none], [.long X], (zw_C g2 gl a2 al1))) 1 rfl ?_
              refine zr_call (t := (83, [some (.ref 0), some (.int (nI p)), some (.int (nI f)), some (.int (nI 0)), some (.int (nI r)), some (.long X), none], [], (zw_C g2 gl a2 al1))) rfl (Nat.le_of_ble_eq_true rfl : 1 ≤ 6) (zs_C_bitCount g2 gl a2 al1 X) ?_
              rintro _ _ ⟨rfl, rfl⟩
              show zm_Run zt_get 6 zt_X_near (83, [some (.ref 0), some (.int (nI p)), some (.int (nI f)), some (.int (nI 0)), some (.int (nI r)), some (.long X), none], [.int (nI (zC (lb X) 64))], (zw_C g2 gl a2 al1)) _
              exact zr_ret rfl trivial ⟨rfl, g2, gl, a2, al1, _, _, rfl, hK2, hr2⟩
          · skip
            refine zr_go (t := (35, [some (.ref 0), some (.int (nI p)), some (.int (nI f)), some (.int z), none, none, none], [.int 1, .int z], (zw_C g2 gl a2 al1))) 2 rfl ?_
            refine zr_if (c := z = 1) (t := (41, [some (.ref 0), some (.int (nI p)), some (.int (nI f)), some (.int z), none, none, none], [], (zw_C g2 gl a2 al1))) (f := (38, [some (.ref 0), some (.int (nI p)), some (.int (nI f)), some (.int z), none, none, none], [], (zw_C g2 gl a2 al1))) rfl (fun h5 => ?_) (fun h5 => ?_)
            · skip
              subst h5
              rw [if_pos (by decide), if_neg (by decide)]
              refine zr_go (t := (49, [some (.ref 0), some (.int (nI p)), some (.int (nI f)), some (.int (nI 1)), none, none, none], [.int (nI p), .ref 19], (zw_C g2 gl a2 al1))) 4 rfl ?_
              refine zr_cd (t := (50, [some (.ref 0), some (.int (nI p)), some (.int (nI f)), some (.int (nI 1)), none, none, none], [.int ((a2 19) (nI p).toNatClampNeg)], (zw_C g2 gl a2 al1))) rfl (pk_in p 156 (by omega) rfl (by omega)) ?_
              rw [pk_cl (x := (nI p)) p rfl (by omega)]
              rw [show (a2 19) p = nI r from hrk]
              refine zr_go (t := (60, [some (.ref 0), some (.int (nI p)), some (.int (nI f)), some (.int (nI 1)), some (.int (nI r)), none, none], [.int (nI f), .ref 27], (zw_C g2 gl a2 al1))) 5 rfl ?_
              refine zr_cd (t := (61, [some (.ref 0), some (.int (nI p)), some (.int (nI f)), some (.int (nI 1)), some (.int (nI r)), none, none], [.long ((al1 27) (nI f).toNatClampNeg)], (zw_C g2 gl a2 al1))) rfl (pk_in f 64 (by omega) rfl (by omega)) ?_
              rw [pk_cl (x := (nI f)) f rfl (by omega)]
              rw [hc27 f hy1]
              refine zr_go (t := (70, [some (.ref 0), some (.int (nI p)), some (.int (nI f)), some (.int (nI 1)), some (.int (nI r)), none, none], [.int (nI r), .ref 21, .long (zj_m P N c f)], (zw_C g2 gl a2 al1))) 4 rfl ?_
              refine zr_cd (t := (71, [some (.ref 0), some (.int (nI p)), some (.int (nI f)), some (.int (nI 1)), some (.int (nI r)), none, none], [.long ((al1 21) (nI r).toNatClampNeg), .long (zj_m P N c f)], (zw_C g2 gl a2 al1))) rfl (pk_in r 64 (by omega) rfl (by omega)) ?_
              rw [pk_cl (x := (nI r)) r rfl (by omega)]
              rw [h21c r hx4]
              refine zr_go (t := (74, [some (.ref 0), some (.int (nI p)), some (.int (nI f)), some (.int (nI 1)), some (.int (nI r)), some (.long ((zj_m P N c f) &&& (zf_L P N c r))), none], [], (zw_C g2 gl a2 al1))) 2 rfl ?_
              rw [← hX]
              refine zr_go (t := (75, [some (.ref 0), some (.int (nI p)), some (.int (nI f)), some (.int (nI 1)), some (.int (nI r)), some (.long X), none], [.int (nI 1)], (zw_C g2 gl a2 al1))) 1 rfl ?_
              refine zr_ine (x := nI 1) (y := 0) 1 0 rfl rfl (by omega) (by omega) (t := (84, [some (.ref 0), some (.int (nI p)), some (.int (nI f)), some (.int (nI 1)), some (.int (nI r)), some (.long X), none], [], (zw_C g2 gl a2 al1))) (f := (78, [some (.ref 0), some (.int (nI p)), some (.int (nI f)), some (.int (nI 1)), some (.int (nI r)), some (.long X), none], [], (zw_C g2 gl a2 al1))) rfl (fun h6 => ?_) (fun h6 => ?_)
              · skip
                refine zr_go (t := (88, [some (.ref 0), some (.int (nI p)), some (.int (nI f)), some (.int (nI 1)), some (.int (nI r)), some (.long X), none], [.int (lg_cmp X 0)], (zw_C g2 gl a2 al1))) 3 rfl ?_
                refine zr_if (c := lg_cmp X 0 = 0) (t := (91, [some (.ref 0), some (.int (nI p)), some (.int (nI f)), some (.int (nI 1)), some (.int (nI r)), some (.long X), none], [], (zw_C g2 gl a2 al1))) (f := (95, [some (.ref 0), some (.int (nI p)), some (.int (nI f)), some (.int (nI 1)), some (.int (nI r)), some (.long X), none], [], (zw_C g2 gl a2 al1))) rfl (fun hcm => ?_) (fun hcm => ?_)
                · skip
                  have hz := (zcmp0 _).mp hcm
                  rw [if_pos hz]
                  refine zr_go (t := (108, [some (.ref 0), some (.int (nI p)), some (.int (nI f)), some (.int (nI 1)), some (.int (nI r)), some (.long X), none], [.int (-1)], (zw_C g2 gl a2 al1))) 2 rfl ?_
                  exact zr_ret rfl trivial ⟨rfl, g2, gl, a2, al1, _, _, rfl, hK2, hr2⟩
                · skip
                  have hz : ¬ X = 0 := fun q => hcm ((zcmp0 _).mpr q)
                  rw [if_neg hz]
                  obtain ⟨hlo1, hlo2⟩ := lb_low_n0 hz
                  have hlo3 : lb_low X < zw_on P N c := by rw [hX, lb_and, Bool.and_eq_true, ← hX] at hlo2; exact zf_L_lt (by omega) hlo2.2
                  refine zr_go (t := (104, [some (.ref 0), some (.int (nI p)), some (.int (nI f)), some (.int (nI 1)), some (.int (nI r)), some (.long X), none], [.long X, .ref 18], (zw_C g2 gl a2 al1))) 4 rfl ?_
                  refine zr_call (t := (107, [some (.ref 0), some (.int (nI p)), some (.int (nI f)), some (.int (nI 1)), some (.int (nI r)), some (.long X), none], [.ref 18], (zw_C g2 gl a2 al1))) rfl (Nat.le_of_ble_eq_true rfl : 2 ≤ 6) (zs_C_lowestBit g2 gl a2 al1 X) ?_
                  rintro _ _ ⟨rfl, rfl⟩
                  show zm_Run zt_get 6 zt_X_near (107, [some (.ref 0), some (.int (nI p)), some (.int (nI f)), some (.int (nI 1)), some (.int (nI r)), some (.long X), none], [.int (nI (lb_low X)), .ref 18], (zw_C g2 gl a2 al1)) _
                  refine zr_cd (t := (108, [some (.ref 0), some (.int (nI p)), some (.int (nI f)), some (.int (nI 1)), some (.int (nI r)), some (.long X), none], [.int ((a2 18) (nI (lb_low X)).toNatClampNeg)], (zw_C g2 gl a2 al1))) rfl (pk_in (lb_low X) 156 (by omega) rfl (by omega)) ?_
                  rw [pk_cl (x := (nI (lb_low X))) (lb_low X) rfl (by omega)]
                  rw [show (a2 18) (lb_low X) = nI (zj_x P N c (lb_low X)) from hv.2.2.2.2.2 (lb_low X) hlo3]
                  exact zr_ret rfl trivial ⟨rfl, g2, gl, a2, al1, _, _, rfl, hK2, hr2⟩
              · skip
                exact absurd h6 (by decide)
            · skip
              rw [if_neg (by rw [zx_2n h4 h5]; decide)]
              refine zr_go (t := (40, [some (.ref 0), some (.int (nI p)), some (.int (nI f)), some (.int z), none, none, none], [.int (-102)], (zw_C g2 gl a2 al1))) 1 rfl ?_
              exact zr_ret rfl trivial ⟨rfl, g2, gl, a2, al1, _, _, rfl, hK2, hr2⟩
        · skip
          have hy := zb_0n _ h3
          refine zr_go (t := (28, [some (.ref 0), some (.int x), some (.int y), some (.int z), none, none, none], [.int (-101)], (zw_C g2 gl a2 al1))) 1 rfl ?_
          exact zr_ret rfl trivial ⟨by rw [if_neg (fun q => by rw [hy] at q; exact absurd q.2 (by decide))], g2, gl, a2, al1, _, _, rfl, hK2, hr2⟩
  · skip
    have hj := zb_0n _ h1
    rw [if_neg (by rw [hj]; decide)]
    refine zr_go (t := (9, [some (.ref 0), some (.int x), some (.int y), some (.int z), none, none, none], [.int (-103)], (zw_C g1 gl a1 al1))) 1 rfl ?_
    exact zr_ret rfl trivial ⟨rfl, g1, gl, a1, al1, _, _, rfl, hK1, hr1⟩
