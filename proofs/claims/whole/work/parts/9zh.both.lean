/-! the two worlds together; methods that leave the state as it is (written by wip/whole/gen_r1.py) -/
/-- the reference's world holds this state -/
def zMW (w : List zm_E) (P N : Nat) (c : Nat → Nat) (nn : Nat → Nat) (ff : Nat → Nat → Nat) (n : Nat) (cd : Nat → Nat) (K M : Nat) (e : Nat → Nat) (fr fi wa : Nat) : Prop := ∃ (g : Nat → Int32) (gl : Nat → Int64) (a : Nat → Nat → Int32) (al : Nat → Nat → Int64) (c2 e2 m0 : Nat → Nat), w = zw_M g gl a al ∧ zc_E N c2 c ∧ zc_E M e2 e ∧ zS_F g a P N c2 ∧ zS_l a nn ff ∧ zS_p g a n cd ∧ zS_k g a K M e2 ∧ (g 3 = nI fr ∧ g 36 = nI fi ∧ g 37 = nI wa) ∧ ((∀ k, k < 36 → a 1 k = nI (c2 k)) ∧ ∀ k, k < 36 → c2 k ≤ 4) ∧ (∀ k, k < 36 → a 23 k = nI (m0 k)) ∧ ∀ k, k < 36 → m0 k ≤ 4
/-- the two worlds hold the same -/
def zREL (wC wM : List zm_E) : Prop := ∃ (P N : Nat) (c : Nat → Nat) (n0 : Nat) (e0 : Nat → Nat) (n1 : Nat) (e1 : Nat → Nat) (n : Nat) (cd : Nat → Nat) (K M : Nat) (e : Nat → Nat) (fr fi wa : Nat) (nn : Nat → Nat) (ff : Nat → Nat → Nat), zKW wC P N c n0 e0 n1 e1 n cd K M e fr fi wa ∧ zMW wM P N c nn ff n cd K M e fr fi wa ∧ zlst P N c nn ff n0 e0 n1 e1 ∧ (zw_sound P N c = true → zdj (zj_p P N c) n0 e0 ∧ zdj (zj_m P N c) n1 e1) ∧ fi ≤ 20 ∧ wa ≤ 12
/-- both calls go through, with the same answer -/
def zgo (kC kM : Nat) (as : List Value) (wC wM : List zm_E) : Prop := ∃ (r : Int32) (wC' wM' : List zm_E), zm_ev zt_get 46 kC (.ref 0 :: as) wC (some (.int r)) wC' ∧ zm_ev zt_get 46 kM (.ref 0 :: as) wM (some (.int r)) wM' ∧ zREL wC' wM'
theorem zgo_mk {kC kM dC dM : Nat} {as : List Value} {wC wM : List zm_E} {QC QM : Option Value → List zm_E → Prop} (hC : zm_Ev zt_get dC kC (.ref 0 :: as) wC QC) (hM : zm_Ev zt_get dM kM (.ref 0 :: as) wM QM) (hdC : dC ≤ 46) (hdM : dM ≤ 46) (h : ∀ v wC' u wM', QC v wC' → QM u wM' → ∃ r, v = some (.int r) ∧ u = some (.int r) ∧ zREL wC' wM') : zgo kC kM as wC wM := by
  obtain ⟨v, wC', h1, h2⟩ := hC
  obtain ⟨u, wM', h3, h4⟩ := hM
  obtain ⟨r, rfl, rfl, h5⟩ := h v wC' u wM' h2 h4
  exact ⟨r, wC', wM', zm_ev_le hdC h1, zm_ev_le hdM h3, h5⟩
theorem zKW_ok {w : List zm_E} {P N : Nat} {c : Nat → Nat} {n0 : Nat} {e0 : Nat → Nat} {n1 : Nat} {e1 : Nat → Nat} {n : Nat} {cd : Nat → Nat} {K M : Nat} {e : Nat → Nat} {fr fi wa : Nat} (h : zKW w P N c n0 e0 n1 e1 n cd K M e fr fi wa) : (0 < P → zv_ok P N ∧ ∀ k l, k < N → l < N → zx_S c k l < P) ∧ (P = 0 → N = 0) ∧ (0 < K → zv_ok K M) ∧ (K = 0 → M = 0) := by
  obtain ⟨g, gl, a, al, sv, bt, -, ⟨-, -, -, -, -, -, -, h1⟩, -, ⟨-, -, -, h2⟩, -⟩ := h
  refine ⟨fun hP => ?_, fun hP => ?_, fun hK => ?_, fun hK => ?_⟩
  · rcases h1 with ⟨q, -⟩ | ⟨⟨hok, -, hcP, -⟩, -⟩
    · omega
    · exact ⟨hok, hcP⟩
  · rcases h1 with ⟨-, q, -⟩ | ⟨⟨hok, -⟩, -⟩
    · exact q
    · have := (zv_P5 hok.1).1; omega
  · rcases h2 with ⟨q, -⟩ | ⟨hok, -⟩
    · omega
    · exact hok
  · rcases h2 with ⟨-, q⟩ | ⟨hok, -⟩
    · exact q
    · have := (zv_P5 hok.1).1; omega
theorem zent {P N : Nat} {c : Nat → Nat} {nn : Nat → Nat} {ff : Nat → Nat → Nat} {n0 n1 : Nat} {e0 e1 : Nat → Nat} (hl : zlst P N c nn ff n0 e0 n1 e1) : ∀ q, q < 2 → ∀ k, k < nn q → zw_ent P N c q (ff q k) := by
  obtain ⟨l0, l1, l2, l3⟩ := hl
  intro q hq k hk
  unfold zw_ent
  rcases (show q = 0 ∨ q = 1 by omega) with e | e
  · subst e
    rw [if_pos rfl, (l2 k (by omega)).2]
    have := zj_x_ok (l2 k (by omega)).1
    exact ⟨this.1, this.2.1⟩
  · subst e
    rw [if_neg (by decide), (l3 k (by omega)).2]
    exact (l3 k (by omega)).1
theorem zR_fault {wC wM : List zm_E} (h : zREL wC wM) : zgo 58 116 [] wC wM := by
  obtain ⟨P, N, c, n0, e0, n1, e1, n, cd, K, M, e, fr, fi, wa, nn, ff, hK, hM, hl, hd, hfi, hwa⟩ := h
  have hh := zKW_ok hK
  obtain ⟨g, gl, a, al, c2, e2, m0, rfl, hE, hE2, hS, hsl, hp, hk, ⟨hn1, hn2, hn3⟩, hc1, hm1⟩ := hM
  refine zgo_mk (zp_C_fault wC P N c n0 e0 n1 e1 n cd K M e fr fi wa hK) (zs_M_fault g gl a al n cd hp) (Nat.le_of_ble_eq_true rfl : 4 ≤ 46) (Nat.le_of_ble_eq_true rfl : 5 ≤ 46) ?_
  rintro v wC2 u wM2 ⟨rfl, hK2⟩ ⟨rfl, x16, m, r, d, f8, rfl⟩
  refine ⟨_, rfl, rfl, P, N, c, n0, e0, n1, e1, n, cd, K, M, e, fr, fi, wa, nn, ff, hK2, ?_, hl, hd, hfi, hwa⟩
  exact ⟨upd (upd (upd (upd g 16 x16) 17 (nI m)) 18 (nI r)) 19 (nI d), gl, va_up a 8 f8, al, c2, e2, m0, rfl, hE, hE2, hS, hsl, hp, hk, ⟨hn1, hn2, hn3⟩, hc1, hm1⟩
theorem zR_about {wC wM : List zm_E} (h : zREL wC wM) (x : Int32) : zgo 60 157 [.int x] wC wM := by
  obtain ⟨P, N, c, n0, e0, n1, e1, n, cd, K, M, e, fr, fi, wa, nn, ff, hK, hM, hl, hd, hfi, hwa⟩ := h
  have hh := zKW_ok hK
  obtain ⟨g, gl, a, al, c2, e2, m0, rfl, hE, hE2, hS, hsl, hp, hk, ⟨hn1, hn2, hn3⟩, hc1, hm1⟩ := hM
  refine zgo_mk (zp_C_about wC P N c n0 e0 n1 e1 n cd K M e fr fi wa hK x) (zs_M_about g gl a al zG_ok P N c2 hS x) (Nat.le_of_ble_eq_true rfl : 6 ≤ 46) (Nat.le_of_ble_eq_true rfl : 6 ≤ 46) ?_
  rintro v wC2 u wM2 ⟨rfl, hK2⟩ ⟨rfl, f, rfl⟩
  refine ⟨_, rfl, by rw [zb_about (fun q => (hh.1 q).1), aw_about_E hE], P, N, c, n0, e0, n1, e1, n, cd, K, M, e, fr, fi, wa, nn, ff, hK2, ?_, hl, hd, hfi, hwa⟩
  exact ⟨g, gl, va_up a 15 f, al, c2, e2, m0, rfl, hE, hE2, hS, hsl, hp, hk, ⟨hn1, hn2, hn3⟩, hc1, hm1⟩
theorem zR_coefficient {wC wM : List zm_E} (h : zREL wC wM) (x y : Int32) : zgo 61 160 [.int x, .int y] wC wM := by
  obtain ⟨P, N, c, n0, e0, n1, e1, n, cd, K, M, e, fr, fi, wa, nn, ff, hK, hM, hl, hd, hfi, hwa⟩ := h
  have hh := zKW_ok hK
  obtain ⟨g, gl, a, al, c2, e2, m0, rfl, hE, hE2, hS, hsl, hp, hk, ⟨hn1, hn2, hn3⟩, hc1, hm1⟩ := hM
  refine zgo_mk (zp_C_coefficient wC P N c n0 e0 n1 e1 n cd K M e fr fi wa hK x y) (zs_M_coefficient g gl a al P N c2 hS x y) (Nat.le_of_ble_eq_true rfl : 2 ≤ 46) (Nat.le_of_ble_eq_true rfl : 3 ≤ 46) ?_
  rintro v wC2 u wM2 ⟨rfl, hK2⟩ ⟨rfl, rfl⟩
  refine ⟨_, rfl, by rw [zb_coef hh.2.1, aw_coef_E hE], P, N, c, n0, e0, n1, e1, n, cd, K, M, e, fr, fi, wa, nn, ff, hK2, ?_, hl, hd, hfi, hwa⟩
  exact ⟨g, gl, a, al, c2, e2, m0, rfl, hE, hE2, hS, hsl, hp, hk, ⟨hn1, hn2, hn3⟩, hc1, hm1⟩
theorem zR_point {wC wM : List zm_E} (h : zREL wC wM) (x y : Int32) : zgo 62 162 [.int x, .int y] wC wM := by
  obtain ⟨P, N, c, n0, e0, n1, e1, n, cd, K, M, e, fr, fi, wa, nn, ff, hK, hM, hl, hd, hfi, hwa⟩ := h
  have hh := zKW_ok hK
  obtain ⟨g, gl, a, al, c2, e2, m0, rfl, hE, hE2, hS, hsl, hp, hk, ⟨hn1, hn2, hn3⟩, hc1, hm1⟩ := hM
  refine zgo_mk (zp_C_point wC P N c n0 e0 n1 e1 n cd K M e fr fi wa hK x y) (zs_M_point g gl a al P N c2 hS x y) (Nat.le_of_ble_eq_true rfl : 6 ≤ 46) (Nat.le_of_ble_eq_true rfl : 3 ≤ 46) ?_
  rintro v wC2 u wM2 ⟨rfl, hK2⟩ ⟨rfl, rfl⟩
  refine ⟨_, rfl, by rw [zb_point], P, N, c, n0, e0, n1, e1, n, cd, K, M, e, fr, fi, wa, nn, ff, hK2, ?_, hl, hd, hfi, hwa⟩
  exact ⟨g, gl, a, al, c2, e2, m0, rfl, hE, hE2, hS, hsl, hp, hk, ⟨hn1, hn2, hn3⟩, hc1, hm1⟩
theorem zR_value {wC wM : List zm_E} (h : zREL wC wM) (x : Int32) : zgo 63 163 [.int x] wC wM := by
  obtain ⟨P, N, c, n0, e0, n1, e1, n, cd, K, M, e, fr, fi, wa, nn, ff, hK, hM, hl, hd, hfi, hwa⟩ := h
  have hh := zKW_ok hK
  obtain ⟨g, gl, a, al, c2, e2, m0, rfl, hE, hE2, hS, hsl, hp, hk, ⟨hn1, hn2, hn3⟩, hc1, hm1⟩ := hM
  refine zgo_mk (zp_C_value wC P N c n0 e0 n1 e1 n cd K M e fr fi wa hK x) (zs_M_value g gl a al P N c2 hS x) (Nat.le_of_ble_eq_true rfl : 6 ≤ 46) (Nat.le_of_ble_eq_true rfl : 3 ≤ 46) ?_
  rintro v wC2 u wM2 ⟨rfl, hK2⟩ ⟨rfl, f, rfl⟩
  refine ⟨_, rfl, by rw [zb_value, aw_value_E hE], P, N, c, n0, e0, n1, e1, n, cd, K, M, e, fr, fi, wa, nn, ff, hK2, ?_, hl, hd, hfi, hwa⟩
  exact ⟨g, gl, va_up a 9 f, al, c2, e2, m0, rfl, hE, hE2, hS, hsl, hp, hk, ⟨hn1, hn2, hn3⟩, hc1, hm1⟩
theorem zR_polar {wC wM : List zm_E} (h : zREL wC wM) (x y : Int32) : zgo 64 164 [.int x, .int y] wC wM := by
  obtain ⟨P, N, c, n0, e0, n1, e1, n, cd, K, M, e, fr, fi, wa, nn, ff, hK, hM, hl, hd, hfi, hwa⟩ := h
  have hh := zKW_ok hK
  obtain ⟨g, gl, a, al, c2, e2, m0, rfl, hE, hE2, hS, hsl, hp, hk, ⟨hn1, hn2, hn3⟩, hc1, hm1⟩ := hM
  refine zgo_mk (zp_C_polar wC P N c n0 e0 n1 e1 n cd K M e fr fi wa hK x y) (zs_M_polar g gl a al P N c2 hS x y) (Nat.le_of_ble_eq_true rfl : 6 ≤ 46) (Nat.le_of_ble_eq_true rfl : 4 ≤ 46) ?_
  rintro v wC2 u wM2 ⟨rfl, hK2⟩ ⟨rfl, f1, f2, f3, rfl⟩
  refine ⟨_, rfl, by rw [zb_polar (fun q => (hh.1 q).1), aw_polar_E hE], P, N, c, n0, e0, n1, e1, n, cd, K, M, e, fr, fi, wa, nn, ff, hK2, ?_, hl, hd, hfi, hwa⟩
  exact ⟨g, gl, va_up (va_up (va_up a 9 f1) 10 f2) 11 f3, al, c2, e2, m0, rfl, hE, hE2, hS, hsl, hp, hk, ⟨hn1, hn2, hn3⟩, hc1, hm1⟩
theorem zR_joined {wC wM : List zm_E} (h : zREL wC wM) (x y : Int32) : zgo 65 165 [.int x, .int y] wC wM := by
  obtain ⟨P, N, c, n0, e0, n1, e1, n, cd, K, M, e, fr, fi, wa, nn, ff, hK, hM, hl, hd, hfi, hwa⟩ := h
  have hh := zKW_ok hK
  obtain ⟨g, gl, a, al, c2, e2, m0, rfl, hE, hE2, hS, hsl, hp, hk, ⟨hn1, hn2, hn3⟩, hc1, hm1⟩ := hM
  refine zgo_mk (zp_C_joined wC P N c n0 e0 n1 e1 n cd K M e fr fi wa hK x y) (zs_M_joined g gl a al P N c2 hS x y) (Nat.le_of_ble_eq_true rfl : 6 ≤ 46) (Nat.le_of_ble_eq_true rfl : 5 ≤ 46) ?_
  rintro v wC2 u wM2 ⟨rfl, hK2⟩ ⟨rfl, f, rfl⟩
  refine ⟨_, rfl, by rw [zb_joined (fun q => (hh.1 q).1), aw_joined_E hE], P, N, c, n0, e0, n1, e1, n, cd, K, M, e, fr, fi, wa, nn, ff, hK2, ?_, hl, hd, hfi, hwa⟩
  exact ⟨g, gl, va_up a 12 f, al, c2, e2, m0, rfl, hE, hE2, hS, hsl, hp, hk, ⟨hn1, hn2, hn3⟩, hc1, hm1⟩
theorem zR_section {wC wM : List zm_E} (h : zREL wC wM) (x y : Int32) : zgo 66 170 [.int x, .int y] wC wM := by
  obtain ⟨P, N, c, n0, e0, n1, e1, n, cd, K, M, e, fr, fi, wa, nn, ff, hK, hM, hl, hd, hfi, hwa⟩ := h
  have hh := zKW_ok hK
  obtain ⟨g, gl, a, al, c2, e2, m0, rfl, hE, hE2, hS, hsl, hp, hk, ⟨hn1, hn2, hn3⟩, hc1, hm1⟩ := hM
  refine zgo_mk (zp_C_section wC P N c n0 e0 n1 e1 n cd K M e fr fi wa hK x y) (zs_M_section g gl a al P N c2 hS x y) (Nat.le_of_ble_eq_true rfl : 6 ≤ 46) (Nat.le_of_ble_eq_true rfl : 7 ≤ 46) ?_
  rintro v wC2 u wM2 ⟨rfl, hK2⟩ ⟨rfl, f1, f2, f3, rfl⟩
  refine ⟨_, rfl, by rw [zb_section (fun q => (hh.1 q).1), aw_section_E hE], P, N, c, n0, e0, n1, e1, n, cd, K, M, e, fr, fi, wa, nn, ff, hK2, ?_, hl, hd, hfi, hwa⟩
  exact ⟨g, gl, va_up (va_up (va_up a 9 f1) 10 f2) 11 f3, al, c2, e2, m0, rfl, hE, hE2, hS, hsl, hp, hk, ⟨hn1, hn2, hn3⟩, hc1, hm1⟩
theorem zR_flats {wC wM : List zm_E} (h : zREL wC wM) (x : Int32) : zgo 67 171 [.int x] wC wM := by
  obtain ⟨P, N, c, n0, e0, n1, e1, n, cd, K, M, e, fr, fi, wa, nn, ff, hK, hM, hl, hd, hfi, hwa⟩ := h
  have hh := zKW_ok hK
  obtain ⟨g, gl, a, al, c2, e2, m0, rfl, hE, hE2, hS, hsl, hp, hk, ⟨hn1, hn2, hn3⟩, hc1, hm1⟩ := hM
  refine zgo_mk (zp_C_flats wC P N c n0 e0 n1 e1 n cd K M e fr fi wa hK zJ_ok x) (zs_M_flats g gl a al zG_ok P N c2 hS x) (Nat.le_of_ble_eq_true rfl : 6 ≤ 46) (Nat.le_of_ble_eq_true rfl : 2 ≤ 46) ?_
  rintro v wC2 u wM2 ⟨rfl, hK2⟩ ⟨rfl, rfl⟩
  refine ⟨_, rfl, by rw [zb_flats (fun q => (hh.1 q).1), aw_flats_E hE], P, N, c, n0, e0, n1, e1, n, cd, K, M, e, fr, fi, wa, nn, ff, hK2, ?_, hl, hd, hfi, hwa⟩
  exact ⟨g, gl, a, al, c2, e2, m0, rfl, hE, hE2, hS, hsl, hp, hk, ⟨hn1, hn2, hn3⟩, hc1, hm1⟩
theorem zR_flat {wC wM : List zm_E} (h : zREL wC wM) (x y z : Int32) : zgo 68 172 [.int x, .int y, .int z] wC wM := by
  obtain ⟨P, N, c, n0, e0, n1, e1, n, cd, K, M, e, fr, fi, wa, nn, ff, hK, hM, hl, hd, hfi, hwa⟩ := h
  have hh := zKW_ok hK
  obtain ⟨g, gl, a, al, c2, e2, m0, rfl, hE, hE2, hS, hsl, hp, hk, ⟨hn1, hn2, hn3⟩, hc1, hm1⟩ := hM
  refine zgo_mk (zp_C_flat wC P N c n0 e0 n1 e1 n cd K M e fr fi wa hK zJ_ok zJ2_ok x y z) (zs_M_flat g gl a al zG_ok P N c2 hS x y z) (Nat.le_of_ble_eq_true rfl : 6 ≤ 46) (Nat.le_of_ble_eq_true rfl : 3 ≤ 46) ?_
  rintro v wC2 u wM2 ⟨rfl, hK2⟩ ⟨rfl, rfl⟩
  refine ⟨_, rfl, by rw [zb_flat (fun q => (hh.1 q).1), aw_flat_E hE], P, N, c, n0, e0, n1, e1, n, cd, K, M, e, fr, fi, wa, nn, ff, hK2, ?_, hl, hd, hfi, hwa⟩
  exact ⟨g, gl, a, al, c2, e2, m0, rfl, hE, hE2, hS, hsl, hp, hk, ⟨hn1, hn2, hn3⟩, hc1, hm1⟩
theorem zR_near {wC wM : List zm_E} (h : zREL wC wM) (x y z : Int32) : zgo 69 176 [.int x, .int y, .int z] wC wM := by
  obtain ⟨P, N, c, n0, e0, n1, e1, n, cd, K, M, e, fr, fi, wa, nn, ff, hK, hM, hl, hd, hfi, hwa⟩ := h
  have hh := zKW_ok hK
  obtain ⟨g, gl, a, al, c2, e2, m0, rfl, hE, hE2, hS, hsl, hp, hk, ⟨hn1, hn2, hn3⟩, hc1, hm1⟩ := hM
  refine zgo_mk (zp_C_near wC P N c n0 e0 n1 e1 n cd K M e fr fi wa hK zJ_ok x y z) (zs_M_near g gl a al zG_ok P N c2 hS x y z) (Nat.le_of_ble_eq_true rfl : 7 ≤ 46) (Nat.le_of_ble_eq_true rfl : 6 ≤ 46) ?_
  rintro v wC2 u wM2 ⟨rfl, hK2⟩ ⟨rfl, f, rfl⟩
  refine ⟨_, rfl, by rw [zb_near (fun q => (hh.1 q).1), aw_near_E hE], P, N, c, n0, e0, n1, e1, n, cd, K, M, e, fr, fi, wa, nn, ff, hK2, ?_, hl, hd, hfi, hwa⟩
  exact ⟨g, gl, va_up a 12 f, al, c2, e2, m0, rfl, hE, hE2, hS, hsl, hp, hk, ⟨hn1, hn2, hn3⟩, hc1, hm1⟩
theorem zR_chosen {wC wM : List zm_E} (h : zREL wC wM) (x y : Int32) : zgo 73 184 [.int x, .int y] wC wM := by
  obtain ⟨P, N, c, n0, e0, n1, e1, n, cd, K, M, e, fr, fi, wa, nn, ff, hK, hM, hl, hd, hfi, hwa⟩ := h
  have hh := zKW_ok hK
  obtain ⟨g, gl, a, al, c2, e2, m0, rfl, hE, hE2, hS, hsl, hp, hk, ⟨hn1, hn2, hn3⟩, hc1, hm1⟩ := hM
  refine zgo_mk (zp_C_chosen wC P N c n0 e0 n1 e1 n cd K M e fr fi wa hK x y) (zs_M_chosen g gl a al nn ff hsl x y) (Nat.le_of_ble_eq_true rfl : 2 ≤ 46) (Nat.le_of_ble_eq_true rfl : 3 ≤ 46) ?_
  rintro v wC2 u wM2 ⟨rfl, hK2⟩ ⟨rfl, rfl⟩
  refine ⟨_, rfl, by rw [zb_chosen hl]; rfl, P, N, c, n0, e0, n1, e1, n, cd, K, M, e, fr, fi, wa, nn, ff, hK2, ?_, hl, hd, hfi, hwa⟩
  exact ⟨g, gl, a, al, c2, e2, m0, rfl, hE, hE2, hS, hsl, hp, hk, ⟨hn1, hn2, hn3⟩, hc1, hm1⟩
theorem zR_left {wC wM : List zm_E} (h : zREL wC wM) (x : Int32) : zgo 74 188 [.int x] wC wM := by
  obtain ⟨P, N, c, n0, e0, n1, e1, n, cd, K, M, e, fr, fi, wa, nn, ff, hK, hM, hl, hd, hfi, hwa⟩ := h
  have hh := zKW_ok hK
  obtain ⟨g, gl, a, al, c2, e2, m0, rfl, hE, hE2, hS, hsl, hp, hk, ⟨hn1, hn2, hn3⟩, hc1, hm1⟩ := hM
  refine zgo_mk (zp_C_left wC P N c n0 e0 n1 e1 n cd K M e fr fi wa hK zJ_ok x) (zs_M_left g gl a al zG_ok P N c2 hS nn ff hsl (fun _ => by rw [zw_ent_E hE]; exact zent hl) x) (Nat.le_of_ble_eq_true rfl : 6 ≤ 46) (Nat.le_of_ble_eq_true rfl : 7 ≤ 46) ?_
  rintro v wC2 u wM2 ⟨rfl, hK2⟩ ⟨rfl, rfl⟩
  refine ⟨_, rfl, by rw [zb_left (fun q => (hh.1 q).1) hl, aw_left_E hE], P, N, c, n0, e0, n1, e1, n, cd, K, M, e, fr, fi, wa, nn, ff, hK2, ?_, hl, hd, hfi, hwa⟩
  exact ⟨g, gl, a, al, c2, e2, m0, rfl, hE, hE2, hS, hsl, hp, hk, ⟨hn1, hn2, hn3⟩, hc1, hm1⟩
theorem zR_like {wC wM : List zm_E} (h : zREL wC wM) : zgo 84 206 [] wC wM := by
  obtain ⟨P, N, c, n0, e0, n1, e1, n, cd, K, M, e, fr, fi, wa, nn, ff, hK, hM, hl, hd, hfi, hwa⟩ := h
  have hh := zKW_ok hK
  obtain ⟨g, gl, a, al, c2, e2, m0, rfl, hE, hE2, hS, hsl, hp, hk, ⟨hn1, hn2, hn3⟩, hc1, hm1⟩ := hM
  refine zgo_mk (zp_C_like wC P N c n0 e0 n1 e1 n cd K M e fr fi wa hK) (zs_M_like g gl a al zG_ok P N c2 hS K M e2 hk) (Nat.le_of_ble_eq_true rfl : 6 ≤ 46) (Nat.le_of_ble_eq_true rfl : 5 ≤ 46) ?_
  rintro v wC2 u wM2 ⟨rfl, hK2⟩ ⟨rfl, f, rfl⟩
  refine ⟨_, rfl, by rw [zb_like (fun q => (hh.1 q).1) hh.2.2.1 hh.2.2.2, aw_like_E hE hE2], P, N, c, n0, e0, n1, e1, n, cd, K, M, e, fr, fi, wa, nn, ff, hK2, ?_, hl, hd, hfi, hwa⟩
  exact ⟨g, gl, va_up a 15 f, al, c2, e2, m0, rfl, hE, hE2, hS, hsl, hp, hk, ⟨hn1, hn2, hn3⟩, hc1, hm1⟩
theorem zR_drawn {wC wM : List zm_E} (h : zREL wC wM) (x y z : Int32) : zgo 85 209 [.int x, .int y, .int z] wC wM := by
  obtain ⟨P, N, c, n0, e0, n1, e1, n, cd, K, M, e, fr, fi, wa, nn, ff, hK, hM, hl, hd, hfi, hwa⟩ := h
  have hh := zKW_ok hK
  obtain ⟨g, gl, a, al, c2, e2, m0, rfl, hE, hE2, hS, hsl, hp, hk, ⟨hn1, hn2, hn3⟩, hc1, hm1⟩ := hM
  refine zgo_mk (zp_C_drawn wC P N c n0 e0 n1 e1 n cd K M e fr fi wa hK x y z) (zs_M_drawn g gl a al P N c2 hS x y z) (Nat.le_of_ble_eq_true rfl : 6 ≤ 46) (Nat.le_of_ble_eq_true rfl : 6 ≤ 46) ?_
  rintro v wC2 u wM2 ⟨rfl, hK2⟩ ⟨rfl, s, f, rfl⟩
  refine ⟨_, rfl, by rw [zb_drawn (fun q => (hh.1 q).1), aw_drawn_E hE], P, N, c, n0, e0, n1, e1, n, cd, K, M, e, fr, fi, wa, nn, ff, hK2, ?_, hl, hd, hfi, hwa⟩
  exact ⟨g, vp_updL gl 45 s, va_up a 12 f, al, c2, e2, m0, rfl, hE, hE2, hS, hsl, hp, hk, ⟨hn1, hn2, hn3⟩, hc1, hm1⟩
theorem zR_count {wC wM : List zm_E} (h : zREL wC wM) (x : Int32) : zgo 86 211 [.int x] wC wM := by
  obtain ⟨P, N, c, n0, e0, n1, e1, n, cd, K, M, e, fr, fi, wa, nn, ff, hK, hM, hl, hd, hfi, hwa⟩ := h
  have hh := zKW_ok hK
  obtain ⟨g, gl, a, al, c2, e2, m0, rfl, hE, hE2, hS, hsl, hp, hk, ⟨hn1, hn2, hn3⟩, hc1, hm1⟩ := hM
  refine zgo_mk (zp_C_count wC P N c n0 e0 n1 e1 n cd K M e fr fi wa hK zJ_ok x) (zs_M_count g gl a al zG_ok P N c2 hS nn ff hsl x) (Nat.le_of_ble_eq_true rfl : 6 ≤ 46) (Nat.le_of_ble_eq_true rfl : 4 ≤ 46) ?_
  rintro v wC2 u wM2 ⟨rfl, hK2⟩ ⟨rfl, rfl⟩
  refine ⟨_, rfl, by rw [zb_count (fun q => (hh.1 q).1) hl.1 hl.2.1, aw_count_E hE, hp.1, hn1, hn2, hn3], P, N, c, n0, e0, n1, e1, n, cd, K, M, e, fr, fi, wa, nn, ff, hK2, ?_, hl, hd, hfi, hwa⟩
  exact ⟨g, gl, a, al, c2, e2, m0, rfl, hE, hE2, hS, hsl, hp, hk, ⟨hn1, hn2, hn3⟩, hc1, hm1⟩
def zgoL (kC kM : Nat) (as : List Value) (wC wM : List zm_E) : Prop := ∃ (r : Int64) (wC' wM' : List zm_E), zm_ev zt_get 46 kC (.ref 0 :: as) wC (some (.long r)) wC' ∧ zm_ev zt_get 46 kM (.ref 0 :: as) wM (some (.long r)) wM' ∧ zREL wC' wM'
theorem zR_digest {wC wM : List zm_E} (h : zREL wC wM) : zgoL 87 215 [] wC wM := by
  obtain ⟨P, N, c, n0, e0, n1, e1, n, cd, K, M, e, fr, fi, wa, nn, ff, hK, hM, hl, hd, hfi, hwa⟩ := h
  have hh := zKW_ok hK
  obtain ⟨g, gl, a, al, c2, e2, m0, rfl, hE, hE2, hS, hsl, hp, hk, ⟨hn1, hn2, hn3⟩, hc1, hm1⟩ := hM
  obtain ⟨v, wC2, h1, rfl, hK2⟩ := zp_C_digest wC P N c n0 e0 n1 e1 n cd K M e fr fi wa hK zJ_ok zJ2_ok
  obtain ⟨u, wM2, h3, rfl, h', f9, f15, rfl⟩ := zs_M_digest g gl a al zG_ok P N c2 hS nn ff hsl (fun _ => by rw [zw_ent_E hE]; exact zent hl) n cd hp
  have e5 : ac_digest P N c n0 e0 n1 e1 n cd fr fi wa = aw_digest P N c2 nn ff n cd (g 4) (g 3) (g 36) (g 37) := by rw [zb_digest (fun q => (hh.1 q).1) hl, aw_digest_E hE, hp.1, hn1, hn2, hn3]
  rw [← e5] at h3
  refine ⟨_, _, _, zm_ev_le (Nat.le_of_ble_eq_true rfl : 8 ≤ 46) h1, zm_ev_le (Nat.le_of_ble_eq_true rfl : 9 ≤ 46) h3, P, N, c, n0, e0, n1, e1, n, cd, K, M, e, fr, fi, wa, nn, ff, hK2, ?_, hl, hd, hfi, hwa⟩
  exact ⟨g, vp_updL gl 46 h', va_up (va_up a 9 f9) 15 f15, al, c2, e2, m0, rfl, hE, hE2, hS, hsl, hp, hk, ⟨hn1, hn2, hn3⟩, hc1, hm1⟩
