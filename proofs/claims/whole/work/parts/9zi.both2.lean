/-! letter, blank, pick, gather, drop, finish, ways: both together (written by wip/whole/gen_r2.py) -/
theorem zR_letter {wC wM : List zm_E} (h : zREL wC wM) (x : Int32) : zgo 56 109 [.int x] wC wM := by
  obtain ⟨P, N, c, n0, e0, n1, e1, n, cd, K, M, e, fr, fi, wa, nn, ff, hK, hM, hl, hd, hfi, hwa⟩ := h
  have hh := zKW_ok hK
  obtain ⟨g, gl, a, al, c2, e2, m0, rfl, hE, hE2, hS, hsl, hp, hk, ⟨hn1, hn2, hn3⟩, hc1, hm1⟩ := hM
  refine zgo_mk (zp_C_letter wC P N c n0 e0 n1 e1 n cd K M e fr fi wa hK x) (zs_M_letter g gl a al x n hp.1 hp.2.1) (Nat.le_of_ble_eq_true rfl : 2 ≤ 46) (Nat.le_of_ble_eq_true rfl : 2 ≤ 46) ?_
  rintro v wC2 u wM2 ⟨rfl, hK2⟩ (⟨q1, rfl, rfl⟩ | ⟨q1, q2, rfl, rfl⟩ | ⟨q1, q2, rfl, rfl⟩)
  · have a1 : zt_ln n x = n := if_neg (fun z => q1 z.1)
    have a2 : zt_lc n cd x = cd := if_neg (fun z => q1 z.1)
    rw [a1, a2] at hK2
    exact ⟨-102, by rw [aw_letter, if_neg q1], rfl, P, N, c, n0, e0, n1, e1, n, cd, K, M, e, fr, fi, wa, nn, ff, hK2, ⟨g, gl, a, al, c2, e2, m0, rfl, hE, hE2, hS, hsl, hp, hk, ⟨hn1, hn2, hn3⟩, hc1, hm1⟩, hl, hd, hfi, hwa⟩
  · have a1 : zt_ln n x = n := if_neg (fun z => by omega)
    have a2 : zt_lc n cd x = cd := if_neg (fun z => by omega)
    rw [a1, a2] at hK2
    exact ⟨-104, by rw [aw_letter, if_pos q1, if_neg (by omega)], rfl, P, N, c, n0, e0, n1, e1, n, cd, K, M, e, fr, fi, wa, nn, ff, hK2, ⟨g, gl, a, al, c2, e2, m0, rfl, hE, hE2, hS, hsl, hp, hk, ⟨hn1, hn2, hn3⟩, hc1, hm1⟩, hl, hd, hfi, hwa⟩
  · have a1 : zt_ln n x = n + 1 := if_pos ⟨q1, q2⟩
    rw [a1] at hK2
    obtain ⟨b1, b2⟩ := zt_pg q1 q2 hp.2.2.1 hp.2.2.2
    exact ⟨nI (n + 1), by rw [aw_letter, if_pos q1, if_pos q2], rfl, P, N, c, n0, e0, n1, e1, n + 1, zt_lc n cd x, K, M, e, fr, fi, wa, nn, ff, hK2, ⟨upd g 4 (nI (n + 1)), gl, va_up a 2 (upd (a 2) n x), al, c2, e2, m0, rfl, hE, hE2, hS, hsl, ⟨rfl, by omega, b1, b2⟩, hk, ⟨hn1, hn2, hn3⟩, hc1, hm1⟩, hl, hd, hfi, hwa⟩
theorem zR_blank {wC wM : List zm_E} (h : zREL wC wM) : zgo 57 110 [] wC wM := by
  obtain ⟨P, N, c, n0, e0, n1, e1, n, cd, K, M, e, fr, fi, wa, nn, ff, hK, hM, hl, hd, hfi, hwa⟩ := h
  have hh := zKW_ok hK
  obtain ⟨g, gl, a, al, c2, e2, m0, rfl, hE, hE2, hS, hsl, hp, hk, ⟨hn1, hn2, hn3⟩, hc1, hm1⟩ := hM
  refine zgo_mk (zp_C_blank wC P N c n0 e0 n1 e1 n cd K M e fr fi wa hK) (zs_M_blank g gl a al) (Nat.le_of_ble_eq_true rfl : 1 ≤ 46) (Nat.le_of_ble_eq_true rfl : 1 ≤ 46) ?_
  rintro v wC2 u wM2 ⟨rfl, hK2⟩ ⟨rfl, rfl⟩
  refine ⟨nI n, rfl, by rw [hp.1], P, N, c, n0, e0, n1, e1, 0, cd, K, M, e, fr, fi, wa, nn, ff, hK2, ⟨upd g 4 0, gl, a, al, c2, e2, m0, rfl, hE, hE2, hS, hsl, ⟨rfl, by omega, fun k q => absurd q (Nat.not_lt_zero k), fun k q => absurd q (Nat.not_lt_zero k)⟩, hk, ⟨hn1, hn2, hn3⟩, hc1, hm1⟩, hl, hd, hfi, hwa⟩
theorem zn40 {P N : Nat} {c : Nat → Nat} {nn : Nat → Nat} {ff : Nat → Nat → Nat} {n0 n1 : Nat} {e0 e1 : Nat → Nat} (h : 0 < P → zv_ok P N) (hl : zlst P N c nn ff n0 e0 n1 e1) (hd : zw_sound P N c = true → zdj (zj_p P N c) n0 e0 ∧ zdj (zj_m P N c) n1 e1) (hs : zw_sound P N c = true) : n0 ≤ 40 ∧ n1 ≤ 40 := by
  obtain ⟨hok, hNS, h0⟩ := zok_NS h hs
  obtain ⟨m, h1⟩ := zsd_0 hok hNS h0
  obtain ⟨m2, h2⟩ := zsd_1 hok hNS h0
  exact ⟨zsd_40 h1 (fun k hk => (hl.2.2.1 k hk).1) (hd hs).1, zsd_40 h2 (fun k hk => (hl.2.2.2 k hk).1) (hd hs).2⟩
def zff (nn : Nat → Nat) (ff : Nat → Nat → Nat) (q v : Nat) : Nat → Nat → Nat := fun s k => if s = q ∧ k = nn q then v else ff s k
theorem zS_l_ap {a : Nat → Nat → Int32} {nn : Nat → Nat} {ff : Nat → Nat → Nat} {b16 b17 : Nat → Int32} {q : Nat} {x : Int32} (hl : zS_l a nn ff) (hq : q < 2) (hr : nn q < 64) (hx : x = nI (zx_k x)) (h16 : b16 = upd (a 16) q (nI (nn q + 1))) (h17 : b17 = upd (a 17) (64 * q + nn q) x) : ∀ s, s < 2 → b16 s = nI (zl_n nn q (nn q + 1) s) ∧ zl_n nn q (nn q + 1) s ≤ 64 ∧ ∀ k, k < zl_n nn q (nn q + 1) s → b17 (64 * s + k) = nI (zff nn ff q (zx_k x) s k) := by
  intro s hs
  obtain ⟨h1, h2, h3⟩ := hl s hs
  subst h16 h17
  unfold zl_n zff
  by_cases e : s = q
  · subst e
    rw [if_pos rfl, pk_us]
    refine ⟨rfl, by omega, fun k hk => ?_⟩
    by_cases e2 : k = nn s
    · subst e2
      rw [pk_us, if_pos ⟨rfl, rfl⟩]; exact hx
    · rw [pk_un (by omega), if_neg (fun z => e2 z.2)]; exact h3 k (by omega)
  · rw [if_neg e, pk_un e]
    refine ⟨h1, h2, fun k hk => ?_⟩
    rw [pk_un (by omega), if_neg (fun z => e z.1)]; exact h3 k hk
theorem zR_pick {wC wM : List zm_E} (h : zREL wC wM) (x : Int32) : zgo 70 180 [.int x] wC wM := by
  obtain ⟨P, N, c, n0, e0, n1, e1, n, cd, K, M, e, fr, fi, wa, nn, ff, hK, hM, hl, hd, hfi, hwa⟩ := h
  have hh := zKW_ok hK
  obtain ⟨g, gl, a, al, c2, e2, m0, rfl, hE, hE2, hS, hsl, hp, hk, ⟨hn1, hn2, hn3⟩, hc1, hm1⟩ := hM
  have hb := zb_pick (fun q => (hh.1 q).1) hl x
  have h40 := zn40 (fun q => (hh.1 q).1) hl hd
  refine zgo_mk (zp_C_pick wC P N c n0 e0 n1 e1 n cd K M e fr fi wa hK zJ_ok (fun z => by rw [zok_eq (fun q => (hh.1 q).1)] at z; have := (h40 z).1; omega) x) (zs_M_pick g gl a al zG_ok P N c2 hS nn ff hsl (fun _ => by rw [zw_ent_E hE]; exact zent hl) (fun z => by rw [zw_sound_E hE] at z; have := (h40 z).1; have := hl.1; omega) x) (Nat.le_of_ble_eq_true rfl : 7 ≤ 46) (Nat.le_of_ble_eq_true rfl : 7 ≤ 46) ?_
  rintro v wC2 u wM2 ⟨rfl, hC⟩ ⟨hu, hw⟩
  have hu : u = some (.int (aw_pick P N c2 nn ff x)) := hu
  have hw : (zw_g0 P N c2 nn ff x ∧ wM2 = zw_M g gl (va_up (va_up a 16 (upd (a 16) 0 (nI (nn 0 + 1)))) 17 (upd (a 17) (64 * 0 + nn 0) x)) al) ∨ (¬ zw_g0 P N c2 nn ff x ∧ wM2 = zw_M g gl a al) := hw
  rw [zw_g0_E hE] at hw
  rw [aw_pick_E hE, ← hb.1] at hu
  rcases hC with ⟨q1, hK2⟩ | ⟨q1, hK2⟩
  · rcases hw with ⟨hg, rfl⟩ | ⟨hg, rfl⟩
    · have hs := hg.1
      obtain ⟨hok, hNS, h0⟩ := zok_NS (fun q => (hh.1 q).1) hs
      have hcl := (zclash0 hok hNS (fun k hk => (hl.2.2.1 k hk).1)).mp (of_decide_eq_true q1.2.2)
      exact ⟨_, rfl, hu, P, N, c, n0 + 1, zu_c e0 n0 (zj_rk P N c x), n1, e1, n, cd, K, M, e, fr, fi, wa, zl_n nn 0 (nn 0 + 1), zff nn ff 0 (zx_k x), hK2, ⟨g, gl, va_up (va_up a 16 (upd (a 16) 0 (nI (nn 0 + 1)))) 17 (upd (a 17) (64 * 0 + nn 0) x), al, c2, e2, m0, rfl, hE, hE2, hS, zS_l_ap hsl (by decide) (by have := (h40 hs).1; have := hl.1; omega) (zx_of hg.2.1.1).2 rfl rfl, hp, hk, ⟨hn1, hn2, hn3⟩, hc1, hm1⟩, zlst_pick hl hg (mm := zl_n nn 0 (nn 0 + 1)) (gg := zff nn ff 0 (zx_k x)) (if_pos rfl) (if_neg (by decide)) (fun k hk => if_neg (fun z => by omega)) (if_pos ⟨rfl, rfl⟩) (fun k hk => if_neg (fun z => absurd z.1 (by decide))), fun _ => ⟨zdj_step (hd hs).1 hcl, (hd hs).2⟩, hfi, hwa⟩
    · exact absurd (hb.2.mp q1) hg
  · rcases hw with ⟨hg, rfl⟩ | ⟨hg, rfl⟩
    · exact absurd (hb.2.mpr hg) q1
    · exact ⟨_, rfl, hu, P, N, c, n0, e0, n1, e1, n, cd, K, M, e, fr, fi, wa, nn, ff, hK2, ⟨g, gl, a, al, c2, e2, m0, rfl, hE, hE2, hS, hsl, hp, hk, ⟨hn1, hn2, hn3⟩, hc1, hm1⟩, hl, hd, hfi, hwa⟩
theorem zR_gather {wC wM : List zm_E} (h : zREL wC wM) (x : Int32) : zgo 71 181 [.int x] wC wM := by
  obtain ⟨P, N, c, n0, e0, n1, e1, n, cd, K, M, e, fr, fi, wa, nn, ff, hK, hM, hl, hd, hfi, hwa⟩ := h
  have hh := zKW_ok hK
  obtain ⟨g, gl, a, al, c2, e2, m0, rfl, hE, hE2, hS, hsl, hp, hk, ⟨hn1, hn2, hn3⟩, hc1, hm1⟩ := hM
  have hb := zb_gather (fun q => (hh.1 q).1) hl x
  have h40 := zn40 (fun q => (hh.1 q).1) hl hd
  refine zgo_mk (zp_C_gather wC P N c n0 e0 n1 e1 n cd K M e fr fi wa hK zJ_ok (fun z => by rw [zok_eq (fun q => (hh.1 q).1)] at z; have := (h40 z).2; omega) x) (zs_M_gather g gl a al zG_ok P N c2 hS nn ff hsl (fun _ => by rw [zw_ent_E hE]; exact zent hl) (fun z => by rw [zw_sound_E hE] at z; have := (h40 z).2; have := hl.2.1; omega) x) (Nat.le_of_ble_eq_true rfl : 7 ≤ 46) (Nat.le_of_ble_eq_true rfl : 7 ≤ 46) ?_
  rintro v wC2 u wM2 ⟨rfl, hC⟩ ⟨hu, hw⟩
  have hu : u = some (.int (aw_gather P N c2 nn ff x)) := hu
  have hw : (zw_g1 P N c2 nn ff x ∧ wM2 = zw_M g gl (va_up (va_up a 16 (upd (a 16) 1 (nI (nn 1 + 1)))) 17 (upd (a 17) (64 * 1 + nn 1) x)) al) ∨ (¬ zw_g1 P N c2 nn ff x ∧ wM2 = zw_M g gl a al) := hw
  rw [zw_g1_E hE] at hw
  rw [aw_gather_E hE, ← hb.1] at hu
  rcases hC with ⟨q1, hK2⟩ | ⟨q1, hK2⟩
  · rcases hw with ⟨hg, rfl⟩ | ⟨hg, rfl⟩
    · have hs := hg.1
      obtain ⟨hok, hNS, h0⟩ := zok_NS (fun q => (hh.1 q).1) hs
      have hcl := (zclash1 hok hNS h0 (zx_of hg.2.1).1 (fun k hk => (hl.2.2.2 k hk).1)).mp (of_decide_eq_true q1.2.2)
      exact ⟨_, rfl, hu, P, N, c, n0, e0, n1 + 1, zu_c e1 n1 (zx_k x), n, cd, K, M, e, fr, fi, wa, zl_n nn 1 (nn 1 + 1), zff nn ff 1 (zx_k x), hK2, ⟨g, gl, va_up (va_up a 16 (upd (a 16) 1 (nI (nn 1 + 1)))) 17 (upd (a 17) (64 * 1 + nn 1) x), al, c2, e2, m0, rfl, hE, hE2, hS, zS_l_ap hsl (by decide) (by have := (h40 hs).2; have := hl.2.1; omega) (zx_of hg.2.1).2 rfl rfl, hp, hk, ⟨hn1, hn2, hn3⟩, hc1, hm1⟩, zlst_gather hl hg (mm := zl_n nn 1 (nn 1 + 1)) (gg := zff nn ff 1 (zx_k x)) (if_neg (by decide)) (if_pos rfl) (fun k hk => if_neg (fun z => absurd z.1 (by decide))) (if_pos ⟨rfl, rfl⟩) (fun k hk => if_neg (fun z => by omega)), fun _ => ⟨(hd hs).1, zdj_step (hd hs).2 hcl⟩, hfi, hwa⟩
    · exact absurd (hb.2.mp q1) hg
  · rcases hw with ⟨hg, rfl⟩ | ⟨hg, rfl⟩
    · exact absurd (hb.2.mpr hg) q1
    · exact ⟨_, rfl, hu, P, N, c, n0, e0, n1, e1, n, cd, K, M, e, fr, fi, wa, nn, ff, hK2, ⟨g, gl, a, al, c2, e2, m0, rfl, hE, hE2, hS, hsl, hp, hk, ⟨hn1, hn2, hn3⟩, hc1, hm1⟩, hl, hd, hfi, hwa⟩
theorem zR_drop {wC wM : List zm_E} (h : zREL wC wM) (x : Int32) : zgo 72 183 [.int x] wC wM := by
  obtain ⟨P, N, c, n0, e0, n1, e1, n, cd, K, M, e, fr, fi, wa, nn, ff, hK, hM, hl, hd, hfi, hwa⟩ := h
  have hh := zKW_ok hK
  obtain ⟨g, gl, a, al, c2, e2, m0, rfl, hE, hE2, hS, hsl, hp, hk, ⟨hn1, hn2, hn3⟩, hc1, hm1⟩ := hM
  have hb := zb_drop hl x
  refine zgo_mk (zp_C_drop wC P N c n0 e0 n1 e1 n cd K M e fr fi wa hK x) (zs_M_drop g gl a al nn ff hsl x) (Nat.le_of_ble_eq_true rfl : 2 ≤ 46) (Nat.le_of_ble_eq_true rfl : 3 ≤ 46) ?_
  rintro v wC2 u wM2 ⟨rfl, hK2⟩ ⟨hu, hw⟩
  have hu : u = some (.int (aw_drop nn ff x)) := hu
  rw [← hb] at hu
  have hle0 : zj_d0 n0 x ≤ n0 := by unfold zj_d0; split <;> omega
  have hle1 : zj_d1 n1 x ≤ n1 := by unfold zj_d1; split <;> omega
  have hd2 : zw_sound P N c = true → zdj (zj_p P N c) (zj_d0 n0 x) e0 ∧ zdj (zj_m P N c) (zj_d1 n1 x) e1 := fun hs => ⟨zdj_less (hd hs).1 hle0, zdj_less (hd hs).2 hle1⟩
  rcases hw with ⟨⟨q1, q2⟩, rfl⟩ | ⟨q1, rfl⟩
  · rcases zx_two q1 with ⟨r1, r2⟩ | ⟨r1, r2⟩
    · rw [r2] at q2 ⊢
      have d0 : zj_d0 n0 x = n0 - 1 := if_pos r1
      have d1 : zj_d1 n1 x = n1 := if_neg (by rw [r1]; decide)
      refine ⟨_, rfl, hu, P, N, c, zj_d0 n0 x, e0, zj_d1 n1 x, e1, n, cd, K, M, e, fr, fi, wa, zl_n nn 0 (nn 0 - 1), ff, hK2, ⟨g, gl, va_up a 16 (upd (a 16) 0 (nI (nn 0 - 1))), al, c2, e2, m0, rfl, hE, hE2, hS, ?_, hp, hk, ⟨hn1, hn2, hn3⟩, hc1, hm1⟩, zlst_less hl hle0 hle1 (by rw [d0, ← hl.1]; exact if_pos rfl) (by rw [d1, ← hl.2.1]; exact if_neg (by decide)), hd2, hfi, hwa⟩
      intro s hs
      obtain ⟨b1, b2, b3⟩ := hsl s hs
      show upd (a 16) 0 (nI (nn 0 - 1)) s = nI (zl_n nn 0 (nn 0 - 1) s) ∧ zl_n nn 0 (nn 0 - 1) s ≤ 64 ∧ ∀ k, k < zl_n nn 0 (nn 0 - 1) s → a 17 (64 * s + k) = nI (ff s k)
      unfold zl_n
      by_cases e9 : s = 0
      · subst e9
        rw [if_pos rfl, pk_us]; exact ⟨rfl, by omega, fun k hk => b3 k (by omega)⟩
      · rw [if_neg e9, pk_un e9]; exact ⟨b1, b2, b3⟩
    · rw [r2] at q2 ⊢
      have d0 : zj_d0 n0 x = n0 := if_neg (by rw [r1]; decide)
      have d1 : zj_d1 n1 x = n1 - 1 := if_pos r1
      refine ⟨_, rfl, hu, P, N, c, zj_d0 n0 x, e0, zj_d1 n1 x, e1, n, cd, K, M, e, fr, fi, wa, zl_n nn 1 (nn 1 - 1), ff, hK2, ⟨g, gl, va_up a 16 (upd (a 16) 1 (nI (nn 1 - 1))), al, c2, e2, m0, rfl, hE, hE2, hS, ?_, hp, hk, ⟨hn1, hn2, hn3⟩, hc1, hm1⟩, zlst_less hl hle0 hle1 (by rw [d0, ← hl.1]; exact if_neg (by decide)) (by rw [d1, ← hl.2.1]; exact if_pos rfl), hd2, hfi, hwa⟩
      intro s hs
      obtain ⟨b1, b2, b3⟩ := hsl s hs
      show upd (a 16) 1 (nI (nn 1 - 1)) s = nI (zl_n nn 1 (nn 1 - 1) s) ∧ zl_n nn 1 (nn 1 - 1) s ≤ 64 ∧ ∀ k, k < zl_n nn 1 (nn 1 - 1) s → a 17 (64 * s + k) = nI (ff s k)
      unfold zl_n
      by_cases e9 : s = 1
      · subst e9
        rw [if_pos rfl, pk_us]; exact ⟨rfl, by omega, fun k hk => b3 k (by omega)⟩
      · rw [if_neg e9, pk_un e9]; exact ⟨b1, b2, b3⟩
  · have d0 : zj_d0 n0 x = n0 := by
      unfold zj_d0
      by_cases r1 : x = 0
      · rw [if_pos r1]
        have : nn 0 = 0 := Classical.byContradiction (fun z => q1 (by rw [r1]; exact ⟨by decide, z⟩))
        have := hl.1
        omega
      · rw [if_neg r1]
    have d1 : zj_d1 n1 x = n1 := by
      unfold zj_d1
      by_cases r1 : x = 1
      · rw [if_pos r1]
        have : nn 1 = 0 := Classical.byContradiction (fun z => q1 (by rw [r1]; exact ⟨by decide, z⟩))
        have := hl.2.1
        omega
      · rw [if_neg r1]
    rw [d0, d1] at hK2
    exact ⟨_, rfl, hu, P, N, c, n0, e0, n1, e1, n, cd, K, M, e, fr, fi, wa, nn, ff, hK2, ⟨g, gl, a, al, c2, e2, m0, rfl, hE, hE2, hS, hsl, hp, hk, ⟨hn1, hn2, hn3⟩, hc1, hm1⟩, hl, hd, hfi, hwa⟩
set_option maxHeartbeats 1000000 in
theorem zR_finish {wC wM : List zm_E} (h : zREL wC wM) (x : Int32) : zgo 75 194 [.int x] wC wM := by
  obtain ⟨P, N, c, n0, e0, n1, e1, n, cd, K, M, e, fr, fi, wa, nn, ff, hK, hM, hl, hd, hfi, hwa⟩ := h
  have hh := zKW_ok hK
  obtain ⟨g, gl, a, al, c2, e2, m0, rfl, hE, hE2, hS, hsl, hp, hk, ⟨hn1, hn2, hn3⟩, hc1, hm1⟩ := hM
  have hok1 : zj_ok P N c = zw_sound P N c := zok_eq (fun q => (hh.1 q).1)
  have hF := fun (q : zj_ok P N c = true) => (fun (hs : zw_sound P N c = true) => (fun (r : zv_ok P N ∧ zNS P N c ∧ zw_ns P N c = 0) => And.intro (zfin0 r.1 r.2.1 r.2.2 hl (hd hs).1) (And.intro (zfin1 r.1 r.2.1 r.2.2 hl (hd hs).2) (zj_gm_eq r.1 r.2.1))) (zok_NS (fun q => (hh.1 q).1) hs)) (by rw [← hok1]; exact q)
  refine zgo_mk (zp_C_finish wC P N c n0 e0 n1 e1 n cd K M e fr fi wa hK zJ_ok (fun q => by have := (hF q).1.1; omega) (fun q => by have := (hF q).1.2.1; omega) (fun q => by have := (hF q).2.1.1; omega) (fun q => by rw [(hF q).2.2]; have := (hF q).2.1.2.1; omega) (by omega) x) (zs_M_finish g gl a al zG_ok P N c2 hS nn ff hsl (fun _ => by rw [zw_ent_E hE]; exact zent hl) zH_ok (fun hs q hq => by
    rw [zw_sound_E hE, ← hok1] at hs
    rw [zw_tk_E hE, zw_cn_E hE]
    rcases (show q = 0 ∨ q = 1 by omega) with r | r
    · subst r
      rw [(hF hs).1.2.2.2.1, hl.1]
      have := (hF hs).1.2.1
      omega
    · subst r
      rw [(hF hs).2.1.2.2.2.1, hl.2.1]
      have := (hF hs).2.1.2.1
      omega) fi hn2 hfi x) (Nat.le_of_ble_eq_true rfl : 46 ≤ 46) (Nat.le_of_ble_eq_true rfl : 7 ≤ 46) ?_
  intro v wC2 u wM2 hC hu
  simp only [zw_sound_E hE, zw_wy_E hE, zw_tk_E hE, zw_cn_E hE, zw_nnn_E hE, zw_ffn_E hE] at hu
  rw [hok1] at hC
  rcases hC with ⟨c1, rfl, hK2⟩ | ⟨c1, c9, rfl, hK2⟩ | ⟨⟨c1, c3⟩, hC⟩
  · rcases hu with ⟨u1, rfl, rfl⟩ | ⟨u1, -⟩
    · exact ⟨-102, rfl, by rw [c1]; rfl, P, N, c, n0, e0, n1, e1, n, cd, K, M, e, fr, fi, wa, nn, ff, hK2, ⟨g, gl, a, al, c2, e2, m0, rfl, hE, hE2, hS, hsl, hp, hk, ⟨hn1, hn2, hn3⟩, hc1, hm1⟩, hl, hd, hfi, hwa⟩
    · rw [c1] at u1; exact absurd u1.1 (by decide)
  · rcases hu with ⟨u1, rfl, rfl⟩ | ⟨u1, -⟩
    · exact ⟨-103, rfl, by rw [if_pos c1], P, N, c, n0, e0, n1, e1, n, cd, K, M, e, fr, fi, wa, nn, ff, hK2, ⟨g, gl, a, al, c2, e2, m0, rfl, hE, hE2, hS, hsl, hp, hk, ⟨hn1, hn2, hn3⟩, hc1, hm1⟩, hl, hd, hfi, hwa⟩
    · exact absurd ⟨u1.2.1, by omega⟩ c9
  · have hx2 : zx_in x 2 = true := by
      rcases hC with ⟨r, -⟩ | ⟨r, -⟩
      · rw [r]; decide
      · rw [r]; decide
    rcases hu with ⟨u1, -⟩ | ⟨u1, hu⟩
    · exact absurd ⟨hx2, c1, by omega⟩ u1
    · rcases hC with ⟨rfl, hC⟩ | ⟨rfl, hC⟩
      · have k0 : zx_k 0 = 0 := by decide
        rw [k0] at hu
        obtain ⟨f1, f2, f3, f4, f5, f6⟩ := (hF (by rw [hok1]; exact c1)).1
        have hw1 := f3 1 (Nat.le_refl _)
        rcases hC with ⟨z1, rfl, hK2⟩ | ⟨z1, rfl, hK2⟩
        · rcases hu with ⟨-, rfl, F, F2, f, T, rfl⟩ | ⟨u2, -⟩
          · exact ⟨-1, rfl, rfl, P, N, c, n0, e0, n1, e1, n, cd, K, M, e, fr, fi + 1, wa, nn, ff, hK2, ⟨upd (upd g 31 (nI (zw_cn P N c 0))) 36 (nI (fi + 1)), gl, va_up (va_up a 19 f) 20 T, va_up (va_up al 18 F) 21 F2, c2, e2, m0, rfl, hE, hE2, hS, hsl, hp, hk, ⟨hn1, rfl, hn3⟩, hc1, hm1⟩, hl, hd, by omega, hwa⟩
          · exact absurd (by rw [hw1]; omega) u2
        · rcases hu with ⟨u2, -⟩ | ⟨-, rfl, F, F2, f, T, f16, f17, rfl, hf⟩
          · rw [hw1] at u2; omega
          · rw [f4]
            refine ⟨_, rfl, rfl, P, N, c, n0 + zC (lb (zj_f0 P N c n0 e0)) (zw_on P N c), zg_ap e0 n0 (zj_f0 P N c n0 e0) (zw_on P N c), n1, e1, n, cd, K, M, e, fr, fi + 1, wa, zw_nnn P N c 0 nn ff (zw_cn P N c 0), zw_ffn P N c 0 nn ff, hK2, ⟨upd (upd g 31 (nI (zw_cn P N c 0))) 36 (nI (fi + 1)), gl, va_up (va_up (va_up (va_up a 16 f16) 17 f17) 19 f) 20 T, va_up (va_up al 18 F) 21 F2, c2, e2, m0, rfl, hE, hE2, hS, ?_, hp, hk, ⟨hn1, rfl, hn3⟩, hc1, hm1⟩, f6, fun hs => ⟨f5, (hd hs).2⟩, by omega, hwa⟩
            intro s hs
            obtain ⟨b1, b2⟩ := hf s hs
            refine ⟨b1, ?_, b2⟩
            have h40 := zn40 (fun q => (hh.1 q).1) hl hd c1
            rcases (show s = 0 ∨ s = 1 by omega) with r | r
            · subst r; rw [f6.1]; omega
            · subst r; rw [f6.2.1]; omega
      · have k0 : zx_k 1 = 1 := by decide
        rw [k0] at hu
        obtain ⟨f1, f2, f3, f4, f5, f6⟩ := (hF (by rw [hok1]; exact c1)).2.1
        have hw1 := f3 1 (Nat.le_refl _)
        rcases hC with ⟨z1, rfl, hK2⟩ | ⟨z1, rfl, hK2⟩
        · rcases hu with ⟨-, rfl, F, F2, f, T, rfl⟩ | ⟨u2, -⟩
          · exact ⟨-1, rfl, rfl, P, N, c, n0, e0, n1, e1, n, cd, K, M, e, fr, fi + 1, wa, nn, ff, hK2, ⟨upd (upd g 31 (nI (zw_cn P N c 1))) 36 (nI (fi + 1)), gl, va_up (va_up a 19 f) 20 T, va_up (va_up al 18 F) 21 F2, c2, e2, m0, rfl, hE, hE2, hS, hsl, hp, hk, ⟨hn1, rfl, hn3⟩, hc1, hm1⟩, hl, hd, by omega, hwa⟩
          · exact absurd (by rw [hw1]; omega) u2
        · rcases hu with ⟨u2, -⟩ | ⟨-, rfl, F, F2, f, T, f16, f17, rfl, hf⟩
          · rw [hw1] at u2; omega
          · rw [f4]
            rw [(hF (by rw [hok1]; exact c1)).2.2] at hK2 ⊢
            refine ⟨_, rfl, rfl, P, N, c, n0, e0, n1 + zC (lb (zj_f1 P N c n1 e1)) (zw_gm P N c), zg_ap e1 n1 (zj_f1 P N c n1 e1) (zw_gm P N c), n, cd, K, M, e, fr, fi + 1, wa, zw_nnn P N c 1 nn ff (zw_cn P N c 1), zw_ffn P N c 1 nn ff, hK2, ⟨upd (upd g 31 (nI (zw_cn P N c 1))) 36 (nI (fi + 1)), gl, va_up (va_up (va_up (va_up a 16 f16) 17 f17) 19 f) 20 T, va_up (va_up al 18 F) 21 F2, c2, e2, m0, rfl, hE, hE2, hS, ?_, hp, hk, ⟨hn1, rfl, hn3⟩, hc1, hm1⟩, f6, fun hs => ⟨(hd hs).1, f5⟩, by omega, hwa⟩
            intro s hs
            obtain ⟨b1, b2⟩ := hf s hs
            refine ⟨b1, ?_, b2⟩
            have h40 := zn40 (fun q => (hh.1 q).1) hl hd c1
            rcases (show s = 0 ∨ s = 1 by omega) with r | r
            · subst r; rw [f6.1]; omega
            · subst r; rw [f6.2.1]; omega
set_option maxHeartbeats 1000000 in
theorem zR_ways {wC wM : List zm_E} (h : zREL wC wM) (x : Int32) : zgo 76 195 [.int x] wC wM := by
  obtain ⟨P, N, c, n0, e0, n1, e1, n, cd, K, M, e, fr, fi, wa, nn, ff, hK, hM, hl, hd, hfi, hwa⟩ := h
  have hh := zKW_ok hK
  obtain ⟨g, gl, a, al, c2, e2, m0, rfl, hE, hE2, hS, hsl, hp, hk, ⟨hn1, hn2, hn3⟩, hc1, hm1⟩ := hM
  have hok1 : zj_ok P N c = zw_sound P N c := zok_eq (fun q => (hh.1 q).1)
  have hF := fun (q : zj_ok P N c = true) => (fun (hs : zw_sound P N c = true) => (fun (r : zv_ok P N ∧ zNS P N c ∧ zw_ns P N c = 0) => And.intro (zfin0 r.1 r.2.1 r.2.2 hl (hd hs).1) (And.intro (zfin1 r.1 r.2.1 r.2.2 hl (hd hs).2) (zj_gm_eq r.1 r.2.1))) (zok_NS (fun q => (hh.1 q).1) hs)) (by rw [← hok1]; exact q)
  refine zgo_mk (zp_C_ways wC P N c n0 e0 n1 e1 n cd K M e fr fi wa hK zJ_ok (fun q => by have := (hF q).1.1; omega) (fun q => by have := (hF q).2.1.1; omega) (by omega) x) (zs_M_ways g gl a al zG_ok P N c2 hS nn ff hsl (fun _ => by rw [zw_ent_E hE]; exact zent hl) zH_ok wa hn3 hwa x) (Nat.le_of_ble_eq_true rfl : 46 ≤ 46) (Nat.le_of_ble_eq_true rfl : 6 ≤ 46) ?_
  intro v wC2 u wM2 hC hu
  simp only [zw_sound_E hE, zw_wy_E hE, zw_cn_E hE] at hu
  rw [hok1] at hC
  rcases hC with ⟨c1, rfl, hK2⟩ | ⟨c1, c9, rfl, hK2⟩ | ⟨⟨c1, c3⟩, hK2, hC⟩
  · rcases hu with ⟨u1, rfl, rfl⟩ | ⟨u1, -⟩
    · exact ⟨-102, rfl, by rw [c1]; rfl, P, N, c, n0, e0, n1, e1, n, cd, K, M, e, fr, fi, wa, nn, ff, hK2, ⟨g, gl, a, al, c2, e2, m0, rfl, hE, hE2, hS, hsl, hp, hk, ⟨hn1, hn2, hn3⟩, hc1, hm1⟩, hl, hd, hfi, hwa⟩
    · rw [c1] at u1; exact absurd u1.1 (by decide)
  · rcases hu with ⟨u1, rfl, rfl⟩ | ⟨u1, -⟩
    · exact ⟨-103, rfl, by rw [if_pos c1], P, N, c, n0, e0, n1, e1, n, cd, K, M, e, fr, fi, wa, nn, ff, hK2, ⟨g, gl, a, al, c2, e2, m0, rfl, hE, hE2, hS, hsl, hp, hk, ⟨hn1, hn2, hn3⟩, hc1, hm1⟩, hl, hd, hfi, hwa⟩
    · exact absurd ⟨u1.2.1, by omega⟩ c9
  · have hx2 : zx_in x 2 = true := by
      rcases hC with ⟨r, -⟩ | ⟨r, -⟩
      · rw [r]; decide
      · rw [r]; decide
    rcases hu with ⟨u1, -⟩ | ⟨u1, hu⟩
    · exact absurd ⟨hx2, c1, by omega⟩ u1
    · rcases hC with ⟨rfl, rfl⟩ | ⟨rfl, rfl⟩
      · have k0 : zx_k 0 = 0 := by decide
        rw [k0] at hu
        obtain ⟨f1, -, f3, -⟩ := (hF (by rw [hok1]; exact c1)).1
        have hw1 := f3 1073741824 (by decide)
        have hw2 : min 1073741824 (zj_wk0 P N c n0 e0).1 = (zj_wk0 P N c n0 e0).1 := by omega
        rw [hw2] at hw1
        rw [hw1] at hu
        obtain ⟨rfl, F, F2, f, T, rfl⟩ := hu
        exact ⟨_, rfl, rfl, P, N, c, n0, e0, n1, e1, n, cd, K, M, e, fr, fi, wa + 1, nn, ff, hK2, ⟨upd (upd g 31 (nI (zw_cn P N c 0))) 37 (nI (wa + 1)), gl, va_up (va_up a 19 f) 20 T, va_up (va_up al 18 F) 21 F2, c2, e2, m0, rfl, hE, hE2, hS, hsl, hp, hk, ⟨hn1, hn2, rfl⟩, hc1, hm1⟩, hl, hd, hfi, by omega⟩
      · have k0 : zx_k 1 = 1 := by decide
        rw [k0] at hu
        obtain ⟨f1, -, f3, -⟩ := (hF (by rw [hok1]; exact c1)).2.1
        have hw1 := f3 1073741824 (by decide)
        have hw2 : min 1073741824 (zj_wk1 P N c n1 e1).1 = (zj_wk1 P N c n1 e1).1 := by omega
        rw [hw2] at hw1
        rw [hw1] at hu
        obtain ⟨rfl, F, F2, f, T, rfl⟩ := hu
        exact ⟨_, rfl, rfl, P, N, c, n0, e0, n1, e1, n, cd, K, M, e, fr, fi, wa + 1, nn, ff, hK2, ⟨upd (upd g 31 (nI (zw_cn P N c 1))) 37 (nI (wa + 1)), gl, va_up (va_up a 19 f) 20 T, va_up (va_up al 18 F) 21 F2, c2, e2, m0, rfl, hE, hE2, hS, hsl, hp, hk, ⟨hn1, hn2, rfl⟩, hc1, hm1⟩, hl, hd, hfi, by omega⟩
