/-! form, put, swap, plus, scale, times, image, restore: both together (written by wip/whole/gen_r3.py) -/
theorem zMW_new {g : Nat → Int32} {gl : Nat → Int64} {a : Nat → Nat → Int32} {al : Nat → Nat → Int64} {P N : Nat} {c c2 : Nat → Nat} {n : Nat} {cd : Nat → Nat} {K M : Nat} {e e2 m0 : Nat → Nat} {fr fi wa : Nat} (ff : Nat → Nat → Nat) (hf : zS_f g a P N c2) (hE : zc_E N c2 c) (h0 : a 16 0 = 0) (h1 : a 16 1 = 0) (hE2 : zc_E M e2 e) (hp : zS_p g a n cd) (hk : zS_k g a K M e2) (hn : g 3 = nI fr ∧ g 36 = nI fi ∧ g 37 = nI wa) (hm : (∀ k, k < 36 → a 23 k = nI (m0 k)) ∧ ∀ k, k < 36 → m0 k ≤ 4) : zMW (zw_M g gl a al) P N c (fun _ => 0) ff n cd K M e fr fi wa := by
  refine ⟨g, gl, a, al, c2, e2, m0, rfl, hE, hE2, Or.inr hf, fun q hq => ?_, hp, hk, hn, ?_, hm⟩
  · rcases (show q = 0 ∨ q = 1 by omega) with r | r
    · subst r; exact ⟨h0, Nat.zero_le _, fun k z => absurd z (Nat.not_lt_zero k)⟩
    · subst r; exact ⟨h1, Nat.zero_le _, fun k z => absurd z (Nat.not_lt_zero k)⟩
  · obtain ⟨-, ⟨-, -, -, -, -, q1, q2⟩, -⟩ := hf
    exact ⟨q1, q2⟩
theorem zREL_new {wC wM : List zm_E} {P N : Nat} {c : Nat → Nat} {e0 e1 : Nat → Nat} {n : Nat} {cd : Nat → Nat} {K M : Nat} {e : Nat → Nat} {fr fi wa : Nat} {ff : Nat → Nat → Nat} (hK : zKW wC P N c 0 e0 0 e1 n cd K M e fr fi wa) (hM : zMW wM P N c (fun _ => 0) ff n cd K M e fr fi wa) (hfi : fi ≤ 20) (hwa : wa ≤ 12) : zREL wC wM :=
  ⟨P, N, c, 0, e0, 0, e1, n, cd, K, M, e, fr, fi, wa, fun _ => 0, ff, hK, hM, ⟨rfl, rfl, fun k z => absurd z (Nat.not_lt_zero k), fun k z => absurd z (Nat.not_lt_zero k)⟩, fun _ => ⟨zdj_0, zdj_0⟩, hfi, hwa⟩
theorem zx_in0 {x : Int32} {P N : Nat} (h : P = 0 → N = 0) (hx : zx_in x N = true) : 0 < P := by
  rcases Nat.eq_zero_or_pos P with q | q
  · rw [h q] at hx
    have := (zx_of hx).1
    omega
  · exact q
theorem zx_ne {x y : Int32} {N : Nat} (hx : zx_in x N = true) (hy : zx_in y N = true) : ¬ x = y ↔ zx_k x ≠ zx_k y := by
  have h1 := (zx_of hx).2
  have h2 := (zx_of hy).2
  constructor
  · intro h z
    apply h
    rw [h1, h2, z]
  · intro h z
    apply h
    rw [z]
theorem zx_1_eq (x : Int32) (P : Nat) : zx_1P x P = zx_1 x P := rfl
theorem zR_put {wC wM : List zm_E} (h : zREL wC wM) (x y z : Int32) : zgo 77 196 [.int x, .int y, .int z] wC wM := by
  obtain ⟨P, N, c, n0, e0, n1, e1, n, cd, K, M, e, fr, fi, wa, nn, ff, hK, hM, hl, hd, hfi, hwa⟩ := h
  have hh := zKW_ok hK
  obtain ⟨g, gl, a, al, c2, e2, m0, rfl, hE, hE2, hS, hsl, hp, hk, ⟨hn1, hn2, hn3⟩, hc1, hm1⟩ := hM
  refine zgo_mk (zp_C_put wC P N c n0 e0 n1 e1 n cd K M e fr fi wa hK x y z) (zs_M_put g gl a al zG_ok P N c2 hS x y z) (Nat.le_of_ble_eq_true rfl : 3 ≤ 46) (Nat.le_of_ble_eq_true rfl : 9 ≤ 46) ?_
  rintro v wC2 u wM2 ⟨rfl, hC⟩ hu
  rcases hu with ⟨u1, rfl, rfl⟩ | ⟨u1, u2, rfl, rfl⟩ | ⟨u1, u2, rfl, f1, x10, x11, x12, x14, x25, f5, f6, f7, f9, f10, f11, f12, f13, f14, f16, rfl, hf, z0, z1⟩
  · have nc : ¬ (zx_in x N = true ∧ zx_in y N = true) := fun q => u1 ⟨zx_in0 hh.2.1 q.1, q⟩
    rcases hC with ⟨q1, hK2⟩ | ⟨q1, hK2⟩
    · exact absurd ⟨q1.1, q1.2.1⟩ nc
    · exact ⟨-101, by rw [ac_put, if_neg nc], rfl, P, N, c, n0, e0, n1, e1, n, cd, K, M, e, fr, fi, wa, nn, ff, hK2, ⟨g, gl, a, al, c2, e2, m0, rfl, hE, hE2, hS, hsl, hp, hk, ⟨hn1, hn2, hn3⟩, hc1, hm1⟩, hl, hd, hfi, hwa⟩
  · rcases hC with ⟨q1, hK2⟩ | ⟨q1, hK2⟩
    · rw [q1.2.2] at u2; cases u2
    · exact ⟨-102, by rw [ac_put, if_pos u1.2, u2]; rfl, rfl, P, N, c, n0, e0, n1, e1, n, cd, K, M, e, fr, fi, wa, nn, ff, hK2, ⟨g, gl, a, al, c2, e2, m0, rfl, hE, hE2, hS, hsl, hp, hk, ⟨hn1, hn2, hn3⟩, hc1, hm1⟩, hl, hd, hfi, hwa⟩
  · rcases hC with ⟨q1, hK2⟩ | ⟨q1, hK2⟩
    · have hce : c (zq_pl (zx_k x) (zx_k y)) = c2 (zq_pl (zx_k x) (zx_k y)) := (zx_S_E hE (zx_of u1.2.1).1 (zx_of u1.2.2).1).symm
      exact ⟨nI (c2 (zq_pl (zx_k x) (zx_k y))), by rw [ac_put, if_pos u1.2, if_pos u2, hce], rfl, zREL_new hK2 (zMW_new ff hf (zc_put hE _ _) z0 z1 hE2 hp hk ⟨hn1, hn2, hn3⟩ hm1) hfi hwa⟩
    · exact absurd ⟨u1.2.1, u1.2.2, u2⟩ q1
theorem zR_swap {wC wM : List zm_E} (h : zREL wC wM) (x y : Int32) : zgo 78 200 [.int x, .int y] wC wM := by
  obtain ⟨P, N, c, n0, e0, n1, e1, n, cd, K, M, e, fr, fi, wa, nn, ff, hK, hM, hl, hd, hfi, hwa⟩ := h
  have hh := zKW_ok hK
  obtain ⟨g, gl, a, al, c2, e2, m0, rfl, hE, hE2, hS, hsl, hp, hk, ⟨hn1, hn2, hn3⟩, hc1, hm1⟩ := hM
  refine zgo_mk (zp_C_swap wC P N c n0 e0 n1 e1 n cd K M e fr fi wa hK x y) (zs_M_swap g gl a al zG_ok P N c2 hS m0 hm1.1 hm1.2 x y) (Nat.le_of_ble_eq_true rfl : 6 ≤ 46) (Nat.le_of_ble_eq_true rfl : 10 ≤ 46) ?_
  intro v wC2 u wM2 hC hu
  rcases hu with ⟨u1, rfl, rfl⟩ | ⟨u1, rfl, f1, f22, f23, x10, x11, x12, x14, x25, f5, f6, f7, f9, f10, f11, f12, f13, f14, f16, rfl, hf, z0, z1, m1, m2⟩
  · rcases hC with ⟨q1, rfl, hK2⟩ | ⟨c', rfl, q1, q2, hK2⟩
    · exact ⟨-101, rfl, rfl, P, N, c, n0, e0, n1, e1, n, cd, K, M, e, fr, fi, wa, nn, ff, hK2, ⟨g, gl, a, al, c2, e2, m0, rfl, hE, hE2, hS, hsl, hp, hk, ⟨hn1, hn2, hn3⟩, hc1, hm1⟩, hl, hd, hfi, hwa⟩
    · exact absurd ⟨zx_in0 hh.2.1 q1.1, q1.1, q1.2.1, (zx_ne q1.1 q1.2.1).mp q1.2.2⟩ u1
  · rcases hC with ⟨q1, rfl, hK2⟩ | ⟨c', rfl, q1, q2, hK2⟩
    · exact absurd ⟨u1.2.1, u1.2.2.1, (zx_ne u1.2.1 u1.2.2.1).mpr u1.2.2.2⟩ q1
    · have hE3 := zc_swap (m0 := m0) (hh.1 u1.1).1 hE (hh.1 u1.1).2 (zx_of u1.2.1).1 (zx_of u1.2.2.1).1 u1.2.2.2 q2
      exact ⟨nI (zw_on P N c'), rfl, by rw [zw_on_E hE3], zREL_new hK2 (zMW_new ff hf hE3 z0 z1 hE2 hp hk ⟨hn1, hn2, hn3⟩ ⟨m1, m2⟩) hfi hwa⟩
theorem zR_plus {wC wM : List zm_E} (h : zREL wC wM) (x y z : Int32) : zgo 79 201 [.int x, .int y, .int z] wC wM := by
  obtain ⟨P, N, c, n0, e0, n1, e1, n, cd, K, M, e, fr, fi, wa, nn, ff, hK, hM, hl, hd, hfi, hwa⟩ := h
  have hh := zKW_ok hK
  obtain ⟨g, gl, a, al, c2, e2, m0, rfl, hE, hE2, hS, hsl, hp, hk, ⟨hn1, hn2, hn3⟩, hc1, hm1⟩ := hM
  refine zgo_mk (zp_C_plus wC P N c n0 e0 n1 e1 n cd K M e fr fi wa hK x y z) (zs_M_plus g gl a al zG_ok P N c2 hS m0 hm1.1 hm1.2 x y z) (Nat.le_of_ble_eq_true rfl : 6 ≤ 46) (Nat.le_of_ble_eq_true rfl : 10 ≤ 46) ?_
  intro v wC2 u wM2 hC hu
  rcases hu with ⟨u1, rfl, rfl⟩ | ⟨u1, u2, rfl, rfl⟩ | ⟨u1, u2, rfl, f1, f22, f23, x10, x11, x12, x14, x25, f5, f6, f7, f9, f10, f11, f12, f13, f14, f16, rfl, hf, z0, z1, m1, m2⟩
  · rcases hC with ⟨⟨q1, rfl⟩ | ⟨q1, q2, rfl⟩, hK2⟩ | ⟨c', rfl, ⟨q1, q3⟩, q2, hK2⟩
    · exact ⟨-101, rfl, rfl, P, N, c, n0, e0, n1, e1, n, cd, K, M, e, fr, fi, wa, nn, ff, hK2, ⟨g, gl, a, al, c2, e2, m0, rfl, hE, hE2, hS, hsl, hp, hk, ⟨hn1, hn2, hn3⟩, hc1, hm1⟩, hl, hd, hfi, hwa⟩
    · exact absurd ⟨zx_in0 hh.2.1 q1.1, q1.1, q1.2.1, (zx_ne q1.1 q1.2.1).mp q1.2.2⟩ u1
    · exact absurd ⟨zx_in0 hh.2.1 q1.1, q1.1, q1.2.1, (zx_ne q1.1 q1.2.1).mp q1.2.2⟩ u1
  · rcases hC with ⟨⟨q1, rfl⟩ | ⟨q1, q2, rfl⟩, hK2⟩ | ⟨c', rfl, ⟨q1, q3⟩, q2, hK2⟩
    · exact absurd ⟨u1.2.1, u1.2.2.1, (zx_ne u1.2.1 u1.2.2.1).mpr u1.2.2.2⟩ q1
    · exact ⟨-102, rfl, rfl, P, N, c, n0, e0, n1, e1, n, cd, K, M, e, fr, fi, wa, nn, ff, hK2, ⟨g, gl, a, al, c2, e2, m0, rfl, hE, hE2, hS, hsl, hp, hk, ⟨hn1, hn2, hn3⟩, hc1, hm1⟩, hl, hd, hfi, hwa⟩
    · rw [q3] at u2; cases u2
  · rcases hC with ⟨⟨q1, rfl⟩ | ⟨q1, q2, rfl⟩, hK2⟩ | ⟨c', rfl, ⟨q1, q3⟩, q2, hK2⟩
    · exact absurd ⟨u1.2.1, u1.2.2.1, (zx_ne u1.2.1 u1.2.2.1).mpr u1.2.2.2⟩ q1
    · exact absurd u2 q2
    · have hE3 := zc_plus (m0 := m0) (hh.1 u1.1).1 hE (hh.1 u1.1).2 (zx_of u1.2.1).1 (zx_of u1.2.2.1).1 u1.2.2.2 q2
      exact ⟨nI (zw_on P N c'), rfl, by rw [zw_on_E hE3], zREL_new hK2 (zMW_new ff hf hE3 z0 z1 hE2 hp hk ⟨hn1, hn2, hn3⟩ ⟨m1, m2⟩) hfi hwa⟩
theorem zR_scale {wC wM : List zm_E} (h : zREL wC wM) (x z : Int32) : zgo 80 202 [.int x, .int z] wC wM := by
  obtain ⟨P, N, c, n0, e0, n1, e1, n, cd, K, M, e, fr, fi, wa, nn, ff, hK, hM, hl, hd, hfi, hwa⟩ := h
  have hh := zKW_ok hK
  obtain ⟨g, gl, a, al, c2, e2, m0, rfl, hE, hE2, hS, hsl, hp, hk, ⟨hn1, hn2, hn3⟩, hc1, hm1⟩ := hM
  refine zgo_mk (zp_C_scale wC P N c n0 e0 n1 e1 n cd K M e fr fi wa hK x z) (zs_M_scale g gl a al zG_ok P N c2 hS m0 hm1.1 hm1.2 x z) (Nat.le_of_ble_eq_true rfl : 6 ≤ 46) (Nat.le_of_ble_eq_true rfl : 10 ≤ 46) ?_
  intro v wC2 u wM2 hC hu
  rcases hu with ⟨u1, rfl, rfl⟩ | ⟨u1, u2, rfl, rfl⟩ | ⟨u1, u2, rfl, f1, f22, f23, x10, x11, x12, x14, x25, f5, f6, f7, f9, f10, f11, f12, f13, f14, f16, rfl, hf, z0, z1, m1, m2⟩
  · rcases hC with ⟨⟨q1, rfl⟩ | ⟨q1, q2, rfl⟩, hK2⟩ | ⟨c', rfl, ⟨q1, q3⟩, q2, hK2⟩
    · exact ⟨-101, rfl, rfl, P, N, c, n0, e0, n1, e1, n, cd, K, M, e, fr, fi, wa, nn, ff, hK2, ⟨g, gl, a, al, c2, e2, m0, rfl, hE, hE2, hS, hsl, hp, hk, ⟨hn1, hn2, hn3⟩, hc1, hm1⟩, hl, hd, hfi, hwa⟩
    · exact absurd ⟨zx_in0 hh.2.1 q1, q1⟩ u1
    · exact absurd ⟨zx_in0 hh.2.1 q1, q1⟩ u1
  · rcases hC with ⟨⟨q1, rfl⟩ | ⟨q1, q2, rfl⟩, hK2⟩ | ⟨c', rfl, ⟨q1, q3⟩, q2, hK2⟩
    · exact absurd u1.2 q1
    · exact ⟨-102, rfl, rfl, P, N, c, n0, e0, n1, e1, n, cd, K, M, e, fr, fi, wa, nn, ff, hK2, ⟨g, gl, a, al, c2, e2, m0, rfl, hE, hE2, hS, hsl, hp, hk, ⟨hn1, hn2, hn3⟩, hc1, hm1⟩, hl, hd, hfi, hwa⟩
    · rw [zx_1_eq] at q3; rw [q3] at u2; cases u2
  · rcases hC with ⟨⟨q1, rfl⟩ | ⟨q1, q2, rfl⟩, hK2⟩ | ⟨c', rfl, ⟨q1, q3⟩, q2, hK2⟩
    · exact absurd u1.2 q1
    · exact absurd u2 q2
    · have hE3 := zc_scale (m0 := m0) (hh.1 u1.1).1 hE (hh.1 u1.1).2 (zx_of u1.2).1 q2
      exact ⟨nI (zw_on P N c'), rfl, by rw [zw_on_E hE3], zREL_new hK2 (zMW_new ff hf hE3 z0 z1 hE2 hp hk ⟨hn1, hn2, hn3⟩ ⟨m1, m2⟩) hfi hwa⟩
theorem zR_times {wC wM : List zm_E} (h : zREL wC wM) (z : Int32) : zgo 81 203 [.int z] wC wM := by
  obtain ⟨P, N, c, n0, e0, n1, e1, n, cd, K, M, e, fr, fi, wa, nn, ff, hK, hM, hl, hd, hfi, hwa⟩ := h
  have hh := zKW_ok hK
  obtain ⟨g, gl, a, al, c2, e2, m0, rfl, hE, hE2, hS, hsl, hp, hk, ⟨hn1, hn2, hn3⟩, hc1, hm1⟩ := hM
  have hPN : 0 < N ↔ 0 < P := ⟨fun q => Nat.pos_of_ne_zero (fun r => by have := hh.2.1 r; omega), fun q => by have := (hh.1 q).1.2.1; omega⟩
  refine zgo_mk (zp_C_times wC P N c n0 e0 n1 e1 n cd K M e fr fi wa hK z) (zs_M_times g gl a al zG_ok P N c2 hS z) (Nat.le_of_ble_eq_true rfl : 6 ≤ 46) (Nat.le_of_ble_eq_true rfl : 9 ≤ 46) ?_
  intro v wC2 u wM2 hC hu
  rcases hu with ⟨u1, rfl, rfl⟩ | ⟨u1, u2, rfl, rfl⟩ | ⟨u1, u2, rfl, f1, f15, x10, x11, x12, x14, x25, f5, f6, f7, f9, f10, f11, f12, f13, f14, f16, rfl, hf, z0, z1⟩
  · rcases hC with ⟨⟨q1, rfl⟩ | ⟨q1, q2, rfl⟩, hK2⟩ | ⟨c', rfl, ⟨q1, q3⟩, q2, hK2⟩
    · exact ⟨-103, rfl, rfl, P, N, c, n0, e0, n1, e1, n, cd, K, M, e, fr, fi, wa, nn, ff, hK2, ⟨g, gl, a, al, c2, e2, m0, rfl, hE, hE2, hS, hsl, hp, hk, ⟨hn1, hn2, hn3⟩, hc1, hm1⟩, hl, hd, hfi, hwa⟩
    · exact absurd (hPN.mp q1) u1
    · exact absurd (hPN.mp q1) u1
  · rcases hC with ⟨⟨q1, rfl⟩ | ⟨q1, q2, rfl⟩, hK2⟩ | ⟨c', rfl, ⟨q1, q3⟩, q2, hK2⟩
    · exact absurd (hPN.mpr u1) q1
    · exact ⟨-102, rfl, rfl, P, N, c, n0, e0, n1, e1, n, cd, K, M, e, fr, fi, wa, nn, ff, hK2, ⟨g, gl, a, al, c2, e2, m0, rfl, hE, hE2, hS, hsl, hp, hk, ⟨hn1, hn2, hn3⟩, hc1, hm1⟩, hl, hd, hfi, hwa⟩
    · rw [zx_1_eq] at q3; rw [q3] at u2; cases u2
  · rcases hC with ⟨⟨q1, rfl⟩ | ⟨q1, q2, rfl⟩, hK2⟩ | ⟨c', rfl, ⟨q1, q3⟩, q2, hK2⟩
    · exact absurd (hPN.mpr u1) q1
    · exact absurd u2 q2
    · have hE3 := zc_times hE q2
      exact ⟨zd_disc P N c', rfl, by rw [zd_disc_E hE3], zREL_new hK2 (zMW_new ff hf hE3 z0 z1 hE2 hp hk ⟨hn1, hn2, hn3⟩ hm1) hfi hwa⟩
theorem zR_image {wC wM : List zm_E} (h : zREL wC wM) : zgo 82 204 [] wC wM := by
  obtain ⟨P, N, c, n0, e0, n1, e1, n, cd, K, M, e, fr, fi, wa, nn, ff, hK, hM, hl, hd, hfi, hwa⟩ := h
  have hh := zKW_ok hK
  obtain ⟨g, gl, a, al, c2, e2, m0, rfl, hE, hE2, hS, hsl, hp, hk, ⟨hn1, hn2, hn3⟩, hc1, hm1⟩ := hM
  refine zgo_mk (zp_C_image wC P N c n0 e0 n1 e1 n cd K M e fr fi wa hK) (zs_M_image g gl a al zG_ok P N c2 hS) (Nat.le_of_ble_eq_true rfl : 5 ≤ 46) (Nat.le_of_ble_eq_true rfl : 5 ≤ 46) ?_
  intro v wC2 u wM2 hC hu
  rcases hu with ⟨u1, rfl, rfl⟩ | ⟨u1, rfl, f15, f24, rfl, hf⟩
  · rcases hC with ⟨q1, rfl, hK2⟩ | ⟨q1, rfl, hK2⟩
    · exact ⟨-103, rfl, rfl, P, N, c, n0, e0, n1, e1, n, cd, K, M, e, fr, fi, wa, nn, ff, hK2, ⟨g, gl, a, al, c2, e2, m0, rfl, hE, hE2, hS, hsl, hp, hk, ⟨hn1, hn2, hn3⟩, hc1, hm1⟩, hl, hd, hfi, hwa⟩
    · exact absurd q1 u1
  · rcases hC with ⟨q1, rfl, hK2⟩ | ⟨q1, rfl, hK2⟩
    · exact absurd u1 q1
    · obtain ⟨g0, g1, -⟩ := hS.nums
      exact ⟨nI (zv_np P N), rfl, rfl, P, N, c, n0, e0, n1, e1, n, cd, P, N, c, fr, fi, wa, nn, ff, hK2, ⟨upd (upd (upd (upd g 40 (g 0)) 41 (g 1)) 42 (nI (zw_kd P N c2))) 43 (zd_disc P N c2), gl, va_up (va_up a 15 f15) 24 f24, al, c2, c2, m0, rfl, hE, hE, hS, hsl, hp, Or.inr ⟨(hh.1 u1).1, g0, g1, rfl, rfl, hf, hc1.2⟩, ⟨hn1, hn2, hn3⟩, hc1, hm1⟩, hl, hd, hfi, hwa⟩
theorem zR_restore {wC wM : List zm_E} (h : zREL wC wM) : zgo 83 205 [] wC wM := by
  obtain ⟨P, N, c, n0, e0, n1, e1, n, cd, K, M, e, fr, fi, wa, nn, ff, hK, hM, hl, hd, hfi, hwa⟩ := h
  have hh := zKW_ok hK
  obtain ⟨g, gl, a, al, c2, e2, m0, rfl, hE, hE2, hS, hsl, hp, hk, ⟨hn1, hn2, hn3⟩, hc1, hm1⟩ := hM
  have hKM : 0 < M ↔ 0 < K := ⟨fun q => Nat.pos_of_ne_zero (fun r => by have := hh.2.2.2 r; omega), fun q => by have := (hh.2.2.1 q).2.1; omega⟩
  refine zgo_mk (zp_C_restore wC P N c n0 e0 n1 e1 n cd K M e fr fi wa hK) (zs_M_restore g gl a al zG_ok K M e2 hk) (Nat.le_of_ble_eq_true rfl : 5 ≤ 46) (Nat.le_of_ble_eq_true rfl : 9 ≤ 46) ?_
  intro v wC2 u wM2 hC hu
  rcases hu with ⟨u1, rfl, rfl⟩ | ⟨u1, rfl, f1, f3, f4, x10, x11, x12, x14, x25, f5, f6, f7, f9, f10, f11, f12, f13, f14, f16, rfl, hf, z0, z1⟩
  · rcases hC with ⟨q1, rfl, hK2⟩ | ⟨q1, rfl, hK2⟩
    · exact ⟨-103, rfl, rfl, P, N, c, n0, e0, n1, e1, n, cd, K, M, e, fr, fi, wa, nn, ff, hK2, ⟨g, gl, a, al, c2, e2, m0, rfl, hE, hE2, hS, hsl, hp, hk, ⟨hn1, hn2, hn3⟩, hc1, hm1⟩, hl, hd, hfi, hwa⟩
    · exact absurd (hKM.mp q1) u1
  · rcases hC with ⟨q1, rfl, hK2⟩ | ⟨q1, rfl, hK2⟩
    · have := hKM.mpr u1
      omega
    · exact ⟨nI (zv_np K M), rfl, rfl, zREL_new hK2 (zMW_new ff hf hE2 z0 z1 hE2 hp hk ⟨hn1, hn2, hn3⟩ hm1) hfi hwa⟩
theorem zp_text_u {cd : Nat → Nat} {n P N P' N' : Nat} (h : zp_text cd n P N) (h' : zp_text cd n P' N') : P' = P ∧ N' = N := by
  obtain ⟨-, d, h1, -⟩ := h
  obtain ⟨-, d', h2, -⟩ := h'
  rw [h1] at h2
  cases h2
  exact ⟨rfl, rfl⟩
theorem zR_form {wC wM : List zm_E} (h : zREL wC wM) : zgo 59 117 [] wC wM := by
  obtain ⟨P, N, c, n0, e0, n1, e1, n, cd, K, M, e, fr, fi, wa, nn, ff, hK, hM, hl, hd, hfi, hwa⟩ := h
  have hh := zKW_ok hK
  obtain ⟨g, gl, a, al, c2, e2, m0, rfl, hE, hE2, hS, hsl, hp, hk, ⟨hn1, hn2, hn3⟩, hc1, hm1⟩ := hM
  refine zgo_mk (zp_C_form wC P N c n0 e0 n1 e1 n cd K M e fr fi wa hK) (zs_M_form g gl a al zG_ok n cd hp fr hn1 c2 hc1.1 hc1.2) (Nat.le_of_ble_eq_true rfl : 5 ≤ 46) (Nat.le_of_ble_eq_true rfl : 9 ≤ 46) ?_
  intro v wC2 u wM2 hC hu
  rcases hu with ⟨u1, rfl, x16, m, r, d, f8, rfl⟩ | ⟨P', N', u1, rfl, x10, x11, x12, x14, x16, x17, x18, x19, x25, f1, f3, f4, f5, f6, f7, f8, f9, f10, f11, f12, f13, f14, f16, rfl, hf, z0, z1⟩
  · rcases hC with ⟨q1, rfl, hK2⟩ | ⟨P2, N2, c', q1, rfl, q2, hK2⟩
    · exact ⟨-103, rfl, rfl, P, N, c, n0, e0, n1, e1, n, cd, K, M, e, fr, fi, wa, nn, ff, hK2, ⟨upd (upd (upd (upd g 16 x16) 17 (nI m)) 18 (nI r)) 19 (nI d), gl, va_up a 8 f8, al, c2, e2, m0, rfl, hE, hE2, hS, hsl, hp, hk, ⟨hn1, hn2, hn3⟩, hc1, hm1⟩, hl, hd, hfi, hwa⟩
    · exact absurd ⟨P2, N2, q1⟩ u1
  · rcases hC with ⟨q1, rfl, hK2⟩ | ⟨P2, N2, c', q1, rfl, q2, hK2⟩
    · exact absurd ⟨P', N', u1⟩ q1
    · obtain ⟨rfl, rfl⟩ := zp_text_u u1 q1
      have hN6 := zv_okN hf.1
      have hE3 : zc_E N2 (zp_c cd N2 c2) c' := fun i j hij hj => by
        rw [q2 i j hij hj]
        have k1 : (6 * i + j) / 6 = i := by omega
        have k2 : (6 * i + j) % 6 = j := by omega
        unfold zp_c
        rw [if_pos (by omega), if_pos (by omega)]
      exact ⟨nI (zv_np P2 N2), rfl, rfl, zREL_new hK2 (zMW_new ff hf hE3 z0 z1 hE2 ⟨rfl, Nat.zero_le _, fun k z => absurd z (Nat.not_lt_zero k), fun k z => absurd z (Nat.not_lt_zero k)⟩ hk ⟨rfl, hn2, hn3⟩ hm1) hfi hwa⟩
