/-! what is covered: the same on both sides; left -/
theorem zhas_eq {P N : Nat} {c : Nat → Nat} (hok : zv_ok P N) (hNS : zNS P N c) {k r : Nat} (hk : k < zw_gm P N c) (hr : r < zw_on P N c) : zw_has P N c k (zj_x P N c r) = lb (zj_m P N c k) r := by
  have h64 := zon64 hok hNS
  have hd := zj_d13 (c := c) hok
  have hix := (zall hok hNS).1
  obtain ⟨m1, m2⟩ := zmk_pin hok hNS hd.1 hd.2 (f := k) (by rw [hix]; exact hk)
  have hm : zj_m P N c k = zj_mk P N c (zj_d P N c) k := rfl
  rw [hm]
  rw [hix] at m1 m2 ⊢
  generalize zj_mk P N c (zw_ix P N c) k = m at *
  refine zb_iff ?_
  have hE : zw_has P N c k (zj_x P N c r) = true ↔ ∃ j, j < zq_sz P (zw_ix P N c) ∧ zw_pin P N c (zw_ix P N c) k j = zj_x P N c r := by
    unfold zw_has zq_has
    rw [zE_iff]
    exact ⟨fun ⟨j, h1, h2⟩ => ⟨j, h1, beq_iff_eq.mp h2⟩, fun ⟨j, h1, h2⟩ => ⟨j, h1, beq_iff_eq.mpr h2⟩⟩
  rw [hE]
  constructor
  · rintro ⟨j, hj, e⟩
    obtain ⟨w1, w2⟩ := m2 j hj
    have := zj_x_inj w1 hr (w2.trans e)
    rw [← this]
    exact (zX_ok (f := lb m) (n := 64) (l := j) (by omega)).2.1
  · intro hb
    have h1 := zC_lt hb (show r < 64 by omega)
    have h2 := zX_at hb (show r < 64 by omega)
    refine ⟨zC (lb m) r, by omega, ?_⟩
    rw [← (m2 _ (by omega)).2, h2]
theorem zj_m_in {P N : Nat} {c : Nat → Nat} (hok : zv_ok P N) (hNS : zNS P N c) (h0 : zw_ns P N c = 0) {k j : Nat} (hk : k < zw_gm P N c) (h : lb (zj_m P N c k) j = true) : j < zw_on P N c := by
  have hd := zj_d13 (c := c) hok
  exact zJ2_ok P N c hok (by rw [← zj_ns_eq hok]; exact h0) (zj_d P N c) k hd.1 hd.2 (by rw [← zj_gm_eq hok hNS] at hk; exact hk) j h
/-- a member covers the same maximal flats; a maximal flat the same members -/
theorem zrc_0 {P N : Nat} {c : Nat → Nat} (hok : zv_ok P N) (hNS : zNS P N c) {r : Nat} (hr : r < zw_on P N c) : zw_rc P N c 0 (zj_x P N c r) = zj_p P N c r := by
  have hg := zgm45 hok hNS
  unfold zw_rc zj_p
  rw [if_pos rfl, zj_gm_eq hok hNS]
  refine lb_ext (fun j _ => ?_)
  rw [lb_L _ (by omega), lb_L _ (by omega)]
  by_cases hj : j < zw_gm P N c
  · rw [zhas_eq hok hNS hj hr]
  · rw [decide_eq_false hj]; rfl
theorem zrc_1 {P N : Nat} {c : Nat → Nat} (hok : zv_ok P N) (hNS : zNS P N c) (h0 : zw_ns P N c = 0) {k : Nat} (hk : k < zw_gm P N c) : zw_rc P N c 1 k = zj_m P N c k := by
  have h64 := zon64 hok hNS
  unfold zw_rc
  rw [if_neg (by decide)]
  refine lb_ext (fun j _ => ?_)
  have hon : zC (zw_oo P N c) (zv_np P N) = zw_on P N c := rfl
  rw [lb_Lo _ (by rw [hon]; omega), hon]
  by_cases hj : j < zw_on P N c
  · rw [decide_eq_true hj, Bool.true_and]
    exact zhas_eq hok hNS hk hj
  · rw [decide_eq_false hj, Bool.false_and]
    exact (Bool.eq_false_iff.mpr (fun w => hj (zj_m_in hok hNS h0 hk w))).symm
theorem zrd_0 {P N : Nat} {c : Nat → Nat} (hok : zv_ok P N) (hNS : zNS P N c) {f e0 : Nat → Nat} : ∀ n, (∀ k, k < n → e0 k < zw_on P N c ∧ f k = zj_x P N c (e0 k)) → zw_rd P N c 0 f n = zg_or (fun k => zj_p P N c (e0 k)) n
  | 0, _ => rfl
  | n + 1, h => by
    show zw_rd P N c 0 f n ||| zw_rc P N c 0 (f n) = zg_or (fun k => zj_p P N c (e0 k)) n ||| zj_p P N c (e0 n)
    rw [zrd_0 hok hNS n (fun k hk => h k (by omega)), (h n (by omega)).2, zrc_0 hok hNS (h n (by omega)).1]
theorem zrd_1 {P N : Nat} {c : Nat → Nat} (hok : zv_ok P N) (hNS : zNS P N c) (h0 : zw_ns P N c = 0) {f e1 : Nat → Nat} : ∀ n, (∀ k, k < n → e1 k < zw_gm P N c ∧ f k = e1 k) → zw_rd P N c 1 f n = zg_or (fun k => zj_m P N c (e1 k)) n
  | 0, _ => rfl
  | n + 1, h => by
    show zw_rd P N c 1 f n ||| zw_rc P N c 1 (f n) = zg_or (fun k => zj_m P N c (e1 k)) n ||| zj_m P N c (e1 n)
    rw [zrd_1 hok hNS h0 n (fun k hk => h k (by omega)), (h n (by omega)).2, zrc_1 hok hNS h0 (h n (by omega)).1]
/-- the two lists hold the same -/
def zlst (P N : Nat) (c : Nat → Nat) (nn : Nat → Nat) (ff : Nat → Nat → Nat) (n0 : Nat) (e0 : Nat → Nat) (n1 : Nat) (e1 : Nat → Nat) : Prop := nn 0 = n0 ∧ nn 1 = n1 ∧ (∀ k, k < n0 → e0 k < zw_on P N c ∧ ff 0 k = zj_x P N c (e0 k)) ∧ ∀ k, k < n1 → e1 k < zw_gm P N c ∧ ff 1 k = e1 k
theorem zb_left {P N : Nat} {c : Nat → Nat} {nn : Nat → Nat} {ff : Nat → Nat → Nat} {n0 n1 : Nat} {e0 e1 : Nat → Nat} (h : 0 < P → zv_ok P N) (hl : zlst P N c nn ff n0 e0 n1 e1) (x : Int32) : ac_left P N c n0 e0 n1 e1 x = aw_left P N c nn ff x := by
  unfold ac_left aw_left
  rw [zok_eq h]
  by_cases hx : zx_in x 2 = true
  · rw [if_pos hx, if_pos hx]
    by_cases hs : zw_sound P N c = true
    · obtain ⟨hok, hNS, h0⟩ := zok_NS h hs
      obtain ⟨l0, l1, l2, l3⟩ := hl
      rw [if_pos hs, if_pos hs]
      have hk := (zx_of hx).1
      unfold zj_lf zw_lf zw_wt
      rcases (show zx_k x = 0 ∨ zx_k x = 1 by omega) with e | e
      · rw [e, if_pos rfl, if_pos rfl, l0, zrd_0 hok hNS n0 l2, zj_gm_eq hok hNS]
      · rw [e, if_neg (by decide), if_neg (by decide), l1, zrd_1 hok hNS h0 n1 l3]
    · rw [if_neg hs, if_neg hs]
  · rw [if_neg hx, if_neg hx]
