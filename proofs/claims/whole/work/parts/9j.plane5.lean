/-! P is 2, N is 6: three independent members lie in exactly one plane -/
theorem zC_sub {f g : Nat → Bool} : ∀ n, (∀ k, k < n → f k = true → g k = true) → zC f n ≤ zC g n ∧ (zC f n = zC g n → ∀ k, k < n → f k = g k)
  | 0, _ => ⟨Nat.le_refl _, fun _ k hk => absurd hk (Nat.not_lt_zero k)⟩
  | n + 1, h => by
    obtain ⟨i1, i2⟩ := zC_sub n (fun k hk => h k (by omega))
    have e1 : zC f (n + 1) = zC f n + (f n).toNat := rfl
    have e2 : zC g (n + 1) = zC g n + (g n).toNat := rfl
    have h1 : (f n).toNat ≤ (g n).toNat := by
      cases hf : f n with
      | false => exact Nat.zero_le _
      | true => rw [h n (by omega) hf]; exact Nat.le_refl _
    refine ⟨by omega, fun e k hk => ?_⟩
    rcases Nat.lt_or_ge k n with z | z
    · exact i2 (by omega) k z
    · have hk : k = n := by omega
      subst hk
      have h2 : (f k).toNat = (g k).toNat := by omega
      cases hf : f k <;> cases hg : g k <;> rw [hf, hg] at h2 <;> first | rfl | exact absurd h2 (by decide)
theorem zS3_sub {c : Nat → Nat} (hNS : zNS 2 6 c) {p q r x y z : Nat} (h : zlr c p q r) (h2 : zlr c x y z) (hx : zpl c p q r x) (hy : zpl c p q r y) (hz : zpl c p q r z) : zS3 c x y z = zS3 c p q r := by
  have h64 := zon64 zok26 hNS
  have h64 : zw_on 2 6 c ≤ 64 := by omega
  refine lb_ext ((zC_sub 64 (fun k _ hk => ?_)).2 (by rw [(zS3_wf hNS h).2, (zS3_wf hNS h2).2]))
  obtain ⟨k1, k2⟩ := (zS3_iff hNS h64 h2).mp hk
  refine (zS3_iff hNS h64 h).mpr ⟨k1, zsp_trans (by decide) _ (fun v hv => ?_) k2⟩
  simp only [List.mem_cons, List.not_mem_nil, or_false] at hv
  rcases hv with rfl | rfl | rfl
  · exact hx
  · exact hy
  · exact hz
/-- what a plane's mask says of the numbers that it is put down with -/
theorem zcp_uniq {c : Nat → Nat} (hNS : zNS 2 6 c) {p q r x y z : Nat} (hpq : p < q) (hxy : x < y) (h : zcp c p q r) (h2 : zcp c x y z) (e : zS3 c p q r = zS3 c x y z) : p = x ∧ q = y ∧ r = z := by
  have h64 := zon64 zok26 hNS
  have h64 : zw_on 2 6 c ≤ 64 := by omega
  obtain ⟨a1, a2, a3⟩ := h
  obtain ⟨b1, b2, b3⟩ := h2
  have hin : ∀ s, s < zw_on 2 6 c → (zpl c p q r s ↔ zpl c x y z s) := fun s hs => by
    have u1 := zS3_iff hNS h64 a1 (s := s)
    have u2 := zS3_iff hNS h64 b1 (s := s)
    rw [e] at u1
    exact ⟨fun w => (u2.mp (u1.mpr ⟨hs, w⟩)).2, fun w => (u1.mp (u2.mpr ⟨hs, w⟩)).2⟩
  have hp := a1.1
  have hq := a1.2.1
  have hr := a1.2.2.1
  have hx := b1.1
  have hy := b1.2.1
  have hz := b1.2.2.1
  have m1 : ∀ p q r : Nat, zpl c p q r p := fun p q r => zsp_mem (by decide) _ (by simp)
  have m2 : ∀ p q r : Nat, zpl c p q r q := fun p q r => zsp_mem (by decide) _ (by simp)
  have m3 : ∀ p q r : Nat, zpl c p q r r := fun p q r => zsp_mem (by decide) _ (by simp)
  have w1 := a3 x hx ((hin x hx).mpr (m1 x y z))
  have w2 := a3 y hy ((hin y hy).mpr (m2 x y z))
  have w3 := b3 p hp ((hin p hp).mp (m1 p q r))
  have w4 := b3 q hq ((hin q hq).mp (m2 p q r))
  have e1 : p = x := by omega
  have e2 : q = y := by omega
  subst e1 e2
  refine ⟨rfl, rfl, ?_⟩
  rcases Nat.lt_trichotomy r z with w | w | w
  · exact absurd ((hin r hr).mp (m3 p q r)) (b2 r w a1.2.2.2.2.2.2.2)
  · exact w
  · exact absurd ((hin z hz).mpr (m3 p q z)) (a2 z w b1.2.2.2.2.2.2.2)
/-- the number of the line of p, q -/
def zln_no (P N : Nat) (c : Nat → Nat) (p q : Nat) : Nat := zC (zf_gl (zf_L P N c) (zw_on P N c)) (p * zw_on P N c + q)
theorem zln_at {P N : Nat} {c : Nat → Nat} (hok : zv_ok P N) (hNS : zNS P N c) {p q : Nat} (hp : p < zw_on P N c) (hq : q < zw_on P N c) (ht : ztwo P N c p q) : zln_no P N c p q < zf_nl (zf_L P N c) (zw_on P N c) ∧ zf_lm (zf_L P N c) (zw_on P N c) (zln_no P N c p q) = zS2 P N c p q := by
  have h64 := zon64 hok hNS
  have hn : 0 < zw_on P N c := by omega
  have ht1 : p * zw_on P N c + q < zw_on P N c * zw_on P N c := by
    have := Nat.mul_le_mul_right (zw_on P N c) (show p + 1 ≤ zw_on P N c from hp)
    rw [Nat.add_mul, Nat.one_mul] at this
    omega
  have d1 : (p * zw_on P N c + q) / zw_on P N c = p := by rw [Nat.mul_comm, Nat.mul_add_div hn, Nat.div_eq_of_lt hq, Nat.add_zero]
  have d2 : (p * zw_on P N c + q) % zw_on P N c = q := by rw [Nat.mul_comm, Nat.mul_add_mod, Nat.mod_eq_of_lt hq]
  have hg : zf_gl (zf_L P N c) (zw_on P N c) (p * zw_on P N c + q) = true := by
    unfold zf_gl
    rw [d1, d2]
    exact (zgd_iff hok hNS (by omega) hp hq).mpr ht
  refine ⟨zC_lt hg ht1, ?_⟩
  have hX := zX_at hg ht1
  unfold zln_no zf_lm
  rw [hX, d1, d2]; rfl
theorem zln_eq {P N : Nat} {c : Nat → Nat} {l p q : Nat} (hl : l < zf_nl (zf_L P N c) (zw_on P N c)) (e1 : zX (zf_gl (zf_L P N c) (zw_on P N c)) (zw_on P N c * zw_on P N c) l / zw_on P N c = p) (e2 : zX (zf_gl (zf_L P N c) (zw_on P N c)) (zw_on P N c * zw_on P N c) l % zw_on P N c = q) : l = zln_no P N c p q := by
  have et : zX (zf_gl (zf_L P N c) (zw_on P N c)) (zw_on P N c * zw_on P N c) l = p * zw_on P N c + q := by
    have := Nat.div_add_mod (zX (zf_gl (zf_L P N c) (zw_on P N c)) (zw_on P N c * zw_on P N c) l) (zw_on P N c)
    rw [e1, e2, Nat.mul_comm] at this
    exact this.symm
  have h5 := (zX_ok (f := zf_gl (zf_L P N c) (zw_on P N c)) (n := zw_on P N c * zw_on P N c) hl).2.2
  rw [et] at h5
  exact h5.symm
/-- a line's two lowest from its mask -/
theorem zS2_uniq {P N : Nat} {c : Nat → Nat} (hok : zv_ok P N) (hNS : zNS P N c) {p q x y : Nat} (hp : p < zw_on P N c) (hq : q < zw_on P N c) (hx : x < zw_on P N c) (hy : y < zw_on P N c) (h : ztwo P N c p q) (h2 : ztwo P N c x y) (e : zS2 P N c p q = zS2 P N c x y) : p = x ∧ q = y := by
  have h64 := zon64 hok hNS
  have hP0 := (zv_P5 hok.1).1
  have h64 : zw_on P N c ≤ 64 := by omega
  have hin : ∀ s, s < zw_on P N c → (zon P N c p q s ↔ zon P N c x y s) := fun s hs => by
    have u1 := zS2_iff hok hNS h64 hp hq h.1 (s := s)
    have u2 := zS2_iff hok hNS h64 hx hy h2.1 (s := s)
    rw [e] at u1
    exact ⟨fun w => (u2.mp (u1.mpr ⟨hs, w⟩)).2, fun w => (u1.mp (u2.mpr ⟨hs, w⟩)).2⟩
  have w1 := h.2.2 x hx ((hin x hx).mpr (zsp_l hP0 _ _))
  have w2 := h.2.2 y hy ((hin y hy).mpr (zsp_r hP0 _ _))
  have w3 := h2.2.2 p hp ((hin p hp).mp (zsp_l hP0 _ _))
  have w4 := h2.2.2 q hq ((hin q hq).mp (zsp_r hP0 _ _))
  have := h.2.1
  have := h2.2.1
  exact ⟨by omega, by omega⟩
theorem zpm_inj {c : Nat → Nat} (hNS : zNS 2 6 c) {l m : Nat} (hl : l < zf_np (zf_L 2 6 c) (zw_on 2 6 c)) (hm : m < zf_np (zf_L 2 6 c) (zw_on 2 6 c)) (e : zf_pm (zf_L 2 6 c) (zw_on 2 6 c) l = zf_pm (zf_L 2 6 c) (zw_on 2 6 c) m) : l = m := by
  have h64 := zon64 zok26 hNS
  have h64 : zw_on 2 6 c ≤ 64 := by omega
  obtain ⟨p, q, r, hp, hq, hr, ht, hc, a1, a2, a3, a4, -⟩ := (zplanes hNS).2 l hl
  obtain ⟨x, y, z, hx, hy, hz, ht2, hc2, b1, b2, b3, b4, -⟩ := (zplanes hNS).2 m hm
  rw [a4, b4] at e
  obtain ⟨rfl, rfl, rfl⟩ := zcp_uniq hNS ht.2.1 ht2.2.1 hc hc2 e
  obtain ⟨p1, q1, hp1, hq1, ht1, c1, c2, c3, -⟩ := (zlines zok26 hNS h64).2 _ a1
  obtain ⟨x1, y1, hx1, hy1, ht3, d1, d2, d3, -⟩ := (zlines zok26 hNS h64).2 _ b1
  obtain ⟨rfl, rfl⟩ := zS2_uniq zok26 hNS hp1 hq1 hp hq ht1 ht (by rw [← c3, a3])
  obtain ⟨rfl, rfl⟩ := zS2_uniq zok26 hNS hx1 hy1 hp hq ht3 ht (by rw [← d3, b3])
  have f1 := zln_eq a1 c1 c2
  have f2 := zln_eq b1 d1 d2
  have g1 := Nat.div_add_mod (zX (zf_gq (zf_L 2 6 c) (zw_on 2 6 c)) (zw_on 2 6 c * zf_nl (zf_L 2 6 c) (zw_on 2 6 c)) l) (zw_on 2 6 c)
  have g2 := Nat.div_add_mod (zX (zf_gq (zf_L 2 6 c) (zw_on 2 6 c)) (zw_on 2 6 c * zf_nl (zf_L 2 6 c) (zw_on 2 6 c)) m) (zw_on 2 6 c)
  rw [f1, a2] at g1
  rw [f2, b2] at g2
  have k1 := (zX_ok (f := zf_gq (zf_L 2 6 c) (zw_on 2 6 c)) (n := zw_on 2 6 c * zf_nl (zf_L 2 6 c) (zw_on 2 6 c)) hl).2.2
  have k2 := (zX_ok (f := zf_gq (zf_L 2 6 c) (zw_on 2 6 c)) (n := zw_on 2 6 c * zf_nl (zf_L 2 6 c) (zw_on 2 6 c)) hm).2.2
  rw [← k1, ← k2, ← g1, ← g2]
/-- there is a plane where three independent members are linked -/
theorem zpm_ex {c : Nat → Nat} (hNS : zNS 2 6 c) {p q t : Nat} (h : zlr c p q t) : 0 < zf_np (zf_L 2 6 c) (zw_on 2 6 c) := by
  have h64 := zon64 zok26 hNS
  have h64 : zw_on 2 6 c ≤ 64 := by omega
  obtain ⟨w1, w2⟩ := zS3_wf hNS h
  have c0 := zX_ok (f := lb (zS3 c p q t)) (n := 64) (l := 0) (by omega)
  have c1 := zX_ok (f := lb (zS3 c p q t)) (n := 64) (l := 1) (by omega)
  have hxy := zX_inc (f := lb (zS3 c p q t)) (n := 64) 0 1 (by omega) (by omega)
  have hlow : ∀ s, lb (zS3 c p q t) s = true → s = zX (lb (zS3 c p q t)) 64 0 ∨ zX (lb (zS3 c p q t)) 64 1 ≤ s := by
    intro s hs
    have hs64 : s < 64 := by
      rcases Nat.lt_or_ge s 64 with z | z
      · exact z
      · rw [lb_ge z] at hs; cases hs
    have e := zX_at hs hs64
    have e2 := zC_lt hs hs64
    rcases Nat.eq_zero_or_pos (zC (lb (zS3 c p q t)) s) with z | z
    · rw [z] at e; exact Or.inl e.symm
    · rcases Nat.eq_or_lt_of_le (show 1 ≤ zC (lb (zS3 c p q t)) s from z) with z2 | z2
      · rw [← z2] at e; exact Or.inr (by omega)
      · have := zX_inc (f := lb (zS3 c p q t)) (n := 64) 1 _ z2 (by omega)
        exact Or.inr (by omega)
  have hx := (w1 0 (by omega)).1
  have hy := (w1 1 (by omega)).1
  generalize zX (lb (zS3 c p q t)) 64 0 = x at *
  generalize zX (lb (zS3 c p q t)) 64 1 = y at *
  have px := ((zS3_iff hNS h64 h).mp c0.2.1).2
  have py := ((zS3_iff hNS h64 h).mp c1.2.1).2
  have hlxy := zpl_lk h hx px py
  have hsub2 : ∀ s, zon 2 6 c x y s → zpl c p q t s := fun s hz => zsp_trans (by decide) _ (fun v hv => by
    simp only [List.mem_cons, List.not_mem_nil, or_false] at hv
    rcases hv with rfl | rfl
    · exact px
    · exact py) hz
  have htw : ztwo 2 6 c x y := ⟨hlxy, hxy, fun s hs hz => hlow s ((zS3_iff hNS h64 h).mpr ⟨hs, hsub2 s hz⟩)⟩
  have hex : ∃ z, lb (zS3 c p q t) z = true ∧ lb (zS2 2 6 c x y) z = false := by
    refine Classical.byContradiction (fun hne => ?_)
    have h1 := (zC_sub (f := lb (zS3 c p q t)) (g := lb (zS2 2 6 c x y)) 64 (fun k _ hk => by
      cases hb : lb (zS2 2 6 c x y) k with
      | true => rfl
      | false => exact absurd ⟨k, hk, hb⟩ hne)).1
    rw [w2, (zS2_ln zok26 hNS h64 hx hy (by omega) hlxy).2] at h1
    omega
  have hmin : ∃ z, (lb (zS3 c p q t) z = true ∧ lb (zS2 2 6 c x y) z = false) ∧ ∀ s, s < z → ¬ (lb (zS3 c p q t) s = true ∧ lb (zS2 2 6 c x y) s = false) := by
    obtain ⟨z, hz⟩ := hex
    induction z using Nat.strongRecOn with
    | ind z ih =>
      by_cases hq : ∃ s, s < z ∧ (lb (zS3 c p q t) s = true ∧ lb (zS2 2 6 c x y) s = false)
      · obtain ⟨s, hs, hs2⟩ := hq
        exact ih s hs hs2
      · exact ⟨z, hz, fun s hs hs2 => hq ⟨s, hs, hs2⟩⟩
  obtain ⟨z, ⟨z1, z2⟩, z3⟩ := hmin
  obtain ⟨hz, pz⟩ := (zS3_iff hNS h64 h).mp z1
  have hnz : ¬ zon 2 6 c x y z := fun w => by
    rw [(zS2_iff zok26 hNS h64 hx hy hlxy).mpr ⟨hz, w⟩] at z2; cases z2
  have hlr : zlr c x y z := ⟨hx, hy, hz, by omega, hlxy, zpl_lk h hx px pz, zpl_lk h hy py pz, hnz⟩
  have hS := zS3_sub hNS h hlr px py pz
  have hback : ∀ s, s < zw_on 2 6 c → zpl c x y z s → lb (zS3 c p q t) s = true := fun s hs hw => by rw [← hS]; exact (zS3_iff hNS h64 hlr).mpr ⟨hs, hw⟩
  have hcp : zcp c x y z := ⟨hlr, fun s hs hns hw => by
    refine z3 s hs ⟨hback s (by omega) hw, Bool.eq_false_iff.mpr (fun hb => hns ((zS2_iff zok26 hNS h64 hx hy hlxy).mp hb).2)⟩, fun s hs hw => hlow s (hback s hs hw)⟩
  obtain ⟨l1, l2⟩ := zln_at zok26 hNS hx hy htw
  have hn : 0 < zw_on 2 6 c := by omega
  have hg : zf_gq (zf_L 2 6 c) (zw_on 2 6 c) (zw_on 2 6 c * zln_no 2 6 c x y + z) = true := by
    unfold zf_gq
    rw [Nat.mul_add_div hn, Nat.div_eq_of_lt hz, Nat.add_zero, Nat.mul_add_mod, Nat.mod_eq_of_lt hz, l2]
    exact (zgp_iff hNS hx hy hz htw).mpr hcp
  have hlt : zw_on 2 6 c * zln_no 2 6 c x y + z < zw_on 2 6 c * zf_nl (zf_L 2 6 c) (zw_on 2 6 c) := by
    have := Nat.mul_le_mul_left (zw_on 2 6 c) (show zln_no 2 6 c x y + 1 ≤ zf_nl (zf_L 2 6 c) (zw_on 2 6 c) from l1)
    rw [Nat.mul_add, Nat.mul_one] at this
    omega
  have := zC_lt hg hlt
  have : zC (zf_gq (zf_L 2 6 c) (zw_on 2 6 c)) (zw_on 2 6 c * zln_no 2 6 c x y + z) + 1 ≤ zf_np (zf_L 2 6 c) (zw_on 2 6 c) := this
  omega
