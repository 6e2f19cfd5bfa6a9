/-! P is 2, N is 6: the planes of the class are the reference's -/
theorem zl2_b {x : Int64} {p q : Nat} (hpq : p < q) (hq : q < 64) : zf_l2 x = zf_b p ||| zf_b q ↔ lb x p = true ∧ lb x q = true ∧ ∀ s, lb x s = true → s = p ∨ q ≤ s := by
  have hb : ∀ j, lb (zf_b p ||| zf_b q) j = true ↔ j = p ∨ j = q := fun j => by
    rw [lb_or, zf_b_lb (by omega), zf_b_lb hq, Bool.or_eq_true, decide_eq_true_iff, decide_eq_true_iff]
    constructor
    · rintro (h | h)
      · exact Or.inl h.symm
      · exact Or.inr h.symm
    · rintro (h | h)
      · exact Or.inl h.symm
      · exact Or.inr h.symm
  constructor
  · intro h
    have h1 : lb (zf_l2 x) p = true := by rw [h]; exact (hb p).mpr (Or.inl rfl)
    have h2 : lb (zf_l2 x) q = true := by rw [h]; exact (hb q).mpr (Or.inr rfl)
    rw [zl2_iff (by omega)] at h1 h2
    have h3 := zC_lt h1.1 hpq
    refine ⟨h1.1, h2.1, fun s hs => ?_⟩
    rcases Nat.lt_trichotomy s p with z | z | z
    · have := zC_lt hs z; omega
    · exact Or.inl z
    · rcases Nat.lt_or_ge s q with y | y
      · have a1 := zC_lt hs y
        have a2 := zC_lt h1.1 z
        omega
      · exact Or.inr y
  · rintro ⟨h1, h2, h3⟩
    have c0 : zC (lb x) p = 0 := zC_no (fun s hs => Bool.eq_false_iff.mpr (fun z => by have := h3 s z; omega))
    have c1 : zC (lb x) q = 1 := by
      have e1 : zC (lb x) (p + 1) = zC (lb x) p + (lb x p).toNat := rfl
      rw [h1, c0] at e1
      have := zC_flat (f := lb x) (p := p + 1) (q - (p + 1)) (fun k hk1 hk2 => Bool.eq_false_iff.mpr (fun z => by have := h3 k z; omega))
      rw [show p + 1 + (q - (p + 1)) = q by omega] at this
      rw [this, e1]; rfl
    refine lb_ext (fun j hj => zb_iff ?_)
    rw [zl2_iff hj, hb]
    constructor
    · rintro ⟨a1, a2⟩
      rcases h3 j a1 with z | z
      · exact Or.inl z
      · rcases Nat.eq_or_lt_of_le z with y | y
        · exact Or.inr y.symm
        · have := zC_lt h2 y; omega
    · rintro (rfl | rfl)
      · exact ⟨h1, by omega⟩
      · exact ⟨h2, by omega⟩
/-- the plane of p, q, r is put down with them -/
def zcp (c : Nat → Nat) (p q r : Nat) : Prop := zlr c p q r ∧ (∀ t, t < r → ¬ zon 2 6 c p q t → ¬ zpl c p q r t) ∧ ∀ s, s < zw_on 2 6 c → zpl c p q r s → s = p ∨ q ≤ s
theorem zgp_iff {c : Nat → Nat} (hNS : zNS 2 6 c) {p q r : Nat} (hp : p < zw_on 2 6 c) (hq : q < zw_on 2 6 c) (hr : r < zw_on 2 6 c) (ht : ztwo 2 6 c p q) : zf_gp (zf_L 2 6 c) (zw_on 2 6 c) (zS2 2 6 c p q) r = true ↔ zcp c p q r := by
  have h64 := zon64 zok26 hNS
  have h64 : zw_on 2 6 c ≤ 64 := by omega
  obtain ⟨hl, hpq, h3⟩ := id ht
  have e2 : zf_l2 (zS2 2 6 c p q) = zf_b p ||| zf_b q := (zl2_b hpq (by omega)).mpr ⟨(zS2_iff zok26 hNS h64 hp hq hl).mpr ⟨hp, zsp_l (by decide) _ _⟩, (zS2_iff zok26 hNS h64 hp hq hl).mpr ⟨hq, zsp_r (by decide) _ _⟩, fun s hs => by
    obtain ⟨a1, a2⟩ := (zS2_iff zok26 hNS h64 hp hq hl).mp hs
    exact h3 s a1 a2⟩
  have hS : zf_sp (zf_L 2 6 c) (zw_on 2 6 c) (zS2 2 6 c p q ||| zf_b r) = zS3 c p q r := rfl
  unfold zf_gp zcp
  rw [Bool.and_eq_true, decide_eq_true_iff, zr2_iff hNS h64 hp hq (by omega) hl r (by omega), e2, hS, zl2_b hpq (by omega)]
  constructor
  · rintro ⟨⟨h1, h2⟩, -, -, h5⟩
    exact ⟨h1, h2, fun s hs hz => h5 s ((zS3_iff hNS h64 h1).mpr ⟨hs, hz⟩)⟩
  · rintro ⟨h1, h2, h4⟩
    refine ⟨⟨h1, h2⟩, (zS3_iff hNS h64 h1).mpr ⟨hp, zsp_mem (by decide) _ (by simp)⟩, (zS3_iff hNS h64 h1).mpr ⟨hq, zsp_mem (by decide) _ (by simp)⟩, fun s hs => ?_⟩
    obtain ⟨a1, a2⟩ := (zS3_iff hNS h64 h1).mp hs
    exact h4 s a1 a2
/-- the points of the plane are the reference's list -/
theorem zS3_wf {c : Nat → Nat} (hNS : zNS 2 6 c) {p q r : Nat} (h : zlr c p q r) : (∀ k, k < 7 → zX (lb (zS3 c p q r)) 64 k < zw_on 2 6 c ∧ zj_x 2 6 c (zX (lb (zS3 c p q r)) 64 k) = zwf 2 6 (zln 2 6 (zj_x 2 6 c p) (zj_x 2 6 c q) 2) (zj_x 2 6 c r) 3 k) ∧ zC (lb (zS3 c p q r)) 64 = 7 := by
  have h64 := zon64 zok26 hNS
  have h64 : zw_on 2 6 c ≤ 64 := by omega
  obtain ⟨hp, hq, hr, hpq, -, -, -, hno⟩ := id h
  obtain ⟨xp1, xp2, xp3⟩ := zj_x_ok hp
  obtain ⟨xq1, xq2, xq3⟩ := zj_x_ok hq
  obtain ⟨xr1, xr2, xr3⟩ := zj_x_ok hr
  have hxpq : zj_x 2 6 c p ≠ zj_x 2 6 c q := fun e => hpq (zj_x_inj hp hq e)
  have htl : ¬ zmm (zln 2 6 (zj_x 2 6 c p) (zj_x 2 6 c q) 2) 3 (zj_x 2 6 c r) := fun z => hno ((zln_sp zok26 xp1 xq1 hxpq xr1).mp z)
  have hinc := zwf_inc xp1 xq1 hxpq xr1 htl 3 (by omega)
  have hts := zlr_ts h
  have hll : ∀ k, k < 3 → zln 2 6 (zj_x 2 6 c p) (zj_x 2 6 c q) 2 k < zv_np 2 6 := fun k hk => by
    have hmm : zmm (zln 2 6 (zj_x 2 6 c p) (zj_x 2 6 c q) 2) 3 (zln 2 6 (zj_x 2 6 c p) (zj_x 2 6 c q) 2 k) := ⟨k, hk, rfl⟩
    rcases (zln_mm 2).mp hmm with e | ⟨d, hd, e⟩
    · rw [e]; exact xp1
    · rw [e]; exact (zpb_y zok26 xp1 xq1 hxpq hd).1
  have hmem : ∀ k, k < 7 → zwf 2 6 (zln 2 6 (zj_x 2 6 c p) (zj_x 2 6 c q) 2) (zj_x 2 6 c r) 3 k < zv_np 2 6 ∧ zw_oo 2 6 c (zwf 2 6 (zln 2 6 (zj_x 2 6 c p) (zj_x 2 6 c q) 2) (zj_x 2 6 c r) 3 k) = true ∧ zsp 2 6 [zj_v 2 6 c p, zj_v 2 6 c q, zj_v 2 6 c r] (zv_y 2 6 (zwf 2 6 (zln 2 6 (zj_x 2 6 c p) (zj_x 2 6 c q) 2) (zj_x 2 6 c r) 3 k)) := by
    intro k hk
    have hlt : zwf 2 6 (zln 2 6 (zj_x 2 6 c p) (zj_x 2 6 c q) 2) (zj_x 2 6 c r) 3 k < zv_np 2 6 := by
      have hmm : zmm (zwf 2 6 (zln 2 6 (zj_x 2 6 c p) (zj_x 2 6 c q) 2) (zj_x 2 6 c r) 3) (2 + 2 + 3) (zwf 2 6 (zln 2 6 (zj_x 2 6 c p) (zj_x 2 6 c q) 2) (zj_x 2 6 c r) 3 k) := ⟨k, hk, rfl⟩
      rcases (zwf_mm 3).mp hmm with e | ⟨j, hj, e⟩ | ⟨t, ht, e⟩
      · rw [e]; exact xr1
      · rw [← e]; exact hll j hj
      · rw [e, show t / (2 - 1) = t from Nat.div_one t, show t % (2 - 1) + 1 = 1 by rw [Nat.mod_one]]
        exact (zpb1_y (hll t ht) xr1 (fun e => htl ⟨t, ht, e⟩)).1
    have hs := (zwf_sp xp1 xq1 hxpq xr1 htl hlt).mp ⟨k, hk, rfl⟩
    exact ⟨hlt, zoo_iff.mpr (zsp_iso _ _ hts hs), hs⟩
  generalize hW : zwf 2 6 (zln 2 6 (zj_x 2 6 c p) (zj_x 2 6 c q) 2) (zj_x 2 6 c r) 3 = W at *
  have hfx : ∀ k, k < 7 → zj_x 2 6 c (zC (zw_oo 2 6 c) (W k)) = W k := fun k hk => zX_at (hmem k hk).2.1 (hmem k hk).1
  have hrk : ∀ k, k < 7 → zC (zw_oo 2 6 c) (W k) < zw_on 2 6 c := fun k hk => zC_lt (hmem k hk).2.1 (hmem k hk).1
  have hsrt := zsrt (f := fun k => zC (zw_oo 2 6 c) (W k)) (S := lb (zS3 c p q r)) (m := 7) (n := 64) (fun j k hjk hk => by
    have h1 := hinc j k hjk hk
    exact zC_lt (hmem j (by omega)).2.1 h1) (fun z hz => by
    rw [zS3_iff hNS h64 h]
    constructor
    · rintro ⟨hz1, hz2⟩
      obtain ⟨y1, y2, y3⟩ := zj_x_ok hz1
      have hm := (zwf_sp xp1 xq1 hxpq xr1 htl y1).mpr hz2
      rw [hW] at hm
      obtain ⟨k, hk, hk2⟩ := hm
      refine ⟨k, hk, ?_⟩
      show zC (zw_oo 2 6 c) (W k) = z
      rw [hk2]; exact y3
    · rintro ⟨k, hk, rfl⟩
      refine ⟨hrk k hk, ?_⟩
      unfold zpl
      rw [show zj_v 2 6 c (zC (zw_oo 2 6 c) (W k)) = zv_y 2 6 (W k) from by unfold zj_v; rw [hfx k hk]]
      exact (hmem k hk).2.2) (fun k hk => by have := hrk k hk; show zC _ _ < 64; omega)
  refine ⟨fun k hk => ?_, hsrt.2⟩
  rw [(hsrt.1 k hk).2]
  exact ⟨hrk k hk, hfx k hk⟩
theorem zcp_ref {c : Nat → Nat} (hNS : zNS 2 6 c) {p q r : Nat} (hp : p < zw_on 2 6 c) (hq : q < zw_on 2 6 c) (hr : r < zw_on 2 6 c) (ht : ztwo 2 6 c p q) : zcp c p q r ↔ zrefp 2 6 c (zj_x 2 6 c p) (zj_x 2 6 c q) (zj_x 2 6 c r) := by
  have h64 := zon64 zok26 hNS
  have h64 : zw_on 2 6 c ≤ 64 := by omega
  obtain ⟨xp1, xp2, xp3⟩ := zj_x_ok hp
  obtain ⟨xq1, xq2, xq3⟩ := zj_x_ok hq
  obtain ⟨xr1, xr2, xr3⟩ := zj_x_ok hr
  have hpq := ht.2.1
  have hxpq : zj_x 2 6 c p ≠ zj_x 2 6 c q := fun e => by have := zj_x_inj hp hq e; omega
  constructor
  · rintro ⟨h1, h2, h3⟩
    obtain ⟨w1, w2⟩ := zS3_wf hNS h1
    have hno := h1.2.2.2.2.2.2.2
    have htl : ¬ zmm (zln 2 6 (zj_x 2 6 c p) (zj_x 2 6 c q) 2) 3 (zj_x 2 6 c r) := fun z => hno ((zln_sp zok26 xp1 xq1 hxpq xr1).mp z)
    have bp : lb (zS3 c p q r) p = true := (zS3_iff hNS h64 h1).mpr ⟨hp, zsp_mem (by decide) _ (by simp)⟩
    have bq : lb (zS3 c p q r) q = true := (zS3_iff hNS h64 h1).mpr ⟨hq, zsp_mem (by decide) _ (by simp)⟩
    have hb : ∀ s, lb (zS3 c p q r) s = true → s = p ∨ q ≤ s := fun s hs => by
      obtain ⟨s1, s2⟩ := (zS3_iff hNS h64 h1).mp hs
      exact h3 s s1 s2
    have c0 : zC (lb (zS3 c p q r)) p = 0 := zC_no (fun s hs => Bool.eq_false_iff.mpr (fun z => by have := hb s z; omega))
    have c1 : zC (lb (zS3 c p q r)) q = 1 := by
      have e1 : zC (lb (zS3 c p q r)) (p + 1) = zC (lb (zS3 c p q r)) p + (lb (zS3 c p q r) p).toNat := rfl
      rw [bp, c0] at e1
      have := zC_flat (f := lb (zS3 c p q r)) (p := p + 1) (q - (p + 1)) (fun k hk1 hk2 => Bool.eq_false_iff.mpr (fun z => by have := hb k z; omega))
      rw [show p + 1 + (q - (p + 1)) = q by omega] at this
      rw [this, e1]; rfl
    have x0 : zX (lb (zS3 c p q r)) 64 0 = p := by rw [← c0]; exact zX_at bp (by omega)
    have x1 : zX (lb (zS3 c p q r)) 64 1 = q := by rw [← c1]; exact zX_at bq (by omega)
    refine ⟨xr2, htl, ?_, ?_, fun k hk => ?_, fun k hk => ?_⟩
    · show zwf 2 6 (zln 2 6 (zj_x 2 6 c p) (zj_x 2 6 c q) 2) (zj_x 2 6 c r) 3 0 = _
      rw [← (w1 0 (by omega)).2, x0]
    · show zwf 2 6 (zln 2 6 (zj_x 2 6 c p) (zj_x 2 6 c q) 2) (zj_x 2 6 c r) 3 1 = _
      rw [← (w1 1 (by omega)).2, x1]
    · have hk : k < 7 := hk
      show zj_x 2 6 c r ≤ zwf 2 6 (zln 2 6 (zj_x 2 6 c p) (zj_x 2 6 c q) 2) (zj_x 2 6 c r) 3 k ∨ zmm _ _ (zwf 2 6 (zln 2 6 (zj_x 2 6 c p) (zj_x 2 6 c q) 2) (zj_x 2 6 c r) 3 k)
      rw [← (w1 k hk).2]
      have hsn := (w1 k hk).1
      obtain ⟨s1, s2⟩ := (zS3_iff hNS h64 h1).mp (zX_ok (f := lb (zS3 c p q r)) (n := 64) (l := k) (by omega)).2.1
      generalize zX (lb (zS3 c p q r)) 64 k = s at *
      by_cases hz : zon 2 6 c p q s
      · exact Or.inr ((zln_sp zok26 xp1 xq1 hxpq (zj_x_ok hsn).1).mpr hz)
      · rcases Nat.lt_trichotomy s r with y | y | y
        · exact absurd s2 (h2 s y hz)
        · rw [y]; exact Or.inl (Nat.le_refl _)
        · exact Or.inl (Nat.le_of_lt (zj_x_inc r s y hsn))
    · have hk : k < 7 := hk
      show zw_oo 2 6 c (zwf 2 6 (zln 2 6 (zj_x 2 6 c p) (zj_x 2 6 c q) 2) (zj_x 2 6 c r) 3 k) = true
      rw [← (w1 k hk).2]
      exact (zj_x_ok (w1 k hk).1).2.1
  · intro h
    obtain ⟨r', hr', e, k1, k2, k3⟩ := zrefp_r zok26 hNS hp hq ht xr1 h
    have e := zj_x_inj hr' hr e
    subst e
    have hlr : zlr c p q r' := ⟨hp, hq, hr, by omega, ht.1, k1, k2, k3⟩
    obtain ⟨w1, w2⟩ := zS3_wf hNS hlr
    have htl : ¬ zmm (zln 2 6 (zj_x 2 6 c p) (zj_x 2 6 c q) 2) 3 (zj_x 2 6 c r') := fun z => k3 ((zln_sp zok26 xp1 xq1 hxpq xr1).mp z)
    have hinc := zwf_inc xp1 xq1 hxpq xr1 htl 3 (by omega)
    obtain ⟨-, -, w3, w4, w5, -⟩ := h
    have w3 : zwf 2 6 (zln 2 6 (zj_x 2 6 c p) (zj_x 2 6 c q) 2) (zj_x 2 6 c r') 3 0 = zj_x 2 6 c p := w3
    have w4 : zwf 2 6 (zln 2 6 (zj_x 2 6 c p) (zj_x 2 6 c q) 2) (zj_x 2 6 c r') 3 1 = zj_x 2 6 c q := w4
    refine ⟨hlr, fun t hlt htn hz => ?_, fun s hs hz => ?_⟩
    · have htn2 : t < zw_on 2 6 c := by omega
      obtain ⟨k, hk, hk2⟩ := (zwf_sp xp1 xq1 hxpq xr1 htl (zj_x_ok htn2).1).mpr hz
      have h7 : zj_x 2 6 c r' ≤ zwf 2 6 (zln 2 6 (zj_x 2 6 c p) (zj_x 2 6 c q) 2) (zj_x 2 6 c r') 3 k ∨ zmm (zln 2 6 (zj_x 2 6 c p) (zj_x 2 6 c q) 2) 3 (zwf 2 6 (zln 2 6 (zj_x 2 6 c p) (zj_x 2 6 c q) 2) (zj_x 2 6 c r') 3 k) := w5 k hk
      rw [hk2] at h7
      rcases h7 with y | y
      · have := zj_x_inc t r' hlt hr; omega
      · exact htn ((zln_sp zok26 xp1 xq1 hxpq (zj_x_ok htn2).1).mp y)
    · obtain ⟨k, hk, hk2⟩ := (zwf_sp xp1 xq1 hxpq xr1 htl (zj_x_ok hs).1).mpr hz
      rcases Nat.eq_zero_or_pos k with y | y
      · rw [y, w3] at hk2
        exact Or.inl (zj_x_inj hp hs hk2).symm
      · refine Or.inr (Nat.le_of_not_lt (fun z => ?_))
        have a1 := zj_x_inc s q z hq
        rcases Nat.eq_or_lt_of_le y with y2 | y2
        · rw [← y2] at hk2
          have hk2 : zwf 2 6 (zln 2 6 (zj_x 2 6 c p) (zj_x 2 6 c q) 2) (zj_x 2 6 c r') 3 1 = _ := hk2
          omega
        · have := hinc 1 k y2 hk
          omega
def zpsi (c : Nat → Nat) (t : Nat) : Nat := zv_np 2 6 * (t / zw_on 2 6 c) + zj_x 2 6 c (t % zw_on 2 6 c)
theorem zpsi_ok {c : Nat → Nat} {m t : Nat} (ht : t < zw_on 2 6 c * m) : t / zw_on 2 6 c < m ∧ t % zw_on 2 6 c < zw_on 2 6 c ∧ zpsi c t / zv_np 2 6 = t / zw_on 2 6 c ∧ zpsi c t % zv_np 2 6 = zj_x 2 6 c (t % zw_on 2 6 c) ∧ zpsi c t < zv_np 2 6 * m := by
  have hn : 0 < zw_on 2 6 c := by
    rcases Nat.eq_zero_or_pos (zw_on 2 6 c) with e | e
    · rw [e, Nat.zero_mul] at ht; omega
    · exact e
  have h1 : t / zw_on 2 6 c < m := Nat.div_lt_of_lt_mul ht
  have h2 := Nat.mod_lt t hn
  have a2 := (zj_x_ok h2).1
  refine ⟨h1, h2, ?_, ?_, ?_⟩
  · unfold zpsi
    rw [Nat.mul_add_div (by omega), Nat.div_eq_of_lt a2, Nat.add_zero]
  · unfold zpsi
    rw [Nat.mul_add_mod, Nat.mod_eq_of_lt a2]
  · unfold zpsi
    have := Nat.mul_le_mul_left (zv_np 2 6) (show t / zw_on 2 6 c + 1 ≤ m from h1)
    rw [Nat.mul_add, Nat.mul_one] at this
    omega
theorem zpsi_inc {c : Nat → Nat} {m : Nat} : zinc (zpsi c) (zw_on 2 6 c * m) := by
  intro s t hst ht
  obtain ⟨a1, a2, -⟩ := zpsi_ok (show s < zw_on 2 6 c * m by omega)
  obtain ⟨b1, b2, -⟩ := zpsi_ok ht
  unfold zpsi
  have x2 := (zj_x_ok a2).1
  rcases Nat.lt_or_ge (s / zw_on 2 6 c) (t / zw_on 2 6 c) with q | q
  · have := Nat.mul_le_mul_left (zv_np 2 6) (show s / zw_on 2 6 c + 1 ≤ t / zw_on 2 6 c from q)
    rw [Nat.mul_add, Nat.mul_one] at this
    omega
  · have e : s / zw_on 2 6 c = t / zw_on 2 6 c := Nat.le_antisymm (Nat.div_le_div_right (by omega)) q
    have e1 := Nat.div_add_mod s (zw_on 2 6 c)
    have e2 := Nat.div_add_mod t (zw_on 2 6 c)
    rw [e] at e1
    have h1 := zj_x_inc (P := 2) (N := 6) (c := c) (s % zw_on 2 6 c) (t % zw_on 2 6 c) (by omega) b2
    rw [e]
    omega
/-- PLANES: as many, and the same -/
theorem zplanes {c : Nat → Nat} (hNS : zNS 2 6 c) : zw_npl 2 6 c = zf_np (zf_L 2 6 c) (zw_on 2 6 c) ∧ ∀ l, l < zf_np (zf_L 2 6 c) (zw_on 2 6 c) → ∃ p q r, p < zw_on 2 6 c ∧ q < zw_on 2 6 c ∧ r < zw_on 2 6 c ∧ ztwo 2 6 c p q ∧ zcp c p q r ∧ zX (zf_gq (zf_L 2 6 c) (zw_on 2 6 c)) (zw_on 2 6 c * zf_nl (zf_L 2 6 c) (zw_on 2 6 c)) l / zw_on 2 6 c < zf_nl (zf_L 2 6 c) (zw_on 2 6 c) ∧ zX (zf_gq (zf_L 2 6 c) (zw_on 2 6 c)) (zw_on 2 6 c * zf_nl (zf_L 2 6 c) (zw_on 2 6 c)) l % zw_on 2 6 c = r ∧ zf_lm (zf_L 2 6 c) (zw_on 2 6 c) (zX (zf_gq (zf_L 2 6 c) (zw_on 2 6 c)) (zw_on 2 6 c * zf_nl (zf_L 2 6 c) (zw_on 2 6 c)) l / zw_on 2 6 c) = zS2 2 6 c p q ∧ zf_pm (zf_L 2 6 c) (zw_on 2 6 c) l = zS3 c p q r ∧ zw_pl 2 6 c l = zwf 2 6 (zln 2 6 (zj_x 2 6 c p) (zj_x 2 6 c q) 2) (zj_x 2 6 c r) 3 := by
  have h64 := zon64 zok26 hNS
  have h64 : zw_on 2 6 c ≤ 64 := by omega
  obtain ⟨hn, hlines⟩ := zlines zok26 hNS h64
  have hnp := (zv_nums zok26).2.2
  have hk : ∀ t, t < zw_on 2 6 c * zf_nl (zf_L 2 6 c) (zw_on 2 6 c) → zf_gq (zf_L 2 6 c) (zw_on 2 6 c) t = zv_gq 2 6 (zv_np 2 6) (zv_y 2 6) (zw_oo 2 6 c) (zv_lp0 2 6 c (zv_np 2 6) (zv_y 2 6)) (zv_lq0 2 6 c (zv_np 2 6) (zv_y 2 6)) (zpsi c t) := by
    intro t ht
    obtain ⟨a1, a2, a3, a4, -⟩ := zpsi_ok ht
    obtain ⟨p, q, hp, hq, htw, -, -, e1, -, e2, e3⟩ := hlines _ a1
    refine zb_iff ?_
    rw [zgq_iff, a3, a4, e2, e3, ← zcp_ref hNS hp hq a2 htw]
    unfold zf_gq
    rw [e1]
    exact zgp_iff hNS hp hq a2 htw
  have h := zemb (g := zv_gq 2 6 (zv_np 2 6) (zv_y 2 6) (zw_oo 2 6 c) (zv_lp0 2 6 c (zv_np 2 6) (zv_y 2 6)) (zv_lq0 2 6 c (zv_np 2 6) (zv_y 2 6))) (M := zv_np 2 6 * zf_nl (zf_L 2 6 c) (zw_on 2 6 c)) zpsi_inc (fun t ht => (zpsi_ok ht).2.2.2.2) hk (fun u hu hg => by
    have ho := (zgq_iff.mp hg).1
    have hu1 : u / zv_np 2 6 < zf_nl (zf_L 2 6 c) (zw_on 2 6 c) := Nat.div_lt_of_lt_mul hu
    have hu2 := Nat.mod_lt u hnp
    have r2 := zC_lt ho hu2
    have r2 : zC (zw_oo 2 6 c) (u % zv_np 2 6) < zw_on 2 6 c := r2
    have e2 : zj_x 2 6 c (zC (zw_oo 2 6 c) (u % zv_np 2 6)) = u % zv_np 2 6 := zX_at ho hu2
    refine ⟨zw_on 2 6 c * (u / zv_np 2 6) + zC (zw_oo 2 6 c) (u % zv_np 2 6), ?_, ?_⟩
    · have := Nat.mul_le_mul_left (zw_on 2 6 c) (show u / zv_np 2 6 + 1 ≤ zf_nl (zf_L 2 6 c) (zw_on 2 6 c) from hu1)
      rw [Nat.mul_add, Nat.mul_one] at this
      omega
    · unfold zpsi
      rw [show (zw_on 2 6 c * (u / zv_np 2 6) + zC (zw_oo 2 6 c) (u % zv_np 2 6)) / zw_on 2 6 c = u / zv_np 2 6 from by rw [Nat.mul_add_div (by omega), Nat.div_eq_of_lt r2, Nat.add_zero], show (zw_on 2 6 c * (u / zv_np 2 6) + zC (zw_oo 2 6 c) (u % zv_np 2 6)) % zw_on 2 6 c = zC (zw_oo 2 6 c) (u % zv_np 2 6) from by rw [Nat.mul_add_mod, Nat.mod_eq_of_lt r2], e2]
      exact Nat.div_add_mod u (zv_np 2 6))
  have hnpl : zw_npl 2 6 c = zC (zv_gq 2 6 (zv_np 2 6) (zv_y 2 6) (zw_oo 2 6 c) (zv_lp0 2 6 c (zv_np 2 6) (zv_y 2 6)) (zv_lq0 2 6 c (zv_np 2 6) (zv_y 2 6))) (zv_np 2 6 * zf_nl (zf_L 2 6 c) (zw_on 2 6 c)) := by
    rw [← hn]; rfl
  refine ⟨hnpl.trans h.1, fun l hl => ?_⟩
  obtain ⟨t1, t2, -⟩ := zX_ok hl
  have e := h.2 l hl
  obtain ⟨a1, a2, a3, a4, -⟩ := zpsi_ok t1
  obtain ⟨p, q, hp, hq, htw, -, -, e1, e4, e2, e3⟩ := hlines _ a1
  refine ⟨p, q, _, hp, hq, a2, htw, ?_, a1, rfl, e1, ?_, ?_⟩
  · have t3 : zf_gp (zf_L 2 6 c) (zw_on 2 6 c) (zf_lm (zf_L 2 6 c) (zw_on 2 6 c) (zX (zf_gq (zf_L 2 6 c) (zw_on 2 6 c)) (zw_on 2 6 c * zf_nl (zf_L 2 6 c) (zw_on 2 6 c)) l / zw_on 2 6 c)) (zX (zf_gq (zf_L 2 6 c) (zw_on 2 6 c)) (zw_on 2 6 c * zf_nl (zf_L 2 6 c) (zw_on 2 6 c)) l % zw_on 2 6 c) = true := t2
    rw [e1] at t3
    exact (zgp_iff hNS hp hq a2 htw).mp t3
  · unfold zf_pm
    rw [e1]; rfl
  · have hs : zw_pl 2 6 c l = zwf 2 6 (zw_ln 2 6 c (zX (zv_gq 2 6 (zv_np 2 6) (zv_y 2 6) (zw_oo 2 6 c) (zv_lp0 2 6 c (zv_np 2 6) (zv_y 2 6)) (zv_lq0 2 6 c (zv_np 2 6) (zv_y 2 6))) (zv_np 2 6 * zw_nl 2 6 c) l / zv_np 2 6)) (zX (zv_gq 2 6 (zv_np 2 6) (zv_y 2 6) (zw_oo 2 6 c) (zv_lp0 2 6 c (zv_np 2 6) (zv_y 2 6)) (zv_lq0 2 6 c (zv_np 2 6) (zv_y 2 6))) (zv_np 2 6 * zw_nl 2 6 c) l % zv_np 2 6) 3 := rfl
    rw [hs, hn, e, a3, a4, e4]
