/-! each member lies on a maximal flat; each maximal flat has members -/
theorem zpm_at {c : Nat → Nat} (hNS : zNS 2 6 c) {p q t : Nat} (h : zlr c p q t) : ∃ l, l < zf_np (zf_L 2 6 c) (zw_on 2 6 c) ∧ zf_pm (zf_L 2 6 c) (zw_on 2 6 c) l = zS3 c p q t := by
  have h64 := zon64 zok26 hNS
  have h64 : zw_on 2 6 c ≤ 64 := by omega
  obtain ⟨w1, w2⟩ := zS3_wf hNS h
  have c0 := zX_ok (f := lb (zS3 c p q t)) (n := 64) (l := 0) (by omega)
  have c1 := zX_ok (f := lb (zS3 c p q t)) (n := 64) (l := 1) (by omega)
  have hxy := zX_inc (f := lb (zS3 c p q t)) (n := 64) 0 1 (by omega) (by omega)
  have hlow : ∀ s, lb (zS3 c p q t) s = true → s = zX (lb (zS3 c p q t)) 64 0 ∨ zX (lb (zS3 c p q t)) 64 1 ≤ s := by
    intro s hs
    have hs64 : s < 64 := by
      rcases Nat.lt_or_ge s 64 with z | z
      · exact z
      · rw [lb_ge z] at hs; cases hs
    have e := zX_at hs hs64
    have e2 := zC_lt hs hs64
    rcases Nat.eq_zero_or_pos (zC (lb (zS3 c p q t)) s) with z | z
    · rw [z] at e; exact Or.inl e.symm
    · rcases Nat.eq_or_lt_of_le (show 1 ≤ zC (lb (zS3 c p q t)) s from z) with z2 | z2
      · rw [← z2] at e; exact Or.inr (by omega)
      · have := zX_inc (f := lb (zS3 c p q t)) (n := 64) 1 _ z2 (by omega)
        exact Or.inr (by omega)
  have hx := (w1 0 (by omega)).1
  have hy := (w1 1 (by omega)).1
  generalize zX (lb (zS3 c p q t)) 64 0 = x at *
  generalize zX (lb (zS3 c p q t)) 64 1 = y at *
  have px := ((zS3_iff hNS h64 h).mp c0.2.1).2
  have py := ((zS3_iff hNS h64 h).mp c1.2.1).2
  have hlxy := zpl_lk h hx px py
  have hsub2 : ∀ s, zon 2 6 c x y s → zpl c p q t s := fun s hz => zsp_trans (by decide) _ (fun v hv => by
    simp only [List.mem_cons, List.not_mem_nil, or_false] at hv
    rcases hv with rfl | rfl
    · exact px
    · exact py) hz
  have htw : ztwo 2 6 c x y := ⟨hlxy, hxy, fun s hs hz => hlow s ((zS3_iff hNS h64 h).mpr ⟨hs, hsub2 s hz⟩)⟩
  have hex : ∃ z, lb (zS3 c p q t) z = true ∧ lb (zS2 2 6 c x y) z = false := by
    refine Classical.byContradiction (fun hne => ?_)
    have h1 := (zC_sub (f := lb (zS3 c p q t)) (g := lb (zS2 2 6 c x y)) 64 (fun k _ hk => by
      cases hb : lb (zS2 2 6 c x y) k with
      | true => rfl
      | false => exact absurd ⟨k, hk, hb⟩ hne)).1
    rw [w2, (zS2_ln zok26 hNS h64 hx hy (by omega) hlxy).2] at h1
    omega
  have hmin : ∃ z, (lb (zS3 c p q t) z = true ∧ lb (zS2 2 6 c x y) z = false) ∧ ∀ s, s < z → ¬ (lb (zS3 c p q t) s = true ∧ lb (zS2 2 6 c x y) s = false) := by
    obtain ⟨z, hz⟩ := hex
    induction z using Nat.strongRecOn with
    | ind z ih =>
      by_cases hq : ∃ s, s < z ∧ (lb (zS3 c p q t) s = true ∧ lb (zS2 2 6 c x y) s = false)
      · obtain ⟨s, hs, hs2⟩ := hq
        exact ih s hs hs2
      · exact ⟨z, hz, fun s hs hs2 => hq ⟨s, hs, hs2⟩⟩
  obtain ⟨z, ⟨z1, z2⟩, z3⟩ := hmin
  obtain ⟨hz, pz⟩ := (zS3_iff hNS h64 h).mp z1
  have hnz : ¬ zon 2 6 c x y z := fun w => by
    rw [(zS2_iff zok26 hNS h64 hx hy hlxy).mpr ⟨hz, w⟩] at z2; cases z2
  have hlr : zlr c x y z := ⟨hx, hy, hz, by omega, hlxy, zpl_lk h hx px pz, zpl_lk h hy py pz, hnz⟩
  have hS := zS3_sub hNS h hlr px py pz
  have hback : ∀ s, s < zw_on 2 6 c → zpl c x y z s → lb (zS3 c p q t) s = true := fun s hs hw => by rw [← hS]; exact (zS3_iff hNS h64 hlr).mpr ⟨hs, hw⟩
  have hcp : zcp c x y z := ⟨hlr, fun s hs hns hw => by
    refine z3 s hs ⟨hback s (by omega) hw, Bool.eq_false_iff.mpr (fun hb => hns ((zS2_iff zok26 hNS h64 hx hy hlxy).mp hb).2)⟩, fun s hs hw => hlow s (hback s hs hw)⟩
  obtain ⟨l1, l2⟩ := zln_at zok26 hNS hx hy htw
  have hn : 0 < zw_on 2 6 c := by omega
  have hg : zf_gq (zf_L 2 6 c) (zw_on 2 6 c) (zw_on 2 6 c * zln_no 2 6 c x y + z) = true := by
    unfold zf_gq
    rw [Nat.mul_add_div hn, Nat.div_eq_of_lt hz, Nat.add_zero, Nat.mul_add_mod, Nat.mod_eq_of_lt hz, l2]
    exact (zgp_iff hNS hx hy hz htw).mpr hcp
  have hlt : zw_on 2 6 c * zln_no 2 6 c x y + z < zw_on 2 6 c * zf_nl (zf_L 2 6 c) (zw_on 2 6 c) := by
    have := Nat.mul_le_mul_left (zw_on 2 6 c) (show zln_no 2 6 c x y + 1 ≤ zf_nl (zf_L 2 6 c) (zw_on 2 6 c) from l1)
    rw [Nat.mul_add, Nat.mul_one] at this
    omega
  have hX := zX_at hg hlt
  refine ⟨_, zC_lt hg hlt, ?_⟩
  unfold zf_pm
  rw [hX, Nat.mul_add_div hn, Nat.div_eq_of_lt hz, Nat.add_zero, Nat.mul_add_mod, Nat.mod_eq_of_lt hz, l2, ← hS]
  rfl
theorem zmate {P N : Nat} {c : Nat → Nat} (hok : zv_ok P N) (hNS : zNS P N c) {r : Nat} (hr : r < zw_on P N c) (h : 1 < zK1 P N c r) : ∃ s, s < zw_on P N c ∧ r ≠ s ∧ zf_k P N c r s = true := by
  refine Classical.byContradiction (fun hne => ?_)
  have h1 := (zC_sub (f := zf_k P N c r) (g := fun s => decide (r = s)) (zw_on P N c) (fun k hk hb => by
    by_cases e : r = k
    · exact decide_eq_true e
    · exact absurd ⟨k, hk, e, hb⟩ hne)).1
  have h3 : zC (fun s => decide (r = s)) (zw_on P N c) = 1 := by
    rw [← zS_zC, zS_at (k := r) _ (fun i _ q => by rw [decide_eq_false (fun z => q z.symm)]; rfl), if_pos hr, decide_eq_true rfl]; rfl
  unfold zK1 at h
  omega
/-- at (2, 6, 35) each member is in a plane -/
theorem zpl_thru {c : Nat → Nat} (hNS : zNS 2 6 c) (h35 : zw_on 2 6 c = 35) {r : Nat} (hr : r < zw_on 2 6 c) : ∃ l, l < zf_np (zf_L 2 6 c) (zw_on 2 6 c) ∧ lb (zf_pm (zf_L 2 6 c) (zw_on 2 6 c) l) r = true := by
  have h64 : zw_on 2 6 c ≤ 64 := by omega
  obtain ⟨s, hs, hrs, hk⟩ := zmate zok26 hNS (r := r) hr (by
    obtain ⟨κ, hT, hκ⟩ := ztab zok26 hNS
    rw [hκ r hr]
    rw [h35] at hT
    have key : ∀ q ∈ ztbl, (q.1, q.2.1, q.2.2.1) = (2, 6, 35) → 1 < q.2.2.2.1 + 1 := by decide
    exact key _ hT rfl)
  have h8 := zK2_8 hNS h35 hr hs hrs hk
  have hex2 : ∃ t, t < zw_on 2 6 c ∧ ((zf_k 2 6 c r t && zf_k 2 6 c s t) && !lb (zS2 2 6 c r s) t) = true := by
    refine Classical.byContradiction (fun hne => ?_)
    rw [zC_no (fun t ht => Bool.eq_false_iff.mpr (fun z => hne ⟨t, ht, z⟩))] at h8
    omega
  obtain ⟨t, ht, hb⟩ := hex2
  rw [Bool.and_eq_true, Bool.and_eq_true, Bool.not_eq_true'] at hb
  have hlr : zlr c r s t := ⟨hr, hs, ht, hrs, hk, hb.1.1, hb.1.2, fun w => by
    have := hb.2
    rw [(zS2_iff zok26 hNS h64 hr hs hk).mpr ⟨ht, w⟩] at this; cases this⟩
  obtain ⟨l, hl, e⟩ := zpm_at hNS hlr
  refine ⟨l, hl, ?_⟩
  rw [e]
  exact (zS3_iff hNS h64 hlr).mpr ⟨hr, zsp_mem (by decide) _ (by simp)⟩
