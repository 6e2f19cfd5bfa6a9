/-! polar, section, flat, like, count -/
theorem zb_polar {P N : Nat} {c : Nat → Nat} (h : 0 < P → zv_ok P N) (x y : Int32) : ac_polar P N c x y = aw_polar P N c x y := by
  unfold ac_polar aw_polar
  by_cases hx : ac_pt P N x = true ∧ ac_pt P N y = true
  · have hx2 := zpt2_iff.mp hx
    rw [if_pos hx, if_pos hx2, zv_dot_B, zv_pol_B (h hx2.1).1]
  · rw [if_neg hx, if_neg (fun z => hx (zpt2_iff.mpr z))]
theorem zb_section {P N : Nat} {c : Nat → Nat} (h : 0 < P → zv_ok P N) (x z : Int32) : ac_section P N c x z = aw_section P N c x z := by
  unfold ac_section aw_section
  by_cases hx : ac_pt P N x = true
  · have hx2 := zpt_iff.mp hx
    have hk := (zx_of hx2.2).1
    have e1 : zM (zv_tch P N c (zv_np P N) (zv_y P N) (zv_oo P N c (zv_y P N)) (zx_k x)) 0 (zv_np P N) = zM (fun p => zw_oo P N c p && zz_tp P N c (zx_k x) p) 0 (zv_np P N) := zM_cg _ _ (fun i _ _ => zz_tp_eq (h hx2.1) hk)
    have e2 := zM_x (o := zw_oo P N c) (f := zz_tp P N c (zx_k x)) (n := zv_np P N)
    have hon : zC (zw_oo P N c) (zv_np P N) = zw_on P N c := rfl
    rw [hon] at e2
    rw [if_pos hx, if_pos hx2, e1, e2]
    unfold zj_tg
    by_cases hm : zM (fun u => zz_tp P N c (zx_k x) (zX (zw_oo P N c) (zv_np P N) u)) 0 (zw_on P N c) < zw_on P N c
    · rw [if_pos hm, if_pos hm, if_pos (zX_ok hm).1]; rfl
    · rw [if_neg hm, if_neg hm, if_neg (Nat.lt_irrefl _)]; rfl
  · rw [if_neg hx, if_neg (fun z => hx (zpt_iff.mpr z))]
/-- a flat's mask: as many bits as it has points, and the same points in order -/
theorem zmk_pin {P N : Nat} {c : Nat → Nat} (hok : zv_ok P N) (hNS : zNS P N c) {d f : Nat} (hd1 : 1 ≤ d) (hd3 : d ≤ 3) (hf : f < zw_fl P N c d) : zC (lb (zj_mk P N c d f)) 64 = zq_sz P d ∧ ∀ k, k < zq_sz P d → zX (lb (zj_mk P N c d f)) 64 k < zw_on P N c ∧ zj_x P N c (zX (lb (zj_mk P N c d f)) 64 k) = zw_pin P N c d f k := by
  have h64 := zon64 hok hNS
  have h64 : zw_on P N c ≤ 64 := by omega
  obtain ⟨s1, s2, -, s4⟩ := zsame hok hNS
  unfold zw_fl zq_fl at hf
  unfold zj_mk zf_mk zq_sz zw_pin zq_pin
  by_cases e1 : d = 1
  · rw [if_pos e1] at hf
    rw [if_pos e1, if_pos e1]
    have hb : ∀ j, lb (zf_b f) j = decide (f = j) := fun j => zf_b_lb (by omega)
    have hc : zC (lb (zf_b f)) 64 = 1 := by
      rw [← zS_zC, zS_at (k := f) _ (fun i _ q => by rw [hb, decide_eq_false (fun z => q z.symm)]; rfl), if_pos (by omega), hb, decide_eq_true rfl]; rfl
    refine ⟨hc, fun k hk => ?_⟩
    have hk0 : k = 0 := by omega
    subst hk0
    have hx := (zX_ok (f := lb (zf_b f)) (n := 64) (l := 0) (by omega)).2.1
    rw [hb, decide_eq_true_iff] at hx
    rw [← hx, if_pos e1]
    exact ⟨hf, rfl⟩
  · rw [if_neg e1] at hf
    rw [if_neg e1, if_neg e1]
    by_cases e2 : d = 2
    · rw [if_pos e2, s1] at hf
      rw [if_pos e2, if_pos e2]
      obtain ⟨p, q, hp, hq, ht, -, -, hm, hl, -⟩ := (zlines hok hNS h64).2 f hf
      obtain ⟨w1, w2⟩ := zS2_ln hok hNS h64 hp hq (by have := ht.2.1; omega) ht.1
      rw [hm]
      refine ⟨w2, fun k hk => ?_⟩
      rw [if_neg e1, if_pos e2, hl]
      exact w1 k hk
    · rw [if_neg e2, s2] at hf
      rw [if_neg e2, if_neg e2]
      have e := s4.mp (by omega)
      have e3 : P = 2 := congrArg (fun q => q.1) e
      have e4 : N = 6 := congrArg (fun q => q.2.1) e
      subst e3 e4
      obtain ⟨p, q, r, hp, hq, hr, ht, hc, -, -, -, a4, a5⟩ := (zplanes hNS).2 f hf
      obtain ⟨w1, w2⟩ := zS3_wf hNS hc.1
      rw [a4]
      refine ⟨w2, fun k hk => ?_⟩
      rw [if_neg e1, if_neg e2, a5]
      exact w1 k hk
theorem zb_flat {P N : Nat} {c : Nat → Nat} (h : 0 < P → zv_ok P N) (x y z : Int32) : ac_flat P N c x y z = aw_flat P N c x y z := by
  unfold ac_flat aw_flat
  rw [zok_eq h]
  by_cases hx : zx_13 x = true
  · rw [if_pos hx, if_pos hx]
    by_cases hs : zw_sound P N c = true
    · obtain ⟨hok, hNS, -⟩ := zok_NS h hs
      rw [if_pos hs, if_pos hs, zj_tot_eq hok hNS]
      by_cases hy : zx_in y (zw_fl P N c (zx_k x)) = true
      · obtain ⟨m1, m2⟩ := zmk_pin hok hNS (zx_13of hx).1 (zx_13of hx).2.1 (zx_of hy).1
        rw [m1]
        by_cases hz : zx_in z (zq_sz P (zx_k x)) = true
        · rw [if_pos ⟨hy, hz⟩, if_pos ⟨hy, hz⟩, (m2 _ (zx_of hz).1).2]
        · rw [if_neg (fun w => hz w.2), if_neg (fun w => hz w.2)]
      · rw [if_neg (fun w => hy w.1), if_neg (fun w => hy w.1)]
    · rw [if_neg hs, if_neg hs]
  · rw [if_neg hx, if_neg hx]
theorem zw_kd_3 {P N : Nat} {c : Nat → Nat} : zw_kd P N c ≠ 3 ↔ zw_ns P N c = 0 := by
  unfold zw_kd zq_kd
  by_cases h0 : 0 < zw_ns P N c
  · rw [if_pos h0]; exact ⟨fun z => absurd rfl z, fun z => by omega⟩
  · rw [if_neg h0]
    refine ⟨fun _ => by omega, fun _ => ?_⟩
    split
    · decide
    · split <;> decide
theorem zb_like {P N : Nat} {c : Nat → Nat} {K M : Nat} {e : Nat → Nat} (h : 0 < P → zv_ok P N) (h2 : 0 < K → zv_ok K M) (h3 : K = 0 → M = 0) : ac_like P N c K M e = aw_like P N c K M e := by
  unfold ac_like aw_like
  by_cases hP : 0 < P ∧ 0 < K
  · have hok := h hP.1
    have hok2 := h2 hP.2
    rw [if_pos ⟨by have := hok2.2.1; omega, hP.1⟩, if_pos hP, zj_kd_eq hok, zj_kd_eq hok2]
    refine zif_cg ⟨fun z => ⟨?_, z.2.1.2, z.1.1, z.1.2, z.2.1.1, z.2.2⟩, fun z => ⟨⟨z.2.2.1, z.2.2.2.1⟩, ⟨z.2.2.2.2.1, z.2.1⟩, z.2.2.2.2.2⟩⟩
    exact zw_kd_3.mp (fun w => z.2.1.2 (by rw [← z.2.1.1]; exact w))
  · rw [if_neg hP, if_neg (fun z => hP ⟨z.2, Nat.pos_of_ne_zero (fun w => by have := h3 w; omega)⟩)]
theorem zb_count {P N : Nat} {c : Nat → Nat} {nn : Nat → Nat} {n0 n1 n fr fi wa : Nat} (h : 0 < P → zv_ok P N) (e0 : nn 0 = n0) (e1 : nn 1 = n1) (x : Int32) : ac_count P N c n0 n1 n fr fi wa x = aw_count P N c nn (nI n) (nI fr) (nI fi) (nI wa) x := by
  unfold ac_count aw_count
  by_cases hx : zx_in x 9 = true
  · rw [if_pos hx, if_pos hx]
    have hk := (zx_of hx).1
    unfold ac_ct aw_ct
    have g0 : (if 0 < P then zv_np P N else 0) = zS_np P N := by
      unfold zS_np
      by_cases hP : P = 0
      · rw [if_neg (by omega), if_pos hP]
      · rw [if_pos (by omega), if_neg hP]
    have g2 : (if zj_ok P N c = true then zj_gm P N c else 0) = if zw_sound P N c = true then zw_gm P N c else 0 := by
      rw [zok_eq h]
      by_cases hs : zw_sound P N c = true
      · obtain ⟨hok, hNS, -⟩ := zok_NS h hs
        rw [if_pos hs, if_pos hs, zj_gm_eq hok hNS]
      · rw [if_neg hs, if_neg hs]
    rw [g0, g2, e0, e1]
    by_cases k8 : zx_k x = 8
    · rw [k8]; rfl
    · rcases (show zx_k x = 0 ∨ zx_k x = 1 ∨ zx_k x = 2 ∨ zx_k x = 3 ∨ zx_k x = 4 ∨ zx_k x = 5 ∨ zx_k x = 6 ∨ zx_k x = 7 by omega) with e | e | e | e | e | e | e | e <;> rw [e] <;> rfl
  · rw [if_neg hx, if_neg hx]
