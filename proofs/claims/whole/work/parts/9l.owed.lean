/-! what the two sides owe of numbers is paid -/
def z35 (P N on : Nat) : Nat := if (P, N, on) = (2, 6, 35) then 1 else 0
theorem zsame {P N : Nat} {c : Nat → Nat} (hok : zv_ok P N) (hNS : zNS P N c) : zw_nl P N c = zf_nl (zf_L P N c) (zw_on P N c) ∧ zw_npl P N c = zf_np (zf_L P N c) (zw_on P N c) ∧ zf_np (zf_L P N c) (zw_on P N c) ≤ 30 ∧ (0 < zf_np (zf_L P N c) (zw_on P N c) ↔ (P, N, zw_on P N c) = (2, 6, 35)) := by
  have h64 := zon64 hok hNS
  refine ⟨(zlines hok hNS (by omega)).1, ?_⟩
  by_cases e : (P, N, zw_on P N c) = (2, 6, 35)
  · have e1 : P = 2 := congrArg (fun q => q.1) e
    have e2 : N = 6 := congrArg (fun q => q.2.1) e
    subst e1 e2
    have h35 : zw_on 2 6 c = 35 := congrArg (fun q => q.2.2) e
    obtain ⟨h1, h2⟩ := znp30 hNS h35
    exact ⟨(zplanes hNS).1, h1, fun _ => e, fun _ => h2⟩
  · rw [znp0 hok hNS e, znpl0 hok hNS e]
    exact ⟨rfl, by omega, fun z => absurd z (by omega), fun z => absurd z e⟩
theorem zq_ix_z {P N on nl npl : Nat} (h : 0 < npl ↔ (P, N, on) = (2, 6, 35)) : zq_ix nl npl = zq_ix nl (z35 P N on) := by
  unfold zq_ix z35
  by_cases e : (P, N, on) = (2, 6, 35)
  · rw [if_pos e, if_pos (h.mpr e), if_pos (by decide)]
  · rw [if_neg e, if_neg (fun z => e (h.mp z)), if_neg (show ¬ (0 < 0) by decide)]
theorem ztbl_ix : ∀ q ∈ ztbl, zz_ix q.1 q.2.1 q.2.2.1 (zv_np q.1 q.2.1) = zq_ix q.2.2.2.2 (z35 q.1 q.2.1 q.2.2.1) ∧ zz_kd q.1 q.2.1 q.2.2.1 0 (zv_np q.1 q.2.1) = (if q.2.1 % 2 = 1 then 0 else if 2 * zq_ix q.2.2.2.2 (z35 q.1 q.2.1 q.2.2.1) = q.2.1 then 1 else 2) ∧ q.2.2.1 ≤ 40 ∧ q.2.2.2.2 ≤ 105 ∧ (zq_ix q.2.2.2.2 (z35 q.1 q.2.1 q.2.2.1) = 2 → q.2.2.2.2 ≤ 45) := by decide +kernel
theorem zall {P N : Nat} {c : Nat → Nat} (hok : zv_ok P N) (hNS : zNS P N c) : zj_d P N c = zw_ix P N c ∧ (zw_ns P N c = 0 → zj_kd P N c = zw_kd P N c) ∧ zw_on P N c ≤ 40 ∧ zw_nl P N c ≤ 105 ∧ (zw_ix P N c = 2 → zw_nl P N c ≤ 45) := by
  obtain ⟨κ, hT, -⟩ := ztab hok hNS
  obtain ⟨h1, h2, h3, h4, h5⟩ := ztbl_ix _ hT
  obtain ⟨s1, s2, s3, s4⟩ := zsame hok hNS
  have hix : zw_ix P N c = zq_ix (zf_nl (zf_L P N c) (zw_on P N c)) (z35 P N (zw_on P N c)) := by
    unfold zw_ix
    rw [s1, s2]
    exact zq_ix_z s4
  refine ⟨h1.trans hix.symm, fun h0 => ?_, h3, by rw [s1]; exact h4, fun e => ?_⟩
  · have e0 : zj_ns P N c = 0 := by rw [← zj_ns_eq hok]; exact h0
    unfold zj_kd zw_kd zq_kd
    rw [e0, h0, if_neg (by decide)]
    have hix2 : zq_ix (zw_nl P N c) (zw_npl P N c) = zq_ix (zf_nl (zf_L P N c) (zw_on P N c)) (z35 P N (zw_on P N c)) := hix
    rw [hix2]
    exact h2
  · rw [s1]
    rw [hix] at e
    exact h5 e
theorem zj_kd_eq {P N : Nat} {c : Nat → Nat} (hok : zv_ok P N) : zj_kd P N c = zw_kd P N c := by
  by_cases h0 : zw_ns P N c = 0
  · exact (zall hok (zNS_of hok (by rw [← zj_ns_eq hok]; exact h0))).2.1 h0
  · unfold zj_kd zw_kd zq_kd zz_kd
    rw [← zj_ns_eq hok, if_pos (by omega), if_pos (by omega)]
theorem zG_ok : zG := fun P N c hok h0 => by
  have h0 : zw_ns P N c = 0 := h0
  have hNS := zNS_of hok (by rw [← zj_ns_eq hok]; exact h0)
  obtain ⟨-, -, -, a4, -⟩ := zall hok hNS
  obtain ⟨-, s2, s3, -⟩ := zsame hok hNS
  refine ⟨?_, ?_⟩
  · show zw_nl P N c ≤ 128
    omega
  · show zw_npl P N c ≤ 30
    omega
theorem zgm45 {P N : Nat} {c : Nat → Nat} (hok : zv_ok P N) (hNS : zNS P N c) : zw_gm P N c ≤ 45 := by
  obtain ⟨-, -, a3, a4, a5⟩ := zall hok hNS
  obtain ⟨-, s2, s3, -⟩ := zsame hok hNS
  unfold zw_gm zw_fl zq_fl
  by_cases e1 : zw_ix P N c = 1
  · rw [if_pos e1]; omega
  · rw [if_neg e1]
    by_cases e2 : zw_ix P N c = 2
    · rw [if_pos e2]; exact a5 e2
    · rw [if_neg e2]; omega
theorem zH_ok : zH := fun P N c hok h0 => by
  have hNS := zNS_of hok (by rw [← zj_ns_eq hok]; exact h0)
  obtain ⟨-, -, a3, -⟩ := zall hok hNS
  exact ⟨by omega, zgm45 hok hNS⟩
theorem zj_tot_eq {P N : Nat} {c : Nat → Nat} (hok : zv_ok P N) (hNS : zNS P N c) (d : Nat) : zj_tot P N c d = zw_fl P N c d := by
  obtain ⟨s1, s2, -⟩ := zsame hok hNS
  unfold zj_tot zf_tot zw_fl zq_fl
  rw [s1, s2]
theorem zj_gm_eq {P N : Nat} {c : Nat → Nat} (hok : zv_ok P N) (hNS : zNS P N c) : zj_gm P N c = zw_gm P N c := by
  have h := zj_tot_eq hok hNS (zj_d P N c)
  unfold zj_gm zw_gm
  rw [← (zall hok hNS).1]
  exact h
theorem zJ_ok : zJ := fun P N c hok h0 => by
  have hNS := zNS_of hok h0
  obtain ⟨-, -, a3, a4, -⟩ := zall hok hNS
  obtain ⟨s1, s2, s3, -⟩ := zsame hok hNS
  have := zgm45 hok hNS
  refine ⟨by omega, by omega, by omega, ?_⟩
  rw [zj_gm_eq hok hNS]; exact this
theorem zJ2_ok : zJ2 := fun P N c hok h0 d k hd1 hd3 hk j hj => by
  have hNS := zNS_of hok h0
  have h64 := zon64 hok hNS
  have h64 : zw_on P N c ≤ 64 := by omega
  unfold zf_tot at hk
  unfold zf_mk at hj
  by_cases e1 : d = 1
  · rw [if_pos e1] at hk hj
    rw [zf_b_lb (by omega), decide_eq_true_iff] at hj
    omega
  · rw [if_neg e1] at hk hj
    by_cases e2 : d = 2
    · rw [if_pos e2] at hk hj
      obtain ⟨p, q, hp, hq, ht, -, -, hm, -⟩ := (zlines hok hNS h64).2 k hk
      rw [hm] at hj
      exact ((zS2_iff hok hNS h64 hp hq ht.1).mp hj).1
    · rw [if_neg e2] at hk hj
      have e := (zsame hok hNS).2.2.2.mp (by omega)
      have e1 : P = 2 := congrArg (fun q => q.1) e
      have e2 : N = 6 := congrArg (fun q => q.2.1) e
      subst e1 e2
      obtain ⟨p, q, r, hp, hq, hr, ht, hc, -, -, -, a4, -⟩ := (zplanes hNS).2 k hk
      rw [a4] at hj
      exact ((zS3_iff hNS h64 hc.1).mp hj).1
