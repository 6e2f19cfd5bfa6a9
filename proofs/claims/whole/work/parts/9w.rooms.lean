/-! each member lies on a maximal flat; the rooms of the lists -/
theorem zm_thru {P N : Nat} {c : Nat → Nat} (hok : zv_ok P N) (hNS : zNS P N c) {r : Nat} (hr : r < zw_on P N c) : ∃ k, k < zw_gm P N c ∧ lb (zj_m P N c k) r = true := by
  have h64 := zon64 hok hNS
  have h64 : zw_on P N c ≤ 64 := by omega
  obtain ⟨s1, s2, -, s4⟩ := zsame hok hNS
  have hix := (zall hok hNS).1
  unfold zj_m zw_gm zw_fl zq_fl zf_mk
  rw [hix]
  by_cases e3 : 0 < zw_npl P N c
  · have ix3 : zw_ix P N c = 3 := by unfold zw_ix zq_ix; rw [if_pos e3]
    rw [ix3, if_neg (by decide), if_neg (by decide), s2]
    rw [s2] at e3
    have e := s4.mp e3
    have e1 : P = 2 := congrArg (fun q => q.1) e
    have e2 : N = 6 := congrArg (fun q => q.2.1) e
    subst e1 e2
    have h35 : zw_on 2 6 c = 35 := congrArg (fun q => q.2.2) e
    exact zpl_thru hNS h35 hr
  · by_cases e2 : 0 < zw_nl P N c
    · have ix2 : zw_ix P N c = 2 := by unfold zw_ix zq_ix; rw [if_neg e3, if_pos e2]
      rw [ix2, if_neg (by decide), if_pos rfl, s1]
      rw [s1] at e2
      obtain ⟨κ, hT, hκ⟩ := ztab hok hNS
      obtain ⟨s, hs, hrs, hk⟩ := zmate hok hNS hr (by
        rw [hκ r hr]
        have key : ∀ q ∈ ztbl, 0 < q.2.2.2.2 → 1 < q.2.2.2.1 + 1 := by decide
        exact key _ hT e2)
      have h1 := zoneL hok hNS h64 hr hs hrs
      rw [hk] at h1
      refine Classical.byContradiction (fun hne => ?_)
      rw [zS_congr (g := fun _ => 0) _ (fun l hl => ?_), zS_zero] at h1
      · exact absurd h1 (by decide)
      · cases hb : zinl P N c l r with
        | false => rfl
        | true => exact absurd ⟨l, hl, hb⟩ hne
    · have ix1 : zw_ix P N c = 1 := by unfold zw_ix zq_ix; rw [if_neg e3, if_neg e2]
      rw [ix1, if_pos rfl]
      refine ⟨r, hr, ?_⟩
      rw [if_pos rfl, zf_b_lb (by omega)]
      exact decide_eq_true rfl
