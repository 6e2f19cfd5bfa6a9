/-! how many maximal flats through a member; how many exact covers at most -/
theorem zone_r {f : Nat → Bool} {n m r : Nat} (h : zC f n = m + 1) (hr : r < n) : zS (fun s => zin (f r && f s) * zin (!decide (r = s))) n = zin (f r) * m := by
  have e1 : zS (fun s => zin (f r && f s)) n = zin (f r) * (m + 1) := by
    rw [zS_congr (g := fun s => zin (f r) * zin (f s)) n (fun s _ => zin_and _ _), zS_mull, zS_zC, h]
  have e2 : zS (fun s => zin (f r && f s)) n = zS (fun s => zin (f r && f s) * zin (!decide (r = s))) n + zin (f r) := by
    have : zS (fun s => zin (f r && f s) * zin (decide (r = s))) n = zin (f r) := by
      rw [zS_at (k := r) n (fun i _ q => by rw [decide_eq_false (fun z => q z.symm)]; exact Nat.mul_zero _), if_pos hr, decide_eq_true rfl, Bool.and_self]
      exact Nat.mul_one _
    rw [← this, ← zS_add]
    refine zS_congr n (fun s _ => ?_)
    rw [← Nat.mul_add, Nat.add_comm, zin_not, Nat.mul_one]
  rw [e1, Nat.mul_add, Nat.mul_one] at e2
  omega
theorem zlk_r {P N : Nat} {c : Nat → Nat} {κ r : Nat} (hr : r < zw_on P N c) (h1 : zK1 P N c r = κ + 1) : zS (fun s => zin (zf_k P N c r s) * zin (!decide (r = s))) (zw_on P N c) = κ := by
  unfold zK1 at h1
  rw [← zS_zC] at h1
  have h2 : zS (fun s => zin (zf_k P N c r s)) (zw_on P N c) = zS (fun s => zin (zf_k P N c r s) * zin (!decide (r = s))) (zw_on P N c) + 1 := by
    have : zS (fun s => zin (zf_k P N c r s) * zin (decide (r = s))) (zw_on P N c) = 1 := by
      rw [zS_at (k := r) _ (fun i _ q => by rw [decide_eq_false (fun z => q z.symm)]; exact Nat.mul_zero _), if_pos hr, decide_eq_true rfl, zf_k_r]; rfl
    rw [← this, ← zS_add]
    refine zS_congr _ (fun s _ => ?_)
    rw [← Nat.mul_add, Nat.add_comm, zin_not, Nat.mul_one]
  omega
/-- lines through a member -/
theorem zdegL {P N : Nat} {c : Nat → Nat} (hok : zv_ok P N) (hNS : zNS P N c) (h64 : zw_on P N c ≤ 64) {κ r : Nat} (hr : r < zw_on P N c) (hκ : zK1 P N c r = κ + 1) : zC (fun l => zinl P N c l r) (zf_nl (zf_L P N c) (zw_on P N c)) * P = κ := by
  have hlines := (zlines hok hNS h64).2
  have e1 : zS (fun l => zS (fun s => zin (zinl P N c l r && zinl P N c l s) * zin (!decide (r = s))) (zw_on P N c)) (zf_nl (zf_L P N c) (zw_on P N c)) = zC (fun l => zinl P N c l r) (zf_nl (zf_L P N c) (zw_on P N c)) * P := by
    rw [← zS_zC, ← zS_mulr]
    refine zS_congr _ (fun l hl => ?_)
    obtain ⟨p, q, hp, hq, ht, -, -, hm, -⟩ := hlines l hl
    have hc : zC (zinl P N c l) (zw_on P N c) = P + 1 := by
      show zC (lb (zf_lm (zf_L P N c) (zw_on P N c) l)) _ = _
      rw [hm]
      exact zS2_on hok hNS h64 hp hq (by have := ht.2.1; omega) ht.1
    exact zone_r hc hr
  have e3 : zS (fun l => zS (fun s => zin (zinl P N c l r && zinl P N c l s) * zin (!decide (r = s))) (zw_on P N c)) (zf_nl (zf_L P N c) (zw_on P N c)) = zS (fun s => zS (fun l => zin (zinl P N c l r && zinl P N c l s) * zin (!decide (r = s))) (zf_nl (zf_L P N c) (zw_on P N c))) (zw_on P N c) := zS_swap (fun l s => zin (zinl P N c l r && zinl P N c l s) * zin (!decide (r = s))) (zw_on P N c) (zf_nl (zf_L P N c) (zw_on P N c))
  rw [← e1, e3, ← zlk_r hr hκ]
  refine zS_congr _ (fun s hs => ?_)
  rw [zS_mulr]
  by_cases e : r = s
  · rw [decide_eq_true e]
    show _ * 0 = _ * 0
    rw [Nat.mul_zero, Nat.mul_zero]
  · rw [zoneL hok hNS h64 hr hs e]
theorem zS_top1 {f : Nat → Nat} {k n : Nat} (h : k < n) : f k ≤ zS f n := by
  have h1 := zS_mono f (show k + 1 ≤ n from h)
  have h2 : zS f (k + 1) = zS f k + f k := rfl
  omega
/-- planes through a member, at (2, 6, 35) -/
theorem zdegP {c : Nat → Nat} (hNS : zNS 2 6 c) (h35 : zw_on 2 6 c = 35) {r : Nat} (hr : r < zw_on 2 6 c) : 3 ≤ zC (fun l => zinp c l r) (zf_np (zf_L 2 6 c) (zw_on 2 6 c)) := by
  have h64 : zw_on 2 6 c ≤ 64 := by omega
  obtain ⟨κ, hT, hκ⟩ := ztab zok26 hNS
  have hκ18 : κ = 18 := by
    rw [h35] at hT
    have key : ∀ q ∈ ztbl, (q.1, q.2.1, q.2.2.1) = (2, 6, 35) → q.2.2.2.1 = 18 := by decide
    exact key _ hT rfl
  have e1 : zS (fun l => zS (fun s => zin (zinp c l r && zinp c l s) * zin (!decide (r = s))) (zw_on 2 6 c)) (zf_np (zf_L 2 6 c) (zw_on 2 6 c)) = zC (fun l => zinp c l r) (zf_np (zf_L 2 6 c) (zw_on 2 6 c)) * 6 := by
    rw [← zS_zC, ← zS_mulr]
    exact zS_congr _ (fun l hl => zone_r (zinp_7 hNS hl).1 hr)
  have e3 : zS (fun l => zS (fun s => zin (zinp c l r && zinp c l s) * zin (!decide (r = s))) (zw_on 2 6 c)) (zf_np (zf_L 2 6 c) (zw_on 2 6 c)) = zS (fun s => zS (fun l => zin (zinp c l r && zinp c l s) * zin (!decide (r = s))) (zf_np (zf_L 2 6 c) (zw_on 2 6 c))) (zw_on 2 6 c) := zS_swap (fun l s => zin (zinp c l r && zinp c l s) * zin (!decide (r = s))) (zw_on 2 6 c) (zf_np (zf_L 2 6 c) (zw_on 2 6 c))
  have e4 : κ ≤ zC (fun l => zinp c l r) (zf_np (zf_L 2 6 c) (zw_on 2 6 c)) * 6 := by
    rw [← e1, e3, ← zlk_r hr (hκ r hr)]
    refine zS_leS _ (fun s hs => ?_)
    rw [zS_mulr]
    refine Nat.mul_le_mul_right _ ?_
    cases hk : zf_k 2 6 c r s with
    | false => exact Nat.zero_le _
    | true =>
      by_cases hrs : r = s
      · subst hrs
        obtain ⟨l, hl, hb⟩ := zpl_thru hNS h35 hr
        have h1 : zin (zinp c l r && zinp c l r) ≤ zS (fun l => zin (zinp c l r && zinp c l r)) _ := zS_top1 (f := fun l => zin (zinp c l r && zinp c l r)) hl
        have hb : zinp c l r = true := hb
        have h2 : zin (zinp c l r && zinp c l r) = 1 := by rw [hb]; rfl
        rw [h2] at h1
        exact h1
      · have h8 := zK2_8 hNS h35 hr hs hrs hk
        have hex2 : ∃ t, t < zw_on 2 6 c ∧ ((zf_k 2 6 c r t && zf_k 2 6 c s t) && !lb (zS2 2 6 c r s) t) = true := by
          refine Classical.byContradiction (fun hne => ?_)
          rw [zC_no (fun t ht => Bool.eq_false_iff.mpr (fun z => hne ⟨t, ht, z⟩))] at h8
          omega
        obtain ⟨t, ht, hb⟩ := hex2
        rw [Bool.and_eq_true, Bool.and_eq_true, Bool.not_eq_true'] at hb
        have hlr : zlr c r s t := ⟨hr, hs, ht, hrs, hk, hb.1.1, hb.1.2, fun w => by
          have := hb.2
          rw [(zS2_iff zok26 hNS h64 hr hs hk).mpr ⟨ht, w⟩] at this; cases this⟩
        obtain ⟨l, hl, e⟩ := zpm_at hNS hlr
        have b1 : zinp c l r = true := by
          unfold zinp
          rw [e]
          exact (zS3_iff hNS h64 hlr).mpr ⟨hr, zsp_mem (by decide) _ (by simp)⟩
        have b2 : zinp c l s = true := by
          unfold zinp
          rw [e]
          exact (zS3_iff hNS h64 hlr).mpr ⟨hs, zsp_mem (by decide) _ (by simp)⟩
        have h1 : zin (zinp c l r && zinp c l s) ≤ zS (fun l => zin (zinp c l r && zinp c l s)) _ := zS_top1 (f := fun l => zin (zinp c l r && zinp c l s)) hl
        have h2 : zin (zinp c l r && zinp c l s) = 1 := by rw [b1, b2]; rfl
        rw [h2] at h1
        exact h1
  omega
def zdg (P N : Nat) (c : Nat → Nat) (r : Nat) : Nat := zC (fun k => lb (zj_m P N c k) r) (zw_gm P N c)
/-- the numbers of the two searches -/
theorem zcov {P N : Nat} {c : Nat → Nat} (hok : zv_ok P N) (hNS : zNS P N c) : ∃ m0 B1 d0 d1, 1 ≤ m0 ∧ 1 ≤ B1 ∧ (∀ r, r < zw_on P N c → m0 ≤ zdg P N c r ∧ zdg P N c r ≤ B1) ∧ zw_gm P N c ≤ m0 * d0 ∧ zq_sz P (zw_ix P N c) ^ d0 ≤ 2 ^ 30 ∧ zw_gm P N c ≤ m0 * 40 ∧ zw_on P N c ≤ zq_sz P (zw_ix P N c) * d1 ∧ B1 ^ d1 ≤ 2 ^ 30 ∧ zw_on P N c ≤ zq_sz P (zw_ix P N c) * 40 := by
  have h40 := zon64 hok hNS
  have h64 : zw_on P N c ≤ 64 := by omega
  obtain ⟨s1, s2, s3, s4⟩ := zsame hok hNS
  have hix := (zall hok hNS).1
  by_cases e3 : 0 < zw_npl P N c
  · have ix3 : zw_ix P N c = 3 := by unfold zw_ix zq_ix; rw [if_pos e3]
    have hgm : zw_gm P N c = zf_np (zf_L P N c) (zw_on P N c) := by
      unfold zw_gm zw_fl zq_fl
      rw [ix3, if_neg (by decide), if_neg (by decide), s2]
    have hsz : zq_sz P (zw_ix P N c) = 7 := by
      unfold zq_sz
      rw [ix3, if_neg (by decide), if_neg (by decide)]
    rw [s2] at e3
    have e := s4.mp e3
    have e1 : P = 2 := congrArg (fun q => q.1) e
    have e2 : N = 6 := congrArg (fun q => q.2.1) e
    subst e1 e2
    have h35 : zw_on 2 6 c = 35 := congrArg (fun q => q.2.2) e
    have hdg : ∀ r, zdg 2 6 c r = zC (fun l => zinp c l r) (zf_np (zf_L 2 6 c) (zw_on 2 6 c)) := fun r => by
      unfold zdg zj_m
      rw [hgm, hix, ix3]; rfl
    refine ⟨3, 30, 10, 5, by decide, by decide, fun r hr => ⟨?_, ?_⟩, by omega, ?_, by omega, by omega, by decide, by omega⟩
    · rw [hdg]; exact zdegP hNS h35 hr
    · rw [hdg]
      have := zC_le (fun l => zinp c l r) (zf_np (zf_L 2 6 c) (zw_on 2 6 c))
      omega
    · rw [hsz]; decide
  · by_cases e2 : 0 < zw_nl P N c
    · have ix2 : zw_ix P N c = 2 := by unfold zw_ix zq_ix; rw [if_neg e3, if_pos e2]
      have hgm : zw_gm P N c = zf_nl (zf_L P N c) (zw_on P N c) := by
        unfold zw_gm zw_fl zq_fl
        rw [ix2, if_neg (by decide), if_pos rfl, s1]
      have hsz : zq_sz P (zw_ix P N c) = P + 1 := by
        unfold zq_sz
        rw [ix2, if_neg (by decide), if_pos rfl]
      have hdg : ∀ r, zdg P N c r = zC (fun l => zinl P N c l r) (zf_nl (zf_L P N c) (zw_on P N c)) := fun r => by
        unfold zdg zj_m
        rw [hgm, hix, ix2]; rfl
      obtain ⟨κ, hT, hκ⟩ := ztab hok hNS
      rw [s1] at e2
      rw [s2] at e3
      have key : ∀ q ∈ ztbl, 0 < q.2.2.2.2 → (q.1, q.2.1, q.2.2.1) ≠ (2, 6, 35) → 1 ≤ q.2.2.2.1 / q.1 ∧ q.1 ≠ 0 ∧ q.2.2.2.2 ≤ q.2.2.2.1 / q.1 * 10 ∧ (q.1 + 1) ^ 10 ≤ 2 ^ 30 ∧ q.2.2.1 ≤ (q.1 + 1) * 10 ∧ (q.2.2.2.1 / q.1) ^ 10 ≤ 2 ^ 30 := by decide +kernel
      obtain ⟨k1, k2, k3, k4, k5, k6⟩ := key _ hT e2 (fun z => e3 (s4.mpr z))
      have k1 : 1 ≤ κ / P := k1
      have k3 : zf_nl (zf_L P N c) (zw_on P N c) ≤ κ / P * 10 := k3
      have k5 : zw_on P N c ≤ (P + 1) * 10 := k5
      have hd : ∀ r, r < zw_on P N c → zdg P N c r = κ / P := fun r hr => by
        have h1 := zdegL hok hNS h64 hr (hκ r hr)
        rw [hdg, ← h1]
        exact (Nat.mul_div_cancel _ (Nat.pos_of_ne_zero k2)).symm
      refine ⟨κ / P, κ / P, 10, 10, k1, k1, fun r hr => ?_, ?_, ?_, ?_, ?_, k6, ?_⟩
      · rw [hd r hr]; exact ⟨Nat.le_refl _, Nat.le_refl _⟩
      · rw [hgm]; exact k3
      · rw [hsz]; exact k4
      · rw [hgm]; omega
      · rw [hsz]; exact k5
      · rw [hsz]; omega
    · have ix1 : zw_ix P N c = 1 := by unfold zw_ix zq_ix; rw [if_neg e3, if_neg e2]
      have hgm : zw_gm P N c = zw_on P N c := by
        unfold zw_gm zw_fl zq_fl
        rw [ix1, if_pos rfl]
      have hsz : zq_sz P (zw_ix P N c) = 1 := by
        unfold zq_sz
        rw [ix1, if_pos rfl]
      have hd : ∀ r, r < zw_on P N c → zdg P N c r = 1 := fun r hr => by
        have e : zdg P N c r = zC (fun k => lb (zf_b k) r) (zw_on P N c) := by
          unfold zdg zj_m
          rw [hgm, hix, ix1]; rfl
        rw [e, ← zS_zC, zS_at (k := r) _ (fun i hi q => by rw [zf_b_lb (by omega), decide_eq_false q]; rfl), if_pos hr, zf_b_lb (by omega), decide_eq_true rfl]; rfl
      refine ⟨1, 1, zw_on P N c, zw_on P N c, by decide, by decide, fun r hr => ?_, by omega, ?_, by omega, by rw [hsz]; omega, ?_, by rw [hsz]; omega⟩
      · rw [hd r hr]; exact ⟨Nat.le_refl _, Nat.le_refl _⟩
      · rw [hsz, Nat.one_pow]; decide
      · rw [Nat.one_pow]; decide
/-- at most B to the d exact covers -/
theorem zec_le {C : Nat → Int64} {n w m B : Nat} (hw : w < 64) (hC : ∀ k, k < n → zy_sub w (C k)) (hne : ∀ k, k < n → ¬ C k &&& zy_all w = 0) (hm : ∀ k, k < n → m ≤ zC (lb (C k)) w) (hB1 : 1 ≤ B) (hB : ∀ j, j < w → zC (fun k => lb (C k) j) n ≤ B) : ∀ d x, zy_sub w x → w ≤ zC (lb x) w + m * d → zec C (zy_all w) n x ≤ B ^ d
  | 0, x, hx, hd => by
    have e : x = zy_all w := Decidable.byContradiction (fun hq => by have := zy_few hw hx hq; omega)
    rw [e, zec_all n hne]; exact Nat.le_refl _
  | d + 1, x, hx, hd => by
    by_cases e : x = zy_all w
    · rw [e, zec_all n hne]; exact Nat.pow_pos (by omega)
    · obtain ⟨f1, f2⟩ := zy_fm_ok hw hx e
      rw [zec_br (j := zy_fm x) (by omega) (by rw [zy_alls hw]; exact decide_eq_true f1) n x f2]
      have h1 : zS (zebr C (zy_all w) (zy_fm x) n x) n ≤ zS (fun k => zin (lb (C k) (zy_fm x)) * B ^ d) n := zS_leS n (fun k hk => by
        unfold zebr
        by_cases q : C k &&& x = 0 ∧ lb (C k) (zy_fm x) = true
        · rw [if_pos q, q.2]
          have h2 := zec_le hw hC hne hm hB1 hB d (x ||| C k) (zy_sub_or hx (hC k hk)) (by
            rw [zC_orw (zand_c.mp q.1) (by omega)]
            have := hm k hk
            rw [Nat.mul_succ] at hd
            omega)
          show _ ≤ 1 * B ^ d
          omega
        · rw [if_neg q]; exact Nat.zero_le _)
      rw [zS_mulr, zS_zC] at h1
      have h3 := Nat.mul_le_mul_right (B ^ d) (hB _ f1)
      rw [Nat.pow_succ, Nat.mul_comm (B ^ d)]
      exact Nat.le_trans h1 h3
