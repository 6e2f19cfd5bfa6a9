/-! how many planes; what the two sides owe of numbers -/
theorem zS_leS {f g : Nat → Nat} : ∀ n, (∀ k, k < n → f k ≤ g k) → zS f n ≤ zS g n
  | 0, _ => Nat.le_refl _
  | n + 1, h => Nat.add_le_add (zS_leS n (fun k hk => h k (by omega))) (h n (by omega))
def zinp (c : Nat → Nat) (l r : Nat) : Bool := lb (zf_pm (zf_L 2 6 c) (zw_on 2 6 c) l) r
def zJJ (c : Nat → Nat) (r s : Nat) : Nat := zS (fun l => zin (zinp c l r && zinp c l s)) (zf_np (zf_L 2 6 c) (zw_on 2 6 c))
theorem zinp_7 {c : Nat → Nat} (hNS : zNS 2 6 c) {l : Nat} (hl : l < zf_np (zf_L 2 6 c) (zw_on 2 6 c)) : zC (zinp c l) (zw_on 2 6 c) = 7 ∧ ∀ r s, zinp c l r = true → zinp c l s = true → r < zw_on 2 6 c ∧ zf_k 2 6 c r s = true := by
  have h64 := zon64 zok26 hNS
  have h64 : zw_on 2 6 c ≤ 64 := by omega
  obtain ⟨p, q, x, hp, hq, hx, ht, hc, -, -, -, a4, -⟩ := (zplanes hNS).2 l hl
  have hw := (zS3_wf hNS hc.1).2
  unfold zinp
  rw [a4]
  constructor
  · have e := zC_flat (f := lb (zS3 c p q x)) (p := zw_on 2 6 c) (64 - zw_on 2 6 c) (fun k h1 _ => Bool.eq_false_iff.mpr (fun z => by have := ((zS3_iff hNS h64 hc.1).mp z).1; omega))
    rw [show zw_on 2 6 c + (64 - zw_on 2 6 c) = 64 by omega, hw] at e
    exact e.symm
  · intro r s hr hs
    obtain ⟨r1, r2⟩ := (zS3_iff hNS h64 hc.1).mp hr
    obtain ⟨s1, s2⟩ := (zS3_iff hNS h64 hc.1).mp hs
    exact ⟨r1, zpl_lk hc.1 r1 r2 s2⟩
theorem zJJ_no {c : Nat → Nat} (hNS : zNS 2 6 c) {r s : Nat} (hl : zf_k 2 6 c r s = false) : zJJ c r s = 0 := by
  unfold zJJ
  rw [zS_congr (g := fun _ => 0) _ (fun l hl2 => ?_), zS_zero]
  cases hb : zinp c l r && zinp c l s with
  | false => rfl
  | true =>
    rw [Bool.and_eq_true] at hb
    have := ((zinp_7 hNS hl2).2 r s hb.1 hb.2).2
    rw [this] at hl; cases hl
theorem zJJ_3 {c : Nat → Nat} (hNS : zNS 2 6 c) {r s t : Nat} (hr : r < zw_on 2 6 c) (hs : s < zw_on 2 6 c) (ht : t < zw_on 2 6 c) (hrs : r ≠ s) (hl : zf_k 2 6 c r s = true) : zS (fun l => zin ((zinp c l r && zinp c l s) && zinp c l t)) (zf_np (zf_L 2 6 c) (zw_on 2 6 c)) ≤ zin (lb (zS2 2 6 c r s) t) * zJJ c r s + zin ((zf_k 2 6 c r t && zf_k 2 6 c s t) && !lb (zS2 2 6 c r s) t) := by
  have h64 := zon64 zok26 hNS
  have h64 : zw_on 2 6 c ≤ 64 := by omega
  cases hb : lb (zS2 2 6 c r s) t with
  | true =>
    have : zS (fun l => zin ((zinp c l r && zinp c l s) && zinp c l t)) (zf_np (zf_L 2 6 c) (zw_on 2 6 c)) ≤ zJJ c r s := zS_leS _ (fun l _ => by
      cases zinp c l r && zinp c l s
      · exact Nat.le_refl _
      · cases zinp c l t <;> decide)
    show _ ≤ 1 * zJJ c r s + _
    omega
  | false =>
    have hno : ¬ zon 2 6 c r s t := fun w => by
      rw [(zS2_iff zok26 hNS h64 hr hs hl).mpr ⟨ht, w⟩] at hb; cases hb
    by_cases hex : ∃ l, l < zf_np (zf_L 2 6 c) (zw_on 2 6 c) ∧ ((zinp c l r && zinp c l s) && zinp c l t) = true
    · obtain ⟨m, hm, hm2⟩ := hex
      rw [Bool.and_eq_true, Bool.and_eq_true] at hm2
      obtain ⟨⟨m1, m2⟩, m3⟩ := hm2
      have k1 := ((zinp_7 hNS hm).2 r t m1 m3).2
      have k2 := ((zinp_7 hNS hm).2 s t m2 m3).2
      have hlr : zlr c r s t := ⟨hr, hs, ht, hrs, hl, k1, k2, hno⟩
      have hmask : ∀ l, l < zf_np (zf_L 2 6 c) (zw_on 2 6 c) → zinp c l r = true → zinp c l s = true → zinp c l t = true → zf_pm (zf_L 2 6 c) (zw_on 2 6 c) l = zS3 c r s t := by
        intro l hl3 b1 b2 b3
        obtain ⟨p, q, x, hp, hq, hx, htw, hc, -, -, -, a4, -⟩ := (zplanes hNS).2 l hl3
        unfold zinp at b1 b2 b3
        rw [a4] at b1 b2 b3 ⊢
        exact (zS3_sub hNS hc.1 hlr ((zS3_iff hNS h64 hc.1).mp b1).2 ((zS3_iff hNS h64 hc.1).mp b2).2 ((zS3_iff hNS h64 hc.1).mp b3).2).symm
      rw [zS_at (k := m) _ (fun l hl3 hne => ?_), if_pos hm, m1, m2, m3, k1, k2]
      · show 1 ≤ 0 * zJJ c r s + 1
        omega
      · cases hb2 : (zinp c l r && zinp c l s) && zinp c l t with
        | false => rfl
        | true =>
          rw [Bool.and_eq_true, Bool.and_eq_true] at hb2
          obtain ⟨⟨b1, b2⟩, b3⟩ := hb2
          exact absurd (zpm_inj hNS hl3 hm ((hmask l hl3 b1 b2 b3).trans (hmask m hm m1 m2 m3).symm)) hne
    · rw [zS_congr (g := fun _ => 0) _ (fun l hl3 => ?_), zS_zero]
      · exact Nat.zero_le _
      · cases hb2 : (zinp c l r && zinp c l s) && zinp c l t with
        | false => rfl
        | true => exact absurd ⟨l, hl3, hb2⟩ hex
theorem zK2_8 {c : Nat → Nat} (hNS : zNS 2 6 c) (h35 : zw_on 2 6 c = 35) {r s : Nat} (hr : r < zw_on 2 6 c) (hs : s < zw_on 2 6 c) (hrs : r ≠ s) (hl : zf_k 2 6 c r s = true) : zC (fun t => (zf_k 2 6 c r t && zf_k 2 6 c s t) && !lb (zS2 2 6 c r s) t) (zw_on 2 6 c) = 8 := by
  have h64 : zw_on 2 6 c ≤ 64 := by omega
  obtain ⟨κ, hT⟩ := ztab zok26 hNS
  have h1 := zK2_v zok26 hNS hT hr hs hrs hl
  rw [if_pos (by rw [h35])] at h1
  have h2 := zS2_on zok26 hNS h64 hr hs hrs hl
  unfold zK2 at h1
  rw [← zS_zC] at h1 h2 ⊢
  have e : zS (fun t => zin (zf_k 2 6 c r t && zf_k 2 6 c s t)) (zw_on 2 6 c) = zS (fun t => zin (lb (zS2 2 6 c r s) t)) (zw_on 2 6 c) + zS (fun t => zin ((zf_k 2 6 c r t && zf_k 2 6 c s t) && !lb (zS2 2 6 c r s) t)) (zw_on 2 6 c) := by
    rw [← zS_add]
    refine zS_congr _ (fun t ht => ?_)
    cases hb : lb (zS2 2 6 c r s) t with
    | false => rw [Bool.not_false, Bool.and_true]; exact (Nat.zero_add _).symm
    | true =>
      have hz := ((zS2_iff zok26 hNS h64 hr hs hl).mp hb).2
      rw [zon_lk hr hs hr hl (zsp_l (by decide) _ _) hz, zon_lk hr hs hs hl (zsp_r (by decide) _ _) hz]; rfl
  omega
theorem zJJ_2 {c : Nat → Nat} (hNS : zNS 2 6 c) (h35 : zw_on 2 6 c = 35) {r s : Nat} (hr : r < zw_on 2 6 c) (hs : s < zw_on 2 6 c) (hrs : r ≠ s) (hl : zf_k 2 6 c r s = true) : zJJ c r s ≤ 2 := by
  have h64 : zw_on 2 6 c ≤ 64 := by omega
  have e1 : zS (fun t => zS (fun l => zin ((zinp c l r && zinp c l s) && zinp c l t)) (zf_np (zf_L 2 6 c) (zw_on 2 6 c))) (zw_on 2 6 c) = zJJ c r s * 7 := by
    rw [zS_swap]
    unfold zJJ
    rw [← zS_mulr]
    refine zS_congr _ (fun l hl2 => ?_)
    rw [zS_congr (g := fun t => zin (zinp c l r && zinp c l s) * zin (zinp c l t)) _ (fun t _ => zin_and _ _), zS_mull, zS_zC, (zinp_7 hNS hl2).1]
  have e2 := zS_leS (zw_on 2 6 c) (fun t ht => zJJ_3 hNS hr hs ht hrs hl)
  rw [e1, zS_add, zS_mulr, zS_zC, zS_zC, zS2_on zok26 hNS h64 hr hs hrs hl, zK2_8 hNS h35 hr hs hrs hl] at e2
  omega
theorem znp30 {c : Nat → Nat} (hNS : zNS 2 6 c) (h35 : zw_on 2 6 c = 35) : zf_np (zf_L 2 6 c) (zw_on 2 6 c) ≤ 30 ∧ 0 < zf_np (zf_L 2 6 c) (zw_on 2 6 c) := by
  have h64 : zw_on 2 6 c ≤ 64 := by omega
  obtain ⟨κ, hT, hκ⟩ := ztab zok26 hNS
  have hκ18 : κ = 18 := by
    rw [h35] at hT
    have key : ∀ q ∈ ztbl, (q.1, q.2.1, q.2.2.1) = (2, 6, 35) → q.2.2.2.1 = 18 := by decide
    exact key _ hT rfl
  subst hκ18
  constructor
  · have e1 : zS (fun l => zS (fun r => zS (fun s => zin (zinp c l r && zinp c l s) * zin (!decide (r = s))) (zw_on 2 6 c)) (zw_on 2 6 c)) (zf_np (zf_L 2 6 c) (zw_on 2 6 c)) = zf_np (zf_L 2 6 c) (zw_on 2 6 c) * 42 := by
      rw [zS_congr (g := fun _ => 42) _ (fun l hl => ?_), zS_const]
      have := zpairs (zinp_7 hNS hl).1
      omega
    have e2 : zS (fun l => zS (fun r => zS (fun s => zin (zinp c l r && zinp c l s) * zin (!decide (r = s))) (zw_on 2 6 c)) (zw_on 2 6 c)) (zf_np (zf_L 2 6 c) (zw_on 2 6 c)) = zS (fun r => zS (fun s => zJJ c r s * zin (!decide (r = s))) (zw_on 2 6 c)) (zw_on 2 6 c) := by
      rw [← zS_swap]
      refine zS_congr _ (fun r _ => ?_)
      rw [← zS_swap]
      refine zS_congr _ (fun s _ => ?_)
      exact zS_mulr _ _ _
    have e3 : zS (fun r => zS (fun s => zJJ c r s * zin (!decide (r = s))) (zw_on 2 6 c)) (zw_on 2 6 c) ≤ zw_on 2 6 c * 36 := by
      refine zS_le _ (fun r hr => ?_)
      have h1 := hκ r hr
      unfold zK1 at h1
      rw [← zS_zC] at h1
      have h2 : zS (fun s => zJJ c r s * zin (!decide (r = s)) + 2 * zin (decide (r = s))) (zw_on 2 6 c) ≤ zS (fun s => 2 * zin (zf_k 2 6 c r s)) (zw_on 2 6 c) := zS_leS _ (fun s hs => by
        by_cases e : r = s
        · subst e
          rw [decide_eq_true rfl, zf_k_r]
          show zJJ c r r * 0 + 2 * 1 ≤ 2 * 1
          omega
        · rw [decide_eq_false e]
          show zJJ c r s * 1 + 2 * 0 ≤ _
          cases hk : zf_k 2 6 c r s with
          | false => rw [zJJ_no hNS hk]; exact Nat.zero_le _
          | true =>
            have := zJJ_2 hNS h35 hr hs e hk
            show _ ≤ 2 * 1
            omega)
      have h3 : zS (fun s => zin (decide (r = s))) (zw_on 2 6 c) = 1 := by
        rw [zS_at (k := r) _ (fun i _ q => by rw [decide_eq_false (fun z => q z.symm)]; rfl), if_pos hr, decide_eq_true rfl]; rfl
      rw [zS_add, zS_mull, zS_mull, h1, h3] at h2
      omega
    omega
  · have hn : 0 < zw_on 2 6 c := by omega
    have h1 := hκ 0 hn
    have hex : ∃ s, s < zw_on 2 6 c ∧ s ≠ 0 ∧ zf_k 2 6 c 0 s = true := by
      refine Classical.byContradiction (fun hne => ?_)
      have := (zC_sub (f := zf_k 2 6 c 0) (g := fun s => decide (s = 0)) (zw_on 2 6 c) (fun k hk hb => by
        by_cases e : k = 0
        · exact decide_eq_true e
        · exact absurd ⟨k, hk, e, hb⟩ hne)).1
      have h3 : zC (fun s => decide (s = 0)) (zw_on 2 6 c) = 1 := by
        rw [← zS_zC, zS_at (k := 0) _ (fun i _ q => by rw [decide_eq_false q]; rfl), if_pos hn]; rfl
      unfold zK1 at h1
      omega
    obtain ⟨s, hs, hs0, hk⟩ := hex
    have h8 := zK2_8 hNS h35 hn hs (fun e => hs0 e.symm) hk
    have hex2 : ∃ t, t < zw_on 2 6 c ∧ ((zf_k 2 6 c 0 t && zf_k 2 6 c s t) && !lb (zS2 2 6 c 0 s) t) = true := by
      refine Classical.byContradiction (fun hne => ?_)
      rw [zC_no (fun t ht => Bool.eq_false_iff.mpr (fun z => hne ⟨t, ht, z⟩))] at h8
      omega
    obtain ⟨t, ht, hb⟩ := hex2
    rw [Bool.and_eq_true, Bool.and_eq_true, Bool.not_eq_true'] at hb
    exact zpm_ex hNS (p := 0) (q := s) (t := t) ⟨hn, hs, ht, fun e => hs0 e.symm, hk, hb.1.1, hb.1.2, fun w => by
      have := hb.2
      rw [(zS2_iff zok26 hNS h64 hn hs hk).mpr ⟨ht, w⟩] at this; cases this⟩
