/-! what clashes: pick, gather, drop, chosen -/
theorem zg_or_lb {f : Nat → Int64} {s : Nat} : ∀ n, lb (zg_or f n) s = true ↔ ∃ k, k < n ∧ lb (f k) s = true
  | 0 => ⟨fun h => (by rw [show zg_or f 0 = 0 from rfl, lb_0] at h; cases h), fun ⟨k, hk, _⟩ => absurd hk (Nat.not_lt_zero k)⟩
  | n + 1 => by
    show lb (zg_or f n ||| f n) s = true ↔ _
    rw [lb_or, Bool.or_eq_true, zg_or_lb n]
    constructor
    · rintro (⟨k, hk, h⟩ | h)
      · exact ⟨k, by omega, h⟩
      · exact ⟨n, by omega, h⟩
    · rintro ⟨k, hk, h⟩
      by_cases e : k = n
      · subst e; exact Or.inr h
      · exact Or.inl ⟨k, by omega, h⟩
theorem zg_cl_lb {C D : Nat → Int64} {x s : Nat} : ∀ n, lb (zg_cl C D x n) s = true ↔ ∃ k, k < n ∧ lb (C x) k = true ∧ lb (D k) s = true
  | 0 => ⟨fun h => (by rw [show zg_cl C D x 0 = 0 from rfl, lb_0] at h; cases h), fun ⟨k, hk, _⟩ => absurd hk (Nat.not_lt_zero k)⟩
  | n + 1 => by
    show lb (if lb (C x) n = true then zg_cl C D x n ||| D n else zg_cl C D x n) s = true ↔ _
    by_cases hb : lb (C x) n = true
    · rw [if_pos hb, lb_or, Bool.or_eq_true, zg_cl_lb n]
      constructor
      · rintro (⟨k, hk, h⟩ | h)
        · exact ⟨k, by omega, h⟩
        · exact ⟨n, by omega, hb, h⟩
      · rintro ⟨k, hk, h⟩
        by_cases e : k = n
        · subst e; exact Or.inr h.2
        · exact Or.inl ⟨k, by omega, h⟩
    · rw [if_neg hb, zg_cl_lb n]
      constructor
      · rintro ⟨k, hk, h⟩
        exact ⟨k, by omega, h⟩
      · rintro ⟨k, hk, h⟩
        by_cases e : k = n
        · subst e; exact absurd h.1 hb
        · exact ⟨k, by omega, h⟩
theorem zand0 {x y : Int64} : x &&& y = 0 ↔ ∀ s, s < 64 → ¬ (lb x s = true ∧ lb y s = true) := by
  constructor
  · intro h s _ hs
    have : lb (x &&& y) s = true := by rw [lb_and, hs.1, hs.2]; rfl
    rw [h, lb_0] at this; cases this
  · intro h
    refine lb_ext (fun s hs => ?_)
    rw [lb_and, lb_0]
    refine Bool.eq_false_iff.mpr (fun w => ?_)
    rw [Bool.and_eq_true] at w
    exact h s hs w
theorem zj_p_lb {P N : Nat} {c : Nat → Nat} (hok : zv_ok P N) (hNS : zNS P N c) {r k : Nat} : lb (zj_p P N c r) k = true ↔ k < zw_gm P N c ∧ lb (zj_m P N c k) r = true := by
  have hg := zgm45 hok hNS
  unfold zj_p
  rw [zj_gm_eq hok hNS, lb_L _ (by omega), Bool.and_eq_true, decide_eq_true_iff]
theorem zclash0 {P N : Nat} {c : Nat → Nat} (hok : zv_ok P N) (hNS : zNS P N c) {r n : Nat} {e0 : Nat → Nat} (he : ∀ k, k < n → e0 k < zw_on P N c) : zj_kp P N c r &&& zj_tk e0 n = 0 ↔ zg_or (fun k => zj_p P N c (e0 k)) n &&& zj_p P N c r = 0 := by
  have hg := zgm45 hok hNS
  have h64 := zon64 hok hNS
  rw [zand0, zand0]
  unfold zj_kp zj_tk
  constructor
  · rintro h k hk ⟨h1, h2⟩
    obtain ⟨i, hi, h3⟩ := (zg_or_lb n).mp h1
    have hei := he i hi
    obtain ⟨h4, h5⟩ := (zj_p_lb hok hNS).mp h3
    refine h (e0 i) (by omega) ⟨(zg_cl_lb _).mpr ⟨k, by rw [zj_gm_eq hok hNS]; exact h4, h2, h5⟩, (zg_or_lb n).mpr ⟨i, hi, ?_⟩⟩
    rw [zf_b_lb (by omega)]; exact decide_eq_true rfl
  · rintro h s hs ⟨h1, h2⟩
    obtain ⟨k, hk, h3, h4⟩ := (zg_cl_lb _).mp h1
    obtain ⟨i, hi, h5⟩ := (zg_or_lb n).mp h2
    have hei := he i hi
    rw [zf_b_lb (by omega), decide_eq_true_iff] at h5
    rw [zj_gm_eq hok hNS] at hk
    refine h k (by omega) ⟨(zg_or_lb n).mpr ⟨i, hi, (zj_p_lb hok hNS).mpr ⟨hk, ?_⟩⟩, h3⟩
    rw [h5]; exact h4
theorem zclash1 {P N : Nat} {c : Nat → Nat} (hok : zv_ok P N) (hNS : zNS P N c) (h0 : zw_ns P N c = 0) {x n : Nat} (hx : x < zw_gm P N c) {e1 : Nat → Nat} (he : ∀ k, k < n → e1 k < zw_gm P N c) : zj_km P N c x &&& zj_tk e1 n = 0 ↔ zg_or (fun k => zj_m P N c (e1 k)) n &&& zj_m P N c x = 0 := by
  have hg := zgm45 hok hNS
  have h64 := zon64 hok hNS
  rw [zand0, zand0]
  unfold zj_km zj_tk
  constructor
  · rintro h r hr ⟨h1, h2⟩
    obtain ⟨i, hi, h3⟩ := (zg_or_lb n).mp h1
    have hei := he i hi
    refine h (e1 i) (by omega) ⟨(zg_cl_lb _).mpr ⟨r, zj_m_in hok hNS h0 hx h2, h2, (zj_p_lb hok hNS).mpr ⟨hei, h3⟩⟩, (zg_or_lb n).mpr ⟨i, hi, ?_⟩⟩
    rw [zf_b_lb (by omega)]; exact decide_eq_true rfl
  · rintro h s hs ⟨h1, h2⟩
    obtain ⟨r, hr, h3, h4⟩ := (zg_cl_lb _).mp h1
    obtain ⟨i, hi, h5⟩ := (zg_or_lb n).mp h2
    have hei := he i hi
    rw [zf_b_lb (by omega), decide_eq_true_iff] at h5
    refine h r (by omega) ⟨(zg_or_lb n).mpr ⟨i, hi, ?_⟩, h3⟩
    rw [h5]; exact ((zj_p_lb hok hNS).mp h4).2
/-- pick: the same answer, the same condition -/
theorem zb_r0 {P N : Nat} {c : Nat → Nat} {nn : Nat → Nat} {ff : Nat → Nat → Nat} {n0 n1 : Nat} {e0 e1 : Nat → Nat} (hok : zv_ok P N) (hNS : zNS P N c) (hl : zlst P N c nn ff n0 e0 n1 e1) {x : Int32} (hx : zx_in x (zv_np P N) = true ∧ zw_oo P N c (zx_k x) = true) : zj_r0 P N c n0 e0 x = true ↔ zw_rd P N c 0 (ff 0) (nn 0) &&& zw_rc P N c 0 (zx_k x) = 0 := by
  obtain ⟨l0, l1, l2, l3⟩ := hl
  have hxk := (zx_of hx.1).1
  have hr : zj_rk P N c x < zw_on P N c := zC_lt hx.2 hxk
  have hxr : zj_x P N c (zj_rk P N c x) = zx_k x := zX_at hx.2 hxk
  unfold zj_r0
  rw [decide_eq_true_iff, zclash0 hok hNS (fun k hk => (l2 k hk).1), l0, zrd_0 hok hNS n0 l2, ← hxr, zrc_0 hok hNS hr]
theorem zb_r1 {P N : Nat} {c : Nat → Nat} {nn : Nat → Nat} {ff : Nat → Nat → Nat} {n0 n1 : Nat} {e0 e1 : Nat → Nat} (hok : zv_ok P N) (hNS : zNS P N c) (h0 : zw_ns P N c = 0) (hl : zlst P N c nn ff n0 e0 n1 e1) {x : Int32} (hx : zx_in x (zw_gm P N c) = true) : zj_r1 P N c n1 e1 x = true ↔ zw_rd P N c 1 (ff 1) (nn 1) &&& zw_rc P N c 1 (zx_k x) = 0 := by
  obtain ⟨l0, l1, l2, l3⟩ := hl
  have hxk := (zx_of hx).1
  unfold zj_r1
  rw [decide_eq_true_iff, zclash1 hok hNS h0 hxk (fun k hk => (l3 k hk).1), l1, zrd_1 hok hNS h0 n1 l3, zrc_1 hok hNS h0 hxk]
