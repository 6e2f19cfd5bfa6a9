/-! a line by its two lowest points: the class and the reference -/
theorem lb_an {x y : Int64} {s : Nat} (hs : s < 64) : lb (x &&& (y ^^^ -1)) s = (lb x s && !lb y s) := by
  rw [lb_and, lb_xor, lb_m1 hs, Bool.xor_true]
theorem zsp_r {P N : Nat} (hP0 : 0 < P) (u v : Nat → Nat) : zsp P N [u, v] v := (zsp2_iff hP0).mpr ⟨0, 1, fun i _ => by rw [Nat.one_mul, Nat.zero_mul, Nat.zero_add]⟩
theorem zrs_iff {P N : Nat} {c : Nat → Nat} (hok : zv_ok P N) (hNS : zNS P N c) (h64 : zw_on P N c ≤ 64) {p : Nat} (hp : p < zw_on P N c) : ∀ m, m ≤ zw_on P N c → ∀ s, lb (zf_rs (zf_L P N c) (zw_on P N c) p m) s = true ↔ s < zw_on P N c ∧ zf_k P N c p s = true ∧ s ≠ p ∧ ∀ q, q < m → q ≠ p → ¬ zon P N c p s q
  | 0, _ => fun s => by
    have hP0 := (zv_P5 hok.1).1
    show lb (zf_L P N c p &&& (zf_b p ^^^ -1)) s = true ↔ _
    constructor
    · intro h
      have hs : s < zw_on P N c := by
        rw [lb_and, Bool.and_eq_true] at h
        exact zf_L_lt h64 h.1
      rw [lb_an (by omega), zf_L_lb h64, zf_b_lb (by omega), decide_eq_true hs, Bool.true_and, Bool.and_eq_true, Bool.not_eq_true', decide_eq_false_iff_not] at h
      exact ⟨hs, h.1, fun e => h.2 e.symm, fun q hq => absurd hq (Nat.not_lt_zero q)⟩
    · rintro ⟨hs, h1, h2, -⟩
      rw [lb_an (by omega), zf_L_lb h64, zf_b_lb (by omega), decide_eq_true hs, Bool.true_and, h1, decide_eq_false (fun e => h2 e.symm)]; rfl
  | m + 1, hm => fun s => by
    have hP0 := (zv_P5 hok.1).1
    have ih := zrs_iff hok hNS h64 hp m (by omega)
    cases hb : lb (zf_rs (zf_L P N c) (zw_on P N c) p m) m with
    | true =>
      obtain ⟨m1, m2, m3, m4⟩ := (ih m).mp hb
      rw [zf_rs_y hb]
      constructor
      · intro h
        have hs64 : s < 64 := by
          rcases Nat.lt_or_ge s 64 with q | q
          · exact q
          · rw [lb_ge q] at h; cases h
        rw [lb_an hs64, Bool.and_eq_true, Bool.not_eq_true'] at h
        obtain ⟨s1, s2, s3, s4⟩ := (ih s).mp h.1
        refine ⟨s1, s2, s3, fun q hq hqp hz => ?_⟩
        by_cases e : q = m
        · subst e
          have h5 := (zon_same hok hp m1 m3 hz s).mpr (zsp_r hP0 _ _)
          have h6 := (zS2_iff hok hNS h64 hp m1 m2 (s := s)).mpr ⟨s1, h5⟩
          have h7 : lb (zS2 P N c p q) s = false := h.2
          rw [h6] at h7; cases h7
        · exact s4 q (by omega) hqp hz
      · rintro ⟨s1, s2, s3, s4⟩
        rw [lb_an (by omega), Bool.and_eq_true, Bool.not_eq_true']
        refine ⟨(ih s).mpr ⟨s1, s2, s3, fun q hq => s4 q (by omega)⟩, Bool.eq_false_iff.mpr (fun z => ?_)⟩
        have h5 := ((zS2_iff hok hNS h64 hp m1 m2 (s := s)).mp z).2
        exact s4 m (by omega) m3 ((zon_same hok hp s1 s3 h5 m).mpr (zsp_r hP0 _ _))
    | false =>
      rw [zf_rs_n hb, ih s]
      constructor
      · rintro ⟨s1, s2, s3, s4⟩
        refine ⟨s1, s2, s3, fun q hq hqp hz => ?_⟩
        by_cases e : q = m
        · subst e
          have : lb (zf_rs (zf_L P N c) (zw_on P N c) p q) q = true := (ih q).mpr ⟨by omega, zon_link hp s2 hz, hqp, fun r hr hrp hz2 => s4 r hr hrp ((zon_same hok hp (by omega) hqp hz r).mp hz2)⟩
          rw [this] at hb; cases hb
        · exact s4 q (by omega) hqp hz
      · rintro ⟨s1, s2, s3, s4⟩
        exact ⟨s1, s2, s3, fun q hq => s4 q (by omega)⟩
theorem lb_low_b {x : Int64} {p : Nat} (hp : p < 64) : x &&& -x = zf_b p ↔ lb x p = true ∧ ∀ s, lb x s = true → p ≤ s := by
  constructor
  · intro h
    have h1 : lb (x &&& -x) p = true := by rw [h, zf_b_lb hp]; exact decide_eq_true rfl
    rw [lb_lowest, Bool.and_eq_true, decide_eq_true_iff, decide_eq_true_iff] at h1
    rcases lb_low_ge (x := x) with ⟨q, -⟩ | ⟨q1, q2, q3⟩
    · omega
    · rw [← h1.2] at q2 q3
      refine ⟨q2, fun s hs => ?_⟩
      rcases Nat.lt_or_ge s p with z | z
      · rw [q3 s z] at hs; cases hs
      · exact z
  · rintro ⟨h1, h2⟩
    have e : lb_low x = p := by
      rcases lb_low_ge (x := x) with ⟨-, q⟩ | ⟨q1, q2, q3⟩
      · rw [q p hp] at h1; cases h1
      · have a1 := h2 _ q2
        rcases Nat.lt_or_ge p (lb_low x) with z | z
        · rw [q3 p z] at h1; cases h1
        · omega
    refine lb_ext (fun k hk => ?_)
    rw [lb_lowest, e, zf_b_lb hp, decide_eq_true hk, Bool.true_and]
    exact zb_iff (by rw [decide_eq_true_iff, decide_eq_true_iff]; exact ⟨fun h => h.symm, fun h => h.symm⟩)
/-- the two lowest of their line -/
def ztwo (P N : Nat) (c : Nat → Nat) (p q : Nat) : Prop := zf_k P N c p q = true ∧ p < q ∧ ∀ s, s < zw_on P N c → zon P N c p q s → s = p ∨ q ≤ s
theorem zgd_iff {P N : Nat} {c : Nat → Nat} (hok : zv_ok P N) (hNS : zNS P N c) (h64 : zw_on P N c ≤ 64) {p q : Nat} (hp : p < zw_on P N c) (hq : q < zw_on P N c) : zf_gd (zf_L P N c) (zw_on P N c) p q = true ↔ ztwo P N c p q := by
  have hP0 := (zv_P5 hok.1).1
  unfold zf_gd ztwo
  rw [Bool.and_eq_true, decide_eq_true_iff, zrs_iff hok hNS h64 hp q (by omega), lb_low_b (by omega)]
  constructor
  · rintro ⟨⟨-, h2, h3, h4⟩, h5, h6⟩
    have hin : ∀ s, s < zw_on P N c → zon P N c p q s → p ≤ s := fun s hs hz => h6 s ((zS2_iff hok hNS h64 hp hq h2).mpr ⟨hs, hz⟩)
    have := hin q hq (zsp_r hP0 _ _)
    refine ⟨h2, by omega, fun s hs hz => ?_⟩
    by_cases e : s = p
    · exact Or.inl e
    · refine Or.inr (Nat.le_of_not_lt (fun z => h4 s z e hz))
  · rintro ⟨h1, h2, h3⟩
    refine ⟨⟨hq, h1, by omega, fun s hs hsp hz => by have := h3 s (by omega) hz; omega⟩, (zS2_iff hok hNS h64 hp hq h1).mpr ⟨hp, zsp_l hP0 _ _⟩, fun s hs => ?_⟩
    obtain ⟨s1, s2⟩ := (zS2_iff hok hNS h64 hp hq h1).mp hs
    have := h3 s s1 s2
    omega
theorem zj_x_inc {P N : Nat} {c : Nat → Nat} : zinc (zj_x P N c) (zw_on P N c) := zX_inc
theorem zj_x_inj {P N : Nat} {c : Nat → Nat} {r s : Nat} (hr : r < zw_on P N c) (hs : s < zw_on P N c) (h : zj_x P N c r = zj_x P N c s) : r = s := by
  rw [← (zj_x_ok hr).2.2, ← (zj_x_ok hs).2.2, h]
/-- what the reference asks of two points -/
def zref (P N : Nat) (c : Nat → Nat) (a b : Nat) : Prop := a < b ∧ zw_oo P N c a = true ∧ zw_oo P N c b = true ∧ zln P N a b P 0 = a ∧ zln P N a b P 1 = b ∧ ∀ k, k < P + 1 → zw_oo P N c (zln P N a b P k) = true
theorem zgl_iff {P N : Nat} {c : Nat → Nat} {t : Nat} : zv_gl P N (zv_np P N) (zv_y P N) (zw_oo P N c) t = true ↔ zref P N c (t / zv_np P N) (t % zv_np P N) := by
  unfold zv_gl zref zln
  rw [Bool.and_eq_true, Bool.and_eq_true, Bool.and_eq_true, Bool.and_eq_true, Bool.and_eq_true, decide_eq_true_iff, beq_iff_eq, beq_iff_eq, zA_iff]
theorem ztwo_ref {P N : Nat} {c : Nat → Nat} (hok : zv_ok P N) (hNS : zNS P N c) (h64 : zw_on P N c ≤ 64) {p q : Nat} (hp : p < zw_on P N c) (hq : q < zw_on P N c) : ztwo P N c p q ↔ zref P N c (zj_x P N c p) (zj_x P N c q) := by
  obtain ⟨hP0, hP5⟩ := zv_P5 hok.1
  obtain ⟨xp1, xp2, xp3⟩ := zj_x_ok hp
  obtain ⟨xq1, xq2, xq3⟩ := zj_x_ok hq
  constructor
  · rintro ⟨h1, h2, h3⟩
    obtain ⟨l1, l2⟩ := zS2_ln hok hNS h64 hp hq (by omega) h1
    have hb : ∀ s, lb (zS2 P N c p q) s = true → s = p ∨ q ≤ s := fun s hs => by
      obtain ⟨s1, s2⟩ := (zS2_iff hok hNS h64 hp hq h1).mp hs
      exact h3 s s1 s2
    have bp : lb (zS2 P N c p q) p = true := (zS2_iff hok hNS h64 hp hq h1).mpr ⟨hp, zsp_l hP0 _ _⟩
    have bq : lb (zS2 P N c p q) q = true := (zS2_iff hok hNS h64 hp hq h1).mpr ⟨hq, zsp_r hP0 _ _⟩
    have c0 : zC (lb (zS2 P N c p q)) p = 0 := by
      have := zC_flat (f := lb (zS2 P N c p q)) (p := 0) p (fun k _ hk => Bool.eq_false_iff.mpr (fun z => by have := hb k z; omega))
      rw [Nat.zero_add] at this
      exact this
    have c1 : zC (lb (zS2 P N c p q)) q = 1 := by
      have e1 : zC (lb (zS2 P N c p q)) (p + 1) = zC (lb (zS2 P N c p q)) p + (lb (zS2 P N c p q) p).toNat := rfl
      rw [bp, c0] at e1
      have := zC_flat (f := lb (zS2 P N c p q)) (p := p + 1) (q - (p + 1)) (fun k hk1 hk2 => Bool.eq_false_iff.mpr (fun z => by have := hb k z; omega))
      rw [show p + 1 + (q - (p + 1)) = q by omega] at this
      rw [this, e1]; rfl
    have x0 : zX (lb (zS2 P N c p q)) 64 0 = p := by rw [← c0]; exact zX_at bp (by omega)
    have x1 : zX (lb (zS2 P N c p q)) 64 1 = q := by rw [← c1]; exact zX_at bq (by omega)
    refine ⟨zj_x_inc p q h2 hq, xp2, xq2, ?_, ?_, fun k hk => ?_⟩
    · rw [← (l1 0 (by omega)).2, x0]
    · rw [← (l1 1 (by omega)).2, x1]
    · rw [← (l1 k hk).2]; exact (zj_x_ok (l1 k hk).1).2.1
  · rintro ⟨h1, -, -, h4, h5, h6⟩
    have hpq : p ≠ q := fun e => by rw [e] at h1; omega
    have hne : zj_x P N c p ≠ zj_x P N c q := fun e => hpq (zj_x_inj hp hq e)
    have hlink : zf_k P N c p q = true := by
      have hb1 : 1 < P := by rcases hok.1 with rfl | rfl | rfl <;> decide
      obtain ⟨k, hk, hk2⟩ := (zln_mm (P := P) (N := N) (p := zj_x P N c p) (q := zj_x P N c q) P).mpr (Or.inr ⟨1, hb1, rfl⟩)
      have h7 := h6 k hk
      rw [hk2] at h7
      obtain ⟨hv, -⟩ := zv_hv hok (zj_x P N c p) (zj_x P N c q) 1 xp1 xq1 hne hb1
      have h8 : zw_oo P N c (zv_pt P N (zv_mx P 1 1 (zv_y P N (zj_x P N c p)) (zv_y P N (zj_x P N c q)))) = true := h7
      rw [zw_oo_pt hok hv, beq_iff_eq, zv_val_mx, zmd_b (show zv_sum N c (zv_y P N (zj_x P N c p)) % P = 0 from zj_v_0 hp) (show zv_sum N c (zv_y P N (zj_x P N c q)) % P = 0 from zj_v_0 hq), Nat.one_mul, Nat.one_mul] at h8
      exact (zf_k_B hp).mpr h8
    obtain ⟨l1, l2⟩ := zS2_ln hok hNS h64 hp hq hpq hlink
    have x0 : zX (lb (zS2 P N c p q)) 64 0 = p := zj_x_inj (l1 0 (by omega)).1 hp (by rw [(l1 0 (by omega)).2, h4])
    have x1 : zX (lb (zS2 P N c p q)) 64 1 = q := zj_x_inj (l1 1 (by omega)).1 hq (by rw [(l1 1 (by omega)).2, h5])
    have hlt : p < q := by
      have := zX_inc (f := lb (zS2 P N c p q)) (n := 64) 0 1 (by omega) (by rw [l2]; omega)
      rw [x0, x1] at this
      exact this
    refine ⟨hlink, hlt, fun s hs hz => ?_⟩
    have hb := (zS2_iff hok hNS h64 hp hq hlink).mpr ⟨hs, hz⟩
    have hk := zX_at hb (show s < 64 by omega)
    have hkl := zC_lt hb (show s < 64 by omega)
    rcases Nat.eq_zero_or_pos (zC (lb (zS2 P N c p q)) s) with e | e
    · rw [e, x0] at hk; exact Or.inl hk.symm
    · refine Or.inr ?_
      rcases Nat.eq_or_lt_of_le (show 1 ≤ zC (lb (zS2 P N c p q)) s from e) with e2 | e2
      · rw [← e2, x1] at hk; omega
      · have := zX_inc (f := lb (zS2 P N c p q)) (n := 64) 1 (zC (lb (zS2 P N c p q)) s) e2 (by omega)
        rw [x1, hk] at this
        omega
