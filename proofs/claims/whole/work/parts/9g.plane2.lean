/-! planes: none but at (2, 6, 35); P is 2: their points -/
theorem zrefp_lk {P N : Nat} {c : Nat → Nat} (hok : zv_ok P N) {a b t u : Nat} (ht : t < zv_np P N) (h : zrefp P N c a b t) (hu : u < zv_np P N) (hul : zmm (zln P N a b P) (P + 1) u) (ou : zw_oo P N c u = true) : zB N c (zv_y P N u) (zv_y P N t) % P = 0 := by
  obtain ⟨h1, h2, -, -, -, h6⟩ := h
  obtain ⟨k, hk, rfl⟩ := hul
  have hne : zln P N a b P k ≠ t := fun e => h2 ⟨k, hk, e⟩
  have hP1 : 1 ≤ P - 1 := by rcases hok.1 with rfl | rfl | rfl <;> decide
  have hkk : (P - 1) * k < (P + 1) * (P - 1) := by rw [Nat.mul_comm]; exact Nat.mul_lt_mul_of_pos_right hk (by omega)
  have hm : zmm (zwf P N (zln P N a b P) t ((P + 1) * (P - 1))) (P + 2 + (P + 1) * (P - 1)) (zpb P N (zln P N a b P k) t 1) := (zwf_mm _).mpr (Or.inr (Or.inr ⟨(P - 1) * k, hkk, by rw [Nat.mul_div_cancel_left k (by omega), Nat.mul_mod_right]⟩))
  obtain ⟨j, hj, hj2⟩ := hm
  have h7 := h6 j hj
  rw [hj2] at h7
  exact zlink_of hok hu ht hne ou h1 h7
/-- a plane of the reference: its point as a rank -/
theorem zrefp_r {P N : Nat} {c : Nat → Nat} (hok : zv_ok P N) (hNS : zNS P N c) {p q t : Nat} (hp : p < zw_on P N c) (hq : q < zw_on P N c) (htw : ztwo P N c p q) (ht : t < zv_np P N) (h : zrefp P N c (zj_x P N c p) (zj_x P N c q) t) : ∃ r, r < zw_on P N c ∧ zj_x P N c r = t ∧ zf_k P N c p r = true ∧ zf_k P N c q r = true ∧ ¬ zon P N c p q r := by
  obtain ⟨xp1, xp2, xp3⟩ := zj_x_ok hp
  obtain ⟨xq1, xq2, xq3⟩ := zj_x_ok hq
  have hP0 := (zv_P5 hok.1).1
  have hxpq : zj_x P N c p ≠ zj_x P N c q := fun e => by have := zj_x_inj hp hq e; have := htw.2.1; omega
  have hr := zC_lt h.1 ht
  have e : zj_x P N c (zC (zw_oo P N c) t) = t := zX_at h.1 ht
  have hr : zC (zw_oo P N c) t < zw_on P N c := hr
  refine ⟨zC (zw_oo P N c) t, hr, e, ?_, ?_, fun z => ?_⟩
  · refine (zf_k_B hp).mpr ?_
    unfold zj_v
    rw [e]
    exact zrefp_lk hok ht h xp1 ((zln_sp hok xp1 xq1 hxpq xp1).mpr (zsp_l hP0 _ _)) xp2
  · refine (zf_k_B hq).mpr ?_
    unfold zj_v
    rw [e]
    exact zrefp_lk hok ht h xq1 ((zln_sp hok xp1 xq1 hxpq xq1).mpr (zsp_r hP0 _ _)) xq2
  · unfold zon zj_v at z
    rw [e] at z
    exact h.2.1 ((zln_sp hok xp1 xq1 hxpq ht).mpr z)
theorem zC_no {f : Nat → Bool} {n : Nat} (h : ∀ s, s < n → f s = false) : zC f n = 0 := by
  have := zC_flat (f := f) (p := 0) n (fun k _ hk => h k (by omega))
  rw [Nat.zero_add] at this
  exact this
theorem znpl0 {P N : Nat} {c : Nat → Nat} (hok : zv_ok P N) (hNS : zNS P N c) (hno : (P, N, zw_on P N c) ≠ (2, 6, 35)) : zw_npl P N c = 0 := by
  have h64 := zon64 hok hNS
  obtain ⟨hn, hlines⟩ := zlines hok hNS (by omega)
  have hnp := (zv_nums hok).2.2
  refine zC_no (fun s hs => Bool.eq_false_iff.mpr (fun hg => ?_))
  have hs : s < zv_np P N * zw_nl P N c := hs
  have hl : s / zv_np P N < zf_nl (zf_L P N c) (zw_on P N c) := by rw [← hn]; exact Nat.div_lt_of_lt_mul hs
  obtain ⟨p, q, hp, hq, ht, -, -, -, -, e1, e2⟩ := hlines _ hl
  have h := zgq_iff.mp hg
  rw [e1, e2] at h
  obtain ⟨r, hr, -, k1, k2, k3⟩ := zrefp_r hok hNS hp hq ht (Nat.mod_lt s hnp) h
  exact hno (zout hok hNS hp hq hr (by have := ht.2.1; omega) ht.1 k1 k2 k3)
/-! P is 2 -/
theorem zok26 : zv_ok 2 6 := ⟨Or.inl rfl, by decide, by decide⟩
theorem zpb1_y {u t : Nat} (hu : u < zv_np 2 6) (ht : t < zv_np 2 6) (hut : u ≠ t) : zpb 2 6 u t 1 < zv_np 2 6 ∧ ∀ i, i < 6 → zv_y 2 6 (zpb 2 6 u t 1) i % 2 = (zv_y 2 6 u i + zv_y 2 6 t i) % 2 := by
  obtain ⟨h1, s, hs, h⟩ := zpb_y zok26 hu ht hut (b := 1) (by decide)
  refine ⟨h1, fun i hi => ?_⟩
  rw [h i hi, Nat.one_mul, Nat.mul_mod, show s % 2 = 1 by omega, Nat.one_mul, Nat.mod_mod]
theorem zwf_sp {a b t z : Nat} (ha : a < zv_np 2 6) (hb : b < zv_np 2 6) (hab : a ≠ b) (ht : t < zv_np 2 6) (htl : ¬ zmm (zln 2 6 a b 2) 3 t) (hz : z < zv_np 2 6) : zmm (zwf 2 6 (zln 2 6 a b 2) t 3) 7 z ↔ zsp 2 6 [zv_y 2 6 a, zv_y 2 6 b, zv_y 2 6 t] (zv_y 2 6 z) := by
  have hsub : ∀ x, zsp 2 6 [zv_y 2 6 a, zv_y 2 6 b] x → zsp 2 6 [zv_y 2 6 a, zv_y 2 6 b, zv_y 2 6 t] x := fun x hx => zsp_trans (by decide) _ (fun y hy => zsp_mem (by decide) _ (by
    simp only [List.mem_cons, List.not_mem_nil, or_false] at hy ⊢
    rcases hy with h | h
    · exact Or.inl h
    · exact Or.inr (Or.inl h))) hx
  have hll : ∀ k, k < 3 → zln 2 6 a b 2 k < zv_np 2 6 := fun k hk => by
    have hmm : zmm (zln 2 6 a b 2) 3 (zln 2 6 a b 2 k) := ⟨k, hk, rfl⟩
    rcases (zln_mm 2).mp hmm with e | ⟨d, hd, e⟩
    · rw [e]; exact ha
    · rw [e]; exact (zpb_y zok26 ha hb hab hd).1
  have h := zwf_mm (P := 2) (N := 6) (f := zln 2 6 a b 2) (p := t) (z := z) 3
  constructor
  · intro hm
    rcases h.mp hm with rfl | h1 | ⟨k, hk, rfl⟩
    · exact zsp_mem (by decide) _ (by simp)
    · exact hsub _ ((zln_sp zok26 ha hb hab hz).mp h1)
    · have e1 : k / (2 - 1) = k := Nat.div_one k
      have e2 : k % (2 - 1) + 1 = 1 := by rw [Nat.mod_one]
      rw [e1, e2] at hz ⊢
      have hne : zln 2 6 a b 2 k ≠ t := fun e => htl ⟨k, hk, e⟩
      have h2 := (zln_sp zok26 (hll k hk) ht hne hz).mp ((zln_mm 2).mpr (Or.inr ⟨1, by decide, rfl⟩))
      refine zsp_trans (by decide) _ (fun y hy => ?_) h2
      simp only [List.mem_cons, List.not_mem_nil, or_false] at hy
      rcases hy with rfl | rfl
      · exact hsub _ ((zln_sp zok26 ha hb hab (hll k hk)).mp ⟨k, hk, rfl⟩)
      · exact zsp_mem (by decide) _ (by simp)
  · rintro ⟨α, β, γ, h1⟩
    have h1 : ∀ i, i < 6 → (zv_y 2 6 z i + α * zv_y 2 6 a i + β * zv_y 2 6 b i + γ * zv_y 2 6 t i) % 2 = 0 := h1
    rcases (show γ % 2 = 0 ∨ γ % 2 = 1 by omega) with e | e
    · refine h.mpr (Or.inr (Or.inl ((zln_sp zok26 ha hb hab hz).mpr ⟨α, β, fun i hi => ?_⟩)))
      have := h1 i hi
      rw [zmd_a0 (by rw [Nat.mul_mod, e, Nat.zero_mul, Nat.zero_mod])] at this
      exact this
    · have h2 : ∀ i, i < 6 → zv_y 2 6 z i % 2 = (α * zv_y 2 6 a i + β * zv_y 2 6 b i + zv_y 2 6 t i) % 2 := fun i hi => by
        have h3 := h1 i hi
        have h4 : (γ * zv_y 2 6 t i) % 2 = zv_y 2 6 t i % 2 := by rw [Nat.mul_mod, e, Nat.one_mul, Nat.mod_mod]
        generalize γ * zv_y 2 6 t i = w at *
        omega
      by_cases hg : ∀ i, i < 6 → (α * zv_y 2 6 a i + β * zv_y 2 6 b i) % 2 = 0
      · refine h.mpr (Or.inl (zy_eq zok26 hz ht (a := 1) (fun i hi => ?_)))
        have := h2 i hi
        have := hg i hi
        rw [Nat.one_mul]
        omega
      · have ⟨k, hk⟩ := Classical.not_forall.mp hg
        have hk2 : k < 6 ∧ (α * zv_y 2 6 a k + β * zv_y 2 6 b k) % 2 ≠ 0 := ⟨Classical.byContradiction (fun z => hk (fun y => absurd y z)), fun z => hk (fun _ => z)⟩
        obtain ⟨u, s, hu, -, -, hs, hy⟩ := zv_point (v := fun i => α * zv_y 2 6 a i + β * zv_y 2 6 b i) zok26 hk2.1 hk2.2
        have hy2 : ∀ i, i < 6 → zv_y 2 6 u i % 2 = (α * zv_y 2 6 a i + β * zv_y 2 6 b i) % 2 := fun i hi => by
          rw [hy i hi, Nat.mul_mod, show s % 2 = 1 by omega, Nat.one_mul, Nat.mod_mod]
        obtain ⟨j, hj, hj2⟩ := (zln_sp zok26 ha hb hab hu).mpr ((zsp2_iff (by decide)).mpr ⟨α, β, hy2⟩)
        have hut : u ≠ t := fun e => htl ⟨j, hj, by rw [hj2, e]⟩
        obtain ⟨w1, w2⟩ := zpb1_y hu ht hut
        refine h.mpr (Or.inr (Or.inr ⟨j, hj, ?_⟩))
        rw [show j / (2 - 1) = j from Nat.div_one j, show j % (2 - 1) + 1 = 1 by rw [Nat.mod_one], hj2]
        refine zy_eq zok26 hz w1 (a := 1) (fun i hi => ?_)
        have a1 := h2 i hi
        have a2 := hy2 i hi
        have a3 := w2 i hi
        rw [Nat.one_mul]
        omega
theorem zwf_inc {a b t : Nat} (ha : a < zv_np 2 6) (hb : b < zv_np 2 6) (hab : a ≠ b) (ht : t < zv_np 2 6) (htl : ¬ zmm (zln 2 6 a b 2) 3 t) : ∀ s, s ≤ 3 → zinc (zwf 2 6 (zln 2 6 a b 2) t s) (4 + s)
  | 0, _ => zv_ins_inc (n := 3) (zln_inc zok26 ha hb hab 2 (by decide)) htl
  | s + 1, hs => by
    have hll : ∀ k, k < 3 → zln 2 6 a b 2 k < zv_np 2 6 := fun k hk => by
      have hmm : zmm (zln 2 6 a b 2) 3 (zln 2 6 a b 2 k) := ⟨k, hk, rfl⟩
      rcases (zln_mm 2).mp hmm with e | ⟨d, hd, e⟩
      · rw [e]; exact ha
      · rw [e]; exact (zpb_y zok26 ha hb hab hd).1
    have hne : ∀ k, k < 3 → zln 2 6 a b 2 k ≠ t := fun k hk e => htl ⟨k, hk, e⟩
    obtain ⟨w1, w2⟩ := zpb1_y (hll s (by omega)) ht (hne s (by omega))
    refine zv_ins_inc (n := 4 + s) (zwf_inc ha hb hab ht htl s (by omega)) (fun hm => ?_)
    have e1 : ∀ j, zpb 2 6 (zln 2 6 a b 2 (j / (2 - 1))) t (j % (2 - 1) + 1) = zpb 2 6 (zln 2 6 a b 2 j) t 1 := fun j => by rw [show j / (2 - 1) = j from Nat.div_one j, show j % (2 - 1) + 1 = 1 by rw [Nat.mod_one]]
    have hm : zmm (zwf 2 6 (zln 2 6 a b 2) t s) (2 + 2 + s) (zpb 2 6 (zln 2 6 a b 2 (s / (2 - 1))) t (s % (2 - 1) + 1)) := hm
    rw [zwf_mm, e1] at hm
    rcases hm with h | h | ⟨j, hj, h⟩
    · obtain ⟨k, hk, hk1⟩ := zv_y_one zok26 (hll s (by omega))
      have := w2 k hk
      rw [h] at this
      omega
    · have h2 := (zln_sp zok26 ha hb hab w1).mp h
      have h3 := (zln_sp zok26 ha hb hab (hll s (by omega))).mp ⟨s, by omega, rfl⟩
      refine htl ((zln_sp zok26 ha hb hab ht).mpr (zsp_md _ (fun i hi => ?_) (zsp_add 1 _ h2 h3)))
      have := w2 i hi
      rw [Nat.one_mul]
      omega
    · rw [e1] at h
      obtain ⟨v1, v2⟩ := zpb1_y (hll j (by omega)) ht (hne j (by omega))
      have h2 := zy_eq zok26 (hll s (by omega)) (hll j (by omega)) (a := 1) (fun i hi => by
        have a1 := w2 i hi
        have a2 := v2 i hi
        rw [h] at a1
        rw [Nat.one_mul]
        omega)
      have h3 := zln_inc zok26 ha hb hab 2 (by decide) j s hj (by omega)
      omega
