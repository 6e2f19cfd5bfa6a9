/-! the class's lines: masks of two linked members -/
def zS2 (P N : Nat) (c : Nat → Nat) (p q : Nat) : Int64 := zf_sp (zf_L P N c) (zw_on P N c) (zf_b p ||| zf_b q)
theorem zf_k_s {P N : Nat} {c : Nat → Nat} (p q : Nat) : zf_k P N c p q = zf_k P N c q p := by
  unfold zf_k
  rw [Nat.max_comm, Nat.min_comm, show decide (p = q) = decide (q = p) from zb_iff (by rw [decide_eq_true_iff, decide_eq_true_iff]; exact ⟨fun h => h.symm, fun h => h.symm⟩)]
theorem zf_k_r {P N : Nat} {c : Nat → Nat} (p : Nat) : zf_k P N c p p = true := by unfold zf_k; rw [decide_eq_true rfl]; rfl
theorem zS2_iff {P N : Nat} {c : Nat → Nat} (hok : zv_ok P N) (hNS : zNS P N c) (h64 : zw_on P N c ≤ 64) {p q s : Nat} (hp : p < zw_on P N c) (hq : q < zw_on P N c) (hl : zf_k P N c p q = true) : lb (zS2 P N c p q) s = true ↔ s < zw_on P N c ∧ zsp P N [zj_v P N c p, zj_v P N c q] (zj_v P N c s) := by
  have h := zf_sp_iff hok hNS h64 (ps := [p, q]) (x := zf_b p ||| zf_b q) (s := s) (by simp) (fun r => by
    rw [lb_or, zf_b_lb (by omega), zf_b_lb (by omega), Bool.or_eq_true, decide_eq_true_iff, decide_eq_true_iff]
    simp only [List.mem_cons, List.not_mem_nil, or_false]
    exact ⟨fun h => h.elim (fun e => Or.inl e.symm) (fun e => Or.inr e.symm), fun h => h.elim (fun e => Or.inl e.symm) (fun e => Or.inr e.symm)⟩) (fun r hr => by
    simp only [List.mem_cons, List.not_mem_nil, or_false] at hr
    rcases hr with rfl | rfl
    · exact hp
    · exact hq) (fun r hr s hs => by
    simp only [List.mem_cons, List.not_mem_nil, or_false] at hr hs
    rcases hr with rfl | rfl <;> rcases hs with rfl | rfl
    · exact zf_k_r _
    · exact hl
    · rw [zf_k_s]; exact hl
    · exact zf_k_r _)
  exact h
theorem zX_inc {f : Nat → Bool} {n : Nat} : zinc (zX f n) (zC f n) := fun j k hjk hk => by
  obtain ⟨a1, a2, a3⟩ := zX_ok (f := f) (n := n) (l := j) (by omega)
  obtain ⟨b1, b2, b3⟩ := zX_ok hk
  rcases Nat.lt_or_ge (zX f n j) (zX f n k) with q | q
  · exact q
  · have := zC_mono f q
    omega
/-- the points of a line, as ranks -/
theorem zS2_ln {P N : Nat} {c : Nat → Nat} (hok : zv_ok P N) (hNS : zNS P N c) (h64 : zw_on P N c ≤ 64) {p q : Nat} (hp : p < zw_on P N c) (hq : q < zw_on P N c) (hpq : p ≠ q) (hl : zf_k P N c p q = true) : (∀ k, k < P + 1 → zX (lb (zS2 P N c p q)) 64 k < zw_on P N c ∧ zj_x P N c (zX (lb (zS2 P N c p q)) 64 k) = zln P N (zj_x P N c p) (zj_x P N c q) P k) ∧ zC (lb (zS2 P N c p q)) 64 = P + 1 := by
  obtain ⟨xp1, xp2, xp3⟩ := zj_x_ok hp
  obtain ⟨xq1, xq2, xq3⟩ := zj_x_ok hq
  have hxpq : zj_x P N c p ≠ zj_x P N c q := fun e => hpq (by rw [← xp3, ← xq3, e])
  have hinc := zln_inc hok xp1 xq1 hxpq P (Nat.le_refl _)
  have hts : zts P N c [zj_v P N c p, zj_v P N c q] := zts_cons (zj_v_0 hp) (fun y hy => by rw [List.mem_singleton.mp hy]; exact (zf_k_B hq).mp (by rw [zf_k_s]; exact hl)) (zts1 (zj_v_0 hq))
  have hmem : ∀ k, k < P + 1 → zln P N (zj_x P N c p) (zj_x P N c q) P k < zv_np P N ∧ zw_oo P N c (zln P N (zj_x P N c p) (zj_x P N c q) P k) = true ∧ zsp P N [zj_v P N c p, zj_v P N c q] (zv_y P N (zln P N (zj_x P N c p) (zj_x P N c q) P k)) := by
    intro k hk
    have hlt : zln P N (zj_x P N c p) (zj_x P N c q) P k < zv_np P N := by
      have hmm : zmm (zln P N (zj_x P N c p) (zj_x P N c q) P) (P + 1) (zln P N (zj_x P N c p) (zj_x P N c q) P k) := ⟨k, hk, rfl⟩
      rcases (zln_mm P).mp hmm with e | ⟨b, hb, e⟩
      · rw [e]; exact xp1
      · rw [e]; exact (zpb_y hok xp1 xq1 hxpq hb).1
    have hs := (zln_sp hok xp1 xq1 hxpq hlt).mp ⟨k, hk, rfl⟩
    exact ⟨hlt, zoo_iff.mpr (zsp_iso _ _ hts hs), hs⟩
  have hfx : ∀ k, k < P + 1 → zj_x P N c (zC (zw_oo P N c) (zln P N (zj_x P N c p) (zj_x P N c q) P k)) = zln P N (zj_x P N c p) (zj_x P N c q) P k := fun k hk => zX_at (hmem k hk).2.1 (hmem k hk).1
  have hr : ∀ k, k < P + 1 → zC (zw_oo P N c) (zln P N (zj_x P N c p) (zj_x P N c q) P k) < zw_on P N c := fun k hk => zC_lt (hmem k hk).2.1 (hmem k hk).1
  have hsrt := zsrt (f := fun k => zC (zw_oo P N c) (zln P N (zj_x P N c p) (zj_x P N c q) P k)) (S := lb (zS2 P N c p q)) (m := P + 1) (n := 64) (fun j k hjk hk => by
    have h1 := hinc j k hjk hk
    have h2 := zC_lt (hmem j (by omega)).2.1 h1
    exact h2) (fun z hz => by
    rw [zS2_iff hok hNS h64 hp hq hl]
    constructor
    · rintro ⟨hz1, hz2⟩
      obtain ⟨y1, y2, y3⟩ := zj_x_ok hz1
      obtain ⟨k, hk, hk2⟩ := (zln_sp hok xp1 xq1 hxpq y1).mpr hz2
      refine ⟨k, hk, ?_⟩
      show zC (zw_oo P N c) (zln P N (zj_x P N c p) (zj_x P N c q) P k) = z
      rw [hk2]; exact y3
    · rintro ⟨k, hk, rfl⟩
      refine ⟨hr k hk, ?_⟩
      unfold zj_v
      rw [hfx k hk]
      exact (hmem k hk).2.2) (fun k hk => by have := hr k hk; show zC _ _ < 64; omega)
  refine ⟨fun k hk => ?_, hsrt.2⟩
  rw [(hsrt.1 k hk).2]
  exact ⟨hr k hk, hfx k hk⟩
/-! two points determine a line -/
theorem zsp2_iff {P N : Nat} {u v g : Nat → Nat} (hP0 : 0 < P) : zsp P N [u, v] g ↔ ∃ a b, ∀ i, i < N → g i % P = (a * u i + b * v i) % P := by
  constructor
  · rintro ⟨t, t', h⟩
    refine ⟨(P - 1) * t, (P - 1) * t', fun i hi => ?_⟩
    have h1 : (g i + t * u i + t' * v i) % P = 0 := h i hi
    rw [Nat.add_assoc] at h1
    rw [zmd_n2 hP0 h1]
    congr 1
    grind
  · rintro ⟨a, b, h⟩
    refine ⟨(P - 1) * a, (P - 1) * b, fun i hi => ?_⟩
    show (g i + (P - 1) * a * u i + (P - 1) * b * v i) % P = 0
    have h1 := zmd_n3 hP0 (h i hi)
    rw [← h1]
    congr 1
    grind
/-- a is on the line of p and b: p's line with a is that with b -/
theorem zsp_exch {P N : Nat} (hok : zv_ok P N) {p a b : Nat} (hp : p < zv_np P N) (ha : a < zv_np P N) (hap : a ≠ p) (h : zsp P N [zv_y P N p, zv_y P N b] (zv_y P N a)) : zsp P N [zv_y P N p, zv_y P N a] (zv_y P N b) := by
  obtain ⟨hP0, -⟩ := zv_P5 hok.1
  obtain ⟨s, t, h1⟩ := (zsp2_iff hP0).mp h
  have ht : t % P ≠ 0 := fun q => hap (zy_eq hok ha hp (a := s) (fun i hi => by rw [h1 i hi, zmd_a0 (by rw [Nat.mul_mod, q, Nat.zero_mul, Nat.zero_mod])]))
  obtain ⟨u, hu⟩ := zmd_inv hok.1 ht
  refine (zsp2_iff hP0).mpr ⟨(P - 1) * (u * s), u, fun i hi => ?_⟩
  have e1 : ((P - 1) * (u * s) * zv_y P N p i + u * zv_y P N a i) % P = ((P - 1) * (u * s) * zv_y P N p i + u * (s * zv_y P N p i + t * zv_y P N b i)) % P := zmd_add rfl (zmd_mul rfl (h1 i hi))
  have e2 : (P - 1) * (u * s) * zv_y P N p i + u * (s * zv_y P N p i + t * zv_y P N b i) = (u * t) * zv_y P N b i + (u * s * zv_y P N p i + (P - 1) * (u * s * zv_y P N p i)) := by grind
  rw [e1, e2, zmd_a0 (zmd_n hP0 _), Nat.mul_mod, hu, ← Nat.mul_mod, Nat.one_mul]
theorem zsp_sub {P N : Nat} (hP0 : 0 < P) {u v x g : Nat → Nat} (hx : zsp P N [u, v] x) (hg : zsp P N [u, x] g) : zsp P N [u, v] g := by
  obtain ⟨a, b, h1⟩ := (zsp2_iff hP0).mp hx
  obtain ⟨d, e, h2⟩ := (zsp2_iff hP0).mp hg
  refine (zsp2_iff hP0).mpr ⟨d + e * a, e * b, fun i hi => ?_⟩
  rw [h2 i hi, zmd_add rfl (zmd_mul rfl (h1 i hi))]
  congr 1
  grind
theorem zsp_comm {P N : Nat} (hP0 : 0 < P) {u v g : Nat → Nat} (h : zsp P N [u, v] g) : zsp P N [v, u] g := by
  obtain ⟨a, b, h1⟩ := (zsp2_iff hP0).mp h
  exact (zsp2_iff hP0).mpr ⟨b, a, fun i hi => by rw [h1 i hi, Nat.add_comm]⟩
theorem zsp_l {P N : Nat} (hP0 : 0 < P) (u v : Nat → Nat) : zsp P N [u, v] u := (zsp2_iff hP0).mpr ⟨1, 0, fun i _ => by rw [Nat.one_mul, Nat.zero_mul, Nat.add_zero]⟩
/-- on ranks: s is on the line of p and q -/
def zon (P N : Nat) (c : Nat → Nat) (p q s : Nat) : Prop := zsp P N [zj_v P N c p, zj_v P N c q] (zj_v P N c s)
theorem zon_same {P N : Nat} {c : Nat → Nat} (hok : zv_ok P N) {p a b : Nat} (hp : p < zw_on P N c) (ha : a < zw_on P N c) (hap : a ≠ p) (h : zon P N c p b a) (s : Nat) : zon P N c p a s ↔ zon P N c p b s := by
  obtain ⟨hP0, -⟩ := zv_P5 hok.1
  have hne : zj_x P N c a ≠ zj_x P N c p := fun e => hap (by rw [← (zj_x_ok ha).2.2, ← (zj_x_ok hp).2.2, e])
  have h2 : zon P N c p a b := zsp_exch hok (zj_x_ok hp).1 (zj_x_ok ha).1 hne h
  exact ⟨fun q => zsp_sub hP0 h q, fun q => zsp_sub hP0 h2 q⟩
theorem zon_link {P N : Nat} {c : Nat → Nat} {p q s : Nat} (hp : p < zw_on P N c) (hl : zf_k P N c p q = true) (h : zon P N c p q s) : zf_k P N c p s = true :=
  (zf_k_B hp).mpr (zsp_orth _ _ (fun x hx => by
    simp only [List.mem_cons, List.not_mem_nil, or_false] at hx
    rcases hx with rfl | rfl
    · exact (zf_k_B hp).mp (zf_k_r p)
    · exact (zf_k_B hp).mp hl) h)
