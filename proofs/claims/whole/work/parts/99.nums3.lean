/-! members linked with some: their numbers; P is 2 -/
theorem zdual {P N : Nat} {c x : Nat → Nat} {xs : List (Nat → Nat)} (hP : P = 2 ∨ P = 3 ∨ P = 5) (hNS : zNS P N c) (hts : zts P N c (x :: xs)) (hsp : ¬ zsp P N xs x) : ∃ w, zB N c x w % P = 1 ∧ ∀ y ∈ xs, zB N c y w % P = 0 := by
  rcases zli hP (xs.map (zz_nr N c)) (zz_nr N c x) with q | ⟨w, w1, w2⟩
  · exact absurd (zsp_nr hNS xs x (zts_tl hts) (hts.1 x List.mem_cons_self) (fun y hy => hts.2 y (List.mem_cons_of_mem _ hy) x List.mem_cons_self) q) hsp
  · obtain ⟨u, hu⟩ := zmd_inv hP w2
    refine ⟨fun i => u * w i, ?_, fun y hy => ?_⟩
    · rw [zB_mul_r]
      have e : (u * zB N c x w) % P = 1 % P := hu
      rw [e]
      rcases hP with rfl | rfl | rfl <;> rfl
    · rw [zB_mul_r, Nat.mul_mod, show zB N c y w % P = 0 from w1 _ (List.mem_map_of_mem hy), Nat.mul_zero, Nat.zero_mod]
theorem zstep {P N : Nat} {c x : Nat → Nat} {xs : List (Nat → Nat)} (hP : P = 2 ∨ P = 3 ∨ P = 5) (hNS : zNS P N c) (hts : zts P N c (x :: xs)) (hsp : ¬ zsp P N xs x) : zCC P N c xs = P * zCC P N c (x :: xs) ∧ P * zAA P N c xs + zCC P N c (x :: xs) = P * zAA P N c (x :: xs) + zCC P N c xs := by
  obtain ⟨w, w1, w2⟩ := zdual hP hNS hts hsp
  exact ⟨zCC_cons hP w1 w2, zAA_cons hP (hts.1 x List.mem_cons_self) (fun y hy => hts.2 y (List.mem_cons_of_mem _ hy) x List.mem_cons_self)⟩
theorem zsp_iso {P N : Nat} {c : Nat → Nat} : ∀ (xs : List (Nat → Nat)) (g : Nat → Nat), zts P N c xs → zsp P N xs g → zv_sum N c g % P = 0
  | [], g, _, h => by
    have e : zv_sum N c g % P = zv_sum N c (fun i => 0 * g i) % P := zv_sum_md (fun i hi => by rw [h i hi, Nat.zero_mul, Nat.zero_mod])
    rw [e, zv_sum_mul, Nat.zero_mul, Nat.zero_mod]
  | x :: xs, g, hts, ⟨t, h⟩ => by
    have h1 := zsp_iso xs _ (zts_tl hts) h
    have h2 : zB N c x g % P = 0 := zsp_orth (x :: xs) g (fun y hy => hts.2 x List.mem_cons_self y hy) ⟨t, h⟩
    rw [zv_sum_ax, zmd_z t (by rw [zB_comm]; exact h2), zmd_z (t * t) (hts.1 x List.mem_cons_self)] at h1
    exact h1
theorem zoo_iff {P N : Nat} {c : Nat → Nat} {p : Nat} : zw_oo P N c p = true ↔ zv_sum N c (zv_y P N p) % P = 0 := by
  show (zv_val P N c (zv_y P N p) == 0) = true ↔ _
  rw [beq_iff_eq]; rfl
def zf1 (P N : Nat) (c : Nat → Nat) (xs : List (Nat → Nat)) (p : Nat) : Bool := zw_oo P N c p && zo P N c xs (zv_y P N p)
theorem zf1_iff {P N : Nat} {c : Nat → Nat} {xs : List (Nat → Nat)} {p : Nat} : zf1 P N c xs p = true ↔ zv_sum N c (zv_y P N p) % P = 0 ∧ ∀ x ∈ xs, zB N c x (zv_y P N p) % P = 0 := by
  unfold zf1
  rw [Bool.and_eq_true, zoo_iff, zo_iff]
theorem zAA_f {P N : Nat} {c : Nat → Nat} (hok : zv_ok P N) (xs : List (Nat → Nat)) : zAA P N c xs = 1 + (P - 1) * zC (zf1 P N c xs) (zv_np P N) := zAA_pts hok xs
theorem zts1 {P N : Nat} {c x : Nat → Nat} (h : zv_sum N c x % P = 0) : zts P N c [x] := by
  refine ⟨fun y hy => ?_, fun y hy z hz => ?_⟩
  · rw [List.mem_singleton.mp hy]; exact h
  · rw [List.mem_singleton.mp hy, List.mem_singleton.mp hz, zB_self, Nat.mul_mod, h, Nat.mul_zero, Nat.zero_mod]
theorem zts_cons {P N : Nat} {c x : Nat → Nat} {xs : List (Nat → Nat)} (hx : zv_sum N c x % P = 0) (hxs : ∀ y ∈ xs, zB N c y x % P = 0) (h : zts P N c xs) : zts P N c (x :: xs) := by
  have hxx : zB N c x x % P = 0 := by rw [zB_self, Nat.mul_mod, hx, Nat.mul_zero, Nat.zero_mod]
  refine ⟨fun y hy => ?_, fun y hy z hz => ?_⟩
  · rcases List.mem_cons.mp hy with rfl | hy
    · exact hx
    · exact h.1 y hy
  · rcases List.mem_cons.mp hy with e1 | hy2
    · rcases List.mem_cons.mp hz with e2 | hz2
      · rw [e1, e2]; exact hxx
      · rw [e1, zB_comm]; exact hxs z hz2
    · rcases List.mem_cons.mp hz with e2 | hz2
      · rw [e2]; exact hxs y hy2
      · exact h.2 y hy2 z hz2
theorem zsp0 {P N p : Nat} (hok : zv_ok P N) (hp : p < zv_np P N) : ¬ zsp P N [] (zv_y P N p) := fun h => by
  obtain ⟨k, hk, hk1⟩ := zv_y_one hok hp
  have := h k hk
  rw [hk1] at this
  rcases hok.1 with rfl | rfl | rfl <;> cases this
theorem zsp1 {P N p q : Nat} (hok : zv_ok P N) (hp : p < zv_np P N) (hq : q < zv_np P N) (hpq : q ≠ p) : ¬ zsp P N [zv_y P N p] (zv_y P N q) := by
  rintro ⟨t, h⟩
  exact hpq (zy_eq hok hq hp (a := (P - 1) * t) (fun i hi => by rw [zmd_n2 (zv_P5 hok.1).1 (h i hi), Nat.mul_assoc]))
/-- MEMBERS LINKED WITH ONE -/
theorem zL1 {P N : Nat} {c : Nat → Nat} (hok : zv_ok P N) (hNS : zNS P N c) {p : Nat} (hp : p < zv_np P N) (ho : zw_oo P N c p = true) : zCC P N c [zv_y P N p] * P = P ^ N ∧ P * (1 + (P - 1) * zw_on P N c) + zCC P N c [zv_y P N p] = P * (1 + (P - 1) * zC (zf1 P N c [zv_y P N p]) (zv_np P N)) + P ^ N := by
  obtain ⟨h1, h2⟩ := zstep hok.1 hNS (zts1 (zoo_iff.mp ho)) (zsp0 hok hp)
  rw [zCC_nil] at h1 h2
  rw [zAA_on hok, zAA_f hok] at h2
  exact ⟨by rw [Nat.mul_comm]; exact h1.symm, h2⟩
/-- MEMBERS LINKED WITH TWO -/
theorem zL2 {P N : Nat} {c : Nat → Nat} (hok : zv_ok P N) (hNS : zNS P N c) {p q : Nat} (hp : p < zv_np P N) (ho : zw_oo P N c p = true) (hq : q < zv_np P N) (hf : zf1 P N c [zv_y P N p] q = true) (hpq : q ≠ p) : zts P N c [zv_y P N q, zv_y P N p] ∧ zCC P N c [zv_y P N q, zv_y P N p] * P = zCC P N c [zv_y P N p] ∧ P * (1 + (P - 1) * zC (zf1 P N c [zv_y P N p]) (zv_np P N)) + zCC P N c [zv_y P N q, zv_y P N p] = P * (1 + (P - 1) * zC (zf1 P N c [zv_y P N q, zv_y P N p]) (zv_np P N)) + zCC P N c [zv_y P N p] := by
  obtain ⟨f1, f2⟩ := zf1_iff.mp hf
  have hts := zts_cons f1 f2 (zts1 (zoo_iff.mp ho))
  obtain ⟨h1, h2⟩ := zstep hok.1 hNS hts (zsp1 hok hp hq hpq)
  rw [zAA_f hok, zAA_f hok] at h2
  exact ⟨hts, by rw [Nat.mul_comm]; exact h1.symm, h2⟩
theorem zf1_self {P N : Nat} {c : Nat → Nat} {xs : List (Nat → Nat)} {p : Nat} (h : zts P N c xs) (hp : zv_y P N p ∈ xs) : zf1 P N c xs p = true := zf1_iff.mpr ⟨h.1 _ hp, fun x hx => h.2 x hx _ hp⟩
theorem zf1_sp {P N : Nat} {c : Nat → Nat} {xs ys : List (Nat → Nat)} {p : Nat} (h : zts P N c ys) (hs : ∀ x ∈ xs, x ∈ ys) (hp : zsp P N xs (zv_y P N p)) : zf1 P N c ys p = true := by
  refine zf1_iff.mpr ⟨zsp_iso xs _ ⟨fun x hx => h.1 x (hs x hx), fun x hx y hy => h.2 x (hs x hx) y (hs y hy)⟩ hp, fun y hy => zsp_orth xs _ (fun x hx => h.2 y hy x (hs x hx)) hp⟩
/-- P is 2: no vector but 0 is orthogonal to all when N is even -/
theorem zno24 {c : Nat → Nat} (hNS : zNS 2 4 c) (hon : zw_on 2 4 c = 7) : False := by
  have hok : zv_ok 2 4 := ⟨Or.inl rfl, by decide, by decide⟩
  obtain ⟨p, hp, ho⟩ := zCex (f := zw_oo 2 4 c) (n := zv_np 2 4) (by have : zC (zw_oo 2 4 c) (zv_np 2 4) = 7 := hon; omega)
  obtain ⟨a1, a2⟩ := zL1 hok hNS hp ho
  rw [hon] at a2
  obtain ⟨q, hq, hf, hqn⟩ := zCex_L (f := zf1 2 4 c [zv_y 2 4 p]) (n := zv_np 2 4) [p] (by show 1 < _; omega)
  have hqp : q ≠ p := fun e => hqn (by rw [e]; exact List.mem_singleton.mpr rfl)
  obtain ⟨b0, b1, b2⟩ := zL2 hok hNS hp ho hq hf hqp
  have b3 := zCge (f := zf1 2 4 c [zv_y 2 4 q, zv_y 2 4 p]) (n := zv_np 2 4) [q, p] (by simp [hqp]) (fun r hr => by
    rcases List.mem_cons.mp hr with rfl | hr
    · exact ⟨hq, zf1_self b0 List.mem_cons_self⟩
    · rw [List.mem_singleton.mp hr]; exact ⟨hp, zf1_self b0 (List.mem_cons_of_mem _ List.mem_cons_self)⟩)
  have b3 : 2 ≤ _ := b3
  omega
theorem zno26 {c : Nat → Nat} (hNS : zNS 2 6 c) (hon : zw_on 2 6 c = 31) : False := by
  have hok : zv_ok 2 6 := ⟨Or.inl rfl, by decide, by decide⟩
  obtain ⟨p, hp, ho⟩ := zCex (f := zw_oo 2 6 c) (n := zv_np 2 6) (by have : zC (zw_oo 2 6 c) (zv_np 2 6) = 31 := hon; omega)
  obtain ⟨a1, a2⟩ := zL1 hok hNS hp ho
  rw [hon] at a2
  obtain ⟨q, hq, hf, hqn⟩ := zCex_L (f := zf1 2 6 c [zv_y 2 6 p]) (n := zv_np 2 6) [p] (by show 1 < _; omega)
  have hqp : q ≠ p := fun e => hqn (by rw [e]; exact List.mem_singleton.mpr rfl)
  obtain ⟨b0, b1, b2⟩ := zL2 hok hNS hp ho hq hf hqp
  obtain ⟨r, hr, hfr, hrn⟩ := zCex_L (f := zf1 2 6 c [zv_y 2 6 q, zv_y 2 6 p]) (n := zv_np 2 6) [q, zpb 2 6 q p 0, zpb 2 6 q p 1] (by show 3 < _; omega)
  have hrs : ¬ zsp 2 6 [zv_y 2 6 q, zv_y 2 6 p] (zv_y 2 6 r) := fun h => by
    rcases (zln_mm 2).mp ((zln_sp hok hq hp hqp hr).mpr h) with h | ⟨b, hb, h⟩
    · exact hrn (by rw [h]; exact List.mem_cons_self)
    · rcases (show b = 0 ∨ b = 1 by omega) with rfl | rfl
      · exact hrn (by rw [h]; simp)
      · exact hrn (by rw [h]; simp)
  obtain ⟨f1, f2⟩ := zf1_iff.mp hfr
  have hts := zts_cons f1 f2 b0
  obtain ⟨d1, d2⟩ := zstep hok.1 hNS hts hrs
  rw [zAA_f hok, zAA_f hok] at d2
  have hsub : ∀ x ∈ [zv_y 2 6 q, zv_y 2 6 p], x ∈ [zv_y 2 6 r, zv_y 2 6 q, zv_y 2 6 p] := fun x hx => List.mem_cons_of_mem _ hx
  have hln : ∀ t, t < zv_np 2 6 → zmm (zln 2 6 q p 2) 3 t → zf1 2 6 c [zv_y 2 6 r, zv_y 2 6 q, zv_y 2 6 p] t = true := fun t ht h => zf1_sp hts hsub ((zln_sp hok hq hp hqp ht).mp h)
  have l0 := (zpb_y hok hq hp hqp (b := 0) (by decide)).1
  have l1 := (zpb_y hok hq hp hqp (b := 1) (by decide)).1
  have n0 := zpb_ne hok hq hp hqp (b := 0) (by decide)
  have n1 := zpb_ne hok hq hp hqp (b := 1) (by decide)
  have n2 : zpb 2 6 q p 0 ≠ zpb 2 6 q p 1 := fun e => absurd (zpb_inj hok hq hp hqp (by decide) (by decide) e) (by decide)
  simp only [List.mem_cons, List.not_mem_nil, or_false, not_or] at hrn
  have b3 := zCge (f := zf1 2 6 c [zv_y 2 6 r, zv_y 2 6 q, zv_y 2 6 p]) (n := zv_np 2 6) [r, q, zpb 2 6 q p 0, zpb 2 6 q p 1] (by
    simp only [List.nodup_cons, List.mem_cons, List.not_mem_nil, or_false, not_or, List.nodup_nil, and_true, not_false_eq_true]
    exact ⟨⟨hrn.1, hrn.2.1, hrn.2.2⟩, ⟨fun e => n0 e.symm, fun e => n1 e.symm⟩, n2⟩) (fun t ht => by
    simp only [List.mem_cons, List.not_mem_nil, or_false] at ht
    rcases ht with rfl | rfl | rfl | rfl
    · exact ⟨hr, zf1_self hts List.mem_cons_self⟩
    · exact ⟨hq, zf1_self hts (List.mem_cons_of_mem _ List.mem_cons_self)⟩
    · exact ⟨l0, hln _ l0 ((zln_mm 2).mpr (Or.inr ⟨0, by decide, rfl⟩))⟩
    · exact ⟨l1, hln _ l1 ((zln_mm 2).mpr (Or.inr ⟨1, by decide, rfl⟩))⟩)
  have b3 : 4 ≤ _ := b3
  omega
theorem zon2 {N : Nat} {c : Nat → Nat} (hok : zv_ok 2 N) (hNS : zNS 2 N c) : (N = 3 ∧ zw_on 2 N c = 3) ∨ (N = 4 ∧ (zw_on 2 N c = 9 ∨ zw_on 2 N c = 5)) ∨ (N = 5 ∧ zw_on 2 N c = 15) ∨ (N = 6 ∧ (zw_on 2 N c = 35 ∨ zw_on 2 N c = 27)) := by
  have hz := zAA_on (c := c) hok
  rw [← zNj_0] at hz
  obtain ⟨R, hR, h1, h2⟩ := zmom2 (by have := hok.2.1; omega) hNS
  have h3 := hok.2.1
  have h4 : N ≤ 6 := hok.2.2
  generalize zNj 2 N c 0 = a at *
  generalize zNj 2 N c 1 = b at *
  rcases (show N = 3 ∨ N = 4 ∨ N = 5 ∨ N = 6 by omega) with rfl | rfl | rfl | rfl
  · have e : b = 8 - a := by omega
    subst e
    rcases hR with rfl | rfl
    · have := (zn23 a (by omega)).1 h2; omega
    · have := (zn23 a (by omega)).2 h2; exact Or.inl ⟨rfl, by omega⟩
  · have e : b = 16 - a := by omega
    subst e
    rcases hR with rfl | rfl
    · have := (zn24 a (by omega)).1 h2; exact Or.inr (Or.inl ⟨rfl, by omega⟩)
    · have := (zn24 a (by omega)).2 h2; exact absurd (zno24 hNS (by omega)) id
  · have e : b = 32 - a := by omega
    subst e
    rcases hR with rfl | rfl
    · have := (zn25 a (by omega)).1 h2; omega
    · have := (zn25 a (by omega)).2 h2; exact Or.inr (Or.inr (Or.inl ⟨rfl, by omega⟩))
  · have e : b = 64 - a := by omega
    subst e
    rcases hR with rfl | rfl
    · have := (zn26 a (by omega)).1 h2; exact Or.inr (Or.inr (Or.inr ⟨rfl, by omega⟩))
    · have := (zn26 a (by omega)).2 h2; exact absurd (zno26 hNS (by omega)) id
