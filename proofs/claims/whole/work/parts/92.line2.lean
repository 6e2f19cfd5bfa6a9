/-! the reference's lines: the points of a span, in order -/
theorem zmd_n {P : Nat} (hP : 0 < P) (a : Nat) : (a + (P - 1) * a) % P = 0 := by
  obtain ⟨m, rfl⟩ : ∃ m, P = m + 1 := ⟨P - 1, by omega⟩
  rw [show a + (m + 1 - 1) * a = (m + 1) * a by rw [Nat.add_sub_cancel]; grind]
  exact Nat.mul_mod_right _ _
theorem zmd_n2 {P a b : Nat} (hP : 0 < P) (h : (a + b) % P = 0) : a % P = ((P - 1) * b) % P := by
  have h1 := zmd_n hP b
  have h2 : (a + b + (P - 1) * b) % P = ((P - 1) * b) % P := by rw [Nat.add_mod, h, Nat.zero_add, Nat.mod_mod]
  rw [Nat.add_assoc, Nat.add_mod, h1, Nat.add_zero, Nat.mod_mod] at h2
  exact h2
theorem zmd_n3 {P a b : Nat} (hP : 0 < P) (h : a % P = b % P) : (a + (P - 1) * b) % P = 0 := by
  rw [Nat.add_mod, h, ← Nat.add_mod]
  exact zmd_n hP b
theorem zmd_n4 {P a b : Nat} (hP : 0 < P) (h : (a + (P - 1) * b) % P = 0) : a % P = b % P := by
  have h1 : (a + (P - 1) * b + b) % P = b % P := by rw [Nat.add_mod, h, Nat.zero_add, Nat.mod_mod]
  rw [Nat.add_assoc, Nat.add_comm ((P - 1) * b) b, Nat.add_mod, zmd_n hP, Nat.add_zero, Nat.mod_mod] at h1
  exact h1
/-- what points are: a reference's list of a line -/
def zln (P N p q : Nat) (t : Nat) : Nat → Nat := zv_lnf P N (zv_y P N) p q t
def zpb (P N p q b : Nat) : Nat := zv_pt P N (zv_mx P b 1 (zv_y P N p) (zv_y P N q))
theorem zpb_y {P N p q b : Nat} (hok : zv_ok P N) (hp : p < zv_np P N) (hq : q < zv_np P N) (hpq : p ≠ q) (hb : b < P) : zpb P N p q b < zv_np P N ∧ ∃ s, s % P ≠ 0 ∧ ∀ i, i < N → zv_y P N (zpb P N p q b) i % P = (s * (b * zv_y P N p i + zv_y P N q i)) % P := by
  have hN := zv_okN hok
  obtain ⟨hv, hlt⟩ := zv_hv hok p q b hp hq hpq hb
  obtain ⟨h1, h2⟩ := zv_fac hok hv
  refine ⟨hlt, _, h2, fun i hi => ?_⟩
  unfold zpb
  rw [zv_y_pt hok hv i (by omega)]
  unfold zv_nrm
  rw [Nat.mod_mod, Nat.mul_comm]
  refine zmd_mul rfl ?_
  unfold zv_mx
  rw [Nat.mod_mod, Nat.mul_one, Nat.mul_comm]
theorem zln_mm {P N p q : Nat} {z : Nat} : ∀ t, zmm (zln P N p q t) (t + 1) z ↔ z = p ∨ ∃ b, b < t ∧ z = zpb P N p q b
  | 0 => by
    show zmm (zv_ins (fun _ => 0) p 0) (0 + 1) z ↔ _
    rw [zv_ins_mm]
    constructor
    · rintro (h | ⟨k, hk, -⟩)
      · exact Or.inl h
      · omega
    · rintro (h | ⟨b, hb, -⟩)
      · exact Or.inl h
      · omega
  | t + 1 => by
    show zmm (zv_ins (zln P N p q t) (zpb P N p q t) (t + 1)) (t + 1 + 1) z ↔ _
    rw [zv_ins_mm, zln_mm t]
    constructor
    · rintro (h | h | ⟨b, hb, h⟩)
      · exact Or.inr ⟨t, by omega, h⟩
      · exact Or.inl h
      · exact Or.inr ⟨b, by omega, h⟩
    · rintro (h | ⟨b, hb, h⟩)
      · exact Or.inr (Or.inl h)
      · by_cases e : b = t
        · subst e; exact Or.inl h
        · exact Or.inr (Or.inr ⟨b, by omega, h⟩)
theorem zpb_ne {P N p q b : Nat} (hok : zv_ok P N) (hp : p < zv_np P N) (hq : q < zv_np P N) (hpq : p ≠ q) (hb : b < P) : zpb P N p q b ≠ p := by
  obtain ⟨hP0, -⟩ := zv_P5 hok.1
  obtain ⟨-, s, hs, h⟩ := zpb_y hok hp hq hpq hb
  intro e
  rw [e] at h
  have h1 := zy_ind hok hp hq hpq (a := s * b + (P - 1)) (b := s) (fun i hi => by
    have h2 := zmd_n3 hP0 (h i hi).symm
    rw [← h2]
    congr 1
    grind)
  exact hs h1.2
theorem zpb_inj {P N p q b d : Nat} (hok : zv_ok P N) (hp : p < zv_np P N) (hq : q < zv_np P N) (hpq : p ≠ q) (hb : b < P) (hd : d < P) (e : zpb P N p q b = zpb P N p q d) : b = d := by
  obtain ⟨hP0, hP5⟩ := zv_P5 hok.1
  obtain ⟨-, s, hs, h⟩ := zpb_y hok hp hq hpq hb
  obtain ⟨-, s', hs', h'⟩ := zpb_y hok hp hq hpq hd
  rw [e] at h
  obtain ⟨h1, h2⟩ := zy_ind hok hp hq hpq (a := s * b + (P - 1) * (s' * d)) (b := s + (P - 1) * s') (fun i hi => by
    have h2 := zmd_n3 hP0 ((h i hi).symm.trans (h' i hi))
    rw [← h2]
    congr 1
    grind)
  have h3 := zmd_n4 hP0 h2
  have h4 := zmd_n4 hP0 h1
  have h5 : (s * b) % P = (s * d) % P := by rw [h4, Nat.mul_mod, ← h3, ← Nat.mul_mod]
  obtain ⟨u, hu⟩ := zmd_inv hok.1 hs
  have h6 : (u * s * b) % P = (u * s * d) % P := by rw [Nat.mul_assoc, Nat.mul_mod, h5, ← Nat.mul_mod, Nat.mul_assoc]
  rw [Nat.mul_mod, hu, ← Nat.mul_mod, Nat.mul_mod (u * s) d, hu, ← Nat.mul_mod, Nat.one_mul, Nat.one_mul, Nat.mod_eq_of_lt hb, Nat.mod_eq_of_lt hd] at h6
  exact h6
theorem zln_inc {P N p q : Nat} (hok : zv_ok P N) (hp : p < zv_np P N) (hq : q < zv_np P N) (hpq : p ≠ q) : ∀ t, t ≤ P → zinc (zln P N p q t) (t + 1)
  | 0, _ => fun j k h1 h2 => by omega
  | t + 1, ht => by
    refine zv_ins_inc (n := t + 1) (zln_inc hok hp hq hpq t (by omega)) (fun h => ?_)
    rcases (zln_mm t).mp h with h | ⟨b, hb, h⟩
    · exact zpb_ne hok hp hq hpq (by omega) h
    · have := zpb_inj hok hp hq hpq (show t < P by omega) (show b < P by omega) h
      omega
/-- a line's points are the span's -/
theorem zln_sp {P N p q z : Nat} (hok : zv_ok P N) (hp : p < zv_np P N) (hq : q < zv_np P N) (hpq : p ≠ q) (hz : z < zv_np P N) : zmm (zln P N p q P) (P + 1) z ↔ zsp P N [zv_y P N p, zv_y P N q] (zv_y P N z) := by
  obtain ⟨hP0, hP5⟩ := zv_P5 hok.1
  rw [zln_mm]
  constructor
  · rintro (rfl | ⟨b, hb, rfl⟩)
    · refine ⟨P - 1, 0, fun i _ => ?_⟩
      show (zv_y P N z i + (P - 1) * zv_y P N z i + 0 * zv_y P N q i) % P = 0
      rw [Nat.zero_mul, Nat.add_zero]
      exact zmd_n hP0 _
    · obtain ⟨-, s, hs, h⟩ := zpb_y hok hp hq hpq hb
      refine ⟨(P - 1) * (s * b), (P - 1) * s, fun i hi => ?_⟩
      show (zv_y P N (zpb P N p q b) i + (P - 1) * (s * b) * zv_y P N p i + (P - 1) * s * zv_y P N q i) % P = 0
      have h2 := zmd_n3 hP0 (h i hi)
      rw [← h2]
      congr 1
      grind
  · rintro ⟨t, t', h⟩
    have h : ∀ i, i < N → (zv_y P N z i + t * zv_y P N p i + t' * zv_y P N q i) % P = 0 := h
    by_cases e : t' % P = 0
    · refine Or.inl (zy_eq hok hz hp (a := (P - 1) * t) (fun i hi => ?_))
      have h1 := h i hi
      rw [Nat.add_mod, Nat.mul_mod t', e, Nat.zero_mul, Nat.zero_mod, Nat.add_zero, Nat.mod_mod] at h1
      rw [zmd_n2 hP0 h1, Nat.mul_assoc]
    · obtain ⟨u, hu⟩ := zmd_inv hok.1 e
      have hb : (u * t) % P < P := Nat.mod_lt _ hP0
      obtain ⟨hlt, s, hs, hy⟩ := zpb_y hok hp hq hpq hb
      obtain ⟨w, hw⟩ := zmd_inv hok.1 hs
      refine Or.inr ⟨(u * t) % P, hb, zy_eq hok hz hlt (a := (P - 1) * t' * w) (fun i hi => ?_)⟩
      have h1 := h i hi
      rw [Nat.add_assoc] at h1
      rw [zmd_n2 hP0 h1]
      have e1 : ((P - 1) * t' * w * zv_y P N (zpb P N p q ((u * t) % P)) i) % P = ((P - 1) * t' * w * (s * ((u * t) % P * zv_y P N p i + zv_y P N q i))) % P := zmd_mul rfl (hy i hi)
      have e2 : ((P - 1) * t' * w * (s * ((u * t) % P * zv_y P N p i + zv_y P N q i))) % P = ((P - 1) * t' * w * (s * (u * t * zv_y P N p i + zv_y P N q i))) % P := zmd_mul rfl (zmd_mul rfl (zmd_add (zmd_mul (Nat.mod_mod _ _) rfl) rfl))
      have e3 : (P - 1) * t' * w * (s * (u * t * zv_y P N p i + zv_y P N q i)) = (w * s) * ((P - 1) * ((u * t') * (t * zv_y P N p i) + t' * zv_y P N q i)) := by grind
      have e4 : ((w * s) * ((P - 1) * ((u * t') * (t * zv_y P N p i) + t' * zv_y P N q i))) % P = (1 * ((P - 1) * (1 * (t * zv_y P N p i) + t' * zv_y P N q i))) % P := zmd_mul hw (zmd_mul rfl (zmd_add (zmd_mul hu rfl) rfl))
      rw [e1, e2, e3, e4, Nat.one_mul, Nat.one_mul]
