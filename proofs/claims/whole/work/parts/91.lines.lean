/-! points as multiples; sorted lists; lines -/
theorem zy_eq {P N : Nat} (hok : zv_ok P N) {r p a : Nat} (hr : r < zv_np P N) (hp : p < zv_np P N) (h : ∀ i, i < N → zv_y P N r i % P = (a * zv_y P N p i) % P) : r = p := by
  obtain ⟨hP0, hP5⟩ := zv_P5 hok.1
  have e : ∀ i, i < N → zv_y P N r i = (a % P) * zv_y P N p i % P := fun i hi => by
    have := h i hi
    rw [Nat.mod_eq_of_lt (zv_y_lt hP0)] at this
    rw [this]
    exact zmd_mul (Nat.mod_mod _ _).symm rfl
  have ha : 1 ≤ a % P := by
    rcases Nat.eq_zero_or_pos (a % P) with q | q
    · exfalso
      obtain ⟨k, hk, hk1⟩ := zv_y_one hok hr
      rw [e k hk, q, Nat.zero_mul, Nat.zero_mod] at hk1
      cases hk1
    · exact q
  have v9 : ∀ t, t < zv_np P N → zl_vp P (zv_y P N t) N = (1, t) := fun t ht => by
    have h9 := zl_vp9 (P, N) (zv_ok9 hok) t (by show _ < zl_sum P N; rw [zl_np hok]; exact ht)
    have h9 : zl_vp P (zl_y P N t) N = (1, t) := h9
    rw [zl_vp_congr N (fun i hi => zl_yy hok ht hi)] at h9
    exact h9
  have h5 := zl_vp_s (y := zv_y P N p) (v := zv_y P N r) (s := a % P) hok.1 (Nat.mod_lt _ hP0) ha N (fun i _ => zv_y_lt hP0) e
  rw [v9 p hp, v9 r hr] at h5
  rcases h5 with ⟨q, -⟩ | ⟨-, -, q, -⟩
  · exact absurd (show (1 : Nat) = 0 from q) (by decide)
  · exact q
theorem zmd_neg {P a b t u : Nat} (hP : P = 2 ∨ P = 3 ∨ P = 5) (ht : t % P ≠ 0) (hu : (u * t) % P = 1 % P) (h : (a + t * b) % P = 0) : b % P = ((u * (P - 1)) * a) % P := by
  have e1 : (u * (P - 1) * (a + t * b)) % P = 0 := by rw [Nat.mul_mod, h, Nat.mul_zero, Nat.zero_mod]
  have e2 : u * (P - 1) * (a + t * b) = u * (P - 1) * a + (P - 1) * b * (u * t) := by grind
  rw [e2, Nat.add_mod, Nat.mul_mod ((P - 1) * b), hu, ← Nat.mul_mod, Nat.mul_one] at e1
  generalize u * (P - 1) * a = z at *
  rcases hP with rfl | rfl | rfl <;> omega
theorem zmd_inv {P t : Nat} (hP : P = 2 ∨ P = 3 ∨ P = 5) (ht : t % P ≠ 0) : ∃ u, (u * t) % P = 1 % P := by
  obtain ⟨u, hu⟩ := zsv hP (P - 1) ht
  refine ⟨u, ?_⟩
  generalize u * t = z at hu
  rcases hP with rfl | rfl | rfl <;> omega
/-- two points: no combination is 0 -/
theorem zy_ind {P N : Nat} (hok : zv_ok P N) {p q a b : Nat} (hp : p < zv_np P N) (hq : q < zv_np P N) (hpq : p ≠ q) (h : ∀ i, i < N → (a * zv_y P N p i + b * zv_y P N q i) % P = 0) : a % P = 0 ∧ b % P = 0 := by
  have hb : b % P = 0 := by
    refine Classical.byContradiction (fun z => hpq ?_)
    obtain ⟨u, hu⟩ := zmd_inv hok.1 z
    refine (zy_eq hok hq hp (a := u * (P - 1) * a) (fun i hi => ?_)).symm
    rw [zmd_neg hok.1 z hu (h i hi), Nat.mul_assoc (u * (P - 1))]
  refine ⟨?_, hb⟩
  obtain ⟨k, hk, hk1⟩ := zv_y_one hok hp
  have := h k hk
  rw [hk1, Nat.mul_one, Nat.add_mod, Nat.mul_mod b, hb, Nat.zero_mul, Nat.zero_mod, Nat.add_zero, Nat.mod_mod] at this
  exact this
/-! sorted lists by insertion -/
def zmm (f : Nat → Nat) (n z : Nat) : Prop := ∃ k, k < n ∧ f k = z
theorem zv_ins_mm {f : Nat → Nat} {p n z : Nat} : zmm (zv_ins f p n) (n + 1) z ↔ z = p ∨ zmm f n z := by
  have hp := zv_pos_le f p n
  constructor
  · rintro ⟨k, hk, rfl⟩
    unfold zv_ins
    split
    · exact Or.inr ⟨k, by omega, rfl⟩
    · split
      · exact Or.inl rfl
      · exact Or.inr ⟨k - 1, by omega, rfl⟩
  · rintro (rfl | ⟨k, hk, rfl⟩)
    · refine ⟨zv_pos f z n, by omega, ?_⟩
      unfold zv_ins
      rw [if_neg (by omega), if_pos rfl]
    · rcases Nat.lt_or_ge k (zv_pos f p n) with q | q
      · refine ⟨k, by omega, ?_⟩
        unfold zv_ins
        rw [if_pos q]
      · refine ⟨k + 1, by omega, ?_⟩
        unfold zv_ins
        rw [if_neg (by omega), if_neg (by omega), Nat.add_sub_cancel]
theorem zv_pos_sp {f : Nat → Nat} {p : Nat} : ∀ n, (∀ j, zv_pos f p n ≤ j → j < n → p < f j) ∧ (0 < zv_pos f p n → f (zv_pos f p n - 1) ≤ p)
  | 0 => ⟨fun j _ h => absurd h (Nat.not_lt_zero j), fun h => absurd h (Nat.lt_irrefl _)⟩
  | n + 1 => by
    unfold zv_pos
    split
    · next q => exact ⟨fun j h1 h2 => by omega, fun _ => q⟩
    · next q =>
      obtain ⟨h1, h2⟩ := zv_pos_sp (f := f) (p := p) n
      refine ⟨fun j k1 k2 => ?_, h2⟩
      by_cases e : j = n
      · subst e; omega
      · exact h1 j k1 (by omega)
/-- strictly increasing -/
def zinc (f : Nat → Nat) (n : Nat) : Prop := ∀ j k, j < k → k < n → f j < f k
theorem zv_ins_inc {f : Nat → Nat} {p n : Nat} (hf : zinc f n) (hp : ¬ zmm f n p) : zinc (zv_ins f p n) (n + 1) := by
  have hle := zv_pos_le f p n
  obtain ⟨h1, h2⟩ := zv_pos_sp (f := f) (p := p) n
  have h3 : ∀ j, j < zv_pos f p n → f j < p := fun j hj => by
    have h4 := h2 (by omega)
    have h5 : f (zv_pos f p n - 1) ≠ p := fun q => hp ⟨zv_pos f p n - 1, by omega, q⟩
    rcases Nat.lt_or_ge j (zv_pos f p n - 1) with q | q
    · have := hf j (zv_pos f p n - 1) q (by omega); omega
    · rw [show j = zv_pos f p n - 1 by omega]; omega
  intro j k hjk hk
  unfold zv_ins
  by_cases a1 : k < zv_pos f p n
  · rw [if_pos (show j < zv_pos f p n by omega), if_pos a1]; exact hf j k hjk (by omega)
  · rw [if_neg a1]
    by_cases a2 : k = zv_pos f p n
    · rw [if_pos a2, if_pos (show j < zv_pos f p n by omega)]; exact h3 j (by omega)
    · rw [if_neg a2]
      have h6 := h1 (k - 1) (by omega) (by omega)
      by_cases b1 : j < zv_pos f p n
      · rw [if_pos b1]; have := h3 j b1; omega
      · rw [if_neg b1]
        by_cases b2 : j = zv_pos f p n
        · rw [if_pos b2]; exact h6
        · rw [if_neg b2]; exact hf (j - 1) (k - 1) (by omega) (by omega)
/-- an increasing list is the list of what has a property, in order -/
theorem zsrt {f : Nat → Nat} {S : Nat → Bool} {m n : Nat} (hf : zinc f m) (hS : ∀ z, z < n → (S z = true ↔ zmm f m z)) (hn : ∀ k, k < m → f k < n) : (∀ k, k < m → zC S (f k) = k ∧ zX S n k = f k) ∧ zC S n = m := by
  have key : ∀ k, k < m → zC S (f k) = k := by
    intro k
    induction k with
    | zero =>
      intro h0
      have := zC_flat (f := S) (p := 0) (f 0) (fun z _ hz => by
        cases hb : S z with
        | false => rfl
        | true =>
          obtain ⟨j, hj, hj2⟩ := (hS z (by have := hn 0 h0; omega)).mp hb
          exfalso
          rcases Nat.eq_zero_or_pos j with q | q
          · subst q; omega
          · have := hf 0 j q hj; omega)
      rw [Nat.zero_add] at this
      exact this
    | succ k ih =>
      intro hk
      have h1 := ih (by omega)
      have hlt := hf k (k + 1) (by omega) hk
      have hSk : S (f k) = true := (hS _ (hn k (by omega))).mpr ⟨k, by omega, rfl⟩
      have h2 : zC S (f k + 1) = zC S (f k) + (S (f k)).toNat := rfl
      rw [hSk, h1] at h2
      have h3 := zC_flat (f := S) (p := f k + 1) (f (k + 1) - (f k + 1)) (fun z hz1 hz2 => by
        cases hb : S z with
        | false => rfl
        | true =>
          obtain ⟨j, hj, hj2⟩ := (hS z (by have := hn (k + 1) hk; omega)).mp hb
          exfalso
          rcases Nat.lt_trichotomy j k with q | q | q
          · have := hf j k q (by omega); omega
          · subst q; omega
          · rcases Nat.lt_or_ge j (k + 1) with q2 | q2
            · omega
            · rcases Nat.eq_or_lt_of_le q2 with q3 | q3
              · subst q3; omega
              · have := hf (k + 1) j q3 hj; omega)
      rw [show f k + 1 + (f (k + 1) - (f k + 1)) = f (k + 1) by omega] at h3
      rw [h3, h2]; rfl
  have hSk : ∀ k, k < m → S (f k) = true := fun k hk => (hS _ (hn k hk)).mpr ⟨k, hk, rfl⟩
  refine ⟨fun k hk => ⟨key k hk, ?_⟩, ?_⟩
  · have := zX_at (hSk k hk) (hn k hk)
    rw [key k hk] at this
    exact this
  · rcases Nat.eq_zero_or_pos m with q | q
    · subst q
      have := zC_flat (f := S) (p := 0) n (fun z _ hz => by
        cases hb : S z with
        | false => rfl
        | true =>
          obtain ⟨j, hj, -⟩ := (hS z (by omega)).mp hb
          omega)
      rw [Nat.zero_add] at this
      exact this
    · have h1 := key (m - 1) (by omega)
      have h2 : zC S (f (m - 1) + 1) = zC S (f (m - 1)) + (S (f (m - 1))).toNat := rfl
      rw [hSk (m - 1) (by omega), h1] at h2
      have hlt := hn (m - 1) (by omega)
      have h3 := zC_flat (f := S) (p := f (m - 1) + 1) (n - (f (m - 1) + 1)) (fun z hz1 hz2 => by
        cases hb : S z with
        | false => rfl
        | true =>
          obtain ⟨j, hj, hj2⟩ := (hS z (by omega)).mp hb
          exfalso
          rcases Nat.lt_or_ge j (m - 1) with q2 | q2
          · have := hf j (m - 1) q2 (by omega); omega
          · rw [show j = m - 1 by omega] at hj2; omega)
      rw [show f (m - 1) + 1 + (n - (f (m - 1) + 1)) = n by omega] at h3
      have h4 : zC S (f (m - 1) + 1) = m - 1 + 1 := h2
      omega
