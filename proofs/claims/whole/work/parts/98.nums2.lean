/-! how many members: by the second moment -/
theorem zAA_pts {P N : Nat} {c : Nat → Nat} (hok : zv_ok P N) (xs : List (Nat → Nat)) : zAA P N c xs = 1 + (P - 1) * zC (fun p => zw_oo P N c p && zo P N c xs (zv_y P N p)) (zv_np P N) := by
  have hsc1 : ∀ s (x : Nat → Nat), s ≤ 4 → s % P ≠ 0 → ∀ ys, zo P N c ys (fun i => s * x i) = zo P N c ys x := by
    intro s x h4 hs ys
    refine zb_iff ?_
    rw [zo_iff, zo_iff]
    constructor
    · intro h y hy
      have := h y hy
      rw [zB_mul_r] at this
      exact (zmd_1 hok.1 h4 hs).mp this
    · intro h y hy
      rw [zB_mul_r]
      exact (zmd_1 hok.1 h4 hs).mpr (h y hy)
  unfold zAA
  rw [zpts hok (f := fun v => (zv_sum N c v % P == 0) && zo P N c xs v) (fun x y h => by show (_ && _) = (_ && _); rw [zo_md h xs, zv_sum_md h]) (fun s x h4 hs => by
    show ((zv_sum N c (fun i => s * x i) % P == 0) && zo P N c xs (fun i => s * x i)) = _
    rw [hsc1 s x h4 hs, zv_sum_mul, zb_beq0 (zmd_sq hok.1 h4 hs)]) (by
    show ((zv_sum N c (fun _ => 0) % P == 0) && zo P N c xs (fun _ => 0)) = true
    rw [Bool.and_eq_true, zo_iff, beq_iff_eq]
    refine ⟨?_, fun y _ => ?_⟩
    · rw [show zv_sum N c (fun _ => 0) = 0 * 0 * zv_sum N c (fun _ => 0) from zv_sum_mul N c (fun _ => 0) 0, Nat.zero_mul, Nat.zero_mod]
    · rw [show zB N c y (fun _ => 0) = 0 * zB N c y (fun _ => 0) from zB_mul_r N c y (fun _ => 0) 0, Nat.zero_mul, Nat.zero_mod])]
  rfl
theorem zAA_on {P N : Nat} {c : Nat → Nat} (hok : zv_ok P N) : zAA P N c [] = 1 + (P - 1) * zw_on P N c := by
  rw [zAA_pts hok, zC_congr (h := zw_oo P N c) _ (fun p _ => by show (_ && true) = _; rw [Bool.and_true])]
  rfl
/-- the sums of values, at once -/
theorem zmom2 {N : Nat} {c : Nat → Nat} (hN : 1 ≤ N) (hNS : zNS 2 N c) : ∃ R, (R = 1 ∨ R = 2) ∧ zNj 2 N c 0 + zNj 2 N c 1 = 2 ^ N ∧ zNj 2 N c 0 * zNj 2 N c 0 + zNj 2 N c 1 * zNj 2 N c 1 + R * 2 ^ (N - 1) = 2 ^ N + 2 ^ N * 2 ^ (N - 1) := by
  have h1 := zM2 (P := 2) (Or.inl rfl) hN hNS
  have h2 : 0 + zNj 2 N c 0 + zNj 2 N c 1 = 2 ^ N := zNj_sum (P := 2) (N := N) (c := c) (by decide)
  have h3 : 0 + zNj 2 N c 0 * zNj 2 N c 0 + zNj 2 N c 1 * zNj 2 N c 1 + zVS 2 N (fun u => zin (zrb 2 N c u)) * 2 ^ (N - 1) = 2 ^ N + 2 ^ N * 2 ^ (N - 1) := h1
  exact ⟨_, zrad_2 hNS, by omega, by omega⟩
theorem zmom3 {N : Nat} {c : Nat → Nat} (hN : 1 ≤ N) (hNS : zNS 3 N c) : zNj 3 N c 0 + zNj 3 N c 1 + zNj 3 N c 2 = 3 ^ N ∧ zNj 3 N c 0 * zNj 3 N c 0 + zNj 3 N c 1 * zNj 3 N c 1 + zNj 3 N c 2 * zNj 3 N c 2 + 3 ^ (N - 1) = 3 ^ N + 3 ^ N * 3 ^ (N - 1) := by
  have h1 := zM2 (P := 3) (Or.inr (Or.inl rfl)) hN hNS
  rw [zrad_odd (Or.inl rfl) hNS, Nat.one_mul] at h1
  have h2 : 0 + zNj 3 N c 0 + zNj 3 N c 1 + zNj 3 N c 2 = 3 ^ N := zNj_sum (P := 3) (N := N) (c := c) (by decide)
  have h3 : 0 + zNj 3 N c 0 * zNj 3 N c 0 + zNj 3 N c 1 * zNj 3 N c 1 + zNj 3 N c 2 * zNj 3 N c 2 + 3 ^ (N - 1) = 3 ^ N + 3 ^ N * 3 ^ (N - 1) := h1
  exact ⟨by omega, by omega⟩
theorem zN5 {N : Nat} {c : Nat → Nat} : zNj 5 N c 4 = zNj 5 N c 1 ∧ zNj 5 N c 3 = zNj 5 N c 2 := by
  have e : ∀ j k, (∀ q : Nat, (4 * q % 5 == j) = (q % 5 == k)) → zNj 5 N c j = zNj 5 N c k := by
    intro j k h
    unfold zNj
    rw [← zVS_sc (P := 5) (s := 2) (Or.inr (Or.inr rfl)) (by decide) N zNj_per]
    refine zVS_congr N (fun v => ?_)
    show zin (zv_sum N c (fun i => 2 * v i) % 5 == j) = _
    rw [zv_sum_mul, h]
  exact ⟨e 4 1 (fun q => zb_iff (by rw [beq_iff_eq, beq_iff_eq]; omega)), e 3 2 (fun q => zb_iff (by rw [beq_iff_eq, beq_iff_eq]; omega))⟩
theorem zmom5 {N : Nat} {c : Nat → Nat} (hN : 1 ≤ N) (hNS : zNS 5 N c) : zNj 5 N c 0 + 2 * zNj 5 N c 1 + 2 * zNj 5 N c 2 = 5 ^ N ∧ zNj 5 N c 0 * zNj 5 N c 0 + 2 * (zNj 5 N c 1 * zNj 5 N c 1) + 2 * (zNj 5 N c 2 * zNj 5 N c 2) + 5 ^ (N - 1) = 5 ^ N + 5 ^ N * 5 ^ (N - 1) := by
  have h1 := zM2 (P := 5) (Or.inr (Or.inr rfl)) hN hNS
  rw [zrad_odd (Or.inr rfl) hNS, Nat.one_mul] at h1
  obtain ⟨q4, q3⟩ := zN5 (N := N) (c := c)
  have h2 : 0 + zNj 5 N c 0 + zNj 5 N c 1 + zNj 5 N c 2 + zNj 5 N c 3 + zNj 5 N c 4 = 5 ^ N := zNj_sum (P := 5) (N := N) (c := c) (by decide)
  have h3 : 0 + zNj 5 N c 0 * zNj 5 N c 0 + zNj 5 N c 1 * zNj 5 N c 1 + zNj 5 N c 2 * zNj 5 N c 2 + zNj 5 N c 3 * zNj 5 N c 3 + zNj 5 N c 4 * zNj 5 N c 4 + 5 ^ (N - 1) = 5 ^ N + 5 ^ N * 5 ^ (N - 1) := h1
  rw [q4, q3] at h2 h3
  exact ⟨by omega, by omega⟩
theorem znu3 {n m : Nat} {L : List Nat} {b0 : Nat} (h : zA (fun a => zA (zn3c n m L a) b0) b0 = true) {a b d : Nat} (ha : a < b0) (hb : b < b0) (hs : a + b + d = n) (ho : a % 2 = 1) (hm : a * a + b * b + d * d + m = n + n * m) : a ∈ L := by
  have h1 := zA_iff.mp (zA_iff.mp h a ha) b hb
  unfold zn3c at h1
  rw [show n - a - b = d by omega, show (a * a + b * b + d * d + m == n + n * m) = true from by rw [beq_iff_eq]; exact hm, show (a % 2 == 0) = false from zb_ne0 (by omega)] at h1
  simp only [Bool.not_true, Bool.false_or, Bool.or_eq_true, decide_eq_true_eq] at h1
  rcases h1 with h1 | h1
  · omega
  · exact List.contains_iff_mem.mp h1
theorem znu5 {n m : Nat} {L : List Nat} {b0 : Nat} (h : zA (fun a => zA (zn5c n m L a) b0) b0 = true) {a b d : Nat} (ha : a < b0) (hb : b < b0) (hs : d + 2 * a + 2 * b = n) (hm : d * d + 2 * (a * a) + 2 * (b * b) + m = n + n * m) : d ∈ L := by
  have h1 := zA_iff.mp (zA_iff.mp h a ha) b hb
  unfold zn5c at h1
  rw [show n - 2 * a - 2 * b = d by omega, show (d * d + 2 * (a * a) + 2 * (b * b) + m == n + n * m) = true from by rw [beq_iff_eq]; exact hm] at h1
  simp only [Bool.not_true, Bool.false_or, Bool.or_eq_true, decide_eq_true_eq] at h1
  rcases h1 with h1 | h1
  · omega
  · exact List.contains_iff_mem.mp h1
theorem zon3 {N : Nat} {c : Nat → Nat} (hok : zv_ok 3 N) (hNS : zNS 3 N c) : (N = 3 ∧ zw_on 3 N c = 4) ∨ (N = 4 ∧ (zw_on 3 N c = 16 ∨ zw_on 3 N c = 10)) ∨ (N = 5 ∧ zw_on 3 N c = 40) := by
  have hz := zAA_on (c := c) hok
  rw [← zNj_0] at hz
  obtain ⟨h1, h2⟩ := zmom3 (by have := hok.2.1; omega) hNS
  have h3 := hok.2.1
  have h4 : N ≤ 5 := hok.2.2
  generalize zNj 3 N c 0 = a at *
  generalize zNj 3 N c 1 = b at *
  generalize zNj 3 N c 2 = d at *
  rcases (show N = 3 ∨ N = 4 ∨ N = 5 by omega) with rfl | rfl | rfl
  · have := znu3 zn33 (a := a) (b := b) (d := d) (by omega) (by omega) h1 (by omega) h2
    simp only [List.mem_cons, List.not_mem_nil, or_false] at this
    exact Or.inl ⟨rfl, by omega⟩
  · have := znu3 zn34 (a := a) (b := b) (d := d) (by omega) (by omega) h1 (by omega) h2
    simp only [List.mem_cons, List.not_mem_nil, or_false] at this
    exact Or.inr (Or.inl ⟨rfl, by omega⟩)
  · have := znu3 zn35 (a := a) (b := b) (d := d) (by omega) (by omega) h1 (by omega) h2
    simp only [List.mem_cons, List.not_mem_nil, or_false] at this
    exact Or.inr (Or.inr ⟨rfl, by omega⟩)
theorem zon5 {N : Nat} {c : Nat → Nat} (hok : zv_ok 5 N) (hNS : zNS 5 N c) : (N = 3 ∧ zw_on 5 N c = 6) ∨ (N = 4 ∧ (zw_on 5 N c = 36 ∨ zw_on 5 N c = 26)) := by
  have hz := zAA_on (c := c) hok
  rw [← zNj_0] at hz
  obtain ⟨h1, h2⟩ := zmom5 (by have := hok.2.1; omega) hNS
  have h3 := hok.2.1
  have h4 : N ≤ 4 := hok.2.2
  generalize zNj 5 N c 0 = d at *
  generalize zNj 5 N c 1 = a at *
  generalize zNj 5 N c 2 = b at *
  rcases (show N = 3 ∨ N = 4 by omega) with rfl | rfl
  · have := znu5 zn53 (a := a) (b := b) (d := d) (by omega) (by omega) h1 h2
    simp only [List.mem_cons, List.not_mem_nil, or_false] at this
    exact Or.inl ⟨rfl, by omega⟩
  · have := znu5 zn54 (a := a) (b := b) (d := d) (by omega) (by omega) h1 h2
    simp only [List.mem_cons, List.not_mem_nil, or_false] at this
    exact Or.inr ⟨rfl, by omega⟩
/-! P is 2 -/
theorem zCex {f : Nat → Bool} {n : Nat} (h : 0 < zC f n) : ∃ p, p < n ∧ f p = true := ⟨zX f n 0, (zX_ok h).1, (zX_ok h).2.1⟩
/-- more than k of them: one that is none of k given ones -/
theorem zCex_L {f : Nat → Bool} {n : Nat} : ∀ (L : List Nat), L.length < zC f n → ∃ p, p < n ∧ f p = true ∧ p ∉ L := by
  intro L h
  refine Classical.byContradiction (fun q => ?_)
  have h1 : ∀ p, p < n → f p = true → p ∈ L := fun p hp hf => Classical.byContradiction (fun z => q ⟨p, hp, hf, z⟩)
  have key : ∀ m, m ≤ n → ∀ L : List Nat, (∀ p, p < m → f p = true → p ∈ L) → zC f m ≤ L.length := by
    intro m
    induction m with
    | zero => intro _ L _; exact Nat.zero_le _
    | succ m ih =>
      intro hm L hL
      show zC f m + (f m).toNat ≤ _
      cases hb : f m with
      | false => exact ih (by omega) L (fun p hp hf => hL p (by omega) hf)
      | true =>
        have hmL := hL m (by omega) hb
        have h2 := ih (by omega) (L.erase m) (fun p hp hf => (List.mem_erase_of_ne (by omega)).mpr (hL p (by omega) hf))
        rw [List.length_erase_of_mem hmL] at h2
        have := List.length_pos_of_mem hmL
        show zC f m + 1 ≤ _
        omega
  have := key n (Nat.le_refl _) L h1
  omega
/-- distinct ones: as many at least -/
theorem zCge {f : Nat → Bool} {n : Nat} : ∀ (L : List Nat), L.Nodup → (∀ p ∈ L, p < n ∧ f p = true) → L.length ≤ zC f n := by
  induction n with
  | zero =>
    intro L _ h
    cases L with
    | nil => exact Nat.le_refl _
    | cons p L => exact absurd (h p List.mem_cons_self).1 (Nat.not_lt_zero p)
  | succ n ih =>
    intro L hd h
    show _ ≤ zC f n + (f n).toNat
    by_cases hm : n ∈ L
    · have h1 := ih (L.erase n) (hd.erase n) (fun p hp => by
        have hp2 := List.mem_of_mem_erase hp
        have := (h p hp2).1
        have hne : p ≠ n := fun e => by rw [e] at hp; exact (List.Nodup.not_mem_erase hd) hp
        exact ⟨by omega, (h p hp2).2⟩)
      rw [List.length_erase_of_mem hm] at h1
      rw [(h n hm).2]
      show _ ≤ zC f n + 1
      omega
    · have h1 := ih L hd (fun p hp => by
        have := (h p hp).1
        have hne : p ≠ n := fun e => hm (e ▸ hp)
        exact ⟨by omega, (h p hp).2⟩)
      omega
