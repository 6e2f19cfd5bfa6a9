/-! algebra modulo P: the value of a sum, the polar value -/
def zB (N : Nat) (c x y : Nat → Nat) : Nat := zS (fun i => zz_nr N c x i * y i) N
theorem zz_nr_add (N : Nat) (c x y : Nat → Nat) (i : Nat) : zz_nr N c (fun j => x j + y j) i = zz_nr N c x i + zz_nr N c y i := by
  unfold zz_nr
  rw [zS_congr (g := fun j => c (zq_pl i j) * x j + c (zq_pl i j) * y j) N (fun j _ => Nat.mul_add _ _ _), zS_add, Nat.mul_add]
  omega
theorem zz_nr_mul (N : Nat) (c x : Nat → Nat) (t i : Nat) : zz_nr N c (fun j => t * x j) i = t * zz_nr N c x i := by
  unfold zz_nr
  rw [zS_congr (g := fun j => t * (c (zq_pl i j) * x j)) N (fun j _ => Nat.mul_left_comm _ _ _), zS_mull, Nat.mul_add, Nat.mul_left_comm]
theorem zB_add_r (N : Nat) (c x y z : Nat → Nat) : zB N c x (fun i => y i + z i) = zB N c x y + zB N c x z := by
  unfold zB
  rw [← zS_add]
  exact zS_congr N (fun i _ => Nat.mul_add _ _ _)
theorem zB_add_l (N : Nat) (c x y z : Nat → Nat) : zB N c (fun i => x i + y i) z = zB N c x z + zB N c y z := by
  unfold zB
  rw [← zS_add]
  exact zS_congr N (fun i _ => by rw [zz_nr_add, Nat.add_mul])
theorem zB_mul_r (N : Nat) (c x y : Nat → Nat) (t : Nat) : zB N c x (fun i => t * y i) = t * zB N c x y := by
  unfold zB
  rw [← zS_mull]
  exact zS_congr N (fun i _ => Nat.mul_left_comm _ _ _)
theorem zB_comm (N : Nat) (c x y : Nat → Nat) : zB N c x y = zB N c y x := by
  have key : ∀ x y : Nat → Nat, zB N c x y = zS (fun i => c (zq_pl i i) * x i * y i) N + zS (fun i => zS (fun j => c (zq_pl i j) * x j * y i) N) N := by
    intro x y
    unfold zB zz_nr
    rw [← zS_add]
    refine zS_congr N (fun i _ => ?_)
    rw [Nat.add_mul, ← zS_mulr]
  rw [key x y, key y x, zS_swap]
  congr 1
  · exact zS_congr N (fun i _ => by rw [Nat.mul_right_comm])
  · refine zS_congr N (fun i _ => zS_congr N (fun j _ => ?_))
    rw [zq_pl_c i j, Nat.mul_right_comm]
theorem zB_mul_l (N : Nat) (c x y : Nat → Nat) (t : Nat) : zB N c (fun i => t * x i) y = t * zB N c x y := by
  rw [zB_comm, zB_mul_r, zB_comm]
theorem zB_self (N : Nat) (c x : Nat → Nat) : zB N c x x = 2 * zv_sum N c x := zz_tw2 N c x
theorem zv_sum_add (N : Nat) (c x y : Nat → Nat) : zv_sum N c (fun i => x i + y i) = zv_sum N c x + zv_sum N c y + zB N c x y := by
  have h := zB_self N c (fun i => x i + y i)
  rw [zB_add_r, zB_add_l, zB_add_l, zB_self, zB_self, zB_comm N c y x] at h
  omega
theorem zv_sum_mul (N : Nat) (c x : Nat → Nat) (t : Nat) : zv_sum N c (fun i => t * x i) = t * t * zv_sum N c x := by
  have h := zB_self N c (fun i => t * x i)
  rw [zB_mul_r, zB_mul_l, zB_self] at h
  have e : t * (t * (2 * zv_sum N c x)) = 2 * (t * t * zv_sum N c x) := by grind
  omega
theorem zS_md {P : Nat} {f g : Nat → Nat} : ∀ n, (∀ i, i < n → f i % P = g i % P) → zS f n % P = zS g n % P
  | 0, _ => rfl
  | n + 1, h => by
    show (zS f n + f n) % P = (zS g n + g n) % P
    rw [Nat.add_mod, zS_md n (fun i hi => h i (by omega)), h n (by omega), ← Nat.add_mod]
theorem zmd_mul {P a b a' b' : Nat} (h : a % P = a' % P) (k : b % P = b' % P) : (a * b) % P = (a' * b') % P := by
  rw [Nat.mul_mod, h, k, ← Nat.mul_mod]
theorem zmd_add {P a b a' b' : Nat} (h : a % P = a' % P) (k : b % P = b' % P) : (a + b) % P = (a' + b') % P := by
  rw [Nat.add_mod, h, k, ← Nat.add_mod]
theorem zv_sum_md {P N : Nat} {c x y : Nat → Nat} (h : ∀ i, i < N → x i % P = y i % P) : zv_sum N c x % P = zv_sum N c y % P := by
  unfold zv_sum
  refine zS_md N (fun i hi => ?_)
  unfold zv_row
  refine zS_md _ (fun t ht => ?_)
  exact zmd_mul (zmd_mul rfl (h i hi)) (h (i + t) (by omega))
theorem zz_nr_md {P N : Nat} {c x y : Nat → Nat} (h : ∀ i, i < N → x i % P = y i % P) {i : Nat} (hi : i < N) : zz_nr N c x i % P = zz_nr N c y i % P := by
  unfold zz_nr
  exact zmd_add (zmd_mul rfl (h i hi)) (zS_md N (fun j hj => zmd_mul rfl (h j hj)))
theorem zB_md {P N : Nat} {c x y x' y' : Nat → Nat} (h : ∀ i, i < N → x i % P = x' i % P) (k : ∀ i, i < N → y i % P = y' i % P) : zB N c x y % P = zB N c x' y' % P :=
  zS_md N (fun i hi => zmd_mul (zz_nr_md h hi) (k i hi))
theorem zmd_3 {P s t b : Nat} (hP : P = 2 ∨ P = 3 ∨ P = 5) : ((s + t + b) % P + 2 * P - s % P - t % P) % P = b % P := by
  rcases hP with rfl | rfl | rfl <;> omega
theorem zv_pol_B {P N : Nat} {c x y : Nat → Nat} (hP : P = 2 ∨ P = 3 ∨ P = 5) : zv_pol P N c x y = zB N c x y % P := by
  unfold zv_pol zv_val
  have h : zv_sum N c (zv_plus P x y) % P = (zv_sum N c x + zv_sum N c y + zB N c x y) % P := by
    rw [← zv_sum_add]
    exact zv_sum_md (fun i _ => Nat.mod_mod _ _)
  rw [h]
  exact zmd_3 hP
theorem zv_dot_B {P N : Nat} {c x y : Nat → Nat} : zv_dot N (zz_nm P N c x) y % P = zB N c x y % P :=
  zS_md N (fun i _ => zmd_mul (Nat.mod_mod _ _) rfl)
/-- the coefficients that count -/
def zc_E (N : Nat) (c c' : Nat → Nat) : Prop := ∀ i j, i ≤ j → j < N → c (6 * i + j) = c' (6 * i + j)
theorem zv_sum_E {N : Nat} {c c' : Nat → Nat} (h : zc_E N c c') (x : Nat → Nat) : zv_sum N c x = zv_sum N c' x := by
  unfold zv_sum
  refine zS_congr N (fun i hi => ?_)
  unfold zv_row
  refine zS_congr _ (fun t ht => ?_)
  rw [h i (i + t) (by omega) (by omega)]
theorem zv_val_E {P N : Nat} {c c' : Nat → Nat} (h : zc_E N c c') : zv_val P N c = zv_val P N c' := by
  funext x
  unfold zv_val
  rw [zv_sum_E h]
/-- the numbers of a vector's point -/
theorem zv_y_pt {P N : Nat} {v : Nat → Nat} (hk : zv_ok P N) (hv : zv_vec P N v) : ∀ i, i < 6 → zv_y P N (zv_pt P N v) i = zv_nrm P v i := by
  obtain ⟨h1, h2, -, h4⟩ := zv_cdx_ok hk.1 (zv_okN hk) hv
  have e : zv_cd P N (zv_pt P N v) = zv_cdx P N v := zX_at h2 h4
  intro i hi
  unfold zv_y
  rw [e]
  exact h1 i hi
theorem zmd_sq {P t S : Nat} (hP : P = 2 ∨ P = 3 ∨ P = 5) (ht4 : t ≤ 4) (ht : t % P ≠ 0) : (t * t * S) % P = 0 ↔ S % P = 0 := by
  have e : t = 0 ∨ t = 1 ∨ t = 2 ∨ t = 3 ∨ t = 4 := by omega
  rcases hP with rfl | rfl | rfl <;> rcases e with rfl | rfl | rfl | rfl | rfl <;> omega
theorem zmd_1 {P t S : Nat} (hP : P = 2 ∨ P = 3 ∨ P = 5) (ht4 : t ≤ 4) (ht : t % P ≠ 0) : (t * S) % P = 0 ↔ S % P = 0 := by
  have e : t = 0 ∨ t = 1 ∨ t = 2 ∨ t = 3 ∨ t = 4 := by omega
  rcases hP with rfl | rfl | rfl <;> rcases e with rfl | rfl | rfl | rfl | rfl <;> omega
/-- the factor that makes a vector begin with 1 -/
theorem zv_fac {P N : Nat} {v : Nat → Nat} (hk : zv_ok P N) (hv : zv_vec P N v) : zv_inv P (zv_ff v 6) ≤ 4 ∧ zv_inv P (zv_ff v 6) % P ≠ 0 := by
  obtain ⟨hP0, hP5⟩ := zv_P5 hk.1
  obtain ⟨h1, h2, h3⟩ := zv_inv_ok P (by omega) hk.1 (zv_ff v 6) (zv_ff_ltP hP0 hv.1 6) hv.2.2
  refine ⟨h3, fun q => ?_⟩
  rw [Nat.mul_mod, q, Nat.mul_zero, Nat.zero_mod] at h1
  exact absurd h1 (by decide)
theorem zv_val_pt {P N : Nat} {c v : Nat → Nat} (hk : zv_ok P N) (hv : zv_vec P N v) : zv_val P N c (zv_y P N (zv_pt P N v)) = 0 ↔ zv_val P N c v = 0 := by
  obtain ⟨h1, h2⟩ := zv_fac hk hv
  have hN := zv_okN hk
  unfold zv_val
  have e : zv_sum N c (zv_y P N (zv_pt P N v)) % P = zv_sum N c (fun i => zv_inv P (zv_ff v 6) * v i) % P :=
    zv_sum_md (fun i hi => by rw [zv_y_pt hk hv i (by omega)]; unfold zv_nrm; rw [Nat.mod_mod, Nat.mul_comm])
  rw [e, zv_sum_mul]
  exact zmd_sq hk.1 h1 h2
theorem zv_B_pt {P N : Nat} {c v x : Nat → Nat} (hk : zv_ok P N) (hv : zv_vec P N v) : zB N c x (zv_y P N (zv_pt P N v)) % P = 0 ↔ zB N c x v % P = 0 := by
  obtain ⟨h1, h2⟩ := zv_fac hk hv
  have hN := zv_okN hk
  have e : zB N c x (zv_y P N (zv_pt P N v)) % P = zB N c x (fun i => zv_inv P (zv_ff v 6) * v i) % P :=
    zB_md (fun _ _ => rfl) (fun i hi => by rw [zv_y_pt hk hv i (by omega)]; unfold zv_nrm; rw [Nat.mod_mod, Nat.mul_comm])
  rw [e, zB_mul_r]
  exact zmd_1 hk.1 h1 h2
theorem zb_iff {a b : Bool} (h : a = true ↔ b = true) : a = b := by
  cases a <;> cases b <;> first | rfl | exact absurd (h.mp rfl) (by decide) | exact absurd (h.mpr rfl) (by decide)
theorem zb_beq0 {a b : Nat} (h : a = 0 ↔ b = 0) : (a == 0) = (b == 0) := zb_iff (by rw [beq_iff_eq, beq_iff_eq]; exact h)
theorem zw_oo_pt {P N : Nat} {c v : Nat → Nat} (hk : zv_ok P N) (hv : zv_vec P N v) : zw_oo P N c (zv_pt P N v) = (zv_val P N c v == 0) := zb_beq0 (zv_val_pt hk hv)
/-- collinear: the class's way and the reference's -/
theorem zv_val_mx {P N : Nat} {c x y : Nat → Nat} {b d : Nat} : zv_val P N c (zv_mx P b d x y) = (b * b * zv_sum N c x + d * d * zv_sum N c y + b * (d * zB N c x y)) % P := by
  unfold zv_val
  have e : zv_sum N c (zv_mx P b d x y) % P = zv_sum N c (fun i => (fun j => b * x j) i + (fun j => d * y j) i) % P :=
    zv_sum_md (fun i _ => by unfold zv_mx; rw [Nat.mod_mod, Nat.mul_comm (x i), Nat.mul_comm (y i)])
  rw [e, zv_sum_add, zv_sum_mul, zv_sum_mul, zB_mul_l, zB_mul_r]
theorem zmd_b {P s t u v w : Nat} (h1 : s % P = 0) (h2 : t % P = 0) : (u * s + v * t + w) % P = w % P := by
  rw [Nat.add_mod, Nat.add_mod (u * s), Nat.mul_mod u, Nat.mul_mod v, h1, h2]
  simp
theorem zj_jn_eq {P N : Nat} {c : Nat → Nat} (hk : zv_ok P N) {p q : Nat} (hp : p < zv_np P N) (hq : q < zv_np P N) : zv_jn P N (zv_y P N) (zw_oo P N c) p q = zj_jn P N c p q := by
  obtain ⟨hP0, hP5⟩ := zv_P5 hk.1
  unfold zv_jn zj_jn
  cases e1 : (p != q) with
  | false => rfl
  | true =>
  cases e2 : zw_oo P N c p with
  | false => rfl
  | true =>
  cases e3 : zw_oo P N c q with
  | false => rfl
  | true =>
    have hpq : p ≠ q := by simpa using e1
    have s1 : zv_sum N c (zv_y P N p) % P = 0 := by
      have : (zv_val P N c (zv_y P N p) == 0) = true := e2
      exact eq_of_beq this
    have s2 : zv_sum N c (zv_y P N q) % P = 0 := by
      have : (zv_val P N c (zv_y P N q) == 0) = true := e3
      exact eq_of_beq this
    simp only [Bool.true_and]
    rw [zv_dot_B]
    refine zb_iff ?_
    rw [zA_iff, beq_iff_eq]
    have key : ∀ t, t < P - 1 → (zw_oo P N c (zv_pt P N (zv_mx P 1 (t + 1) (zv_y P N p) (zv_y P N q))) = true ↔ ((t + 1) * zB N c (zv_y P N p) (zv_y P N q)) % P = 0) := by
      intro t ht
      obtain ⟨hv, -⟩ := zv_hv2 hk hp hq hpq (t + 1) (by omega) (by omega)
      rw [zw_oo_pt hk hv, beq_iff_eq, zv_val_mx, zmd_b s1 s2, Nat.one_mul]
    constructor
    · intro h
      have h0 := (key 0 (by have := hk.1; omega)).mp (h 0 (by have := hk.1; omega))
      rw [Nat.zero_add, Nat.one_mul] at h0
      exact h0
    · intro h t ht
      refine (key t ht).mpr ?_
      rw [Nat.mul_mod, h, Nat.mul_zero, Nat.zero_mod]
