/-! the points of the nine spaces -/
def zv_ok (P N : Nat) : Prop := (P = 2 ∨ P = 3 ∨ P = 5) ∧ 3 ≤ N ∧ N ≤ zp_most P
/-- how many points; a point's code; a point's numbers -/
def zv_np (P N : Nat) : Nat := zv_cnt P N (P ^ N)
def zv_cd (P N p : Nat) : Nat := zX (zv_l1 P N) (P ^ N) p
def zv_y (P N p i : Nat) : Nat := zv_dg P N (zv_cd P N p) i
theorem zv_ok9 {P N : Nat} (h : zv_ok P N) : (P, N) ∈ [(2, 3), (2, 4), (2, 5), (2, 6), (3, 3), (3, 4), (3, 5), (5, 3), (5, 4)] := by
  obtain ⟨h1, h2, h3⟩ := h
  rcases h1 with rfl | rfl | rfl
  · have h4 : N ≤ 6 := h3
    have : N = 3 ∨ N = 4 ∨ N = 5 ∨ N = 6 := by omega
    rcases this with rfl | rfl | rfl | rfl <;> decide
  · have h4 : N ≤ 5 := h3
    have : N = 3 ∨ N = 4 ∨ N = 5 := by omega
    rcases this with rfl | rfl | rfl <;> decide
  · have h4 : N ≤ 4 := h3
    have : N = 3 ∨ N = 4 := by omega
    rcases this with rfl | rfl <;> decide
theorem zv_nums9 : ∀ q ∈ [(2, 3), (2, 4), (2, 5), (2, 6), (3, 3), (3, 4), (3, 5), (5, 3), (5, 4)], q.1 ^ q.2 ≤ 729 ∧ zv_np q.1 q.2 ≤ 156 ∧ 0 < zv_np q.1 q.2 := by decide +kernel
theorem zv_nums {P N : Nat} (h : zv_ok P N) : P ^ N ≤ 729 ∧ zv_np P N ≤ 156 ∧ 0 < zv_np P N := zv_nums9 (P, N) (zv_ok9 h)
theorem zv_okN {P N : Nat} (h : zv_ok P N) : N ≤ 6 := Nat.le_trans h.2.2 (zp_most_le P).2
theorem zv_enc_congr {P : Nat} {z z' : Nat → Nat} (n : Nat) (h : ∀ i, i < n → z i = z' i) : zv_enc P z n = zv_enc P z' n := by
  induction n with
  | zero => rfl
  | succ n ih => show zv_enc P z n * P + z n = zv_enc P z' n * P + z' n; rw [ih (fun i hi => h i (by omega)), h n (by omega)]
theorem zv_enc_of {P : Nat} (h0 : 0 < P) (n : Nat) : ∀ t, t < P ^ n → zv_enc P (zv_dg P n t) n = t := by
  induction n with
  | zero => intro t h; have h : t < 1 := h; show 0 = t; omega
  | succ n ih =>
    intro t h
    show zv_enc P (zv_dg P (n + 1) t) n * P + zv_dg P (n + 1) t n = t
    have e1 : zv_dg P (n + 1) t n = t % P := by
      unfold zv_dg; rw [if_pos (Nat.lt_succ_self n), show n + 1 - 1 - n = 0 by omega, Nat.pow_zero, Nat.div_one]
    have e2 : zv_enc P (zv_dg P (n + 1) t) n = zv_enc P (zv_dg P n (t / P)) n := by
      refine zv_enc_congr n (fun i hi => ?_)
      unfold zv_dg
      rw [if_pos (by omega), if_pos hi, show n + 1 - 1 - i = (n - 1 - i) + 1 by omega, Nat.pow_succ, Nat.mul_comm, ← Nat.div_div_eq_div_mul]
    have h3 : t / P < P ^ n := Nat.div_lt_of_lt_mul (by rw [Nat.mul_comm]; exact h)
    rw [e1, e2, ih _ h3, Nat.mul_comm]
    exact Nat.div_add_mod t P
theorem zv_cd_ok {P N p : Nat} (h : p < zv_np P N) : zv_cd P N p < P ^ N ∧ zv_l1 P N (zv_cd P N p) = true ∧ zv_cnt P N (zv_cd P N p) = p ∧ 1 ≤ zv_cd P N p := by
  obtain ⟨h1, h2, h3⟩ := zX_ok h
  refine ⟨h1, h2, h3, ?_⟩
  rcases Nat.eq_zero_or_pos (zv_cd P N p) with e | e
  · have h4 : zv_l1 P N (zv_cd P N p) = true := h2
    rw [e, zv_l1_0] at h4; cases h4
  · exact e
theorem zv_y_ff {P N p : Nat} (h : p < zv_np P N) : zv_ff (zv_y P N p) 6 = 1 := by
  have h2 := (zv_cd_ok h).2.1
  unfold zv_l1 at h2
  exact eq_of_beq h2
theorem zv_y_lt {P N p i : Nat} (h0 : 0 < P) : zv_y P N p i < P := zv_dg_lt h0
theorem zv_y_0 {P N p i : Nat} (h : N ≤ i) : zv_y P N p i = 0 := by unfold zv_y zv_dg; rw [if_neg (by omega)]
theorem zv_y_inj {P N p q : Nat} (h0 : 0 < P) (hp : p < zv_np P N) (hq : q < zv_np P N) (h : ∀ i, i < N → zv_y P N p i = zv_y P N q i) : p = q := by
  obtain ⟨a1, -, a3, -⟩ := zv_cd_ok hp
  obtain ⟨b1, -, b3, -⟩ := zv_cd_ok hq
  rw [← a3, ← b3, ← zv_enc_of h0 N _ a1, ← zv_enc_of h0 N _ b1]
  exact congrArg (zv_cnt P N) (zv_enc_congr N h)
theorem zv_ff0 {x : Nat → Nat} (h : zv_ff x 6 = 0) : ∀ i, i < 6 → x i = 0 := by
  have key : ∀ n, n ≤ 6 → zv_ff x n = 0 → ∀ i, 6 - n ≤ i → i < 6 → x i = 0 := by
    intro n
    induction n with
    | zero => intro _ _ i h1 h2; omega
    | succ n ih =>
      intro hn h i h1 h2
      unfold zv_ff at h
      split at h
      next e =>
        by_cases q : i = 5 - n
        · rw [q]; exact e
        · exact ih (by omega) h i (by omega) h2
      next e => exact absurd h e
  intro i hi
  exact key 6 (Nat.le_refl _) h i (by omega) hi
theorem zv_neg_nz (P : Nat) (h : P = 2 ∨ P = 3 ∨ P = 5) : ∀ b, b < P → b ≠ 0 → ∀ t, t < P → ((P - t * b % P) % P = 0 ↔ t = 0) := by
  rcases h with rfl | rfl | rfl <;> decide +kernel
theorem zv_neg_eq (P : Nat) (h : P = 2 ∨ P = 3 ∨ P = 5) : ∀ b, b < P → (P - 1 * b % P) % P = 1 → ∀ t, t < P → (P - t * b % P) % P = t := by
  rcases h with rfl | rfl | rfl <;> decide +kernel
theorem zv_neg_of (P : Nat) (h : P = 2 ∨ P = 3 ∨ P = 5) : ∀ b, b < P → ∀ t, t < P → ∀ u, u < P → (t * b + u) % P = 0 → u = (P - t * b % P) % P := by
  rcases h with rfl | rfl | rfl <;> decide +kernel
/-- a multiple of one point and another point: not 0 -/
theorem zv_mx_nz {P N p q b : Nat} (hk : zv_ok P N) (hp : p < zv_np P N) (hq : q < zv_np P N) (hpq : p ≠ q) (hb : b < P) : zv_ff (zv_mx P b 1 (zv_y P N p) (zv_y P N q)) 6 ≠ 0 := by
  obtain ⟨hP0, hP5⟩ := zv_P5 hk.1
  intro h
  have h0 := zv_ff0 h
  have h1 : ∀ i, i < 6 → zv_y P N q i = (P - zv_y P N p i * b % P) % P := by
    intro i hi
    have h2 := h0 i hi
    unfold zv_mx at h2
    rw [Nat.mul_one] at h2
    exact zv_neg_of P hk.1 b hb _ (zv_y_lt hP0) _ (zv_y_lt hP0) h2
  have hfp := zv_y_ff hp
  have hfq := zv_y_ff hq
  by_cases e : b = 0
  · have h3 : zv_ff (zv_y P N q) 6 = zv_ff (fun _ => 0) 6 := zv_ff_congr (fun i hi => by rw [h1 i hi, e, Nat.mul_zero, Nat.zero_mod, Nat.sub_zero, Nat.mod_self]) 6
    rw [hfq] at h3
    exact absurd h3 (by decide)
  · have h3 : zv_ff (zv_y P N q) 6 = (P - zv_ff (zv_y P N p) 6 * b % P) % P := by
      rw [zv_ff_congr h1 6]
      exact zv_ff_map (f := fun t => (P - t * b % P) % P) (x := zv_y P N p) (fun i hi => zv_neg_nz P hk.1 b hb e _ (zv_y_lt hP0)) (by simp) 6
    rw [hfp, hfq] at h3
    refine hpq (zv_y_inj hP0 hp hq (fun i hi => ?_))
    have hN := zv_okN hk
    rw [h1 i (by omega)]
    exact (zv_neg_eq P hk.1 b hb h3.symm _ (zv_y_lt hP0)).symm
theorem zv_pt_lt {P N : Nat} {x : Nat → Nat} (hk : zv_ok P N) (hx : zv_vec P N x) : zv_pt P N x < zv_np P N := by
  obtain ⟨-, h2, -, h4⟩ := zv_cdx_ok hk.1 (zv_okN hk) hx
  exact zC_lt h2 h4
theorem zv_mx_vec {P N p q b d : Nat} (hk : zv_ok P N) (h : zv_ff (zv_mx P b d (zv_y P N p) (zv_y P N q)) 6 ≠ 0) : zv_vec P N (zv_mx P b d (zv_y P N p) (zv_y P N q)) := by
  obtain ⟨hP0, hP5⟩ := zv_P5 hk.1
  refine ⟨fun i _ => Nat.mod_lt _ hP0, fun i h1 _ => ?_, h⟩
  unfold zv_mx
  rw [zv_y_0 h1, zv_y_0 h1, Nat.zero_mul, Nat.zero_mul, Nat.zero_mod]
theorem zv_hv {P N : Nat} (hk : zv_ok P N) : ∀ p q b, p < zv_np P N → q < zv_np P N → p ≠ q → b < P → zv_vec P N (zv_mx P b 1 (zv_y P N p) (zv_y P N q)) ∧ zv_pt P N (zv_mx P b 1 (zv_y P N p) (zv_y P N q)) < zv_np P N := by
  intro p q b hp hq hpq hb
  have h := zv_mx_vec hk (zv_mx_nz hk hp hq hpq hb)
  exact ⟨h, zv_pt_lt hk h⟩
theorem zv_mx_swap (P b d : Nat) (x y : Nat → Nat) : zv_mx P b d x y = zv_mx P d b y x := by funext i; unfold zv_mx; rw [Nat.add_comm]
theorem zv_hv2 {P N : Nat} (hk : zv_ok P N) {p q : Nat} (hp : p < zv_np P N) (hq : q < zv_np P N) : p ≠ q → ∀ b, 1 ≤ b → b < P → zv_vec P N (zv_mx P 1 b (zv_y P N p) (zv_y P N q)) ∧ zv_pt P N (zv_mx P 1 b (zv_y P N p) (zv_y P N q)) < zv_np P N := by
  intro hpq b _ hb
  rw [zv_mx_swap]
  exact zv_hv hk q p b hq hp (Ne.symm hpq) hb
/-- the rows that layPoints lays are the points' -/
theorem zv_rows {P N : Nat} {fr : Nat → Int32} (h : ∀ t, 1 ≤ t → t < P ^ N → zv_l1 P N t = true → ∀ i, i < 6 → fr (6 * zv_cnt P N t + i) = nI (zv_dg P N t i)) : ∀ p i, p < zv_np P N → i < 6 → fr (6 * p + i) = nI (zv_y P N p i) := by
  intro p i hp hi
  obtain ⟨a1, a2, a3, a4⟩ := zv_cd_ok hp
  have h1 := h _ a4 a1 a2 i hi
  rw [a3] at h1
  exact h1
