/-! linear algebra modulo P: functionals, spans, orthogonal vectors -/
def zsv_t (P a b : Nat) : Nat := zM (fun t => (a + t * b) % P == 0) 0 P
theorem zsv_9 (P : Nat) (h : P = 2 ∨ P = 3 ∨ P = 5) : zA (fun a => zA (fun b => b == 0 || (a + zsv_t P a b * b) % P == 0) P) P = true := by
  rcases h with rfl | rfl | rfl <;> decide +kernel
theorem zsv {P : Nat} (h : P = 2 ∨ P = 3 ∨ P = 5) (a : Nat) {b : Nat} (hb : b % P ≠ 0) : ∃ t, (a + t * b) % P = 0 := by
  have hP0 : 0 < P := by omega
  have h1 := zA_iff.mp (zA_iff.mp (zsv_9 P h) (a % P) (Nat.mod_lt _ hP0)) (b % P) (Nat.mod_lt _ hP0)
  rw [zb_ne0 hb, Bool.false_or, beq_iff_eq] at h1
  refine ⟨zsv_t P (a % P) (b % P), ?_⟩
  rw [← h1]
  exact zmd_add (Nat.mod_mod _ _).symm (zmd_mul rfl (Nat.mod_mod _ _).symm)
theorem zv_dot_add_l (N : Nat) (u v w : Nat → Nat) (t : Nat) : zv_dot N (fun i => u i + t * v i) w = zv_dot N u w + t * zv_dot N v w := by
  unfold zv_dot
  rw [← zS_mull, ← zS_add]
  exact zS_congr N (fun i _ => by grind)
theorem zv_dot_add_r (N : Nat) (u v w : Nat → Nat) (t : Nat) : zv_dot N w (fun i => u i + t * v i) = zv_dot N w u + t * zv_dot N w v := by
  rw [zv_dot_c, zv_dot_add_l, zv_dot_c N u, zv_dot_c N v]
theorem zv_dot_e {N : Nat} {u : Nat → Nat} {k : Nat} (h : k < N) : zv_dot N u (zv_e k) = u k := by
  unfold zv_dot
  rw [zS_at (k := k) N (fun i _ q => by unfold zv_e; rw [if_neg q, Nat.mul_zero]), if_pos h]
  unfold zv_e
  rw [if_pos rfl, Nat.mul_one]
/-- g is in the span of the rows, modulo P -/
def zsp (P N : Nat) : List (Nat → Nat) → (Nat → Nat) → Prop
  | [], g => ∀ i, i < N → g i % P = 0
  | u :: us, g => ∃ t, zsp P N us (fun i => g i + t * u i)
/-- a functional is in the span of others, or something tells it apart -/
theorem zli {P N : Nat} (h : P = 2 ∨ P = 3 ∨ P = 5) : ∀ (us : List (Nat → Nat)) (g : Nat → Nat), zsp P N us g ∨ ∃ w, (∀ u ∈ us, zv_dot N u w % P = 0) ∧ zv_dot N g w % P ≠ 0
  | [], g => by
    by_cases q : ∀ i, i < N → g i % P = 0
    · exact Or.inl q
    · have ⟨i, hi⟩ := Classical.not_forall.mp q
      have hi2 : i < N ∧ g i % P ≠ 0 := ⟨Classical.byContradiction (fun z => hi (fun y => absurd y z)), fun z => hi (fun _ => z)⟩
      exact Or.inr ⟨zv_e i, fun u hu => absurd hu List.not_mem_nil, by rw [zv_dot_e hi2.1]; exact hi2.2⟩
  | u :: us, g => by
    rcases zli h us g with q | ⟨w, w1, w2⟩
    · refine Or.inl ⟨0, ?_⟩
      have e : (fun i => g i + 0 * u i) = g := by funext i; rw [Nat.zero_mul, Nat.add_zero]
      rw [e]; exact q
    · by_cases hu : zv_dot N u w % P = 0
      · refine Or.inr ⟨w, fun v hv => ?_, w2⟩
        rcases List.mem_cons.mp hv with rfl | hv
        · exact hu
        · exact w1 v hv
      · obtain ⟨t, ht⟩ := zsv h (zv_dot N g w) hu
        rcases zli h us (fun i => g i + t * u i) with q | ⟨w', v1, v2⟩
        · exact Or.inl ⟨t, q⟩
        · obtain ⟨s, hs⟩ := zsv h (zv_dot N u w') hu
          refine Or.inr ⟨fun i => w' i + s * w i, fun v hv => ?_, fun z => v2 ?_⟩
          · rw [zv_dot_add_r]
            rcases List.mem_cons.mp hv with rfl | hv
            · exact hs
            · rw [Nat.add_mod, v1 v hv, Nat.mul_mod, w1 v hv, Nat.mul_zero, Nat.zero_mod, Nat.add_zero, Nat.zero_mod]
          · have e1 : zv_dot N (fun i => g i + t * u i) (fun i => w' i + s * w i) % P = 0 := by
              rw [zv_dot_add_l, Nat.add_mod, z, Nat.mul_mod, zv_dot_add_r N w' w u, hs, Nat.mul_zero, Nat.zero_mod, Nat.add_zero, Nat.zero_mod]
            rw [zv_dot_add_r, Nat.add_mod, Nat.mul_mod s, zv_dot_add_l N g u w, ht, Nat.mul_zero, Nat.zero_mod, Nat.add_zero, Nat.mod_mod] at e1
            exact e1
/-- the form has no singular vector -/
def zNS (P N : Nat) (c : Nat → Nat) : Prop := ∀ v : Nat → Nat, zv_sum N c v % P = 0 → (∀ i, i < N → zz_nr N c v i % P = 0) → ∀ i, i < N → v i % P = 0
theorem zB_dot (N : Nat) (c x y : Nat → Nat) : zB N c x y = zv_dot N (zz_nr N c x) y := rfl
/-- a vector with its numbers reduced -/
def zv_rd (P N : Nat) (v : Nat → Nat) (i : Nat) : Nat := if i < N then v i % P else 0
theorem zv_rd_vec {P N : Nat} {v : Nat → Nat} (hok : zv_ok P N) {k : Nat} (hk : k < N) (h : v k % P ≠ 0) : zv_vec P N (zv_rd P N v) := by
  obtain ⟨hP0, -⟩ := zv_P5 hok.1
  have hN := zv_okN hok
  refine ⟨fun i _ => ?_, fun i h1 _ => ?_, zv_ff_pos (k := k) (by omega) ?_⟩
  · unfold zv_rd; split
    · exact Nat.mod_lt _ hP0
    · exact hP0
  · unfold zv_rd; rw [if_neg (by omega)]
  · unfold zv_rd; rw [if_pos hk]; exact h
theorem zv_rd_md {P N : Nat} {v : Nat → Nat} {i : Nat} (h : i < N) : zv_rd P N v i % P = v i % P := by
  unfold zv_rd; rw [if_pos h, Nat.mod_mod]
/-- the point of a vector that isn't 0: it is a multiple of it -/
theorem zv_point {P N : Nat} {v : Nat → Nat} (hok : zv_ok P N) {k : Nat} (hk : k < N) (h : v k % P ≠ 0) : ∃ p s, p < zv_np P N ∧ 1 ≤ s ∧ s ≤ 4 ∧ s % P ≠ 0 ∧ ∀ i, i < N → zv_y P N p i % P = (s * v i) % P := by
  have hv := zv_rd_vec hok hk h
  have hN := zv_okN hok
  obtain ⟨h1, h2⟩ := zv_fac hok hv
  refine ⟨zv_pt P N (zv_rd P N v), zv_inv P (zv_ff (zv_rd P N v) 6), zv_pt_lt hok hv, ?_, h1, h2, fun i hi => ?_⟩
  · rcases Nat.eq_zero_or_pos (zv_inv P (zv_ff (zv_rd P N v) 6)) with q | q
    · rw [q, Nat.zero_mod] at h2; exact absurd rfl h2
    · exact q
  · rw [zv_y_pt hok hv i (by omega)]
    unfold zv_nrm
    rw [Nat.mod_mod, Nat.mul_comm]
    exact zmd_mul rfl (zv_rd_md hi)
theorem zNS_of {P N : Nat} {c : Nat → Nat} (hok : zv_ok P N) (h : zj_ns P N c = 0) : zNS P N c := by
  intro v h1 h2 i hi
  refine Classical.byContradiction (fun q => ?_)
  obtain ⟨p, s, hp, hs1, hs4, hs, hy⟩ := zv_point hok hi q
  have e1 : zw_oo P N c p = true := by
    show (zv_val P N c (zv_y P N p) == 0) = true
    rw [beq_iff_eq]
    unfold zv_val
    rw [zv_sum_md (y := fun i => s * v i) hy, zv_sum_mul, Nat.mul_mod, h1, Nat.mul_zero, Nat.zero_mod]
  have e2 : zz_sg P N c p = true := by
    unfold zz_sg
    rw [e1, Bool.true_and]
    refine zA_iff.mpr (fun j hj => ?_)
    rw [beq_iff_eq]
    unfold zz_nm
    rw [zz_nr_md (y := fun i => s * v i) hy hj, zz_nr_mul, Nat.mul_mod, h2 j hj, Nat.mul_zero, Nat.zero_mod]
  have h3 := zC_lt e2 hp
  have h4 : zC (zz_sg P N c) (zv_np P N) = 0 := h
  omega
/-- modulo P, nothing but 0 is orthogonal to what is orthogonal to isotropic vectors that are orthogonal to each other, but their span -/
theorem zperp {P N : Nat} {c : Nat → Nat} (hP : P = 2 ∨ P = 3 ∨ P = 5) {xs : List (Nat → Nat)} {z : Nat → Nat} (hz : zv_sum N c z % P = 0) (hxz : ∀ x ∈ xs, zB N c x z % P = 0) (hns : ¬ zsp P N (xs.map (zz_nr N c)) (zz_nr N c z)) : ∃ w, zv_sum N c w % P = 0 ∧ (∀ x ∈ xs, zB N c x w % P = 0) ∧ zB N c z w % P ≠ 0 := by
  rcases zli hP (xs.map (zz_nr N c)) (zz_nr N c z) with q | ⟨w, w1, w2⟩
  · exact absurd q hns
  · obtain ⟨t, ht⟩ := zsv hP (zv_sum N c w) w2
    have w1' : ∀ x ∈ xs, zB N c x w % P = 0 := fun x hx => w1 _ (List.mem_map_of_mem hx)
    have e0 : ∀ x : Nat → Nat, zB N c x (fun i => w i + t * z i) = zB N c x w + t * zB N c x z := fun x => zv_dot_add_r N w z (zz_nr N c x) t
    refine ⟨fun i => w i + t * z i, ?_, fun x hx => ?_, ?_⟩
    · have e : zv_sum N c (fun i => w i + t * z i) = zv_sum N c w + t * t * zv_sum N c z + t * zB N c w z := by
        rw [show (fun i => w i + t * z i) = (fun i => w i + (fun j => t * z j) i) from rfl, zv_sum_add, zv_sum_mul, zB_mul_r]
      rw [e, zB_comm N c w z]
      have : (zv_sum N c w + t * t * zv_sum N c z + t * zB N c z w) % P = (zv_sum N c w + t * zB N c z w) % P := by
        rw [show zv_sum N c w + t * t * zv_sum N c z + t * zB N c z w = (zv_sum N c w + t * zB N c z w) + t * t * zv_sum N c z by omega, Nat.add_mod, Nat.mul_mod (t * t), hz, Nat.mul_zero, Nat.zero_mod, Nat.add_zero, Nat.mod_mod]
      rw [this]
      exact ht
    · rw [e0, Nat.add_mod, w1' x hx, Nat.mul_mod, hxz x hx, Nat.mul_zero, Nat.zero_mod, Nat.add_zero, Nat.zero_mod]
    · rw [e0, zB_self, Nat.add_mod, Nat.mul_mod t, Nat.mul_mod 2, hz, Nat.mul_zero, Nat.zero_mod, Nat.mul_zero, Nat.zero_mod, Nat.add_zero, Nat.mod_mod]
      exact w2
