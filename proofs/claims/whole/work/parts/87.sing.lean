/-! singular points, tangent sections: the class's way and the reference's -/
def zv_e (k i : Nat) : Nat := if i = k then 1 else 0
theorem zS_at {f : Nat → Nat} {k : Nat} : ∀ n, (∀ i, i < n → i ≠ k → f i = 0) → zS f n = if k < n then f k else 0
  | 0, _ => by rw [if_neg (by omega)]; rfl
  | n + 1, h => by
    show zS f n + f n = _
    rw [zS_at n (fun i hi => h i (by omega))]
    by_cases e : k = n
    · subst e; rw [if_neg (by omega), if_pos (by omega)]; omega
    · rw [h n (by omega) (fun q => e q.symm)]
      by_cases q : k < n
      · rw [if_pos q, if_pos (by omega)]; rfl
      · rw [if_neg q, if_neg (by omega)]
theorem zv_ff_pos {x : Nat → Nat} {k : Nat} (hk : k < 6) (h : x k ≠ 0) : zv_ff x 6 ≠ 0 := fun q => h (zv_ff0 q k hk)
theorem zv_e_vec {P N k : Nat} (hk : zv_ok P N) (h : k < N) : zv_vec P N (zv_e k) := by
  have hN := zv_okN hk
  have hP := hk.1
  refine ⟨fun i _ => ?_, fun i h1 _ => ?_, zv_ff_pos (k := k) (by omega) ?_⟩
  · unfold zv_e; split <;> omega
  · unfold zv_e; rw [if_neg (by omega)]
  · unfold zv_e; rw [if_pos rfl]; decide
theorem zB_e {N : Nat} {c x : Nat → Nat} {k : Nat} (h : k < N) : zB N c x (zv_e k) = zz_nr N c x k := by
  unfold zB
  rw [zS_at (k := k) N (fun i _ q => by unfold zv_e; rw [if_neg q, Nat.mul_zero]), if_pos h]
  unfold zv_e
  rw [if_pos rfl, Nat.mul_one]
theorem zB_nm0 {P N : Nat} {c x y : Nat → Nat} (h : ∀ i, i < N → zz_nm P N c x i = 0) : zB N c x y % P = 0 := by
  have e : zB N c x y % P = zS (fun _ => 0) N % P := zS_md N (fun i hi => by
    have h1 : zz_nr N c x i % P = 0 := h i hi
    rw [Nat.mul_mod, h1, Nat.zero_mul])
  rw [e, zS_zero, Nat.zero_mod]
theorem zz_sg_eq {P N : Nat} {c : Nat → Nat} (hk : zv_ok P N) {p : Nat} : zv_isS P N c (zv_np P N) (zv_y P N) (zw_oo P N c) p = zz_sg P N c p := by
  unfold zv_isS zz_sg
  cases e : zw_oo P N c p with
  | false => rfl
  | true =>
    simp only [Bool.true_and]
    refine zb_iff ?_
    rw [zA_iff, zA_iff]
    constructor
    · intro h i hi
      have hv := zv_e_vec hk hi
      have h1 := h (zv_pt P N (zv_e i)) (zv_pt_lt hk hv)
      rw [beq_iff_eq, zv_pol_B hk.1] at h1
      have h2 := (zv_B_pt (c := c) (x := zv_y P N p) hk hv).mp h1
      rw [zB_e hi] at h2
      rw [beq_iff_eq]
      exact h2
    · intro h k _
      rw [beq_iff_eq, zv_pol_B hk.1]
      exact zB_nm0 (fun i hi => by have := h i hi; rw [beq_iff_eq] at this; exact this)
theorem zj_ns_eq {P N : Nat} {c : Nat → Nat} (hk : zv_ok P N) : zw_ns P N c = zj_ns P N c := zC_congr _ (fun _ _ => zz_sg_eq hk)
/-! tangent points -/
def zl_ic (P a s b : Nat) : Bool := s == 0 || (a == 0 || (zz_inv P (s * a % P) * (s * b % P) % P == zz_inv P a * b % P && (zz_inv P (s * a % P) != 0 && zz_inv P a != 0)))
theorem zl_ic9 (P : Nat) (h : P = 2 ∨ P = 3 ∨ P = 5) : zA (fun a => zA (fun s => zA (zl_ic P a s) P) P) P = true := by
  rcases h with rfl | rfl | rfl <;> decide +kernel
theorem zl_i1 (P : Nat) (h : P = 2 ∨ P = 3 ∨ P = 5) (a : Nat) (ha : a < P) (s : Nat) (hs : s < P) (b : Nat) (hb : b < P) (h1 : 1 ≤ s) (h2 : a ≠ 0) : zz_inv P (s * a % P) * (s * b % P) % P = zz_inv P a * b % P ∧ zz_inv P (s * a % P) ≠ 0 ∧ zz_inv P a ≠ 0 := by
  have h3 := zA_iff.mp (zA_iff.mp (zA_iff.mp (zl_ic9 P h) a ha) s hs) b hb
  unfold zl_ic at h3
  rw [zb_ne0 (by omega), zb_ne0 h2, Bool.false_or, Bool.false_or, Bool.and_eq_true, Bool.and_eq_true, beq_iff_eq] at h3
  obtain ⟨q1, q2, q3⟩ := h3
  exact ⟨q1, by simpa using q2, by simpa using q3⟩
theorem zl_i0 (P : Nat) (h : P = 2 ∨ P = 3 ∨ P = 5) : zz_inv P 0 = 0 := by
  rcases h with rfl | rfl | rfl <;> decide +kernel
theorem zv_dot_c (N : Nat) (x y : Nat → Nat) : zv_dot N x y = zv_dot N y x := zS_congr N (fun i _ => Nat.mul_comm _ _)
theorem zl_vp_congr {P : Nat} {x y : Nat → Nat} : ∀ n, (∀ i, i < n → x i = y i) → zl_vp P x n = zl_vp P y n
  | 0, _ => rfl
  | n + 1, h => by
    unfold zl_vp
    rw [zl_vp_congr n (fun i hi => h i (by omega)), h n (by omega)]
/-- a multiple of a vector has its point -/
theorem zl_vp_s {P s : Nat} {y v : Nat → Nat} (hP : P = 2 ∨ P = 3 ∨ P = 5) (hs : s < P) (hs1 : 1 ≤ s) : ∀ n, (∀ i, i < n → y i < P) → (∀ i, i < n → v i = s * y i % P) → ((zl_vp P y n).1 = 0 ∧ zl_vp P v n = zl_vp P y n) ∨ ((zl_vp P y n).1 ≠ 0 ∧ (zl_vp P v n).1 ≠ 0 ∧ (zl_vp P v n).2 = (zl_vp P y n).2 ∧ ∀ b, b < P → (zl_vp P v n).1 * (s * b % P) % P = (zl_vp P y n).1 * b % P)
  | 0, _, _ => Or.inl ⟨rfl, rfl⟩
  | n + 1, hy, hv => by
    have hyn := hy n (by omega)
    have hvn := hv n (by omega)
    rcases zl_vp_s hP hs hs1 n (fun i hi => hy i (by omega)) (fun i hi => hv i (by omega)) with ⟨h1, h2⟩ | ⟨h1, h2, h3, h4⟩
    · unfold zl_vp
      rw [h2, if_pos h1, if_pos h1]
      by_cases e : y n = 0
      · refine Or.inl ⟨?_, ?_⟩
        · show zz_inv P (y n) = 0
          rw [e]; exact zl_i0 P hP
        · rw [hvn, e, Nat.mul_zero, Nat.zero_mod]
      · refine Or.inr ⟨?_, ?_, rfl, ?_⟩
        · exact (zl_i1 P hP (y n) hyn s hs 0 (by omega) hs1 e).2.2
        · show zz_inv P (v n) ≠ 0
          rw [hvn]; exact (zl_i1 P hP (y n) hyn s hs 0 (by omega) hs1 e).2.1
        · intro b hb
          show zz_inv P (v n) * (s * b % P) % P = zz_inv P (y n) * b % P
          rw [hvn]; exact (zl_i1 P hP (y n) hyn s hs b hb hs1 e).1
    · unfold zl_vp
      rw [if_neg h1, if_neg h2]
      refine Or.inr ⟨h1, h2, ?_, h4⟩
      show (zl_vp P v n).2 * P + (zl_vp P v n).1 * v n % P + 1 = (zl_vp P y n).2 * P + (zl_vp P y n).1 * y n % P + 1
      rw [h3, hvn, h4 (y n) hyn]
theorem zv_nrm_back {P N : Nat} {v : Nat → Nat} (hk : zv_ok P N) (hv : zv_vec P N v) {i : Nat} (hi : i < 6) : v i = zv_ff v 6 * zv_nrm P v i % P := by
  obtain ⟨hP0, hP5⟩ := zv_P5 hk.1
  obtain ⟨h1, -, -⟩ := zv_inv_ok P (by omega) hk.1 (zv_ff v 6) (zv_ff_ltP hP0 hv.1 6) hv.2.2
  unfold zv_nrm
  rw [Nat.mul_mod, Nat.mod_mod, ← Nat.mul_mod, Nat.mul_left_comm, Nat.mul_mod, h1, Nat.mul_one, Nat.mod_mod, Nat.mod_eq_of_lt (hv.1 i hi)]
theorem zl_vpv {P N : Nat} {v : Nat → Nat} (hk : zv_ok P N) (hv : zv_vec P N v) : (zl_vp P v N).1 ≠ 0 ∧ (zl_vp P v N).2 = zv_pt P N v := by
  obtain ⟨hP0, hP5⟩ := zv_P5 hk.1
  have hN := zv_okN hk
  have hp := zv_pt_lt hk hv
  have h9 := zl_vp9 (P, N) (zv_ok9 hk) (zv_pt P N v) (by show _ < zl_sum P N; rw [zl_np hk]; exact hp)
  have h9 : zl_vp P (zl_y P N (zv_pt P N v)) N = (1, zv_pt P N v) := h9
  rw [zl_vp_congr N (fun i hi => zl_yy hk hp hi)] at h9
  have hs := zv_ff_ltP hP0 hv.1 6
  have h1 := zl_vp_s (y := zv_y P N (zv_pt P N v)) (v := v) (s := zv_ff v 6) hk.1 hs (by have := hv.2.2; omega) N (fun i _ => zv_y_lt hP0) (fun i hi => by rw [zv_y_pt hk hv i (by omega)]; exact zv_nrm_back hk hv (by omega))
  rw [h9] at h1
  rcases h1 with ⟨q, -⟩ | ⟨-, q1, q2, -⟩
  · exact absurd (show (1 : Nat) = 0 from q) (by decide)
  · exact ⟨q1, q2⟩
theorem zl_vp0 {P : Nat} (hP : P = 2 ∨ P = 3 ∨ P = 5) {v : Nat → Nat} : ∀ n, (∀ i, i < n → v i = 0) → (zl_vp P v n).1 = 0
  | 0, _ => rfl
  | n + 1, h => by
    unfold zl_vp
    rw [if_pos (zl_vp0 hP n (fun i hi => h i (by omega))), h n (by omega)]
    exact zl_i0 P hP
/-- a normal as a vector of six numbers -/
def zv_nv (P N : Nat) (c x : Nat → Nat) (i : Nat) : Nat := if i < N then zz_nm P N c x i else 0
theorem zv_nv_vec {P N : Nat} {c x : Nat → Nat} (hk : zv_ok P N) {k : Nat} (hkN : k < N) (h : zz_nm P N c x k ≠ 0) : zv_vec P N (zv_nv P N c x) := by
  obtain ⟨hP0, -⟩ := zv_P5 hk.1
  have hN := zv_okN hk
  refine ⟨fun i _ => ?_, fun i h1 _ => ?_, zv_ff_pos (k := k) (by omega) ?_⟩
  · unfold zv_nv; split
    · exact zz_nm_lt hP0 i
    · exact hP0
  · unfold zv_nv; rw [if_neg (by omega)]
  · unfold zv_nv; rw [if_pos hkN]; exact h
theorem zv_dot_pt {P N : Nat} {v x : Nat → Nat} (hk : zv_ok P N) (hv : zv_vec P N v) : zv_dot N x (zv_y P N (zv_pt P N v)) % P = 0 ↔ zv_dot N x v % P = 0 := by
  obtain ⟨h1, h2⟩ := zv_fac hk hv
  have hN := zv_okN hk
  have e : zv_dot N x (zv_y P N (zv_pt P N v)) % P = (zv_inv P (zv_ff v 6) * zv_dot N x v) % P := by
    unfold zv_dot
    rw [← zS_mull]
    refine zS_md N (fun i hi => ?_)
    rw [zv_y_pt hk hv i (by omega)]
    unfold zv_nrm
    rw [Nat.mul_mod, Nat.mod_mod, ← Nat.mul_mod, Nat.mul_comm (v i), Nat.mul_left_comm]
  rw [e]
  exact zmd_1 hk.1 h1 h2
/-- e_j, and so much of e_k that a row's product is 0 -/
def zv_t (P : Nat) (u : Nat → Nat) (k j i : Nat) : Nat := if i = j then 1 else if i = k then (P - u j % P) % P else 0
theorem zS_at2 {f : Nat → Nat} {j k : Nat} (hjk : j ≠ k) : ∀ n, (∀ i, i < n → i ≠ j → i ≠ k → f i = 0) → zS f n = (if j < n then f j else 0) + (if k < n then f k else 0)
  | 0, _ => by rw [if_neg (by omega), if_neg (by omega)]; rfl
  | n + 1, h => by
    show zS f n + f n = _
    rw [zS_at2 hjk n (fun i hi => h i (by omega))]
    by_cases e : j = n
    · subst e
      rw [if_neg (show ¬ j < j by omega), if_pos (show j < j + 1 by omega)]
      by_cases q : k < j
      · rw [if_pos q, if_pos (by omega)]; omega
      · rw [if_neg q, if_neg (by omega)]; omega
    · by_cases e2 : k = n
      · subst e2
        rw [if_neg (show ¬ k < k by omega), if_pos (show k < k + 1 by omega)]
        by_cases q : j < k
        · rw [if_pos q, if_pos (by omega)]; (try omega)
        · rw [if_neg q, if_neg (by omega)]; (try omega)
      · rw [h n (by omega) (fun q => e q.symm) (fun q => e2 q.symm)]
        have a1 : (j < n) ↔ (j < n + 1) := by omega
        have a2 : (k < n) ↔ (k < n + 1) := by omega
        simp only [a1, a2, Nat.add_zero]
theorem zv_t_dot {P N : Nat} {u w : Nat → Nat} {j k : Nat} (hj : j < N) (hk : k < N) (hjk : j ≠ k) : zv_dot N w (zv_t P u k j) = w j + w k * ((P - u j % P) % P) := by
  unfold zv_dot
  rw [zS_at2 hjk N (fun i _ h1 h2 => by unfold zv_t; rw [if_neg h1, if_neg h2, Nat.mul_zero]), if_pos hj, if_pos hk]
  unfold zv_t
  rw [if_pos rfl, if_neg (fun q => hjk q.symm), if_pos rfl, Nat.mul_one]
theorem zv_t_vec {P N : Nat} {u : Nat → Nat} {j k : Nat} (hok : zv_ok P N) (hj : j < N) (hk : k < N) : zv_vec P N (zv_t P u k j) := by
  obtain ⟨hP0, -⟩ := zv_P5 hok.1
  have hN := zv_okN hok
  have hP := hok.1
  refine ⟨fun i _ => ?_, fun i h1 _ => ?_, zv_ff_pos (k := j) (by omega) ?_⟩
  · unfold zv_t; split
    · omega
    · split
      · exact Nat.mod_lt _ hP0
      · exact hP0
  · unfold zv_t; rw [if_neg (by omega), if_neg (by omega)]
  · unfold zv_t; rw [if_pos rfl]; decide
theorem zmd_t {P a b u : Nat} (hP : P = 2 ∨ P = 3 ∨ P = 5) (ha : a < P) (hb : b < P) (hu : u < P) (h : (a + b * ((P - u % P) % P)) % P = 0) : a = b * u % P := by
  have h1 : b = 0 ∨ b = 1 ∨ b = 2 ∨ b = 3 ∨ b = 4 := by omega
  rcases hP with rfl | rfl | rfl <;> rcases h1 with rfl | rfl | rfl | rfl | rfl <;> omega
theorem zmd_t0 {P u : Nat} (hP : P = 2 ∨ P = 3 ∨ P = 5) (hu : u < P) : (u + 1 * ((P - u % P) % P)) % P = 0 := by
  rcases hP with rfl | rfl | rfl <;> omega
/-- where the first number that isn't 0 stands -/
theorem zv_ff_ex {x : Nat → Nat} : ∀ n, n ≤ 6 → zv_ff x n ≠ 0 → ∃ k, 6 - n ≤ k ∧ k < 6 ∧ x k = zv_ff x n
  | 0, _, h => absurd rfl h
  | n + 1, hn, h => by
    unfold zv_ff at h ⊢
    split at h
    · next q =>
      rw [if_pos q]
      obtain ⟨k, k1, k2, k3⟩ := zv_ff_ex n (by omega) h
      exact ⟨k, by omega, k2, k3⟩
    · next q =>
      rw [if_neg q]
      exact ⟨5 - n, by omega, by omega, rfl⟩
theorem zv_y_one {P N h : Nat} (hok : zv_ok P N) (hh : h < zv_np P N) : ∃ k, k < N ∧ zv_y P N h k = 1 := by
  have h1 := zv_y_ff hh
  obtain ⟨k, -, k2, k3⟩ := zv_ff_ex 6 (Nat.le_refl _) (by rw [h1]; decide : zv_ff (zv_y P N h) 6 ≠ 0)
  refine ⟨k, ?_, k3.trans h1⟩
  rcases Nat.lt_or_ge k N with q | q
  · exact q
  · rw [zv_y_0 q, h1] at k3; cases k3
/-- a normal vanishes where a point's row does: it is a multiple of it -/
theorem zv_prop {P N h : Nat} {w : Nat → Nat} (hok : zv_ok P N) (hh : h < zv_np P N) (hw : ∀ i, i < N → w i < P) (hz : ∀ k, k < zv_np P N → zv_dot N (zv_y P N h) (zv_y P N k) % P = 0 → zv_dot N w (zv_y P N k) % P = 0) : ∃ s, s < P ∧ ∀ i, i < N → w i = s * zv_y P N h i % P := by
  obtain ⟨hP0, hP5⟩ := zv_P5 hok.1
  obtain ⟨k, hk, hk1⟩ := zv_y_one hok hh
  refine ⟨w k, hw k hk, fun j hj => ?_⟩
  by_cases e : j = k
  · subst e; rw [hk1, Nat.mul_one, Nat.mod_eq_of_lt (hw j hj)]
  · have hv := zv_t_vec (u := zv_y P N h) hok hj hk
    have h1 := hz (zv_pt P N (zv_t P (zv_y P N h) k j)) (zv_pt_lt hok hv) ((zv_dot_pt hok hv).mpr (by rw [zv_t_dot hj hk e, hk1]; exact zmd_t0 hok.1 (zv_y_lt hP0)))
    have h2 := (zv_dot_pt hok hv).mp h1
    rw [zv_t_dot hj hk e] at h2
    exact zmd_t hok.1 (hw j hj) (hw k hk) (zv_y_lt hP0) h2
theorem zz_nm_vp {P N : Nat} {c x : Nat → Nat} (hok : zv_ok P N) : (zl_vp P (zz_nm P N c x) N).1 ≠ 0 → zv_vec P N (zv_nv P N c x) ∧ (zl_vp P (zz_nm P N c x) N).2 = zv_pt P N (zv_nv P N c x) := by
  intro h
  have hne : ∃ k, k < N ∧ zz_nm P N c x k ≠ 0 := by
    refine Classical.byContradiction (fun q => h (zl_vp0 hok.1 N (fun i hi => Classical.byContradiction (fun z => q ⟨i, hi, z⟩))))
  obtain ⟨k, k1, k2⟩ := hne
  have hv := zv_nv_vec hok k1 k2
  refine ⟨hv, ?_⟩
  rw [zl_vp_congr (y := zv_nv P N c x) N (fun i hi => by unfold zv_nv; rw [if_pos hi])]
  exact (zl_vpv hok hv).2
theorem zz_nm_vp2 {P N : Nat} {c x : Nat → Nat} (hok : zv_ok P N) (hv : zv_vec P N (zv_nv P N c x)) : (zl_vp P (zz_nm P N c x) N).1 ≠ 0 ∧ (zl_vp P (zz_nm P N c x) N).2 = zv_pt P N (zv_nv P N c x) := by
  rw [zl_vp_congr (y := zv_nv P N c x) N (fun i hi => by unfold zv_nv; rw [if_pos hi])]
  exact zl_vpv hok hv
theorem zv_dot_nv {P N : Nat} {c x y : Nat → Nat} : zv_dot N (zv_nv P N c x) y = zv_dot N (zz_nm P N c x) y := zS_congr N (fun i hi => by unfold zv_nv; rw [if_pos hi])
theorem zv_dot_ptl {P N : Nat} {v x : Nat → Nat} (hk : zv_ok P N) (hv : zv_vec P N v) : zv_dot N (zv_y P N (zv_pt P N v)) x % P = 0 ↔ zv_dot N v x % P = 0 := by
  rw [zv_dot_c N _ x, zv_dot_c N v x]
  exact zv_dot_pt hk hv
/-- a tangent point: the class's way and the reference's -/
theorem zz_tp_eq {P N : Nat} {c : Nat → Nat} (hok : zv_ok P N) {h p : Nat} (hh : h < zv_np P N) : zv_tch P N c (zv_np P N) (zv_y P N) (zw_oo P N c) h p = (zw_oo P N c p && zz_tp P N c h p) := by
  obtain ⟨hP0, hP5⟩ := zv_P5 hok.1
  have hN := zv_okN hok
  unfold zv_tch
  rw [zz_sg_eq hok]
  unfold zz_sg
  cases e : zw_oo P N c p with
  | false => rfl
  | true =>
    simp only [Bool.true_and]
    refine zb_iff ?_
    unfold zz_tp
    rw [decide_eq_true_iff, Bool.and_eq_true, zA_iff]
    constructor
    · rintro ⟨h1, h2⟩
      obtain ⟨s, hs, hw⟩ := zv_prop (w := zz_nm P N c (zv_y P N p)) hok hh (fun i _ => zz_nm_lt hP0 i) (fun k hk hz => by
        have h3 := h2 k hk
        rw [zb_eq0 hz, beq_iff_eq] at h3
        have h4 := eq_of_beq h3.symm
        rw [zv_pol_B hok.1] at h4
        rw [zv_dot_B]
        exact h4)
      have hs1 : 1 ≤ s := by
        rcases Nat.eq_zero_or_pos s with q | q
        · exfalso
          have : zA (fun i => zz_nm P N c (zv_y P N p) i == 0) N = true := zA_iff.mpr (fun i hi => by rw [hw i hi, q, Nat.zero_mul, Nat.zero_mod]; rfl)
          rw [this] at h1; exact absurd h1 (by decide)
        · exact q
      have h9 := zl_vp9 (P, N) (zv_ok9 hok) h (by show _ < zl_sum P N; rw [zl_np hok]; exact hh)
      have h9 : zl_vp P (zl_y P N h) N = (1, h) := h9
      rw [zl_vp_congr N (fun i hi => zl_yy hok hh hi)] at h9
      have h5 := zl_vp_s (y := zv_y P N h) (v := zz_nm P N c (zv_y P N p)) (s := s) hok.1 hs hs1 N (fun i _ => zv_y_lt hP0) hw
      rw [h9] at h5
      rcases h5 with ⟨q, -⟩ | ⟨-, q1, q2, -⟩
      · exact absurd (show (1 : Nat) = 0 from q) (by decide)
      · exact ⟨q1, q2⟩
    · rintro ⟨h1, h2⟩
      obtain ⟨hv, h3⟩ := zz_nm_vp hok h1
      rw [h3] at h2
      refine ⟨?_, fun k _ => ?_⟩
      · rw [Bool.not_eq_true', Bool.eq_false_iff]
        intro q
        exact h1 (zl_vp0 hok.1 N (fun i hi => by have := zA_iff.mp q i hi; rw [beq_iff_eq] at this; exact this))
      · rw [beq_iff_eq]
        refine zb_beq0 ?_
        rw [zv_pol_B hok.1, ← zv_dot_B, ← zv_dot_nv, ← h2]
        exact zv_dot_ptl hok hv
