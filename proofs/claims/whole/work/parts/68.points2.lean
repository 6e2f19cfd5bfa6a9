/-! the points as the class numbers them -/
def zl_st (P p : Nat) : Nat → Nat × Bool
  | 0 => (p, false)
  | k + 1 => if 0 < (zl_st P p k).1 then (((zl_st P p k).1 - 1) / P, (zl_st P p k).2) else (0, true)
def zl_y (P N p i : Nat) : Nat := if 0 < (zl_st P p (N - 1 - i)).1 then ((zl_st P p (N - 1 - i)).1 - 1) % P else if (zl_st P p (N - 1 - i)).2 = true then 0 else 1
def zl_chk (P N : Nat) : Nat → Nat → Nat → Bool
  | 0, _, _ => true
  | n + 1, t, k => if zv_l1 P N t = true then zA (fun i => zl_y P N k i == zv_dg P N t i) N && zl_chk P N n (t + 1) (k + 1) else zl_chk P N n (t + 1) k
theorem zl_chk_ok {P N : Nat} : ∀ n t, zl_chk P N n t (zC (zv_l1 P N) t) = true → ∀ s, t ≤ s → s < t + n → zv_l1 P N s = true → ∀ i, i < N → zl_y P N (zC (zv_l1 P N) s) i = zv_dg P N s i
  | 0, t, _, s, h1, h2 => by omega
  | n + 1, t, h, s, h1, h2 => fun hs i hi => by
    have hC : zC (zv_l1 P N) (t + 1) = zC (zv_l1 P N) t + (zv_l1 P N t).toNat := rfl
    unfold zl_chk at h
    by_cases q : zv_l1 P N t = true
    · rw [if_pos q] at h
      obtain ⟨h3, h4⟩ := Bool.and_eq_true_iff.mp h
      by_cases e : s = t
      · subst e
        exact eq_of_beq (zA_iff.mp h3 i hi)
      · rw [q] at hC
        exact zl_chk_ok n (t + 1) (by rw [hC]; exact h4) s (by omega) (by omega) hs i hi
    · rw [if_neg q] at h
      have e : s ≠ t := fun e => q (e ▸ hs)
      rw [Bool.eq_false_iff.mpr q] at hC
      exact zl_chk_ok n (t + 1) (by rw [hC]; exact h) s (by omega) (by omega) hs i hi
theorem zl_chk9 : ∀ q ∈ [(2, 3), (2, 4), (2, 5), (2, 6), (3, 3), (3, 4), (3, 5), (5, 3), (5, 4)], zl_chk q.1 q.2 (q.1 ^ q.2) 0 0 = true := by decide +kernel
theorem zl_yy {P N p i : Nat} (h : zv_ok P N) (hp : p < zv_np P N) (hi : i < N) : zl_y P N p i = zv_y P N p i := by
  obtain ⟨a1, a2, a3, -⟩ := zv_cd_ok hp
  have h1 := zl_chk_ok (P ^ N) 0 (zl_chk9 (P, N) (zv_ok9 h)) (zv_cd P N p) (Nat.zero_le _) (by omega) a2 i hi
  have a3 : zC (zv_l1 P N) (zv_cd P N p) = p := a3
  rw [a3] at h1
  exact h1
def zl_sum (P : Nat) : Nat → Nat
  | 0 => 0
  | n + 1 => zl_sum P n * P + 1
theorem zl_sum9 : ∀ q ∈ [(2, 3), (2, 4), (2, 5), (2, 6), (3, 3), (3, 4), (3, 5), (5, 3), (5, 4)], zl_sum q.1 q.2 = zv_np q.1 q.2 := by decide +kernel
theorem zl_np {P N : Nat} (h : zv_ok P N) : zl_sum P N = zv_np P N := zl_sum9 (P, N) (zv_ok9 h)
theorem zl_sum_le {P : Nat} : ∀ k N, k ≤ N → zl_sum P k ≤ zl_sum P N ∨ P = 0
  | k, 0, h => by have : k = 0 := by omega
                  subst this; exact Or.inl (Nat.le_refl _)
  | k, N + 1, h => by
    by_cases e : k = N + 1
    · subst e; exact Or.inl (Nat.le_refl _)
    · rcases zl_sum_le k N (by omega) with q | q
      · by_cases p0 : P = 0
        · exact Or.inr p0
        · refine Or.inl (Nat.le_trans q ?_)
          show _ ≤ zl_sum P N * P + 1
          have := Nat.le_mul_of_pos_right (zl_sum P N) (show 0 < P by omega)
          omega
      · exact Or.inr q
/-- the number of a vector's point, by the class: the factor that makes it lead with 1, the number -/
def zl_vp (P : Nat) (x : Nat → Nat) : Nat → Nat × Nat
  | 0 => (0, 0)
  | i + 1 => if (zl_vp P x i).1 = 0 then (zz_inv P (x i), (zl_vp P x i).2) else ((zl_vp P x i).1, (zl_vp P x i).2 * P + (zl_vp P x i).1 * x i % P + 1)
theorem zl_vp9 : ∀ q ∈ [(2, 3), (2, 4), (2, 5), (2, 6), (3, 3), (3, 4), (3, 5), (5, 3), (5, 4)], ∀ p, p < zl_sum q.1 q.2 → zl_vp q.1 (zl_y q.1 q.2 p) q.2 = (1, p) := by decide +kernel
