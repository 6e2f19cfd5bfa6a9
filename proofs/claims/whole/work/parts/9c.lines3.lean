/-! the lines of the class are the reference's -/
/-- an increasing map onto what has a property -/
theorem zemb {φ : Nat → Nat} {f g : Nat → Bool} {m M : Nat} (hφ : zinc φ m) (hM : ∀ t, t < m → φ t < M) (hfg : ∀ t, t < m → f t = g (φ t)) (hon : ∀ u, u < M → g u = true → ∃ t, t < m ∧ φ t = u) : zC g M = zC f m ∧ ∀ l, l < zC f m → zX g M l = φ (zX f m l) := by
  have h := zsrt (f := fun l => φ (zX f m l)) (S := g) (m := zC f m) (n := M) (fun j k hjk hk => by
    have h1 := zX_inc (f := f) (n := m) j k hjk hk
    exact hφ _ _ h1 (zX_ok hk).1) (fun u hu => by
    constructor
    · intro hg
      obtain ⟨t, ht, rfl⟩ := hon u hu hg
      have hft : f t = true := by rw [hfg t ht]; exact hg
      exact ⟨zC f t, zC_lt hft ht, by show φ (zX f m (zC f t)) = φ t; rw [zX_at hft ht]⟩
    · rintro ⟨l, hl, rfl⟩
      obtain ⟨a1, a2, -⟩ := zX_ok hl
      rw [← hfg _ a1]; exact a2) (fun k hk => hM _ (zX_ok hk).1)
  exact ⟨h.2, fun l hl => (h.1 l hl).2⟩
def zphi (P N : Nat) (c : Nat → Nat) (t : Nat) : Nat := zj_x P N c (t / zw_on P N c) * zv_np P N + zj_x P N c (t % zw_on P N c)
theorem zphi_ok {P N : Nat} {c : Nat → Nat} {t : Nat} (ht : t < zw_on P N c * zw_on P N c) : t / zw_on P N c < zw_on P N c ∧ t % zw_on P N c < zw_on P N c ∧ zphi P N c t / zv_np P N = zj_x P N c (t / zw_on P N c) ∧ zphi P N c t % zv_np P N = zj_x P N c (t % zw_on P N c) ∧ zphi P N c t < zv_np P N * zv_np P N := by
  have hn : 0 < zw_on P N c := by
    rcases Nat.eq_zero_or_pos (zw_on P N c) with e | e
    · rw [e] at ht; omega
    · exact e
  have h1 : t / zw_on P N c < zw_on P N c := Nat.div_lt_of_lt_mul ht
  have h2 := Nat.mod_lt t hn
  have a1 := (zj_x_ok h1).1
  have a2 := (zj_x_ok h2).1
  refine ⟨h1, h2, ?_, ?_, ?_⟩
  · unfold zphi
    rw [Nat.mul_comm, Nat.mul_add_div (by omega), Nat.div_eq_of_lt a2, Nat.add_zero]
  · unfold zphi
    rw [Nat.mul_comm, Nat.mul_add_mod, Nat.mod_eq_of_lt a2]
  · unfold zphi
    have := Nat.mul_le_mul_right (zv_np P N) (show zj_x P N c (t / zw_on P N c) + 1 ≤ zv_np P N from a1)
    rw [Nat.add_mul, Nat.one_mul] at this
    omega
theorem zphi_inc {P N : Nat} {c : Nat → Nat} : zinc (zphi P N c) (zw_on P N c * zw_on P N c) := by
  intro s t hst ht
  obtain ⟨a1, a2, -⟩ := zphi_ok (show s < zw_on P N c * zw_on P N c by omega)
  obtain ⟨b1, b2, -⟩ := zphi_ok ht
  have hn : 0 < zw_on P N c := by omega
  unfold zphi
  have x2 := (zj_x_ok a2).1
  rcases Nat.lt_or_ge (s / zw_on P N c) (t / zw_on P N c) with q | q
  · have h1 := zj_x_inc (P := P) (N := N) (c := c) _ _ q b1
    have := Nat.mul_le_mul_right (zv_np P N) (show zj_x P N c (s / zw_on P N c) + 1 ≤ zj_x P N c (t / zw_on P N c) from h1)
    rw [Nat.add_mul, Nat.one_mul] at this
    omega
  · have e : s / zw_on P N c = t / zw_on P N c := Nat.le_antisymm (Nat.div_le_div_right (by omega)) q
    have e1 := Nat.div_add_mod s (zw_on P N c)
    have e2 := Nat.div_add_mod t (zw_on P N c)
    rw [e] at e1
    have h1 := zj_x_inc (P := P) (N := N) (c := c) (s % zw_on P N c) (t % zw_on P N c) (by omega) b2
    rw [e]
    omega
/-- LINES: as many, and the same -/
theorem zlines {P N : Nat} {c : Nat → Nat} (hok : zv_ok P N) (hNS : zNS P N c) (h64 : zw_on P N c ≤ 64) : zw_nl P N c = zf_nl (zf_L P N c) (zw_on P N c) ∧ ∀ l, l < zf_nl (zf_L P N c) (zw_on P N c) → ∃ p q, p < zw_on P N c ∧ q < zw_on P N c ∧ ztwo P N c p q ∧ zX (zf_gl (zf_L P N c) (zw_on P N c)) (zw_on P N c * zw_on P N c) l / zw_on P N c = p ∧ zX (zf_gl (zf_L P N c) (zw_on P N c)) (zw_on P N c * zw_on P N c) l % zw_on P N c = q ∧ zf_lm (zf_L P N c) (zw_on P N c) l = zS2 P N c p q ∧ zw_ln P N c l = zln P N (zj_x P N c p) (zj_x P N c q) P ∧ zv_lp0 P N c (zv_np P N) (zv_y P N) l = zj_x P N c p ∧ zv_lq0 P N c (zv_np P N) (zv_y P N) l = zj_x P N c q := by
  have hk : ∀ t, t < zw_on P N c * zw_on P N c → zf_gl (zf_L P N c) (zw_on P N c) t = zv_gl P N (zv_np P N) (zv_y P N) (zw_oo P N c) (zphi P N c t) := by
    intro t ht
    obtain ⟨a1, a2, a3, a4, -⟩ := zphi_ok ht
    refine zb_iff ?_
    rw [zgl_iff, a3, a4, ← ztwo_ref hok hNS h64 a1 a2]
    exact zgd_iff hok hNS h64 a1 a2
  have hnp := (zv_nums hok).2.2
  have h := zemb (g := zv_gl P N (zv_np P N) (zv_y P N) (zw_oo P N c)) (M := zv_np P N * zv_np P N) zphi_inc (fun t ht => (zphi_ok ht).2.2.2.2) hk (fun u hu hg => by
    obtain ⟨-, o1, o2, -⟩ := zgl_iff.mp hg
    have hu1 : u / zv_np P N < zv_np P N := Nat.div_lt_of_lt_mul hu
    have hu2 := Nat.mod_lt u hnp
    have r1 := zC_lt o1 hu1
    have r2 := zC_lt o2 hu2
    have r1 : zC (zw_oo P N c) (u / zv_np P N) < zw_on P N c := r1
    have r2 : zC (zw_oo P N c) (u % zv_np P N) < zw_on P N c := r2
    have e1 : zj_x P N c (zC (zw_oo P N c) (u / zv_np P N)) = u / zv_np P N := zX_at o1 hu1
    have e2 : zj_x P N c (zC (zw_oo P N c) (u % zv_np P N)) = u % zv_np P N := zX_at o2 hu2
    refine ⟨zC (zw_oo P N c) (u / zv_np P N) * zw_on P N c + zC (zw_oo P N c) (u % zv_np P N), ?_, ?_⟩
    · have := Nat.mul_le_mul_right (zw_on P N c) (show zC (zw_oo P N c) (u / zv_np P N) + 1 ≤ zw_on P N c from r1)
      rw [Nat.add_mul, Nat.one_mul] at this
      omega
    · unfold zphi
      rw [show (zC (zw_oo P N c) (u / zv_np P N) * zw_on P N c + zC (zw_oo P N c) (u % zv_np P N)) / zw_on P N c = zC (zw_oo P N c) (u / zv_np P N) from by rw [Nat.mul_comm, Nat.mul_add_div (by omega), Nat.div_eq_of_lt r2, Nat.add_zero], show (zC (zw_oo P N c) (u / zv_np P N) * zw_on P N c + zC (zw_oo P N c) (u % zv_np P N)) % zw_on P N c = zC (zw_oo P N c) (u % zv_np P N) from by rw [Nat.mul_comm, Nat.mul_add_mod, Nat.mod_eq_of_lt r2], e1, e2, Nat.mul_comm]
      exact Nat.div_add_mod u (zv_np P N))
  refine ⟨h.1, fun l hl => ?_⟩
  obtain ⟨t1, t2, -⟩ := zX_ok hl
  obtain ⟨a1, a2, a3, a4, -⟩ := zphi_ok t1
  have e := h.2 l hl
  have b1 : zv_lp0 P N c (zv_np P N) (zv_y P N) l = zj_x P N c (zX (zf_gl (zf_L P N c) (zw_on P N c)) (zw_on P N c * zw_on P N c) l / zw_on P N c) := by
    unfold zv_lp0
    rw [show zX (zv_gl P N (zv_np P N) (zv_y P N) (zv_oo P N c (zv_y P N))) (zv_np P N * zv_np P N) l = _ from e, a3]
  have b2 : zv_lq0 P N c (zv_np P N) (zv_y P N) l = zj_x P N c (zX (zf_gl (zf_L P N c) (zw_on P N c)) (zw_on P N c * zw_on P N c) l % zw_on P N c) := by
    unfold zv_lq0
    rw [show zX (zv_gl P N (zv_np P N) (zv_y P N) (zv_oo P N c (zv_y P N))) (zv_np P N * zv_np P N) l = _ from e, a4]
  refine ⟨_, _, a1, a2, (zgd_iff hok hNS h64 a1 a2).mp t2, rfl, rfl, rfl, ?_, b1, b2⟩
  unfold zw_ln zv_line
  rw [b1, b2]
  rfl
