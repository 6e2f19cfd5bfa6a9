/-! forms that change: the class's cells and the reference's -/
theorem zv_val_cg {P N : Nat} {c x y : Nat → Nat} (h : ∀ i, i < N → x i = y i) : zv_val P N c x = zv_val P N c y := zv_sum_md (fun i hi => by rw [h i hi])
theorem zB_cg {P N : Nat} {c x y x' y' : Nat → Nat} (h : ∀ i, i < N → x i = x' i) (k : ∀ i, i < N → y i = y' i) : zB N c x y % P = zB N c x' y' % P := zB_md (fun i hi => by rw [h i hi]) (fun i hi => by rw [k i hi])
theorem zB_ee {N : Nat} {c : Nat → Nat} {k l : Nat} (hk : k < N) (hl : l < N) : zB N c (zv_e k) (zv_e l) = if l = k then 2 * zx_S c k k else zx_S c k l := by
  rw [zB_e hl]
  unfold zz_nr
  rw [zS_at (k := k) N (fun i _ q => by unfold zv_e; rw [if_neg q, Nat.mul_zero]), if_pos hk]
  unfold zv_e zx_S
  rw [if_pos rfl, Nat.mul_one]
  by_cases e : l = k
  · subst e; rw [if_pos rfl, if_pos rfl]; omega
  · rw [if_neg e, if_neg e, zq_pl_c l k]; omega
theorem zv_sum_e {N : Nat} {c : Nat → Nat} {k : Nat} (hk : k < N) : zv_sum N c (zv_e k) = zx_S c k k := by
  have h := zB_self N c (zv_e k)
  rw [zB_ee hk hk, if_pos rfl] at h
  omega
theorem zx_S_E {N : Nat} {c c' : Nat → Nat} (h : zc_E N c c') {k l : Nat} (hk : k < N) (hl : l < N) : zx_S c k l = zx_S c' k l := by
  unfold zx_S zq_pl
  split
  · exact h k l (by omega) hl
  · exact h l k (by omega) hk
theorem zx_S_s {c : Nat → Nat} (k l : Nat) : zx_S c k l = zx_S c l k := by unfold zx_S; rw [zq_pl_c]
theorem zc_E_S {N : Nat} {c c' : Nat → Nat} (h : ∀ k l, k ≤ l → l < N → zx_S c k l = zx_S c' k l) : zc_E N c c' := fun i j hij hj => by
  have := h i j hij hj
  unfold zx_S at this
  rw [zq_pl_le hij] at this
  exact this
/-- the new coefficients by what stands at the rows -/
theorem zi_c_S {P N : Nat} {c im m0 : Nat → Nat} (hP : P = 2 ∨ P = 3 ∨ P = 5) (hN : N ≤ 6) {i j : Nat} (hij : i ≤ j) (hj : j < N) {x y : Nat → Nat} (hx : ∀ t, t < N → zi_row im i t = x t) (hy : ∀ t, t < N → zi_row im j t = y t) : zx_S (zi_c P N c im m0) i j = if i = j then zv_val P N c x else zB N c x y % P := by
  unfold zx_S
  rw [zq_pl_le hij]
  unfold zi_c
  rw [if_pos (by omega), show (6 * i + j) / 6 = i by omega, show (6 * i + j) % 6 = j by omega]
  by_cases e : i = j
  · rw [if_pos e, if_pos e]; exact zv_val_cg hx
  · rw [if_neg e, if_neg e, zv_pol_B hP]; exact zB_cg hx hy
theorem zi_idr {k t : Nat} (ht : t < 6) (hk : k < 6) : zi_id (6 * k + t) = zv_e k t := by
  unfold zi_id zv_e
  by_cases e : t = k
  · subst e; rw [if_pos (by omega), if_pos rfl]
  · rw [if_neg (by omega), if_neg e]
theorem zi_swr {i j k t : Nat} (hi : i < 6) (hj : j < 6) (hij : i ≠ j) (hk : k < 6) (ht : t < 6) : zi_row (zi_sw i j) k t = zv_e (zx_sg i j k) t := by
  unfold zi_row zi_sw zu_c
  rw [zi_idr ht hk]
  unfold zv_e zx_sg
  by_cases e1 : k = i
  · subst e1
    rw [if_pos rfl]
    by_cases e2 : t = j
    · subst e2
      rw [if_neg (by omega), if_pos rfl, if_pos rfl]
    · rw [if_neg (by omega), if_neg (by omega), if_neg e2]
      by_cases e3 : t = k
      · rw [if_neg (by omega), if_pos (by omega)]
      · rw [if_neg (by omega), if_neg (by omega), if_neg e3]
  · rw [if_neg e1]
    by_cases e2 : k = j
    · subst e2
      rw [if_pos rfl]
      by_cases e3 : t = i
      · subst e3
        rw [if_pos rfl, if_pos rfl]
      · rw [if_neg (by omega), if_neg (by omega), if_neg e3]
        by_cases e4 : t = k
        · rw [if_pos (by omega)]
        · rw [if_neg (by omega), if_neg (by omega), if_neg e4]
    · rw [if_neg e2, if_neg (by omega), if_neg (by omega), if_neg (by omega), if_neg (by omega)]
theorem zc_swap {P N : Nat} {c c1 c2 m0 : Nat → Nat} (hok : zv_ok P N) (h : zc_E N c c1) (hcP : ∀ k l, k < N → l < N → zx_S c1 k l < P) {i j : Nat} (hi : i < N) (hj : j < N) (hij : i ≠ j) (hrel : ∀ k l, k < N → l < N → zx_S c2 k l = zx_S c1 (zx_sg i j k) (zx_sg i j l)) : zc_E N (zi_c P N c (zi_sw i j) m0) c2 := by
  have hN := zv_okN hok
  refine zc_E_S (fun k l hkl hl => ?_)
  have hk1 := zx_sgN hi hj (show k < N by omega)
  have hl1 := zx_sgN hi hj hl
  rw [zi_c_S hok.1 hN hkl hl (x := zv_e (zx_sg i j k)) (y := zv_e (zx_sg i j l)) (fun t ht => zi_swr (by omega) (by omega) hij (by omega) (by omega)) (fun t ht => zi_swr (by omega) (by omega) hij (by omega) (by omega)), hrel k l (by omega) hl]
  by_cases e : k = l
  · subst e
    rw [if_pos rfl]
    unfold zv_val
    rw [zv_sum_e hk1, zx_S_E h hk1 hk1, Nat.mod_eq_of_lt (hcP _ _ hk1 hk1)]
  · have hne : zx_sg i j l ≠ zx_sg i j k := by
      unfold zx_sg
      intro q
      split at q <;> split at q <;> first | omega | (split at q <;> first | omega | (split at q <;> omega))
    rw [if_neg e, zB_ee hk1 hl1, if_neg hne, zx_S_E h hk1 hl1, Nat.mod_eq_of_lt (hcP _ _ hk1 hl1)]
/-- rows of plus and scale -/
theorem zi_plr {i j q k t : Nat} (hi : i < 6) (hj : j < 6) (hij : i ≠ j) (hk : k < 6) (ht : t < 6) : zi_row (zu_c zi_id (6 * j + i) q) k t = if k = j then zv_e j t + q * zv_e i t else zv_e k t := by
  unfold zi_row zu_c
  rw [zi_idr ht hk]
  by_cases e1 : k = j
  · subst e1
    rw [if_pos rfl]
    by_cases e2 : t = i
    · subst e2
      rw [if_pos rfl]
      unfold zv_e
      rw [if_neg hij, if_pos rfl]; omega
    · rw [if_neg (by omega)]
      unfold zv_e
      rw [if_neg e2]; omega
  · rw [if_neg e1, if_neg (by omega)]
theorem zi_scr {i q k t : Nat} (hi : i < 6) (hk : k < 6) (ht : t < 6) : zi_row (zu_c zi_id (7 * i) q) k t = if k = i then q * zv_e i t else zv_e k t := by
  unfold zi_row zu_c
  rw [zi_idr ht hk]
  by_cases e1 : k = i
  · subst e1
    rw [if_pos rfl]
    unfold zv_e
    by_cases e2 : t = k
    · subst e2; rw [if_pos (by omega), if_pos rfl]; omega
    · rw [if_neg (by omega), if_neg e2]; omega
  · rw [if_neg e1, if_neg (by omega)]
theorem zc_plus {P N : Nat} {c c1 c2 m0 : Nat → Nat} (hok : zv_ok P N) (h : zc_E N c c1) (hcP : ∀ k l, k < N → l < N → zx_S c1 k l < P) {i j q : Nat} (hi : i < N) (hj : j < N) (hij : i ≠ j) (hrel : ∀ k l, k < N → l < N → zx_S c2 k l = zx_up (zx_sh P (zx_S c1) i j q N) i j ((zx_S c1 i j + 2 * q * zx_S c1 i i) % P) k l) : zc_E N (zi_c P N c (zu_c zi_id (6 * j + i) q) m0) c2 := by
  have hN := zv_okN hok
  have hS : ∀ k l, k < N → l < N → zx_S c k l = zx_S c1 k l := fun k l hk hl => zx_S_E h hk hl
  refine zc_E_S (fun k l hkl hl => ?_)
  have hk : k < N := by omega
  rw [zi_c_S hok.1 hN hkl hl (x := fun t => if k = j then zv_e j t + q * zv_e i t else zv_e k t) (y := fun t => if l = j then zv_e j t + q * zv_e i t else zv_e l t) (fun t ht => zi_plr (by omega) (by omega) hij (by omega) (by omega)) (fun t ht => zi_plr (by omega) (by omega) hij (by omega) (by omega)), hrel k l hk hl]
  by_cases e : k = l
  · subst e
    rw [if_pos rfl]
    unfold zx_up
    rw [if_neg (by omega)]
    unfold zx_sh zv_val
    by_cases e1 : k = j
    · subst e1
      simp only [if_pos]
      rw [if_pos (And.intro trivial trivial)] <;> (try rfl)
      rw [show (fun t => zv_e k t + q * zv_e i t) = (fun t => zv_e k t + (fun s => q * zv_e i s) t) from rfl, zv_sum_add, zv_sum_mul, zB_mul_r, zv_sum_e hk, zv_sum_e hi, zB_ee hk hi, if_neg hij, hS _ _ hk hk, hS _ _ hi hi, hS _ _ hk hi, zx_S_s k i]
      congr 1
      grind
    · simp only [if_neg e1]
      rw [if_neg (fun z => e1 z.1), if_neg (fun z => e1 z.1), if_neg (fun z => e1 z.1), zv_sum_e hk, hS _ _ hk hk, Nat.mod_eq_of_lt (hcP _ _ hk hk)]
  · rw [if_neg e]
    unfold zx_up
    by_cases e1 : k = j
    · have e2 : l ≠ j := by omega
      subst e1
      simp only [if_pos, if_neg e2]
      have e3 : zB N c (fun t => zv_e k t + q * zv_e i t) (zv_e l) = zB N c (zv_e k) (zv_e l) + q * zB N c (zv_e i) (zv_e l) := by
        rw [show (fun t => zv_e k t + q * zv_e i t) = (fun t => zv_e k t + (fun s => q * zv_e i s) t) from rfl, zB_add_l, zB_mul_l]
      rw [e3, zB_ee hk hl, zB_ee hi hl, if_neg (fun z => e z.symm)]
      by_cases e4 : l = i
      · subst e4
        rw [if_pos rfl, if_pos (Or.inr ⟨by first | rfl | trivial, by first | rfl | trivial⟩), hS _ _ hk hl, hS _ _ hl hl, zx_S_s k l]
        congr 1
        grind
      · rw [if_neg e4, if_neg (by omega)]
        unfold zx_sh
        rw [if_neg (by omega), if_pos ⟨rfl, e4, hl⟩, hS _ _ hk hl, hS _ _ hi hl]
    · simp only [if_neg e1]
      by_cases e2 : l = j
      · subst e2
        simp only [if_pos]
        have e3 : zB N c (zv_e k) (fun t => zv_e l t + q * zv_e i t) = zB N c (zv_e k) (zv_e l) + q * zB N c (zv_e k) (zv_e i) := by
          rw [show (fun t => zv_e l t + q * zv_e i t) = (fun t => zv_e l t + (fun s => q * zv_e i s) t) from rfl, zB_add_r, zB_mul_r]
        rw [e3, zB_ee hk hl, zB_ee hk hi, if_neg (fun z => e z.symm)]
        by_cases e4 : k = i
        · subst e4
          rw [if_pos rfl, if_pos (Or.inl ⟨by first | rfl | trivial, by first | rfl | trivial⟩), hS _ _ hk hl, hS _ _ hk hk]
          congr 1
          grind
        · rw [if_neg (fun z => e4 z.symm), if_neg (by omega)]
          unfold zx_sh
          rw [if_neg (by omega), if_neg (by omega), if_pos ⟨rfl, e4, hk⟩, hS _ _ hk hl, hS _ _ hk hi, zx_S_s k l, zx_S_s k i]
      · simp only [if_neg e2]
        rw [zB_ee hk hl, if_neg (fun z => e z.symm), if_neg (by omega)]
        unfold zx_sh
        rw [if_neg (by omega), if_neg (by omega), if_neg (by omega), hS _ _ hk hl, Nat.mod_eq_of_lt (hcP _ _ hk hl)]
theorem zc_scale {P N : Nat} {c c1 c2 m0 : Nat → Nat} (hok : zv_ok P N) (h : zc_E N c c1) (hcP : ∀ k l, k < N → l < N → zx_S c1 k l < P) {i q : Nat} (hi : i < N) (hrel : ∀ k l, k < N → l < N → zx_S c2 k l = zx_st P (zx_S c1) i q N k l) : zc_E N (zi_c P N c (zu_c zi_id (7 * i) q) m0) c2 := by
  have hN := zv_okN hok
  have hS : ∀ k l, k < N → l < N → zx_S c k l = zx_S c1 k l := fun k l hk hl => zx_S_E h hk hl
  refine zc_E_S (fun k l hkl hl => ?_)
  have hk : k < N := by omega
  rw [zi_c_S hok.1 hN hkl hl (x := fun t => if k = i then q * zv_e i t else zv_e k t) (y := fun t => if l = i then q * zv_e i t else zv_e l t) (fun t ht => zi_scr (by omega) (by omega) (by omega)) (fun t ht => zi_scr (by omega) (by omega) (by omega)), hrel k l hk hl]
  unfold zx_st
  by_cases e : k = l
  · subst e
    rw [if_pos rfl]
    unfold zv_val
    by_cases e1 : k = i
    · subst e1
      simp only [if_pos]
      rw [zv_sum_mul, zv_sum_e hk, hS _ _ hk hk]
      simp only [hk, and_self, if_true]
    · simp only [if_neg e1]
      rw [if_neg (fun z => e1 z.1), if_neg (fun z => e1 z.1), zv_sum_e hk, hS _ _ hk hk, Nat.mod_eq_of_lt (hcP _ _ hk hk)]
  · rw [if_neg e]
    by_cases e1 : k = i
    · have e2 : l ≠ i := by omega
      subst e1
      simp only [if_pos, if_neg e2]
      rw [zB_mul_l, zB_ee hk hl, if_neg (fun z => e z.symm), hS _ _ hk hl]
      simp only [hl, and_self, if_true]
    · simp only [if_neg e1]
      rw [if_neg (fun z => e1 z.1)]
      by_cases e2 : l = i
      · subst e2
        simp only [if_pos]
        rw [zB_mul_r, zB_ee hk hl, if_neg (fun z => e z.symm), hS _ _ hk hl, zx_S_s k l]
        simp only [hk, and_self, if_true]
      · simp only [if_neg e2]
        rw [if_neg (fun z => e2 z.1), zB_ee hk hl, if_neg (fun z => e z.symm), hS _ _ hk hl, Nat.mod_eq_of_lt (hcP _ _ hk hl)]
theorem zc_times {P N : Nat} {c c1 c2 : Nat → Nat} (h : zc_E N c c1) {q : Nat} (hrel : ∀ k l, k < N → l < N → zx_S c2 k l = (q * zx_S c1 k l) % P) : zc_E N (fun k => c k * q % P) c2 := by
  refine zc_E_S (fun k l hkl hl => ?_)
  rw [hrel k l (by omega) hl, ← zx_S_E h (show k < N by omega) hl]
  show c (zq_pl k l) * q % P = q * c (zq_pl k l) % P
  rw [Nat.mul_comm]
theorem zc_put {N : Nat} {c c1 : Nat → Nat} (h : zc_E N c c1) (t v : Nat) : zc_E N (zu_c c t v) (zu_c c1 t v) := fun i j hij hj => by
  unfold zu_c
  split
  · rfl
  · exact h i j hij hj
/-! what depends on the coefficients that count -/
theorem zM_cg {f g : Nat → Bool} : ∀ n k, (∀ i, k ≤ i → i < k + n → f i = g i) → zM f k n = zM g k n
  | 0, _, _ => rfl
  | n + 1, k, h => by
    unfold zM
    rw [h k (by omega) (by omega), zM_cg n (k + 1) (fun i h1 h2 => h i (by omega) (by omega))]
theorem zd_det_E {P N : Nat} : ∀ n k (M M' : Nat → Nat → Nat) t, k + n = N → (∀ i j, i < N → j < N → M i j = M' i j) → zd_det P N n k M t = zd_det P N n k M' t
  | 0, _, _, _, _, _, _ => rfl
  | n + 1, k, M, M', t, hk, h => by
    unfold zd_det
    have e : zM (fun i => M i k != 0) k (N - k) = zM (fun i => M' i k != 0) k (N - k) := zM_cg _ _ (fun i h1 h2 => by show (M i k != 0) = (M' i k != 0); rw [h i k (by omega) (by omega)])
    rw [e]
    have hr := (zM_ge (fun i => M' i k != 0) (N - k) k).2.1
    generalize zM (fun i => M' i k != 0) k (N - k) = r at hr
    by_cases q : r = N
    · rw [if_pos q, if_pos q]
    · rw [if_neg q, if_neg q]
      have hsw : ∀ i j, i < N → j < N → zd_sw M k r i j = zd_sw M' k r i j := fun i j hi hj => by
        unfold zd_sw
        rw [h r j (by omega) hj, h k j (by omega) hj, h i j hi hj]
      rw [hsw k k (by omega) (by omega)]
      refine zd_det_E n (k + 1) _ _ _ (by omega) (fun i j hi hj => ?_)
      unfold zd_cl
      rw [hsw i j hi hj, hsw i k hi (by omega), hsw k j (by omega) hj]
theorem zd_mat_E {P N : Nat} {c c' : Nat → Nat} (h : zc_E N c c') {i j : Nat} (hi : i < N) (hj : j < N) : zd_mat P c i j = zd_mat P c' i j := by
  unfold zd_mat
  by_cases e : i = j
  · subst e
    rw [if_pos rfl, if_pos rfl, h i i (Nat.le_refl _) hi]
  · rw [if_neg e, if_neg e]
    by_cases q : i < j
    · rw [if_pos q, if_pos q, h i j (by omega) hj]
    · rw [if_neg q, if_neg q, h j i (by omega) hi]
theorem zd_disc_E {P N : Nat} {c c' : Nat → Nat} (h : zc_E N c c') : zd_disc P N c = zd_disc P N c' := by
  unfold zd_disc
  rw [zd_det_E N 0 (zd_mat P c) (zd_mat P c') 1 (by omega) (fun i j hi hj => zd_mat_E h hi hj)]
theorem zw_oo_E {P N : Nat} {c c' : Nat → Nat} (h : zc_E N c c') : zw_oo P N c = zw_oo P N c' := by
  funext k
  simp only [zw_oo, zv_oo, zv_val_E h]
theorem zv_pol_E {P N : Nat} {c c' : Nat → Nat} (h : zc_E N c c') : zv_pol P N c = zv_pol P N c' := by
  funext x y
  simp only [zv_pol, zv_val_E h]
theorem zv_oo_E {P N : Nat} {c c' : Nat → Nat} (h : zc_E N c c') : zv_oo P N c = zv_oo P N c' := by
  funext y k
  simp only [zv_oo, zv_val_E h]
theorem zw_on_E {P N : Nat} {c c' : Nat → Nat} (h : zc_E N c c') : zw_on P N c = zw_on P N c' := by simp only [zw_on, zw_oo_E h]
theorem zv_isS_E {P N : Nat} {c c' : Nat → Nat} (h : zc_E N c c') : zv_isS P N c = zv_isS P N c' := by
  funext np y o p
  simp only [zv_isS, zv_pol_E h]
theorem zw_ns_E {P N : Nat} {c c' : Nat → Nat} (h : zc_E N c c') : zw_ns P N c = zw_ns P N c' := by simp only [zw_ns, zv_ns, zv_isS_E h, zv_oo_E h]
theorem zw_nl_E {P N : Nat} {c c' : Nat → Nat} (h : zc_E N c c') : zw_nl P N c = zw_nl P N c' := by simp only [zw_nl, zv_nl, zv_oo_E h]
theorem zv_lp0_E {P N : Nat} {c c' : Nat → Nat} (h : zc_E N c c') : zv_lp0 P N c = zv_lp0 P N c' := by
  funext np y l
  simp only [zv_lp0, zv_oo_E h]
theorem zv_lq0_E {P N : Nat} {c c' : Nat → Nat} (h : zc_E N c c') : zv_lq0 P N c = zv_lq0 P N c' := by
  funext np y l
  simp only [zv_lq0, zv_oo_E h]
theorem zw_npl_E {P N : Nat} {c c' : Nat → Nat} (h : zc_E N c c') : zw_npl P N c = zw_npl P N c' := by simp only [zw_npl, zv_npl, zv_nl, zv_oo_E h, zv_lp0_E h, zv_lq0_E h]
theorem zw_ln_E {P N : Nat} {c c' : Nat → Nat} (h : zc_E N c c') : zw_ln P N c = zw_ln P N c' := by
  funext l
  simp only [zw_ln, zv_line, zv_lp0_E h, zv_lq0_E h]
theorem zw_pl_E {P N : Nat} {c c' : Nat → Nat} (h : zc_E N c c') : zw_pl P N c = zw_pl P N c' := by
  funext l
  simp only [zw_pl, zv_plane, zv_line, zv_nl, zv_oo_E h, zv_lp0_E h, zv_lq0_E h]
theorem zw_kd_E {P N : Nat} {c c' : Nat → Nat} (h : zc_E N c c') : zw_kd P N c = zw_kd P N c' := by simp only [zw_kd, zw_ns_E h, zw_nl_E h, zw_npl_E h]
