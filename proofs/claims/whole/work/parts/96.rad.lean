/-! the radical; vectors and points -/
theorem zzb_iff {P N : Nat} {u : Nat → Nat} : zzb P N u = true ↔ ∀ i, i < N → u i % P = 0 := by
  unfold zzb
  rw [zA_iff]
  exact ⟨fun h i hi => by have := h i hi; rw [beq_iff_eq] at this; exact this, fun h i hi => by rw [beq_iff_eq]; exact h i hi⟩
theorem zrb_iff {P N : Nat} {c u : Nat → Nat} : zrb P N c u = true ↔ ∀ i, i < N → zz_nr N c u i % P = 0 := by
  unfold zrb
  rw [zA_iff]
  exact ⟨fun h i hi => by have := h i hi; rw [beq_iff_eq] at this; exact this, fun h i hi => by rw [beq_iff_eq]; exact h i hi⟩
theorem zzb_rb {P N : Nat} {c u : Nat → Nat} (h : zzb P N u = true) : zrb P N c u = true := by
  rw [zrb_iff]
  intro i hi
  rw [zz_nr_md (y := fun i => 0 * u i) (fun j hj => by rw [zzb_iff.mp h j hj, Nat.zero_mul, Nat.zero_mod]) hi, zz_nr_mul, Nat.zero_mul, Nat.zero_mod]
theorem zrb_B {P N : Nat} {c u : Nat → Nat} (h : zrb P N c u = true) (v : Nat → Nat) : zB N c u v % P = 0 := zB_nm0 (zrb_iff.mp h)
/-- P odd: the radical is 0 -/
theorem zrad_odd {P N : Nat} {c : Nat → Nat} (hP : P = 3 ∨ P = 5) (hNS : zNS P N c) : zVS P N (fun u => zin (zrb P N c u)) = 1 := by
  rw [zVS_congr N (g := fun u => zin (zzb P N u)) (fun u => congrArg zin (zb_iff ?_))]
  · exact zzb_1 (by omega) N
  · constructor
    · intro h
      have h1 := zrb_B h u
      rw [zB_self] at h1
      have h2 : zv_sum N c u % P = 0 := by rcases hP with rfl | rfl <;> omega
      exact zzb_iff.mpr (hNS u h2 (zrb_iff.mp h))
    · exact zzb_rb
/-- P is 2: the radical has one vector, or two -/
theorem zrad_2 {N : Nat} {c : Nat → Nat} (hNS : zNS 2 N c) : zVS 2 N (fun u => zin (zrb 2 N c u)) = 1 ∨ zVS 2 N (fun u => zin (zrb 2 N c u)) = 2 := by
  by_cases q : ∃ u, zrb 2 N c u = true ∧ zzb 2 N u = false
  · obtain ⟨u0, h1, h2⟩ := q
    refine Or.inr ?_
    have s1 : ∀ u, zrb 2 N c u = true → zzb 2 N u = false → zv_sum N c u % 2 = 1 := fun u a1 a2 => by
      rcases (show zv_sum N c u % 2 = 0 ∨ zv_sum N c u % 2 = 1 by omega) with e | e
      · rw [zzb_iff.mpr (hNS u e (zrb_iff.mp a1))] at a2; cases a2
      · exact e
    have e : ∀ u, zin (zrb 2 N c u) = zin (zzb 2 N u) + zin (zzb 2 N (fun i => u i + u0 i)) := by
      intro u
      have hrs : zrb 2 N c (fun i => u i + u0 i) = zrb 2 N c u := by
        refine zb_iff ?_
        rw [zrb_iff, zrb_iff]
        constructor
        · intro h i hi
          have := h i hi
          rw [zz_nr_add, zmd_a0 (zrb_iff.mp h1 i hi)] at this
          exact this
        · intro h i hi
          rw [zz_nr_add, zmd_a0 (zrb_iff.mp h1 i hi)]
          exact h i hi
      cases hr : zrb 2 N c u with
      | false =>
        have a1 : zzb 2 N u = false := Bool.eq_false_iff.mpr (fun z => by rw [zzb_rb z] at hr; cases hr)
        have a2 : zzb 2 N (fun i => u i + u0 i) = false := Bool.eq_false_iff.mpr (fun z => by rw [← hrs, zzb_rb z] at hr; cases hr)
        rw [a1, a2]; rfl
      | true =>
        cases hz : zzb 2 N u with
        | true =>
          have a2 : zzb 2 N (fun i => u i + u0 i) = false := Bool.eq_false_iff.mpr (fun z => by
            have : zzb 2 N u0 = true := zzb_iff.mpr (fun i hi => by have b1 := zzb_iff.mp z i hi; have b2 := zzb_iff.mp hz i hi; omega)
            rw [this] at h2; cases h2)
          rw [a2]; rfl
        | false =>
          have a2 : zzb 2 N (fun i => u i + u0 i) = true := by
            refine zzb_iff.mpr (hNS _ ?_ (zrb_iff.mp (by rw [hrs]; exact hr)))
            rw [zv_sum_add]
            have b1 := s1 u hr hz
            have b2 := s1 u0 h1 h2
            have b3 := zrb_B hr u0
            omega
          rw [a2]; rfl
    rw [zVS_congr N e, zVS_add, zzb_1 (by decide), zVS_tr u0 N (f := fun u => zin (zzb 2 N u)) (fun x y h => by
      show zin (zA _ N) = zin (zA _ N)
      rw [zA_cg N (fun i hi => by rw [h i hi])]), zzb_1 (by decide)]
  · refine Or.inl ?_
    rw [zVS_congr N (g := fun u => zin (zzb 2 N u)) (fun u => congrArg zin (zb_iff ⟨fun h => ?_, zzb_rb⟩))]
    · exact zzb_1 (by decide) N
    · cases hz : zzb 2 N u with
      | true => rfl
      | false => exact absurd ⟨u, h, hz⟩ q
/-! sums over vectors by codes -/
theorem zS_mulP {P : Nat} (f : Nat → Nat) : ∀ n, zS f (n * P) = zS (fun t => zS (fun a => f (t * P + a)) P) n
  | 0 => by rw [Nat.zero_mul]; rfl
  | n + 1 => by
    have e : ∀ m, zS f (n * P + m) = zS f (n * P) + zS (fun a => f (n * P + a)) m := by
      intro m
      induction m with
      | zero => rfl
      | succ m ih => show zS f (n * P + m) + f (n * P + m) = zS f (n * P) + (zS (fun a => f (n * P + a)) m + f (n * P + m)); rw [ih]; omega
    show _ = zS (fun t => zS (fun a => f (t * P + a)) P) n + zS (fun a => f (n * P + a)) P
    rw [← zS_mulP f n, Nat.succ_mul, e]
theorem zv_dg_up {P : Nat} (hP0 : 0 < P) {n t a : Nat} (ha : a < P) : zv_dg P (n + 1) (t * P + a) = zup (zv_dg P n t) n a := by
  funext i
  unfold zv_dg zup
  by_cases e : i = n
  · subst e
    rw [if_pos (by omega), if_pos rfl, show i + 1 - 1 - i = 0 by omega, Nat.pow_zero, Nat.div_one, Nat.mul_comm, Nat.mul_add_mod, Nat.mod_eq_of_lt ha]
  · rw [if_neg e]
    show _ = if i < n then t / P ^ (n - 1 - i) % P else 0
    by_cases q : i < n
    · rw [if_pos (by omega), if_pos q, show n + 1 - 1 - i = (n - 1 - i) + 1 by omega, Nat.pow_succ, Nat.mul_comm (P ^ (n - 1 - i)), ← Nat.div_div_eq_div_mul, Nat.mul_comm t, Nat.mul_add_div hP0, Nat.div_eq_of_lt ha, Nat.add_zero]
    · rw [if_neg (by omega), if_neg q]
theorem zVS_cd {P : Nat} (hP0 : 0 < P) : ∀ n (F : (Nat → Nat) → Nat), zVS P n F = zS (fun t => F (zv_dg P n t)) (P ^ n)
  | 0, F => by
    show F _ = 0 + F _
    rw [Nat.zero_add]
    exact congrArg F (by funext i; unfold zv_dg; rw [if_neg (by omega)])
  | n + 1, F => by
    show zS (fun a => zVS P n (fun x => F (zup x n a))) P = _
    rw [Nat.pow_succ, zS_mulP, zS_congr P (fun a _ => zVS_cd hP0 n (fun x => F (zup x n a))), ← zS_swap]
    exact zS_congr _ (fun t _ => zS_congr P (fun a ha => by rw [zv_dg_up hP0 ha]))
theorem zS_zC (h : Nat → Bool) : ∀ n, zS (fun t => zin (h t)) n = zC h n
  | 0 => rfl
  | n + 1 => by show zS (fun t => zin (h t)) n + zin (h n) = zC h n + (h n).toNat; rw [zS_zC h n]; rfl
def zld (P N : Nat) (x : Nat → Nat) : Nat := zv_ff (zv_rd P N x) 6
theorem zv_rd_lt {P N : Nat} (hP0 : 0 < P) (x : Nat → Nat) (i : Nat) : zv_rd P N x i < P := by
  unfold zv_rd; split
  · exact Nat.mod_lt _ hP0
  · exact hP0
theorem zld_md {P N : Nat} {x y : Nat → Nat} (h : ∀ i, i < N → x i % P = y i % P) : zld P N x = zld P N y := by
  unfold zld
  refine zv_ff_congr (fun i _ => ?_) 6
  unfold zv_rd
  split
  · exact h i (by assumption)
  · rfl
theorem zld_lt {P N : Nat} (hP0 : 0 < P) (x : Nat → Nat) : zld P N x < P := zv_ff_ltP hP0 (fun i _ => zv_rd_lt hP0 x i) 6
theorem zld_0 {P N : Nat} (hN : N ≤ 6) (x : Nat → Nat) : zld P N x = 0 ↔ zzb P N x = true := by
  rw [zzb_iff]
  constructor
  · intro h i hi
    have := zv_ff0 h i (by omega)
    unfold zv_rd at this
    rw [if_pos hi] at this
    exact this
  · intro h
    refine Classical.byContradiction (fun q => ?_)
    obtain ⟨k, -, k2, k3⟩ := zv_ff_ex 6 (Nat.le_refl _) q
    have k4 : zv_rd P N x k ≠ 0 := by rw [k3]; exact q
    unfold zv_rd at k4
    split at k4
    · exact k4 (h k (by assumption))
    · exact k4 rfl
theorem zld_sc {P N s : Nat} (hP : P = 2 ∨ P = 3 ∨ P = 5) (hs4 : s ≤ 4) (hs : s % P ≠ 0) (x : Nat → Nat) : zld P N (fun i => s * x i) = s * zld P N x % P := by
  have hP0 : 0 < P := by omega
  unfold zld
  rw [← zv_ff_map (x := zv_rd P N x) (f := fun a => s * a % P) (fun i _ => by
    show s * zv_rd P N x i % P = 0 ↔ _
    rw [zmd_1 hP hs4 hs, Nat.mod_eq_of_lt (zv_rd_lt hP0 x i)]) (by show s * 0 % P = 0; rw [Nat.mul_zero, Nat.zero_mod]) 6]
  refine zv_ff_congr (fun i _ => ?_) 6
  show zv_rd P N (fun i => s * x i) i = s * zv_rd P N x i % P
  unfold zv_rd
  split
  · rw [Nat.mul_mod s (x i % P), Nat.mod_mod, ← Nat.mul_mod]
  · rw [Nat.mul_zero, Nat.zero_mod]
theorem zmd_l1 {P s l : Nat} (hP : P = 2 ∨ P = 3 ∨ P = 5) (hs : s < P) (hs1 : 1 ≤ s) (hl : l < P) : (s * l % P == s) = (l == 1) := by
  refine zb_iff ?_
  rw [beq_iff_eq, beq_iff_eq]
  have e1 : s = 1 ∨ s = 2 ∨ s = 3 ∨ s = 4 := by omega
  rcases hP with rfl | rfl | rfl <;> rcases e1 with rfl | rfl | rfl | rfl <;> omega
theorem zS_lead {P l : Nat} (hl : l < P) : zin (l == 0) + zS (fun s => zin (l == s + 1)) (P - 1) = 1 := by
  rcases Nat.eq_zero_or_pos l with e | e
  · subst e
    rw [zS_congr (g := fun _ => 0) (P - 1) (fun s _ => by rw [show ((0 : Nat) == s + 1) = false from beq_eq_false_iff_ne.mpr (by omega)]; rfl), zS_zero]; rfl
  · rw [zS_at (k := l - 1) (P - 1) (fun i _ q => by rw [show (l == i + 1) = false from beq_eq_false_iff_ne.mpr (by omega)]; rfl), if_pos (by omega), show l - 1 + 1 = l by omega, show (l == l) = true from beq_self_eq_true l, zb_ne0 (by omega)]; rfl
/-- VECTORS AND POINTS: what is the same for all multiples -/
theorem zpts {P N : Nat} (hok : zv_ok P N) {f : (Nat → Nat) → Bool} (hf : ∀ x y, (∀ i, i < N → x i % P = y i % P) → f x = f y) (hsc : ∀ s x, s ≤ 4 → s % P ≠ 0 → f (fun i => s * x i) = f x) (h0 : f (fun _ => 0) = true) : zVS P N (fun v => zin (f v)) = 1 + (P - 1) * zC (fun p => f (zv_y P N p)) (zv_np P N) := by
  obtain ⟨hP0, hP5⟩ := zv_P5 hok.1
  have hN := zv_okN hok
  have hper : ∀ s, zper P N (fun v => zin (f v && (zld P N v == s))) := fun s x y h => by show zin _ = zin _; rw [hf x y h, zld_md h]
  have e1 : ∀ v, zin (f v) = zin (zzb P N v) + zS (fun s => zin (f v && (zld P N v == s + 1))) (P - 1) := by
    intro v
    have h1 := zS_lead (zld_lt (N := N) hP0 v)
    have h2 : (zld P N v == 0) = zzb P N v := zb_iff (by rw [beq_iff_eq]; exact zld_0 hN v)
    rw [h2] at h1
    rw [zS_congr (g := fun s => zin (f v) * zin (zld P N v == s + 1)) (P - 1) (fun s _ => zin_and _ _), zS_mull]
    cases hz : zzb P N v with
    | true =>
      have hfv : f v = true := by rw [hf v (fun _ => 0) (fun i hi => by rw [zzb_iff.mp hz i hi, Nat.zero_mod])]; exact h0
      rw [hz] at h1
      have h1 : 1 + zS (fun s => zin (zld P N v == s + 1)) (P - 1) = 1 := h1
      rw [hfv, show zS (fun s => zin (zld P N v == s + 1)) (P - 1) = 0 by omega]; rfl
    | false =>
      rw [hz] at h1
      have h1 : 0 + zS (fun s => zin (zld P N v == s + 1)) (P - 1) = 1 := h1
      rw [show zS (fun s => zin (zld P N v == s + 1)) (P - 1) = 1 by omega]
      show _ = 0 + _ * 1
      omega
  rw [zVS_congr N e1, zVS_add, zzb_1 hP0, zVS_S]
  have e2 : ∀ s, s < P - 1 → zVS P N (fun v => zin (f v && (zld P N v == s + 1))) = zVS P N (fun v => zin (f v && (zld P N v == 1))) := by
    intro s hs
    have hs0 : (s + 1) % P ≠ 0 := by rw [Nat.mod_eq_of_lt (by omega)]; omega
    rw [← zVS_sc hok.1 hs0 N (hper (s + 1))]
    refine zVS_congr N (fun v => ?_)
    show zin (f (fun i => (s + 1) * v i) && (zld P N (fun i => (s + 1) * v i) == s + 1)) = _
    rw [hsc (s + 1) v (by omega) hs0, zld_sc hok.1 (by omega) hs0, zmd_l1 hok.1 (by omega) (by omega) (zld_lt hP0 v)]
  rw [zS_congr (P - 1) e2, zS_const]
  congr 2
  rw [zVS_cd hP0, zS_zC, zC_congr (h := fun t => zv_l1 P N t && f (zv_dg P N t)) _ (fun t _ => ?_)]
  · have := zC_of (zv_l1 P N) (fun t => f (zv_dg P N t)) (P ^ N) (P ^ N) (Nat.le_refl _)
    rw [← this]
    rfl
  · rw [Bool.and_comm]
    congr 1
    unfold zv_l1 zld
    rw [zv_ff_congr (x := zv_rd P N (zv_dg P N t)) (y := zv_dg P N t) (fun i _ => ?_) 6]
    unfold zv_rd
    by_cases q : i < N
    · rw [if_pos q, Nat.mod_eq_of_lt (zv_dg_lt hP0)]
    · rw [if_neg q]; unfold zv_dg; rw [if_neg q]
