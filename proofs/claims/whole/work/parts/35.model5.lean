/-! the reference: the point of a vector, collinear points (written by wip/whole/gen_m5.py) -/
def zv_inv (P f : Nat) : Nat := if f * 1 % P = 1 then 1 else if f * 2 % P = 1 then 2 else if f * 3 % P = 1 then 3 else 4
def zv_enc (P : Nat) (z : Nat → Nat) : Nat → Nat
  | 0 => 0
  | n + 1 => zv_enc P z n * P + z n
/-- the code of the multiple of a vector that begins with 1 -/
def zv_nrm (P : Nat) (x : Nat → Nat) : Nat → Nat := fun i => x i * zv_inv P (zv_ff x 6) % P
def zv_cdx (P N : Nat) (x : Nat → Nat) : Nat := zv_enc P (zv_nrm P x) N
/-- the point of a vector -/
def zv_pt (P N : Nat) (x : Nat → Nat) : Nat := zv_cnt P N (zv_cdx P N x)
theorem zv_P5 {P : Nat} (h : P = 2 ∨ P = 3 ∨ P = 5) : 0 < P ∧ P ≤ 5 := by omega
theorem zv_inv_ok (P : Nat) (_ : P < 6) (h : P = 2 ∨ P = 3 ∨ P = 5) : ∀ f, f < P → f ≠ 0 → f * zv_inv P f % P = 1 ∧ 1 ≤ zv_inv P f ∧ zv_inv P f ≤ 4 := by
  rcases h with rfl | rfl | rfl <;> decide +kernel
theorem zv_inv_le : ∀ P, P < 6 → ∀ f, f < 6 → ∀ b, b < 5 → 1 ≤ b → f * b % P = 1 → zv_inv P f ≤ b := by decide +kernel
theorem zv_inv_nz (P : Nat) (_ : P < 6) (h : P = 2 ∨ P = 3 ∨ P = 5) : ∀ f, f < P → f ≠ 0 → ∀ x, x < P → (x * zv_inv P f % P = 0 ↔ x = 0) := by
  rcases h with rfl | rfl | rfl <;> decide +kernel
theorem zv_enc_lt {P : Nat} {z : Nat → Nat} (n : Nat) (h : ∀ i, i < n → z i < P) : zv_enc P z n < P ^ n := by
  induction n with
  | zero => exact Nat.one_pos
  | succ n ih =>
    have h1 := ih (fun i hi => h i (by omega))
    have h2 := h n (by omega)
    show zv_enc P z n * P + z n < P ^ n * P
    have h3 : (zv_enc P z n + 1) * P ≤ P ^ n * P := Nat.mul_le_mul_right _ h1
    rw [Nat.add_mul] at h3
    omega
theorem zv_enc_dg {P : Nat} {z : Nat → Nat} (h0 : 0 < P) (n : Nat) (h : ∀ i, i < n → z i < P) : ∀ i, i < n → zv_dg P n (zv_enc P z n) i = z i := by
  induction n with
  | zero => intro i hi; omega
  | succ n ih =>
    intro i hi
    unfold zv_dg
    rw [if_pos hi]
    show (zv_enc P z n * P + z n) / P ^ (n - i) % P = z i
    have h2 := h n (by omega)
    by_cases e : i = n
    · subst e
      rw [Nat.sub_self, Nat.pow_zero, Nat.div_one, Nat.mul_comm, Nat.mul_add_mod]
      exact Nat.mod_eq_of_lt h2
    · have h1 := ih (fun i hi => h i (by omega)) i (by omega)
      unfold zv_dg at h1
      rw [if_pos (by omega)] at h1
      rw [show n - i = (n - 1 - i) + 1 by omega, Nat.pow_succ, Nat.mul_comm (P ^ (n - 1 - i)) P, ← Nat.div_div_eq_div_mul]
      rw [show (zv_enc P z n * P + z n) / P = zv_enc P z n from by rw [Nat.mul_comm, Nat.mul_add_div h0, Nat.div_eq_of_lt h2, Nat.add_zero]]
      exact h1
theorem zv_ff_congr {x y : Nat → Nat} (h : ∀ i, i < 6 → x i = y i) (n : Nat) : zv_ff x n = zv_ff y n := by
  induction n with
  | zero => rfl
  | succ n ih => unfold zv_ff; rw [ih, h (5 - n) (by omega)]
theorem zv_ff_map {x : Nat → Nat} {f : Nat → Nat} (h : ∀ i, i < 6 → (f (x i) = 0 ↔ x i = 0)) (h0 : f 0 = 0) (n : Nat) : zv_ff (fun i => f (x i)) n = f (zv_ff x n) := by
  induction n with
  | zero => exact h0.symm
  | succ n ih =>
    unfold zv_ff
    by_cases e : x (5 - n) = 0
    · rw [if_pos e, if_pos ((h _ (by omega)).mpr e), ih]
    · rw [if_neg e, if_neg (fun q => e ((h _ (by omega)).mp q))]
/-- a vector: numbers below P, 0 behind the variables, not all 0 -/
def zv_vec (P N : Nat) (x : Nat → Nat) : Prop := (∀ i, i < 6 → x i < P) ∧ (∀ i, N ≤ i → i < 6 → x i = 0) ∧ zv_ff x 6 ≠ 0
theorem zv_ff_ltP {x : Nat → Nat} {P : Nat} (h0 : 0 < P) (h : ∀ i, i < 6 → x i < P) (n : Nat) : zv_ff x n < P := by
  induction n with
  | zero => exact h0
  | succ n ih => unfold zv_ff; split; exact ih; exact h _ (by omega)
theorem zv_cdx_ok {P N : Nat} {x : Nat → Nat} (hPP : P = 2 ∨ P = 3 ∨ P = 5) (hN6 : N ≤ 6) (hx : zv_vec P N x) : (∀ i, i < 6 → zv_dg P N (zv_cdx P N x) i = zv_nrm P x i) ∧ zv_l1 P N (zv_cdx P N x) = true ∧ 1 ≤ zv_cdx P N x ∧ zv_cdx P N x < P ^ N := by
  obtain ⟨hP0, hP5⟩ := zv_P5 hPP
  have hlt : ∀ i, i < N → zv_nrm P x i < P := fun i _ => Nat.mod_lt _ hP0
  have hff := zv_ff_ltP hP0 hx.1 6
  have hdg : ∀ i, i < 6 → zv_dg P N (zv_cdx P N x) i = zv_nrm P x i := by
    intro i hi
    by_cases h : i < N
    · exact zv_enc_dg hP0 N hlt i h
    · unfold zv_dg zv_nrm
      rw [if_neg h, hx.2.1 i (by omega) hi, Nat.zero_mul, Nat.zero_mod]
  have hl : zv_ff (zv_dg P N (zv_cdx P N x)) 6 = 1 := by
    rw [zv_ff_congr hdg]
    show zv_ff (fun i => (fun t => t * zv_inv P (zv_ff x 6) % P) (x i)) 6 = 1
    rw [zv_ff_map (f := fun t => t * zv_inv P (zv_ff x 6) % P) (fun i hi => zv_inv_nz P (by omega) hPP _ hff hx.2.2 _ (hx.1 i hi)) (by simp)]
    exact (zv_inv_ok P (by omega) hPP _ hff hx.2.2).1
  have hl1 : zv_l1 P N (zv_cdx P N x) = true := by unfold zv_l1; rw [hl]; rfl
  refine ⟨hdg, hl1, ?_, zv_enc_lt N hlt⟩
  rcases Nat.eq_zero_or_pos (zv_cdx P N x) with e | e
  · rw [e, zv_l1_0] at hl1; cases hl1
  · exact e
theorem zs_M_pointOf (g : Nat → Int32) (gl : Nat → Int64) (a : Nat → Nat → Int32) (al : Nat → Nat → Int64) (P N : Nat) (hP : g 0 = nI P) (hN : g 1 = nI N) (hPP : P = 2 ∨ P = 3 ∨ P = 5) (hN6 : N ≤ 6) (hA : P ^ N ≤ 729) (hnum : ∀ t, 1 ≤ t → t < P ^ N → a 4 t = if zv_l1 P N t then nI (zv_cnt P N t) else -1) (x : Nat → Nat) (hx : ∀ i, i < 6 → a 12 i = nI (x i)) (hv : zv_vec P N x) : zm_Ev zt_get 2 121 [.ref 0, .ref 12] (zw_M g gl a al) (fun v w => v = some (.int (nI (zv_pt P N x))) ∧ w = (zw_M g gl a al)) := by
  obtain ⟨hP0, hP5⟩ := zv_P5 hPP
  have hx4 : ∀ i, i < 6 → x i ≤ 4 := fun i hi => by have := hv.1 i hi; omega
  have hff := zv_ff_ltP hP0 hv.1 6
  obtain ⟨hi1, hi2, hi3⟩ := zv_inv_ok P (by omega) hPP _ hff hv.2.2
  obtain ⟨-, hl1, hc1, hc2⟩ := zv_cdx_ok hPP hN6 hv
  refine zr_ev zt_M_pointOf rfl rfl ?_
  show zm_Run zt_get 1 zt_M_pointOf (0, [some (.ref 0), some (.ref 12), none, none, none, none], [], (zw_M g gl a al)) _
  refine zr_go (t := (1, [some (.ref 0), some (.ref 12), none, none, none, none], [.ref 12], (zw_M g gl a al))) 1 rfl ?_
  refine zr_call (t := (4, [some (.ref 0), some (.ref 12), none, none, none, none], [], (zw_M g gl a al))) rfl (Nat.le_of_ble_eq_true rfl : 1 ≤ 1) (zs_M_firstOf_12 g gl a al x hx hx4) ?_
  rintro _ _ ⟨rfl, rfl⟩
  show zm_Run zt_get 1 zt_M_pointOf (4, [some (.ref 0), some (.ref 12), none, none, none, none], [.int (nI (zv_ff x 6))], (zw_M g gl a al)) _
  refine zr_go (t := (7, [some (.ref 0), some (.ref 12), some (.int (nI (zv_ff x 6))), some (.int 1), none, none], [], (zw_M g gl a al))) 3 rfl ?_
  refine zr_loop (fun zq : Nat => (7, [some (.ref 0), some (.ref 12), some (.int (nI (zv_ff x 6))), some (.int (nI zq)), none, none], [], (zw_M g gl a al))) (fun zq => 1 ≤ zq ∧ zq ≤ zv_inv P (zv_ff x 6)) (fun zq => 5 - zq) ?_ 1 ⟨Nat.le_refl _, hi2⟩
  rintro b ⟨hb1, hb2⟩ ih
  try dsimp only at *
  have hfb : zv_ff x 6 * b ≤ 5 * 5 := Nat.mul_le_mul (by omega) (by omega)
  have hmf : zv_ff x 6 * b % P < P := Nat.mod_lt _ hP0
  refine zr_go (t := (8, [some (.ref 0), some (.ref 12), some (.int (nI (zv_ff x 6))), some (.int (nI b)), none, none], [.int (nI (zv_ff x 6))], (zw_M g gl a al))) 1 rfl ?_
  refine zr_ieq (x := nI (zv_ff x 6)) (y := 0) (zv_ff x 6) 0 rfl rfl (by omega) (by omega) (t := (29, [some (.ref 0), some (.ref 12), some (.int (nI (zv_ff x 6))), some (.int (nI b)), none, none], [], (zw_M g gl a al))) (f := (11, [some (.ref 0), some (.ref 12), some (.int (nI (zv_ff x 6))), some (.int (nI b)), none, none], [], (zw_M g gl a al))) rfl (fun h1 => ?_) (fun h1 => ?_)
  · skip
    exact absurd h1 hv.2.2
  · skip
    refine zr_go (t := (18, [some (.ref 0), some (.ref 12), some (.int (nI (zv_ff x 6))), some (.int (nI b)), none, none], [.int (g 0), .int ((nI (zv_ff x 6)) * (nI b))], (zw_M g gl a al))) 5 rfl ?_
    refine zr_cd (t := (19, [some (.ref 0), some (.ref 12), some (.int (nI (zv_ff x 6))), some (.int (nI b)), none, none], [.int (((nI (zv_ff x 6)) * (nI b)) - ((nI (zv_ff x 6)) * (nI b)) / (g 0) * (g 0))], (zw_M g gl a al))) rfl (zn_ne0 hP (by omega) (by omega)) ?_
    rw [show ((nI (zv_ff x 6)) * (nI b)) - ((nI (zv_ff x 6)) * (nI b)) / (g 0) * (g 0) = nI (((zv_ff x 6) * b) % P) from (zn_rem (zn_mul rfl rfl) hP (by omega) (by omega) (by omega))]
    refine zr_go (t := (20, [some (.ref 0), some (.ref 12), some (.int (nI (zv_ff x 6))), some (.int (nI b)), none, none], [.int 1, .int (nI (((zv_ff x 6) * b) % P))], (zw_M g gl a al))) 1 rfl ?_
    refine zr_ieq (x := nI (((zv_ff x 6) * b) % P)) (y := 1) (((zv_ff x 6) * b) % P) 1 rfl rfl (by omega) (by omega) (t := (29, [some (.ref 0), some (.ref 12), some (.int (nI (zv_ff x 6))), some (.int (nI b)), none, none], [], (zw_M g gl a al))) (f := (23, [some (.ref 0), some (.ref 12), some (.int (nI (zv_ff x 6))), some (.int (nI b)), none, none], [], (zw_M g gl a al))) rfl (fun h2 => ?_) (fun h2 => ?_)
    · skip
      have e1 : b = zv_inv P (zv_ff x 6) := Nat.le_antisymm hb2 (zv_inv_le P (by omega) _ (by omega) b (by omega) hb1 h2)
      refine zr_go (t := (35, [some (.ref 0), some (.ref 12), some (.int (nI (zv_ff x 6))), some (.int (nI b)), some (.int 0), some (.int 0)], [], (zw_M g gl a al))) 4 rfl ?_
      refine zr_loop (fun zq : Nat × Nat => (35, [some (.ref 0), some (.ref 12), some (.int (nI (zv_ff x 6))), some (.int (nI b)), some (.int (nI zq.2)), some (.int (nI zq.1))], [], (zw_M g gl a al))) (fun zq => zq.1 ≤ N ∧ zq.2 = zv_enc P (zv_nrm P x) zq.1) (fun zq => N - zq.1) ?_ (0, 0) ⟨by omega, rfl⟩
      rintro ⟨i, C⟩ ⟨hi, hC⟩ ih2
      try dsimp only at *
      refine zr_go (t := (41, [some (.ref 0), some (.ref 12), some (.int (nI (zv_ff x 6))), some (.int (nI b)), some (.int (nI C)), some (.int (nI i))], [.int (g 1), .int (nI i)], (zw_M g gl a al))) 3 rfl ?_
      refine zr_ige (x := nI i) (y := g 1) i N rfl hN (by omega) (by omega) (t := (71, [some (.ref 0), some (.ref 12), some (.int (nI (zv_ff x 6))), some (.int (nI b)), some (.int (nI C)), some (.int (nI i))], [], (zw_M g gl a al))) (f := (44, [some (.ref 0), some (.ref 12), some (.int (nI (zv_ff x 6))), some (.int (nI b)), some (.int (nI C)), some (.int (nI i))], [], (zw_M g gl a al))) rfl (fun h3 => ?_) (fun h3 => ?_)
      · skip
        have e2 : C = zv_cdx P N x := by rw [hC, show i = N by omega]; rfl
        refine zr_go (t := (72, [some (.ref 0), some (.ref 12), some (.int (nI (zv_ff x 6))), some (.int (nI b)), some (.int (nI C)), some (.int (nI i))], [.int (nI (zv_ff x 6))], (zw_M g gl a al))) 1 rfl ?_
        refine zr_ine (x := nI (zv_ff x 6)) (y := 0) (zv_ff x 6) 0 rfl rfl (by omega) (by omega) (t := (79, [some (.ref 0), some (.ref 12), some (.int (nI (zv_ff x 6))), some (.int (nI b)), some (.int (nI C)), some (.int (nI i))], [], (zw_M g gl a al))) (f := (75, [some (.ref 0), some (.ref 12), some (.int (nI (zv_ff x 6))), some (.int (nI b)), some (.int (nI C)), some (.int (nI i))], [], (zw_M g gl a al))) rfl (fun h4 => ?_) (fun h4 => ?_)
        · skip
          refine zr_go (t := (85, [some (.ref 0), some (.ref 12), some (.int (nI (zv_ff x 6))), some (.int (nI b)), some (.int (nI C)), some (.int (nI i))], [.int (nI C), .ref 4], (zw_M g gl a al))) 3 rfl ?_
          refine zr_cd (t := (86, [some (.ref 0), some (.ref 12), some (.int (nI (zv_ff x 6))), some (.int (nI b)), some (.int (nI C)), some (.int (nI i))], [.int ((a 4) (nI C).toNatClampNeg)], (zw_M g gl a al))) rfl (pk_in C 729 (by omega) rfl (by omega)) ?_
          rw [pk_cl (x := nI C) C rfl (by omega)]
          rw [show (a 4) C = nI (zv_pt P N x) from by rw [e2, hnum _ hc1 hc2, if_pos hl1]; rfl]
          exact zr_ret rfl trivial ⟨rfl, rfl⟩
        · skip
          exact absurd h4 hv.2.2
      · skip
        have hxi : x i * b ≤ 4 * 4 := Nat.mul_le_mul (hx4 i (by omega)) (by omega)
        refine zr_go (t := (54, [some (.ref 0), some (.ref 12), some (.int (nI (zv_ff x 6))), some (.int (nI b)), some (.int (nI C)), some (.int (nI i))], [.int (nI i), .ref 12, .int ((nI C) * (g 0))], (zw_M g gl a al))) 6 rfl ?_
        refine zr_cd (t := (55, [some (.ref 0), some (.ref 12), some (.int (nI (zv_ff x 6))), some (.int (nI b)), some (.int (nI C)), some (.int (nI i))], [.int ((a 12) (nI i).toNatClampNeg), .int ((nI C) * (g 0))], (zw_M g gl a al))) rfl (pk_in i 6 (by omega) rfl (by omega)) ?_
        rw [pk_cl (x := nI i) i rfl (by omega)]
        rw [show (a 12) i = nI (x i) from hx i (by omega)]
        refine zr_go (t := (61, [some (.ref 0), some (.ref 12), some (.int (nI (zv_ff x 6))), some (.int (nI b)), some (.int (nI C)), some (.int (nI i))], [.int (g 0), .int ((nI (x i)) * (nI b)), .int ((nI C) * (g 0))], (zw_M g gl a al))) 4 rfl ?_
        refine zr_cd (t := (62, [some (.ref 0), some (.ref 12), some (.int (nI (zv_ff x 6))), some (.int (nI b)), some (.int (nI C)), some (.int (nI i))], [.int (((nI (x i)) * (nI b)) - ((nI (x i)) * (nI b)) / (g 0) * (g 0)), .int ((nI C) * (g 0))], (zw_M g gl a al))) rfl (zn_ne0 hP (by omega) (by omega)) ?_
        rw [show ((nI (x i)) * (nI b)) - ((nI (x i)) * (nI b)) / (g 0) * (g 0) = nI (((x i) * b) % P) from (zn_rem (zn_mul rfl rfl) hP (by omega) (by omega) (by omega))]
        refine zr_go (t := (35, [some (.ref 0), some (.ref 12), some (.int (nI (zv_ff x 6))), some (.int (nI b)), some (.int (((nI C) * (g 0)) + (nI (((x i) * b) % P)))), some (.int ((nI i) + 1))], [], (zw_M g gl a al))) 4 rfl ?_
        rw [show (nI i) + 1 = nI (i + 1) from (zn_add rfl rfl)]
        rw [show ((nI C) * (g 0)) + (nI (((x i) * b) % P)) = nI ((C * P) + (((x i) * b) % P)) from (zn_add (zn_mul rfl hP) rfl)]
        exact ih2 (i + 1, C * P + x i * b % P) ⟨by omega, by rw [hC, e1]; rfl⟩ (by omega)
    · skip
      refine zr_go (t := (7, [some (.ref 0), some (.ref 12), some (.int (nI (zv_ff x 6))), some (.int ((nI b) + 1)), none, none], [], (zw_M g gl a al))) 2 rfl ?_
      rw [show (nI b) + 1 = nI (b + 1) from (zn_add rfl rfl)]
      exact ih (b + 1) ⟨by omega, by have : b ≠ zv_inv P (zv_ff x 6) := (fun q => h2 (by rw [q]; exact hi1)); omega⟩ (by omega)
/-- so many times one vector, and so many times another one -/
def zv_mx (P b d : Nat) (x y : Nat → Nat) : Nat → Nat := fun i => (x i * b + y i * d) % P
theorem zs_M_mix (g : Nat → Int32) (gl : Nat → Int64) (a : Nat → Nat → Int32) (al : Nat → Nat → Int64) (P N : Nat) (hP : g 0 = nI P) (hN : g 1 = nI N) (hPP : P = 2 ∨ P = 3 ∨ P = 5) (hN6 : N ≤ 6) (hA : P ^ N ≤ 729) (hnum : ∀ t, 1 ≤ t → t < P ^ N → a 4 t = if zv_l1 P N t then nI (zv_cnt P N t) else -1) (np : Nat) (y : Nat → Nat → Nat) (hR : zc_R g a np y) (p b q d : Nat) (hp : p < np) (hb : b ≤ 4) (hq : q < np) (hd : d ≤ 4) (hv : zv_vec P N (zv_mx P b d (y p) (y q))) : zm_Ev zt_get 3 127 [.ref 0, .int (nI p), .int (nI b), .int (nI q), .int (nI d)] (zw_M g gl a al) (fun v w => v = some (.int (nI (zv_pt P N (zv_mx P b d (y p) (y q))))) ∧ ∃ f, w = (zw_M g gl (va_up a 12 f) al)) := by
  obtain ⟨hP0, hP5⟩ := zv_P5 hPP
  obtain ⟨hnp, hnp1, hy, hy4⟩ := id hR
  refine zr_ev zt_M_mix rfl rfl ?_
  show zm_Run zt_get 2 zt_M_mix (0, [some (.ref 0), some (.int (nI p)), some (.int (nI b)), some (.int (nI q)), some (.int (nI d)), none], [], (zw_M g gl a al)) _
  refine zr_go (t := (3, [some (.ref 0), some (.int (nI p)), some (.int (nI b)), some (.int (nI q)), some (.int (nI d)), some (.int 0)], [], (zw_M g gl a al))) 2 rfl ?_
  refine zr_loop (fun zq : Nat × (Nat → Int32) => (3, [some (.ref 0), some (.int (nI p)), some (.int (nI b)), some (.int (nI q)), some (.int (nI d)), some (.int (nI zq.1))], [], (zw_M g gl (va_up a 12 zq.2) al))) (fun zq => zq.1 ≤ 6 ∧ ∀ k, k < zq.1 → zq.2 k = nI (zv_mx P b d (y p) (y q) k)) (fun zq => 6 - zq.1) ?_ (0, a 12) ⟨by omega, fun k h => absurd h (Nat.not_lt_zero k)⟩
  rintro ⟨i, f⟩ ⟨hi, hf⟩ ih
  try dsimp only at *
  refine zr_go (t := (7, [some (.ref 0), some (.int (nI p)), some (.int (nI b)), some (.int (nI q)), some (.int (nI d)), some (.int (nI i))], [.int 6, .int (nI i)], (zw_M g gl (va_up a 12 f) al))) 2 rfl ?_
  refine zr_ige (x := nI i) (y := 6) i 6 rfl rfl (by omega) (by omega) (t := (58, [some (.ref 0), some (.int (nI p)), some (.int (nI b)), some (.int (nI q)), some (.int (nI d)), some (.int (nI i))], [], (zw_M g gl (va_up a 12 f) al))) (f := (10, [some (.ref 0), some (.int (nI p)), some (.int (nI b)), some (.int (nI q)), some (.int (nI d)), some (.int (nI i))], [], (zw_M g gl (va_up a 12 f) al))) rfl (fun h1 => ?_) (fun h1 => ?_)
  · skip
    have e6 : i = 6 := by omega
    subst e6
    refine zr_go (t := (63, [some (.ref 0), some (.int (nI p)), some (.int (nI b)), some (.int (nI q)), some (.int (nI d)), some (.int (nI 6))], [.ref 12, .ref 0], (zw_M g gl (va_up a 12 f) al))) 3 rfl ?_
    refine zr_call (t := (66, [some (.ref 0), some (.int (nI p)), some (.int (nI b)), some (.int (nI q)), some (.int (nI d)), some (.int (nI 6))], [], (zw_M g gl (va_up a 12 f) al))) rfl (Nat.le_of_ble_eq_true rfl : 2 ≤ 2) (zs_M_pointOf g gl (va_up a 12 f) al P N hP hN hPP hN6 hA hnum (zv_mx P b d (y p) (y q)) hf hv) ?_
    rintro _ _ ⟨rfl, rfl⟩
    show zm_Run zt_get 2 zt_M_mix (66, [some (.ref 0), some (.int (nI p)), some (.int (nI b)), some (.int (nI q)), some (.int (nI d)), some (.int (nI 6))], [.int (nI (zv_pt P N (zv_mx P b d (y p) (y q))))], (zw_M g gl (va_up a 12 f) al)) _
    exact zr_ret rfl trivial ⟨rfl, f, rfl⟩
  · skip
    have h3 : y p i * b ≤ 4 * 4 := Nat.mul_le_mul (hy4 p i hp (by omega)) hb
    have h4 : y q i * d ≤ 4 * 4 := Nat.mul_le_mul (hy4 q i hq (by omega)) hd
    refine zr_go (t := (27, [some (.ref 0), some (.int (nI p)), some (.int (nI b)), some (.int (nI q)), some (.int (nI d)), some (.int (nI i))], [.int ((6 * (nI p)) + (nI i)), .ref 3, .int (nI i), .ref 12], (zw_M g gl (va_up a 12 f) al))) 10 rfl ?_
    refine zr_cd (t := (28, [some (.ref 0), some (.int (nI p)), some (.int (nI b)), some (.int (nI q)), some (.int (nI d)), some (.int (nI i))], [.int ((a 3) ((6 * (nI p)) + (nI i)).toNatClampNeg), .int (nI i), .ref 12], (zw_M g gl (va_up a 12 f) al))) rfl (pk_in ((6 * p) + i) 936 (by omega) (zn_add (zn_mul rfl rfl) rfl) (by omega)) ?_
    rw [pk_cl (x := (6 * (nI p)) + (nI i)) ((6 * p) + i) (zn_add (zn_mul rfl rfl) rfl) (by omega)]
    rw [show (a 3) ((6 * p) + i) = nI (y p i) from hy p i hp (by omega)]
    refine zr_go (t := (41, [some (.ref 0), some (.int (nI p)), some (.int (nI b)), some (.int (nI q)), some (.int (nI d)), some (.int (nI i))], [.int ((6 * (nI q)) + (nI i)), .ref 3, .int ((nI (y p i)) * (nI b)), .int (nI i), .ref 12], (zw_M g gl (va_up a 12 f) al))) 9 rfl ?_
    refine zr_cd (t := (42, [some (.ref 0), some (.int (nI p)), some (.int (nI b)), some (.int (nI q)), some (.int (nI d)), some (.int (nI i))], [.int ((a 3) ((6 * (nI q)) + (nI i)).toNatClampNeg), .int ((nI (y p i)) * (nI b)), .int (nI i), .ref 12], (zw_M g gl (va_up a 12 f) al))) rfl (pk_in ((6 * q) + i) 936 (by omega) (zn_add (zn_mul rfl rfl) rfl) (by omega)) ?_
    rw [pk_cl (x := (6 * (nI q)) + (nI i)) ((6 * q) + i) (zn_add (zn_mul rfl rfl) rfl) (by omega)]
    rw [show (a 3) ((6 * q) + i) = nI (y q i) from hy q i hq (by omega)]
    refine zr_go (t := (50, [some (.ref 0), some (.int (nI p)), some (.int (nI b)), some (.int (nI q)), some (.int (nI d)), some (.int (nI i))], [.int (g 0), .int (((nI (y p i)) * (nI b)) + ((nI (y q i)) * (nI d))), .int (nI i), .ref 12], (zw_M g gl (va_up a 12 f) al))) 5 rfl ?_
    refine zr_cd (t := (51, [some (.ref 0), some (.int (nI p)), some (.int (nI b)), some (.int (nI q)), some (.int (nI d)), some (.int (nI i))], [.int ((((nI (y p i)) * (nI b)) + ((nI (y q i)) * (nI d))) - (((nI (y p i)) * (nI b)) + ((nI (y q i)) * (nI d))) / (g 0) * (g 0)), .int (nI i), .ref 12], (zw_M g gl (va_up a 12 f) al))) rfl (zn_ne0 hP (by omega) (by omega)) ?_
    rw [show (((nI (y p i)) * (nI b)) + ((nI (y q i)) * (nI d))) - (((nI (y p i)) * (nI b)) + ((nI (y q i)) * (nI d))) / (g 0) * (g 0) = nI ((((y p i) * b) + ((y q i) * d)) % P) from (zn_rem (zn_add (zn_mul rfl rfl) (zn_mul rfl rfl)) hP (by omega) (by omega) (by omega))]
    refine zr_cd (t := (52, [some (.ref 0), some (.int (nI p)), some (.int (nI b)), some (.int (nI q)), some (.int (nI d)), some (.int (nI i))], [], (zw_M g gl (va_up a 12 (upd f ((nI i).toNatClampNeg) (nI ((((y p i) * b) + ((y q i) * d)) % P)))) al))) rfl (pk_in i 6 (by omega) rfl (by omega)) ?_
    rw [pk_cl (x := nI i) i rfl (by omega)]
    refine zr_go (t := (3, [some (.ref 0), some (.int (nI p)), some (.int (nI b)), some (.int (nI q)), some (.int (nI d)), some (.int ((nI i) + 1))], [], (zw_M g gl (va_up a 12 (upd f i (nI ((((y p i) * b) + ((y q i) * d)) % P)))) al))) 2 rfl ?_
    rw [show (nI i) + 1 = nI (i + 1) from (zn_add rfl rfl)]
    exact ih (i + 1, (upd f i (nI ((((y p i) * b) + ((y q i) * d)) % P)))) ⟨by omega, lt_s (fun k hk => (pk_un (Nat.ne_of_lt hk)).trans (hf k hk)) pk_us⟩ (by omega)
/-- all the other points of the line through two of them are on -/
def zv_jn (P N : Nat) (y : Nat → Nat → Nat) (o : Nat → Bool) (p q : Nat) : Bool := (p != q && o p && o q) && zA (fun t => o (zv_pt P N (zv_mx P 1 (t + 1) (y p) (y q)))) (P - 1)
theorem zs_M_isJoined (g : Nat → Int32) (gl : Nat → Int64) (a : Nat → Nat → Int32) (al : Nat → Nat → Int64) (P N : Nat) (hP : g 0 = nI P) (hN : g 1 = nI N) (hPP : P = 2 ∨ P = 3 ∨ P = 5) (hN6 : N ≤ 6) (hA : P ^ N ≤ 729) (hnum : ∀ t, 1 ≤ t → t < P ^ N → a 4 t = if zv_l1 P N t then nI (zv_cnt P N t) else -1) (np : Nat) (y : Nat → Nat → Nat) (hR : zc_R g a np y) (o : Nat → Bool) (hO : zc_O a np o) (p q : Nat) (hp : p < np) (hq : q < np) (hv : p ≠ q → ∀ b, 1 ≤ b → b < P → zv_vec P N (zv_mx P 1 b (y p) (y q)) ∧ zv_pt P N (zv_mx P 1 b (y p) (y q)) < np) : zm_Ev zt_get 4 128 [.ref 0, .int (nI p), .int (nI q)] (zw_M g gl a al) (fun v w => v = some (.int (nI (zv_jn P N y o p q).toNat)) ∧ ∃ f, w = (zw_M g gl (va_up a 12 f) al)) := by
  obtain ⟨hP0, hP5⟩ := zv_P5 hPP
  obtain ⟨hnp, hnp1, hy, hy4⟩ := id hR
  refine zr_ev zt_M_isJoined rfl rfl ?_
  show zm_Run zt_get 3 zt_M_isJoined (0, [some (.ref 0), some (.int (nI p)), some (.int (nI q)), none, none], [], (zw_M g gl a al)) _
  have tail : ∀ b0 : Bool, b0 = (p != q && o p && o q) → zm_Run zt_get 3 zt_M_isJoined (29, [some (.ref 0), some (.int (nI p)), some (.int (nI q)), some (.int (nI b0.toNat)), none], [], (zw_M g gl a al)) (fun v w => v = some (.int (nI (zv_jn P N y o p q).toNat)) ∧ ∃ f, w = (zw_M g gl (va_up a 12 f) al)) := by
    intro b0 hb0
    refine zr_go (t := (32, [some (.ref 0), some (.int (nI p)), some (.int (nI q)), some (.int (nI b0.toNat)), some (.int 1)], [], (zw_M g gl a al))) 2 rfl ?_
    refine zr_loop (fun zq : Nat × Bool × (Nat → Int32) => (32, [some (.ref 0), some (.int (nI p)), some (.int (nI q)), some (.int (nI zq.2.1.toNat)), some (.int (nI zq.1))], [], (zw_M g gl (va_up a 12 zq.2.2) al))) (fun zq => 1 ≤ zq.1 ∧ zq.1 ≤ P ∧ zq.2.1 = (b0 && zA (fun t => o (zv_pt P N (zv_mx P 1 (t + 1) (y p) (y q)))) (zq.1 - 1))) (fun zq => P - zq.1) ?_ (1, b0, a 12) ⟨Nat.le_refl _, by omega, by simp [zA]⟩
    rintro ⟨k, b, f⟩ ⟨hk1, hk, hb⟩ ih
    try dsimp only at *
    refine zr_go (t := (38, [some (.ref 0), some (.int (nI p)), some (.int (nI q)), some (.int (nI b.toNat)), some (.int (nI k))], [.int (g 0), .int (nI k)], (zw_M g gl (va_up a 12 f) al))) 3 rfl ?_
    refine zr_ige (x := nI k) (y := g 0) k P rfl hP (by omega) (by omega) (t := (66, [some (.ref 0), some (.int (nI p)), some (.int (nI q)), some (.int (nI b.toNat)), some (.int (nI k))], [], (zw_M g gl (va_up a 12 f) al))) (f := (41, [some (.ref 0), some (.int (nI p)), some (.int (nI q)), some (.int (nI b.toNat)), some (.int (nI k))], [], (zw_M g gl (va_up a 12 f) al))) rfl (fun h1 => ?_) (fun h1 => ?_)
    · skip
      refine zr_go (t := (67, [some (.ref 0), some (.int (nI p)), some (.int (nI q)), some (.int (nI b.toNat)), some (.int (nI k))], [.int (nI b.toNat)], (zw_M g gl (va_up a 12 f) al))) 1 rfl ?_
      exact zr_ret rfl (zb_ok b) ⟨by rw [hb, hb0, show k = P by omega]; rfl, f, rfl⟩
    · skip
      refine zr_go (t := (42, [some (.ref 0), some (.int (nI p)), some (.int (nI q)), some (.int (nI b.toNat)), some (.int (nI k))], [.int (nI b.toNat)], (zw_M g gl (va_up a 12 f) al))) 1 rfl ?_
      have hb1 := zb_le b
      refine zr_ieq (x := nI b.toNat) (y := 0) b.toNat 0 rfl rfl (by omega) (by omega) (t := (66, [some (.ref 0), some (.int (nI p)), some (.int (nI q)), some (.int (nI b.toNat)), some (.int (nI k))], [], (zw_M g gl (va_up a 12 f) al))) (f := (45, [some (.ref 0), some (.int (nI p)), some (.int (nI q)), some (.int (nI b.toNat)), some (.int (nI k))], [], (zw_M g gl (va_up a 12 f) al))) rfl (fun h2 => ?_) (fun h2 => ?_)
      · skip
        refine zr_go (t := (67, [some (.ref 0), some (.int (nI p)), some (.int (nI q)), some (.int (nI b.toNat)), some (.int (nI k))], [.int (nI b.toNat)], (zw_M g gl (va_up a 12 f) al))) 1 rfl ?_
        have e0 := zb_0 h2
        exact zr_ret rfl (zb_ok b) ⟨by rw [e0] at hb ⊢; rw [show zv_jn P N y o p q = false from (Bool.and_eq_false_iff.mp hb.symm).elim (fun e => by unfold zv_jn; rw [← hb0, e]; rfl) (fun e => by unfold zv_jn; rw [zA_no e (by omega), Bool.and_false])], f, rfl⟩
      · skip
        have hbt := zb_1 h2
        have hpq : p ≠ q := by rw [hbt] at hb; have h9 := (Bool.and_eq_true_iff.mp hb.symm).1; rw [hb0] at h9; simp at h9; exact h9.1.1
        obtain ⟨hv1, hv2⟩ := hv hpq k hk1 h1
        refine zr_go (t := (55, [some (.ref 0), some (.int (nI p)), some (.int (nI q)), some (.int (nI b.toNat)), some (.int (nI k))], [.int (nI k), .int (nI q), .int 1, .int (nI p), .ref 0, .ref 5], (zw_M g gl (va_up a 12 f) al))) 7 rfl ?_
        refine zr_call (t := (58, [some (.ref 0), some (.int (nI p)), some (.int (nI q)), some (.int (nI b.toNat)), some (.int (nI k))], [.ref 5], (zw_M g gl (va_up a 12 f) al))) rfl (Nat.le_of_ble_eq_true rfl : 3 ≤ 3) (zs_M_mix g gl (va_up a 12 f) al P N hP hN hPP hN6 hA hnum np y hR p 1 q k hp (by omega) hq (by omega) hv1) ?_
        rintro _ _ ⟨rfl, e1, rfl⟩
        show zm_Run zt_get 3 zt_M_isJoined (58, [some (.ref 0), some (.int (nI p)), some (.int (nI q)), some (.int (nI b.toNat)), some (.int (nI k))], [.int (nI (zv_pt P N (zv_mx P 1 k (y p) (y q)))), .ref 5], (zw_M g gl (va_up a 12 e1) al)) _
        refine zr_cd (t := (59, [some (.ref 0), some (.int (nI p)), some (.int (nI q)), some (.int (nI b.toNat)), some (.int (nI k))], [.int ((a 5) (nI (zv_pt P N (zv_mx P 1 k (y p) (y q)))).toNatClampNeg)], (zw_M g gl (va_up a 12 e1) al))) rfl (pk_in (zv_pt P N (zv_mx P 1 k (y p) (y q))) 156 (by omega) rfl (by omega)) ?_
        rw [pk_cl (x := nI (zv_pt P N (zv_mx P 1 k (y p) (y q)))) (zv_pt P N (zv_mx P 1 k (y p) (y q))) rfl (by omega)]
        rw [show (a 5) (zv_pt P N (zv_mx P 1 k (y p) (y q))) = nI ((o (zv_pt P N (zv_mx P 1 k (y p) (y q)))).toNat) from hO (zv_pt P N (zv_mx P 1 k (y p) (y q))) (by omega)]
        refine zr_go (t := (32, [some (.ref 0), some (.int (nI p)), some (.int (nI q)), some (.int (nI ((o (zv_pt P N (zv_mx P 1 k (y p) (y q)))).toNat))), some (.int ((nI k) + 1))], [], (zw_M g gl (va_up a 12 e1) al))) 3 rfl ?_
        rw [show (nI k) + 1 = nI (k + 1) from (zn_add rfl rfl)]
        exact ih (k + 1, o (zv_pt P N (zv_mx P 1 k (y p) (y q))), e1) ⟨by omega, by omega, by rw [hbt] at hb; rw [show k + 1 - 1 = (k - 1) + 1 by omega]; show _ = (b0 && (zA _ (k - 1) && _)); rw [← Bool.and_assoc, ← hb]; dsimp only; rw [show k - 1 + 1 = k by omega]; rfl⟩ (by omega)
  refine zr_go (t := (2, [some (.ref 0), some (.int (nI p)), some (.int (nI q)), none, none], [.int (nI q), .int (nI p)], (zw_M g gl a al))) 2 rfl ?_
  refine zr_ieq (x := nI p) (y := nI q) p q rfl rfl (by omega) (by omega) (t := (27, [some (.ref 0), some (.int (nI p)), some (.int (nI q)), none, none], [], (zw_M g gl a al))) (f := (5, [some (.ref 0), some (.int (nI p)), some (.int (nI q)), none, none], [], (zw_M g gl a al))) rfl (fun h5 => ?_) (fun h5 => ?_)
  · skip
    refine zr_go (t := (29, [some (.ref 0), some (.int (nI p)), some (.int (nI q)), some (.int 0), none], [], (zw_M g gl a al))) 2 rfl ?_
    exact tail false (by simp [h5])
  · skip
    refine zr_go (t := (10, [some (.ref 0), some (.int (nI p)), some (.int (nI q)), none, none], [.int (nI p), .ref 5], (zw_M g gl a al))) 3 rfl ?_
    refine zr_cd (t := (11, [some (.ref 0), some (.int (nI p)), some (.int (nI q)), none, none], [.int ((a 5) (nI p).toNatClampNeg)], (zw_M g gl a al))) rfl (pk_in p 156 (by omega) rfl (by omega)) ?_
    rw [pk_cl (x := nI p) p rfl (by omega)]
    rw [show (a 5) p = nI ((o p).toNat) from hO p (by omega)]
    have ho1 := zb_le (o p)
    refine zr_ieq (x := nI ((o p).toNat)) (y := 0) ((o p).toNat) 0 rfl rfl (by omega) (by omega) (t := (27, [some (.ref 0), some (.int (nI p)), some (.int (nI q)), none, none], [], (zw_M g gl a al))) (f := (14, [some (.ref 0), some (.int (nI p)), some (.int (nI q)), none, none], [], (zw_M g gl a al))) rfl (fun h6 => ?_) (fun h6 => ?_)
    · skip
      refine zr_go (t := (29, [some (.ref 0), some (.int (nI p)), some (.int (nI q)), some (.int 0), none], [], (zw_M g gl a al))) 2 rfl ?_
      exact tail false (by simp [zb_0 h6])
    · skip
      refine zr_go (t := (19, [some (.ref 0), some (.int (nI p)), some (.int (nI q)), none, none], [.int (nI q), .ref 5], (zw_M g gl a al))) 3 rfl ?_
      refine zr_cd (t := (20, [some (.ref 0), some (.int (nI p)), some (.int (nI q)), none, none], [.int ((a 5) (nI q).toNatClampNeg)], (zw_M g gl a al))) rfl (pk_in q 156 (by omega) rfl (by omega)) ?_
      rw [pk_cl (x := nI q) q rfl (by omega)]
      rw [show (a 5) q = nI ((o q).toNat) from hO q (by omega)]
      have ho2 := zb_le (o q)
      refine zr_ieq (x := nI ((o q).toNat)) (y := 0) ((o q).toNat) 0 rfl rfl (by omega) (by omega) (t := (27, [some (.ref 0), some (.int (nI p)), some (.int (nI q)), none, none], [], (zw_M g gl a al))) (f := (23, [some (.ref 0), some (.int (nI p)), some (.int (nI q)), none, none], [], (zw_M g gl a al))) rfl (fun h7 => ?_) (fun h7 => ?_)
      · skip
        refine zr_go (t := (29, [some (.ref 0), some (.int (nI p)), some (.int (nI q)), some (.int 0), none], [], (zw_M g gl a al))) 2 rfl ?_
        exact tail false (by simp [zb_0 h7])
      · skip
        refine zr_go (t := (29, [some (.ref 0), some (.int (nI p)), some (.int (nI q)), some (.int 1), none], [], (zw_M g gl a al))) 3 rfl ?_
        exact tail true (by simp [h5, zb_1 h6, zb_1 h7])
