/-! the class: determinant, discriminant (written by wip/whole/gen_c5.py) -/
def zC_M (f : Nat → Int32) (N : Nat) (M : Nat → Nat → Nat) : Prop := ∀ i j, i < N → j < N → f (i * 6 + j) = nI (M i j)
theorem zz_clr (P : Nat) (h : P = 2 ∨ P = 3 ∨ P = 5) : ∀ x, x < P → ∀ m, m < P → ∀ d, d < P → d ≠ 0 → ∀ y, y < P → zz_mod (nI x - nI m * nI (zz_inv P d) * nI y) P = (x + P * P - m * zv_inv P d % P * y) % P := by
  rcases h with rfl | rfl | rfl <;> decide +kernel
theorem zz_sgn (P : Nat) (h : P = 2 ∨ P = 3 ∨ P = 5) : ∀ t, t < P → ∀ m, m < P → zz_mod (-(nI t) * nI m) P = (P - t) * m % P := by
  rcases h with rfl | rfl | rfl <;> decide +kernel
theorem zz_invlt {P x : Nat} (hx : x < P) (hP : P ≤ 5) : zz_inv P x ≤ 5 := by unfold zz_inv; split <;> omega
theorem zE_nn {f : Nat → Bool} {n : Nat} (h : zE f n = false) (h2 : f n = false) : zE f (n + 1) = false := by show (zE f n || f n) = false; rw [h, h2]; rfl
theorem zE_yes {f : Nat → Bool} {k : Nat} (h : f k = true) : ∀ n, k < n → zE f n = true
  | 0, q => absurd q (Nat.not_lt_zero k)
  | n + 1, q => by
    show (zE f n || f n) = true
    by_cases e : k = n
    · rw [← e, h, Bool.or_true]
    · rw [zE_yes h n (by omega), Bool.true_or]
theorem zs_C_pivot_2 (g : Nat → Int32) (gl : Nat → Int64) (a : Nat → Nat → Int32) (al : Nat → Nat → Int64) (N : Nat) (hN : g 12 = nI N) (hN6 : N ≤ 6) (M : Nat → Nat → Nat) (hM : zC_M (a 12) N M) (hM4 : ∀ i j, i < N → j < N → M i j ≤ 4) (k : Nat) (hk : k < N) : zm_Ev zt_get 1 19 [.ref 2, .int (nI k)] (zw_C g gl a al) (fun v w => v = some (.int (if zM (fun i => M i k != 0) k (N - k) = N then -1 else nI (zM (fun i => M i k != 0) k (N - k)))) ∧ w = (zw_C g gl a al)) := by
  refine zr_ev zt_O_pivotRow rfl rfl ?_
  show zm_Run zt_get 0 zt_O_pivotRow (0, [some (.ref 2), some (.int (nI k)), none], [], (zw_C g gl a al)) _
  refine zr_go (t := (2, [some (.ref 2), some (.int (nI k)), some (.int (nI k))], [], (zw_C g gl a al))) 2 rfl ?_
  refine zr_loop (fun zq : Nat => (2, [some (.ref 2), some (.int (nI k)), some (.int (nI zq))], [], (zw_C g gl a al))) (fun zq => k ≤ zq ∧ zq ≤ N ∧ zM (fun t => M t k != 0) zq (N - zq) = zM (fun t => M t k != 0) k (N - k)) (fun zq => N - zq) ?_ k ⟨Nat.le_refl _, by omega, rfl⟩
  rintro i ⟨hi1, hi, hz⟩ ih
  try dsimp only at *
  refine zr_go (t := (7, [some (.ref 2), some (.int (nI k)), some (.int (nI i))], [.int (g 12), .int (nI i)], (zw_C g gl a al))) 3 rfl ?_
  refine zr_ige (x := nI i) (y := g 12) i N rfl hN (by omega) (by omega) (t := (32, [some (.ref 2), some (.int (nI k)), some (.int (nI i))], [], (zw_C g gl a al))) (f := (10, [some (.ref 2), some (.int (nI k)), some (.int (nI i))], [], (zw_C g gl a al))) rfl (fun h1 => ?_) (fun h1 => ?_)
  · skip
    rw [show N - i = 0 by omega] at hz
    have hz : i = _ := hz
    refine zr_go (t := (33, [some (.ref 2), some (.int (nI k)), some (.int (nI i))], [.int (-1)], (zw_C g gl a al))) 1 rfl ?_
    exact zr_ret rfl trivial ⟨by rw [← hz, if_pos (by omega)], rfl⟩
  · skip
    have h64 : N - i = (N - (i + 1)) + 1 := by omega
    have hb := hM4 i k h1 hk
    refine zr_go (t := (20, [some (.ref 2), some (.int (nI k)), some (.int (nI i))], [.int (((nI i) * 6) + (nI k)), .ref 12], (zw_C g gl a al))) 7 rfl ?_
    refine zr_cd (t := (21, [some (.ref 2), some (.int (nI k)), some (.int (nI i))], [.int ((a 12) (((nI i) * 6) + (nI k)).toNatClampNeg)], (zw_C g gl a al))) rfl (pk_in ((i * 6) + k) 36 (by omega) (zn_add (zn_mul rfl rfl) rfl) (by omega)) ?_
    rw [pk_cl (x := (((nI i) * 6) + (nI k))) ((i * 6) + k) (zn_add (zn_mul rfl rfl) rfl) (by omega)]
    rw [show (a 12) ((i * 6) + k) = nI (M i k) from hM i k (by omega) hk]
    refine zr_ieq (x := nI (M i k)) (y := 0) (M i k) 0 rfl rfl (by omega) (by omega) (t := (26, [some (.ref 2), some (.int (nI k)), some (.int (nI i))], [], (zw_C g gl a al))) (f := (24, [some (.ref 2), some (.int (nI k)), some (.int (nI i))], [], (zw_C g gl a al))) rfl (fun h2 => ?_) (fun h2 => ?_)
    · skip
      refine zr_go (t := (2, [some (.ref 2), some (.int (nI k)), some (.int ((nI i) + 1))], [], (zw_C g gl a al))) 2 rfl ?_
      rw [show (nI i) + 1 = nI (i + 1) from (zn_add rfl rfl)]
      exact ih (i + 1) ⟨by omega, by omega, by rw [← hz, h64, zM_none (f := fun t => M t k != 0) (by show (M i k != 0) = false; rw [h2]; rfl)]⟩ (by omega)
    · skip
      refine zr_go (t := (25, [some (.ref 2), some (.int (nI k)), some (.int (nI i))], [.int (nI i)], (zw_C g gl a al))) 1 rfl ?_
      exact zr_ret rfl trivial ⟨by rw [← hz, h64, zM_here (f := fun t => M t k != 0) (by show (M i k != 0) = true; exact bne_iff_ne.mpr h2), if_neg (by omega)], rfl⟩
theorem zs_C_exchRows_2 (g : Nat → Int32) (gl : Nat → Int64) (a : Nat → Nat → Int32) (al : Nat → Nat → Int64) (N : Nat) (hN : g 12 = nI N) (hN6 : N ≤ 6) (M : Nat → Nat → Nat) (hM : zC_M (a 12) N M) (hM4 : ∀ i j, i < N → j < N → M i j ≤ 4) (r s : Nat) (hr : r < N) (hs : s < N) (hrs : r ≠ s) : zm_Ev zt_get 1 20 [.ref 2, .int (nI r), .int (nI s)] (zw_C g gl a al) (fun v w => v = none ∧ ∃ f, w = (zw_C g gl (va_up a 12 f) al) ∧ zC_M f N (zd_sw M r s)) := by
  refine zr_ev zt_O_exchangeRows rfl rfl ?_
  show zm_Run zt_get 0 zt_O_exchangeRows (0, [some (.ref 2), some (.int (nI r)), some (.int (nI s)), none, none], [], (zw_C g gl a al)) _
  refine zr_go (t := (2, [some (.ref 2), some (.int (nI r)), some (.int (nI s)), some (.int 0), none], [], (zw_C g gl a al))) 2 rfl ?_
  refine zr_loop (fun zq : Nat × (Nat → Int32) => (2, [some (.ref 2), some (.int (nI r)), some (.int (nI s)), some (.int (nI zq.1)), none], [], (zw_C g gl (va_up a 12 zq.2) al))) (fun zq => zq.1 ≤ N ∧ ∀ i l, i < N → l < N → zq.2 (i * 6 + l) = nI (if l < zq.1 then zd_sw M r s i l else M i l)) (fun zq => N - zq.1) ?_ (0, a 12) ⟨by omega, fun i l hi hl => by rw [if_neg (Nat.not_lt_zero l)]; exact hM i l hi hl⟩
  rintro ⟨j, f⟩ ⟨hj, hf⟩ ih
  try dsimp only at *
  refine zr_go (t := (7, [some (.ref 2), some (.int (nI r)), some (.int (nI s)), some (.int (nI j)), none], [.int (g 12), .int (nI j)], (zw_C g gl (va_up a 12 f) al))) 3 rfl ?_
  refine zr_ige (x := nI j) (y := g 12) j N rfl hN (by omega) (by omega) (t := (64, [some (.ref 2), some (.int (nI r)), some (.int (nI s)), some (.int (nI j)), none], [], (zw_C g gl (va_up a 12 f) al))) (f := (10, [some (.ref 2), some (.int (nI r)), some (.int (nI s)), some (.int (nI j)), none], [], (zw_C g gl (va_up a 12 f) al))) rfl (fun h1 => ?_) (fun h1 => ?_)
  · skip
    exact zr_ret rfl trivial ⟨rfl, f, rfl, fun i l hi hl => (hf i l hi hl).trans (by rw [if_pos (by omega)])⟩
  · skip
    have e1 : f (r * 6 + j) = nI (M r j) := (hf r j hr h1).trans (by rw [if_neg (Nat.lt_irrefl j)])
    have e2 : f (s * 6 + j) = nI (M s j) := (hf s j hs h1).trans (by rw [if_neg (Nat.lt_irrefl j)])
    have hb1 := hM4 r j hr h1
    have hb2 := hM4 s j hs h1
    refine zr_go (t := (20, [some (.ref 2), some (.int (nI r)), some (.int (nI s)), some (.int (nI j)), none], [.int (((nI r) * 6) + (nI j)), .ref 12], (zw_C g gl (va_up a 12 f) al))) 7 rfl ?_
    refine zr_cd (t := (21, [some (.ref 2), some (.int (nI r)), some (.int (nI s)), some (.int (nI j)), none], [.int (f (((nI r) * 6) + (nI j)).toNatClampNeg)], (zw_C g gl (va_up a 12 f) al))) rfl (pk_in ((r * 6) + j) 36 (by omega) (zn_add (zn_mul rfl rfl) rfl) (by omega)) ?_
    rw [pk_cl (x := (((nI r) * 6) + (nI j))) ((r * 6) + j) (zn_add (zn_mul rfl rfl) rfl) (by omega)]
    rw [show f ((r * 6) + j) = nI (M r j) from e1]
    refine zr_go (t := (43, [some (.ref 2), some (.int (nI r)), some (.int (nI s)), some (.int (nI j)), some (.int (nI (M r j)))], [.int (((nI s) * 6) + (nI j)), .ref 12, .int (((nI r) * 6) + (nI j)), .ref 12], (zw_C g gl (va_up a 12 f) al))) 15 rfl ?_
    refine zr_cd (t := (44, [some (.ref 2), some (.int (nI r)), some (.int (nI s)), some (.int (nI j)), some (.int (nI (M r j)))], [.int (f (((nI s) * 6) + (nI j)).toNatClampNeg), .int (((nI r) * 6) + (nI j)), .ref 12], (zw_C g gl (va_up a 12 f) al))) rfl (pk_in ((s * 6) + j) 36 (by omega) (zn_add (zn_mul rfl rfl) rfl) (by omega)) ?_
    rw [pk_cl (x := (((nI s) * 6) + (nI j))) ((s * 6) + j) (zn_add (zn_mul rfl rfl) rfl) (by omega)]
    rw [show f ((s * 6) + j) = nI (M s j) from e2]
    refine zr_cd (t := (45, [some (.ref 2), some (.int (nI r)), some (.int (nI s)), some (.int (nI j)), some (.int (nI (M r j)))], [], (zw_C g gl (va_up a 12 (upd f ((((nI r) * 6) + (nI j)).toNatClampNeg) (nI (M s j)))) al))) rfl (pk_in ((r * 6) + j) 36 (by omega) (zn_add (zn_mul rfl rfl) rfl) (by omega)) ?_
    rw [pk_cl (x := (((nI r) * 6) + (nI j))) ((r * 6) + j) (zn_add (zn_mul rfl rfl) rfl) (by omega)]
    refine zr_go (t := (57, [some (.ref 2), some (.int (nI r)), some (.int (nI s)), some (.int (nI j)), some (.int (nI (M r j)))], [.int (nI (M r j)), .int (((nI s) * 6) + (nI j)), .ref 12], (zw_C g gl (va_up a 12 (upd f ((r * 6) + j) (nI (M s j)))) al))) 8 rfl ?_
    refine zr_cd (t := (58, [some (.ref 2), some (.int (nI r)), some (.int (nI s)), some (.int (nI j)), some (.int (nI (M r j)))], [], (zw_C g gl (va_up a 12 (upd (upd f ((r * 6) + j) (nI (M s j))) ((((nI s) * 6) + (nI j)).toNatClampNeg) (nI (M r j)))) al))) rfl (pk_in ((s * 6) + j) 36 (by omega) (zn_add (zn_mul rfl rfl) rfl) (by omega)) ?_
    rw [pk_cl (x := (((nI s) * 6) + (nI j))) ((s * 6) + j) (zn_add (zn_mul rfl rfl) rfl) (by omega)]
    refine zr_go (t := (2, [some (.ref 2), some (.int (nI r)), some (.int (nI s)), some (.int ((nI j) + 1)), some (.int (nI (M r j)))], [], (zw_C g gl (va_up a 12 (upd (upd f ((r * 6) + j) (nI (M s j))) ((s * 6) + j) (nI (M r j)))) al))) 2 rfl ?_
    rw [show (nI j) + 1 = nI (j + 1) from (zn_add rfl rfl)]
    refine zr_forget [some (.ref 2), some (.int (nI r)), some (.int (nI s)), some (.int (nI (j + 1))), none] ⟨Or.inr rfl, Or.inr rfl, Or.inr rfl, Or.inr rfl, Or.inl rfl, trivial⟩ ?_
    exact ih (j + 1, (upd (upd f ((r * 6) + j) (nI (M s j))) ((s * 6) + j) (nI (M r j)))) ⟨by omega, fun i l hi hl => by show upd (upd f (r * 6 + j) (nI (M s j))) (s * 6 + j) (nI (M r j)) (i * 6 + l) = nI (if l < j + 1 then _ else _); by_cases q1 : i * 6 + l = s * 6 + j; have q3 : i = s := (by omega); have q4 : l = j := (by omega); subst q3 q4; rw [pk_us, if_pos (Nat.lt_succ_self _)]; unfold zd_sw; rw [if_neg (fun z => hrs z.symm), if_pos rfl]; rw [pk_un q1]; by_cases q2 : i * 6 + l = r * 6 + j; have q3 : i = r := (by omega); have q4 : l = j := (by omega); subst q3 q4; rw [pk_us, if_pos (Nat.lt_succ_self _)]; unfold zd_sw; rw [if_pos rfl]; rw [pk_un q2, hf i l hi hl]; by_cases q5 : l < j; rw [if_pos q5, if_pos (by omega)]; rw [if_neg q5]; by_cases q6 : l = j; rw [if_pos (by omega)]; unfold zd_sw; rw [if_neg (fun z => q2 (by rw [z, q6])), if_neg (fun z => q1 (by rw [z, q6]))]; rw [if_neg (by omega)]⟩ (by omega)
theorem zs_C_clear_2 (g : Nat → Int32) (gl : Nat → Int64) (a : Nat → Nat → Int32) (al : Nat → Nat → Int64) (N : Nat) (hN : g 12 = nI N) (hN6 : N ≤ 6) (P : Nat) (hP : g 11 = nI P) (hPP : P = 2 ∨ P = 3 ∨ P = 5) (M : Nat → Nat → Nat) (hM : zC_M (a 12) N M) (hMP : ∀ i j, i < N → j < N → M i j < P) (k : Nat) (hk : k < N) (hkk : M k k ≠ 0) : zm_Ev zt_get 2 21 [.ref 2, .int (nI k)] (zw_C g gl a al) (fun v w => v = none ∧ ∃ f, w = (zw_C g gl (va_up a 12 f) al) ∧ zC_M f N (zd_cl P M k (zv_inv P (M k k)))) := by
  obtain ⟨hP0, hP5⟩ := zv_P5 hPP
  have hM4 : ∀ i j, i < N → j < N → M i j ≤ 4 := fun i j hi hj => by have := hMP i j hi hj; omega
  have hkk4 := hMP k k hk hk
  have hiv := zz_invlt hkk4 hP5
  refine zr_ev zt_O_clearBelow rfl rfl ?_
  show zm_Run zt_get 1 zt_O_clearBelow (0, [some (.ref 2), some (.int (nI k)), none, none, none, none, none, none], [], (zw_C g gl a al)) _
  refine zr_go (t := (12, [some (.ref 2), some (.int (nI k)), some (.int ((nI k) * 6)), none, none, none, none, none], [.int (((nI k) * 6) + (nI k)), .ref 12], (zw_C g gl a al))) 9 rfl ?_
  refine zr_cd (t := (13, [some (.ref 2), some (.int (nI k)), some (.int ((nI k) * 6)), none, none, none, none, none], [.int ((a 12) (((nI k) * 6) + (nI k)).toNatClampNeg)], (zw_C g gl a al))) rfl (pk_in ((k * 6) + k) 36 (by omega) (zn_add (zn_mul rfl rfl) rfl) (by omega)) ?_
  rw [pk_cl (x := (((nI k) * 6) + (nI k))) ((k * 6) + k) (zn_add (zn_mul rfl rfl) rfl) (by omega)]
  rw [show (a 12) ((k * 6) + k) = nI (M k k) from hM k k hk hk]
  refine zr_go (t := (17, [some (.ref 2), some (.int (nI k)), some (.int ((nI k) * 6)), none, none, none, none, none], [.int (g 11), .int (nI (M k k))], (zw_C g gl a al))) 2 rfl ?_
  rw [hP]
  refine zr_call (t := (20, [some (.ref 2), some (.int (nI k)), some (.int ((nI k) * 6)), none, none, none, none, none], [], (zw_C g gl a al))) rfl (Nat.le_of_ble_eq_true rfl : 1 ≤ 1) (zs_C_inverse g gl a al (M k k) P (by omega) (by omega)) ?_
  rintro _ _ ⟨rfl, rfl⟩
  show zm_Run zt_get 1 zt_O_clearBelow (20, [some (.ref 2), some (.int (nI k)), some (.int ((nI k) * 6)), none, none, none, none, none], [.int (nI (zz_inv P (M k k)))], (zw_C g gl a al)) _
  refine zr_go (t := (26, [some (.ref 2), some (.int (nI k)), some (.int ((nI k) * 6)), some (.int (nI (zz_inv P (M k k)))), some (.int ((nI k) + 1)), none, none, none], [], (zw_C g gl a al))) 5 rfl ?_
  rw [show (nI k) + 1 = nI (k + 1) from (zn_add rfl rfl)]
  refine zr_loop (fun zq : Nat × (Nat → Int32) => (26, [some (.ref 2), some (.int (nI k)), some (.int ((nI k) * 6)), some (.int (nI (zz_inv P (M k k)))), some (.int (nI zq.1)), none, none, none], [], (zw_C g gl (va_up a 12 zq.2) al))) (fun zq => k < zq.1 ∧ zq.1 ≤ N ∧ ∀ r l, r < N → l < N → zq.2 (r * 6 + l) = nI (if r < zq.1 then (zd_cl P M k (zv_inv P (M k k))) r l else M r l)) (fun zq => N - zq.1) ?_ (k + 1, a 12) ⟨by omega, by omega, fun r l hr hl => (hM r l hr hl).trans (congrArg nI (by show _ = if r < k + 1 then _ else _; split; unfold zd_cl; rw [if_neg (by omega)]; rfl))⟩
  rintro ⟨i, f⟩ ⟨hki, hi, hf⟩ ih
  try dsimp only at *
  refine zr_go (t := (32, [some (.ref 2), some (.int (nI k)), some (.int ((nI k) * 6)), some (.int (nI (zz_inv P (M k k)))), some (.int (nI i)), none, none, none], [.int (g 12), .int (nI i)], (zw_C g gl (va_up a 12 f) al))) 3 rfl ?_
  refine zr_ige (x := nI i) (y := g 12) i N rfl hN (by omega) (by omega) (t := (119, [some (.ref 2), some (.int (nI k)), some (.int ((nI k) * 6)), some (.int (nI (zz_inv P (M k k)))), some (.int (nI i)), none, none, none], [], (zw_C g gl (va_up a 12 f) al))) (f := (35, [some (.ref 2), some (.int (nI k)), some (.int ((nI k) * 6)), some (.int (nI (zz_inv P (M k k)))), some (.int (nI i)), none, none, none], [], (zw_C g gl (va_up a 12 f) al))) rfl (fun h1 => ?_) (fun h1 => ?_)
  · skip
    exact zr_ret rfl trivial ⟨rfl, f, rfl, fun r l hr hl => (hf r l hr hl).trans (by rw [if_pos (by omega)])⟩
  · skip
    have e1 : f (i * 6 + k) = nI (M i k) := (hf i k h1 hk).trans (by rw [if_neg (Nat.lt_irrefl i)])
    have hb1 := hMP i k h1 hk
    have hbf : M i k * zz_inv P (M k k) ≤ 4 * 5 := Nat.mul_le_mul (by omega) hiv
    refine zr_go (t := (50, [some (.ref 2), some (.int (nI k)), some (.int ((nI k) * 6)), some (.int (nI (zz_inv P (M k k)))), some (.int (nI i)), some (.int ((nI i) * 6)), none, none], [.int (((nI i) * 6) + (nI k)), .ref 12], (zw_C g gl (va_up a 12 f) al))) 9 rfl ?_
    refine zr_cd (t := (51, [some (.ref 2), some (.int (nI k)), some (.int ((nI k) * 6)), some (.int (nI (zz_inv P (M k k)))), some (.int (nI i)), some (.int ((nI i) * 6)), none, none], [.int (f (((nI i) * 6) + (nI k)).toNatClampNeg)], (zw_C g gl (va_up a 12 f) al))) rfl (pk_in ((i * 6) + k) 36 (by omega) (zn_add (zn_mul rfl rfl) rfl) (by omega)) ?_
    rw [pk_cl (x := (((nI i) * 6) + (nI k))) ((i * 6) + k) (zn_add (zn_mul rfl rfl) rfl) (by omega)]
    rw [show f ((i * 6) + k) = nI (M i k) from e1]
    refine zr_go (t := (58, [some (.ref 2), some (.int (nI k)), some (.int ((nI k) * 6)), some (.int (nI (zz_inv P (M k k)))), some (.int (nI i)), some (.int ((nI i) * 6)), some (.int ((nI (M i k)) * (nI (zz_inv P (M k k))))), some (.int (nI k))], [], (zw_C g gl (va_up a 12 f) al))) 5 rfl ?_
    refine zr_loop (fun zq : Nat × (Nat → Int32) => (58, [some (.ref 2), some (.int (nI k)), some (.int ((nI k) * 6)), some (.int (nI (zz_inv P (M k k)))), some (.int (nI i)), some (.int ((nI i) * 6)), some (.int ((nI (M i k)) * (nI (zz_inv P (M k k))))), some (.int (nI zq.1))], [], (zw_C g gl (va_up a 12 zq.2) al))) (fun zq => k ≤ zq.1 ∧ zq.1 ≤ N ∧ ∀ r l, r < N → l < N → zq.2 (r * 6 + l) = nI (if r < i ∨ (r = i ∧ l < zq.1) then (zd_cl P M k (zv_inv P (M k k))) r l else M r l)) (fun zq => N - zq.1) ?_ (k, f) ⟨Nat.le_refl _, by omega, fun r l hr hl => (hf r l hr hl).trans (congrArg nI (by show _ = if r < i ∨ (r = i ∧ l < k) then _ else _; by_cases q : r < i; rw [if_pos q, if_pos (Or.inl q)]; rw [if_neg q]; split; unfold zd_cl; rw [if_neg (by omega)]; rfl))⟩
    rintro ⟨j, h⟩ ⟨hkj, hj, hh⟩ ih2
    try dsimp only at *
    refine zr_go (t := (64, [some (.ref 2), some (.int (nI k)), some (.int ((nI k) * 6)), some (.int (nI (zz_inv P (M k k)))), some (.int (nI i)), some (.int ((nI i) * 6)), some (.int ((nI (M i k)) * (nI (zz_inv P (M k k))))), some (.int (nI j))], [.int (g 12), .int (nI j)], (zw_C g gl (va_up a 12 h) al))) 3 rfl ?_
    refine zr_ige (x := nI j) (y := g 12) j N rfl hN (by omega) (by omega) (t := (113, [some (.ref 2), some (.int (nI k)), some (.int ((nI k) * 6)), some (.int (nI (zz_inv P (M k k)))), some (.int (nI i)), some (.int ((nI i) * 6)), some (.int ((nI (M i k)) * (nI (zz_inv P (M k k))))), some (.int (nI j))], [], (zw_C g gl (va_up a 12 h) al))) (f := (67, [some (.ref 2), some (.int (nI k)), some (.int ((nI k) * 6)), some (.int (nI (zz_inv P (M k k)))), some (.int (nI i)), some (.int ((nI i) * 6)), some (.int ((nI (M i k)) * (nI (zz_inv P (M k k))))), some (.int (nI j))], [], (zw_C g gl (va_up a 12 h) al))) rfl (fun h2 => ?_) (fun h2 => ?_)
    · skip
      refine zr_go (t := (26, [some (.ref 2), some (.int (nI k)), some (.int ((nI k) * 6)), some (.int (nI (zz_inv P (M k k)))), some (.int ((nI i) + 1)), some (.int ((nI i) * 6)), some (.int ((nI (M i k)) * (nI (zz_inv P (M k k))))), some (.int (nI j))], [], (zw_C g gl (va_up a 12 h) al))) 2 rfl ?_
      rw [show (nI i) + 1 = nI (i + 1) from (zn_add rfl rfl)]
      refine zr_forget [some (.ref 2), some (.int (nI k)), some (.int ((nI k) * 6)), some (.int (nI (zz_inv P (M k k)))), some (.int (nI (i + 1))), none, none, none] ⟨Or.inr rfl, Or.inr rfl, Or.inr rfl, Or.inr rfl, Or.inr rfl, Or.inl rfl, Or.inl rfl, Or.inl rfl, trivial⟩ ?_
      exact ih (i + 1, h) ⟨by omega, by omega, fun r l hr hl => (hh r l hr hl).trans (congrArg nI (by by_cases q : r < i + 1; rw [if_pos q, if_pos (by omega)]; rw [if_neg q, if_neg (by omega)]))⟩ (by omega)
    · skip
      have e2 : h (i * 6 + j) = nI (M i j) := (hh i j h1 h2).trans (by rw [if_neg (by omega)])
      have e3 : h (k * 6 + j) = nI (M k j) := (hh k j hk h2).trans (by rw [if_pos (Or.inl hki)]; unfold zd_cl; rw [if_neg (by omega)])
      have hb2 := hMP i j h1 h2
      have hb3 := hMP k j hk h2
      refine zr_go (t := (85, [some (.ref 2), some (.int (nI k)), some (.int ((nI k) * 6)), some (.int (nI (zz_inv P (M k k)))), some (.int (nI i)), some (.int ((nI i) * 6)), some (.int ((nI (M i k)) * (nI (zz_inv P (M k k))))), some (.int (nI j))], [.int (((nI i) * 6) + (nI j)), .ref 12, .int (((nI i) * 6) + (nI j)), .ref 12], (zw_C g gl (va_up a 12 h) al))) 10 rfl ?_
      refine zr_cd (t := (86, [some (.ref 2), some (.int (nI k)), some (.int ((nI k) * 6)), some (.int (nI (zz_inv P (M k k)))), some (.int (nI i)), some (.int ((nI i) * 6)), some (.int ((nI (M i k)) * (nI (zz_inv P (M k k))))), some (.int (nI j))], [.int (h (((nI i) * 6) + (nI j)).toNatClampNeg), .int (((nI i) * 6) + (nI j)), .ref 12], (zw_C g gl (va_up a 12 h) al))) rfl (pk_in ((i * 6) + j) 36 (by omega) (zn_add (zn_mul rfl rfl) rfl) (by omega)) ?_
      rw [pk_cl (x := (((nI i) * 6) + (nI j))) ((i * 6) + j) (zn_add (zn_mul rfl rfl) rfl) (by omega)]
      rw [show h ((i * 6) + j) = nI (M i j) from e2]
      refine zr_go (t := (96, [some (.ref 2), some (.int (nI k)), some (.int ((nI k) * 6)), some (.int (nI (zz_inv P (M k k)))), some (.int (nI i)), some (.int ((nI i) * 6)), some (.int ((nI (M i k)) * (nI (zz_inv P (M k k))))), some (.int (nI j))], [.int (((nI k) * 6) + (nI j)), .ref 12, .int ((nI (M i k)) * (nI (zz_inv P (M k k)))), .int (nI (M i j)), .int (((nI i) * 6) + (nI j)), .ref 12], (zw_C g gl (va_up a 12 h) al))) 6 rfl ?_
      refine zr_cd (t := (97, [some (.ref 2), some (.int (nI k)), some (.int ((nI k) * 6)), some (.int (nI (zz_inv P (M k k)))), some (.int (nI i)), some (.int ((nI i) * 6)), some (.int ((nI (M i k)) * (nI (zz_inv P (M k k))))), some (.int (nI j))], [.int (h (((nI k) * 6) + (nI j)).toNatClampNeg), .int ((nI (M i k)) * (nI (zz_inv P (M k k)))), .int (nI (M i j)), .int (((nI i) * 6) + (nI j)), .ref 12], (zw_C g gl (va_up a 12 h) al))) rfl (pk_in ((k * 6) + j) 36 (by omega) (zn_add (zn_mul rfl rfl) rfl) (by omega)) ?_
      rw [pk_cl (x := (((nI k) * 6) + (nI j))) ((k * 6) + j) (zn_add (zn_mul rfl rfl) rfl) (by omega)]
      rw [show h ((k * 6) + j) = nI (M k j) from e3]
      refine zr_go (t := (103, [some (.ref 2), some (.int (nI k)), some (.int ((nI k) * 6)), some (.int (nI (zz_inv P (M k k)))), some (.int (nI i)), some (.int ((nI i) * 6)), some (.int ((nI (M i k)) * (nI (zz_inv P (M k k))))), some (.int (nI j))], [.int (g 11), .int ((nI (M i j)) - (((nI (M i k)) * (nI (zz_inv P (M k k)))) * (nI (M k j)))), .int (((nI i) * 6) + (nI j)), .ref 12], (zw_C g gl (va_up a 12 h) al))) 4 rfl ?_
      rw [hP]
      refine zr_call (t := (106, [some (.ref 2), some (.int (nI k)), some (.int ((nI k) * 6)), some (.int (nI (zz_inv P (M k k)))), some (.int (nI i)), some (.int ((nI i) * 6)), some (.int ((nI (M i k)) * (nI (zz_inv P (M k k))))), some (.int (nI j))], [.int (((nI i) * 6) + (nI j)), .ref 12], (zw_C g gl (va_up a 12 h) al))) rfl (Nat.le_of_ble_eq_true rfl : 1 ≤ 1) (zs_C_mod g gl (va_up a 12 h) al ((nI (M i j)) - (((nI (M i k)) * (nI (zz_inv P (M k k)))) * (nI (M k j)))) P hP0 (by omega)) ?_
      rintro _ _ ⟨rfl, rfl⟩
      show zm_Run zt_get 1 zt_O_clearBelow (106, [some (.ref 2), some (.int (nI k)), some (.int ((nI k) * 6)), some (.int (nI (zz_inv P (M k k)))), some (.int (nI i)), some (.int ((nI i) * 6)), some (.int ((nI (M i k)) * (nI (zz_inv P (M k k))))), some (.int (nI j))], [.int (nI (zz_mod ((nI (M i j)) - (((nI (M i k)) * (nI (zz_inv P (M k k)))) * (nI (M k j)))) P)), .int (((nI i) * 6) + (nI j)), .ref 12], (zw_C g gl (va_up a 12 h) al)) _
      rw [zz_clr P hPP _ hb2 _ hb1 _ hkk4 hkk _ hb3]
      refine zr_cd (t := (107, [some (.ref 2), some (.int (nI k)), some (.int ((nI k) * 6)), some (.int (nI (zz_inv P (M k k)))), some (.int (nI i)), some (.int ((nI i) * 6)), some (.int ((nI (M i k)) * (nI (zz_inv P (M k k))))), some (.int (nI j))], [], (zw_C g gl (va_up a 12 (upd h ((((nI i) * 6) + (nI j)).toNatClampNeg) (nI ((M i j + P * P - M i k * zv_inv P (M k k) % P * M k j) % P)))) al))) rfl (pk_in ((i * 6) + j) 36 (by omega) (zn_add (zn_mul rfl rfl) rfl) (by omega)) ?_
      rw [pk_cl (x := (((nI i) * 6) + (nI j))) ((i * 6) + j) (zn_add (zn_mul rfl rfl) rfl) (by omega)]
      refine zr_go (t := (58, [some (.ref 2), some (.int (nI k)), some (.int ((nI k) * 6)), some (.int (nI (zz_inv P (M k k)))), some (.int (nI i)), some (.int ((nI i) * 6)), some (.int ((nI (M i k)) * (nI (zz_inv P (M k k))))), some (.int ((nI j) + 1))], [], (zw_C g gl (va_up a 12 (upd h ((i * 6) + j) (nI ((M i j + P * P - M i k * zv_inv P (M k k) % P * M k j) % P)))) al))) 2 rfl ?_
      rw [show (nI j) + 1 = nI (j + 1) from (zn_add rfl rfl)]
      exact ih2 (j + 1, (upd h ((i * 6) + j) (nI ((M i j + P * P - M i k * zv_inv P (M k k) % P * M k j) % P)))) ⟨by omega, by omega, fun r l hr hl => by show upd h (i * 6 + j) _ (r * 6 + l) = nI (if r < i ∨ (r = i ∧ l < j + 1) then _ else _); by_cases q : r * 6 + l = i * 6 + j; have q3 : r = i := (by omega); have q4 : l = j := (by omega); subst q3 q4; rw [pk_us, if_pos (by omega)]; refine congrArg nI ?_; unfold zd_cl; rw [if_pos (by omega)]; rw [pk_un q, hh r l hr hl]; refine congrArg nI ?_; by_cases q5 : r < i ∨ (r = i ∧ l < j); rw [if_pos q5, if_pos (by omega)]; rw [if_neg q5, if_neg (by omega)]⟩ (by omega)
theorem zz_nm1 {p : Nat} (h : p < 1000) : ¬ nI p = -1 := by
  intro q
  have e := nI_toInt (n := p) (by omega)
  rw [q] at e
  have : (-1 : Int32).toInt = -1 := rfl
  omega
theorem zd_sw_id {M : Nat → Nat → Nat} {k p : Nat} (h : p = k) : zd_sw M k p = M := by
  subst h
  funext i j
  unfold zd_sw
  split
  · rename_i q; rw [q]
  · rfl
theorem zd_mat_plE {P : Nat} {c : Nat → Nat} {i j : Nat} (h : i = j) : zd_mat P c i j = 2 * c (zq_pl i j) % P := by
  unfold zd_mat; rw [if_pos h, zq_pl_le (by omega), h]
theorem zd_mat_plN {P : Nat} {c : Nat → Nat} {i j : Nat} (h : i ≠ j) : zd_mat P c i j = 1 * c (zq_pl i j) % P := by
  unfold zd_mat zq_pl; rw [if_neg h, Nat.one_mul]; split <;> rfl
theorem zs_C_det_2 (g : Nat → Int32) (gl : Nat → Int64) (a : Nat → Nat → Int32) (al : Nat → Nat → Int64) (N : Nat) (hN : g 12 = nI N) (hN6 : N ≤ 6) (P : Nat) (hP : g 11 = nI P) (hPP : P = 2 ∨ P = 3 ∨ P = 5) (c : Nat → Nat) (hm : zC_m (a 11) 6 c) (hc4 : ∀ k, k < 36 → c k ≤ 4) : zm_Ev zt_get 3 18 [.ref 2] (zw_C g gl a al) (fun v w => v = some (.int (nI (zd_det P N N 0 (zd_mat P c) 1))) ∧ ∃ f, w = (zw_C g gl (va_up a 12 f) al)) := by
  obtain ⟨hP0, hP5⟩ := zv_P5 hPP
  refine zr_ev zt_O_determinant rfl rfl ?_
  show zm_Run zt_get 2 zt_O_determinant (0, [some (.ref 2), none, none, none], [], (zw_C g gl a al)) _
  refine zr_go (t := (2, [some (.ref 2), some (.int 0), none, none], [], (zw_C g gl a al))) 2 rfl ?_
  refine zr_loop (fun zq : Nat × (Nat → Int32) => (2, [some (.ref 2), some (.int (nI zq.1)), none, none], [], (zw_C g gl (va_up a 12 zq.2) al))) (fun zq => zq.1 ≤ N ∧ ∀ r l, r < zq.1 → l < N → zq.2 (r * 6 + l) = nI (zd_mat P c r l)) (fun zq => N - zq.1) ?_ (0, a 12) ⟨by omega, fun r l h => absurd h (Nat.not_lt_zero r)⟩
  rintro ⟨i, f⟩ ⟨hi, hf⟩ ih
  try dsimp only at *
  refine zr_go (t := (7, [some (.ref 2), some (.int (nI i)), none, none], [.int (g 12), .int (nI i)], (zw_C g gl (va_up a 12 f) al))) 3 rfl ?_
  refine zr_ige (x := nI i) (y := g 12) i N rfl hN (by omega) (by omega) (t := (69, [some (.ref 2), some (.int (nI i)), none, none], [], (zw_C g gl (va_up a 12 f) al))) (f := (10, [some (.ref 2), some (.int (nI i)), none, none], [], (zw_C g gl (va_up a 12 f) al))) rfl (fun h1 => ?_) (fun h1 => ?_)
  · skip
    have hf2 : zC_M f N (zd_mat P c) := fun r l hr hl => hf r l (by omega) hl
    refine zr_go (t := (73, [some (.ref 2), some (.int 1), some (.int 0), none], [], (zw_C g gl (va_up a 12 f) al))) 4 rfl ?_
    refine zr_loop (fun zq : Nat × Nat × (Nat → Int32) × (Nat → Nat → Nat) => (73, [some (.ref 2), some (.int (nI zq.2.1)), some (.int (nI zq.1)), none], [], (zw_C g gl (va_up a 12 zq.2.2.1) al))) (fun zq => zq.1 ≤ N ∧ zq.2.1 < P ∧ zC_M zq.2.2.1 N zq.2.2.2 ∧ (∀ r l, r < N → l < N → zq.2.2.2 r l < P) ∧ zd_det P N (N - zq.1) zq.1 zq.2.2.2 zq.2.1 = zd_det P N N 0 (zd_mat P c) 1) (fun zq => N - zq.1) ?_ (0, 1, f, zd_mat P c) ⟨by omega, by show 1 < P; omega, hf2, fun r l _ _ => Nat.mod_lt _ hP0, rfl⟩
    rintro ⟨k, t, h, M⟩ ⟨hk, ht, hh, hMP, hD⟩ ih2
    try dsimp only at *
    have hM4 : ∀ r l, r < N → l < N → M r l ≤ 4 := fun r l hr hl => by have := hMP r l hr hl; omega
    refine zr_go (t := (78, [some (.ref 2), some (.int (nI t)), some (.int (nI k)), none], [.int (g 12), .int (nI k)], (zw_C g gl (va_up a 12 h) al))) 3 rfl ?_
    refine zr_ige (x := nI k) (y := g 12) k N rfl hN (by omega) (by omega) (t := (140, [some (.ref 2), some (.int (nI t)), some (.int (nI k)), none], [], (zw_C g gl (va_up a 12 h) al))) (f := (81, [some (.ref 2), some (.int (nI t)), some (.int (nI k)), none], [], (zw_C g gl (va_up a 12 h) al))) rfl (fun h2 => ?_) (fun h2 => ?_)
    · skip
      rw [show N - k = 0 by omega] at hD
      have hD : t = _ := hD
      refine zr_go (t := (141, [some (.ref 2), some (.int (nI t)), some (.int (nI k)), none], [.int (nI t)], (zw_C g gl (va_up a 12 h) al))) 1 rfl ?_
      exact zr_ret rfl trivial ⟨by rw [hD], h, rfl⟩
    · skip
      rw [show N - k = (N - (k + 1)) + 1 by omega, zd_det_s] at hD
      refine zr_go (t := (83, [some (.ref 2), some (.int (nI t)), some (.int (nI k)), none], [.int (nI k), .ref 2], (zw_C g gl (va_up a 12 h) al))) 2 rfl ?_
      refine zr_call (t := (86, [some (.ref 2), some (.int (nI t)), some (.int (nI k)), none], [], (zw_C g gl (va_up a 12 h) al))) rfl (Nat.le_of_ble_eq_true rfl : 1 ≤ 2) (zs_C_pivot_2 g gl (va_up a 12 h) al N hN hN6 M hh hM4 k h2) ?_
      rintro _ _ ⟨rfl, rfl⟩
      show zm_Run zt_get 2 zt_O_determinant (86, [some (.ref 2), some (.int (nI t)), some (.int (nI k)), none], [.int (if zM (fun i => M i k != 0) k (N - k) = N then -1 else nI (zM (fun i => M i k != 0) k (N - k)))], (zw_C g gl (va_up a 12 h) al)) _
      obtain ⟨p, hp⟩ : ∃ p, p = zM (fun i => M i k != 0) k (N - k) := ⟨_, rfl⟩
      have hpz := zM_ge (fun i => M i k != 0) (N - k) k
      rw [← hp] at hpz hD ⊢
      by_cases hpN : p = N
      · skip
        rw [if_pos hpN] at hD ⊢
        refine zr_go (t := (89, [some (.ref 2), some (.int (nI t)), some (.int (nI k)), some (.int (-1))], [.int (-1), .int (-1)], (zw_C g gl (va_up a 12 h) al))) 3 rfl ?_
        refine zr_if (c := (-1) = (-1)) (t := (92, [some (.ref 2), some (.int (nI t)), some (.int (nI k)), some (.int (-1))], [], (zw_C g gl (va_up a 12 h) al))) (f := (94, [some (.ref 2), some (.int (nI t)), some (.int (nI k)), some (.int (-1))], [], (zw_C g gl (va_up a 12 h) al))) rfl (fun h3 => ?_) (fun h3 => ?_)
        · skip
          refine zr_go (t := (93, [some (.ref 2), some (.int (nI t)), some (.int (nI k)), some (.int (-1))], [.int 0], (zw_C g gl (va_up a 12 h) al))) 1 rfl ?_
          exact zr_ret rfl trivial ⟨by rw [← hD]; rfl, h, rfl⟩
        · skip
          exact absurd rfl h3
      · skip
        rw [if_neg hpN] at hD ⊢
        have hp1 : p < N := by omega
        have hpk : k ≤ p := hpz.1
        have hpv : M p k ≠ 0 := bne_iff_ne.mp (hpz.2.2 (by omega))
        refine zr_go (t := (89, [some (.ref 2), some (.int (nI t)), some (.int (nI k)), some (.int (nI p))], [.int (-1), .int (nI p)], (zw_C g gl (va_up a 12 h) al))) 3 rfl ?_
        refine zr_if (c := nI p = (-1)) (t := (92, [some (.ref 2), some (.int (nI t)), some (.int (nI k)), some (.int (nI p))], [], (zw_C g gl (va_up a 12 h) al))) (f := (94, [some (.ref 2), some (.int (nI t)), some (.int (nI k)), some (.int (nI p))], [], (zw_C g gl (va_up a 12 h) al))) rfl (fun h3 => ?_) (fun h3 => ?_)
        · skip
          exact absurd h3 (zz_nm1 (by omega))
        · skip
          refine zr_go (t := (96, [some (.ref 2), some (.int (nI t)), some (.int (nI k)), some (.int (nI p))], [.int (nI k), .int (nI p)], (zw_C g gl (va_up a 12 h) al))) 2 rfl ?_
          refine zr_ieq (x := nI p) (y := nI k) p k rfl rfl (by omega) (by omega) (t := (108, [some (.ref 2), some (.int (nI t)), some (.int (nI k)), some (.int (nI p))], [], (zw_C g gl (va_up a 12 h) al))) (f := (99, [some (.ref 2), some (.int (nI t)), some (.int (nI k)), some (.int (nI p))], [], (zw_C g gl (va_up a 12 h) al))) rfl (fun h4 => ?_) (fun h4 => ?_)
          · skip
            have hkk : M k k ≠ 0 := by exact h4 ▸ hpv
            have hMP2 : ∀ r l, r < N → l < N → M r l < P := hMP
            have hb1 := hMP2 k k h2 h2
            refine zr_go (t := (119, [some (.ref 2), some (.int (nI t)), some (.int (nI k)), some (.int (nI p))], [.int (((nI k) * 6) + (nI k)), .ref 12, .int (nI t)], (zw_C g gl (va_up a 12 h) al))) 8 rfl ?_
            refine zr_cd (t := (120, [some (.ref 2), some (.int (nI t)), some (.int (nI k)), some (.int (nI p))], [.int (h (((nI k) * 6) + (nI k)).toNatClampNeg), .int (nI t)], (zw_C g gl (va_up a 12 h) al))) rfl (pk_in ((k * 6) + k) 36 (by omega) (zn_add (zn_mul rfl rfl) rfl) (by omega)) ?_
            rw [pk_cl (x := (((nI k) * 6) + (nI k))) ((k * 6) + k) (zn_add (zn_mul rfl rfl) rfl) (by omega)]
            rw [show h ((k * 6) + k) = nI (M k k) from hh k k h2 h2]
            refine zr_go (t := (125, [some (.ref 2), some (.int (nI t)), some (.int (nI k)), some (.int (nI p))], [.int (g 11), .int ((nI t) * (nI (M k k)))], (zw_C g gl (va_up a 12 h) al))) 3 rfl ?_
            rw [hP]
            have hbm : t * M k k ≤ 4 * 4 := Nat.mul_le_mul (by omega) (by omega)
            refine zr_call (t := (128, [some (.ref 2), some (.int (nI t)), some (.int (nI k)), some (.int (nI p))], [], (zw_C g gl (va_up a 12 h) al))) rfl (Nat.le_of_ble_eq_true rfl : 1 ≤ 2) (zs_C_modN g gl (va_up a 12 h) al (nI t * nI (M k k)) (t * M k k) P (zn_mul rfl rfl) (by omega) hP0 (by omega)) ?_
            rintro _ _ ⟨rfl, rfl⟩
            show zm_Run zt_get 2 zt_O_determinant (128, [some (.ref 2), some (.int (nI t)), some (.int (nI k)), some (.int (nI p))], [.int (nI (t * M k k % P))], (zw_C g gl (va_up a 12 h) al)) _
            refine zr_go (t := (131, [some (.ref 2), some (.int (nI (t * M k k % P))), some (.int (nI k)), some (.int (nI p))], [.int (nI k), .ref 2], (zw_C g gl (va_up a 12 h) al))) 3 rfl ?_
            refine zr_call (t := (134, [some (.ref 2), some (.int (nI (t * M k k % P))), some (.int (nI k)), some (.int (nI p))], [], (zw_C g gl (va_up a 12 h) al))) rfl (Nat.le_of_ble_eq_true rfl : 2 ≤ 2) (zs_C_clear_2 g gl (va_up a 12 h) al N hN hN6 P hP hPP M hh hMP2 k h2 hkk) ?_
            rintro _ _ ⟨rfl, h9, rfl, hh9⟩
            show zm_Run zt_get 2 zt_O_determinant (134, [some (.ref 2), some (.int (nI (t * M k k % P))), some (.int (nI k)), some (.int (nI p))], [], (zw_C g gl (va_up a 12 h9) al)) _
            refine zr_go (t := (73, [some (.ref 2), some (.int (nI (t * M k k % P))), some (.int ((nI k) + 1)), some (.int (nI p))], [], (zw_C g gl (va_up a 12 h9) al))) 2 rfl ?_
            rw [show (nI k) + 1 = nI (k + 1) from (zn_add rfl rfl)]
            refine zr_forget [some (.ref 2), some (.int (nI (t * M k k % P))), some (.int (nI (k + 1))), none] ⟨Or.inr rfl, Or.inr rfl, Or.inr rfl, Or.inl rfl, trivial⟩ ?_
            exact ih2 (k + 1, t * M k k % P, h9, zd_cl P M k (zv_inv P (M k k))) ⟨by omega, Nat.mod_lt _ hP0, hh9, zd_cl_lt hP0 hMP2, (by rw [if_pos h4] at hD; rw [← hD, show zd_sw M k p = M from zd_sw_id h4])⟩ (by omega)
          · skip
            refine zr_go (t := (102, [some (.ref 2), some (.int (nI t)), some (.int (nI k)), some (.int (nI p))], [.int (nI p), .int (nI k), .ref 2], (zw_C g gl (va_up a 12 h) al))) 3 rfl ?_
            refine zr_call (t := (105, [some (.ref 2), some (.int (nI t)), some (.int (nI k)), some (.int (nI p))], [], (zw_C g gl (va_up a 12 h) al))) rfl (Nat.le_of_ble_eq_true rfl : 1 ≤ 2) (zs_C_exchRows_2 g gl (va_up a 12 h) al N hN hN6 M hh hM4 k p h2 hp1 (fun z => h4 z.symm)) ?_
            rintro _ _ ⟨rfl, h8, rfl, hh8⟩
            show zm_Run zt_get 2 zt_O_determinant (105, [some (.ref 2), some (.int (nI t)), some (.int (nI k)), some (.int (nI p))], [], (zw_C g gl (va_up a 12 h8) al)) _
            refine zr_go (t := (108, [some (.ref 2), some (.int (-(nI t))), some (.int (nI k)), some (.int (nI p))], [], (zw_C g gl (va_up a 12 h8) al))) 3 rfl ?_
            have hkk : (zd_sw M k p) k k ≠ 0 := by unfold zd_sw; rw [if_pos rfl]; exact hpv
            have hMP2 : ∀ r l, r < N → l < N → (zd_sw M k p) r l < P := zd_sw_lt hMP h2 hp1
            have hb1 := hMP2 k k h2 h2
            refine zr_go (t := (119, [some (.ref 2), some (.int (-(nI t))), some (.int (nI k)), some (.int (nI p))], [.int (((nI k) * 6) + (nI k)), .ref 12, .int (-(nI t))], (zw_C g gl (va_up a 12 h8) al))) 8 rfl ?_
            refine zr_cd (t := (120, [some (.ref 2), some (.int (-(nI t))), some (.int (nI k)), some (.int (nI p))], [.int (h8 (((nI k) * 6) + (nI k)).toNatClampNeg), .int (-(nI t))], (zw_C g gl (va_up a 12 h8) al))) rfl (pk_in ((k * 6) + k) 36 (by omega) (zn_add (zn_mul rfl rfl) rfl) (by omega)) ?_
            rw [pk_cl (x := (((nI k) * 6) + (nI k))) ((k * 6) + k) (zn_add (zn_mul rfl rfl) rfl) (by omega)]
            rw [show h8 ((k * 6) + k) = nI ((zd_sw M k p) k k) from hh8 k k h2 h2]
            refine zr_go (t := (125, [some (.ref 2), some (.int (-(nI t))), some (.int (nI k)), some (.int (nI p))], [.int (g 11), .int ((-(nI t)) * (nI ((zd_sw M k p) k k)))], (zw_C g gl (va_up a 12 h8) al))) 3 rfl ?_
            rw [hP]
            refine zr_call (t := (128, [some (.ref 2), some (.int (-(nI t))), some (.int (nI k)), some (.int (nI p))], [], (zw_C g gl (va_up a 12 h8) al))) rfl (Nat.le_of_ble_eq_true rfl : 1 ≤ 2) (zs_C_mod g gl (va_up a 12 h8) al (-(nI t) * nI ((zd_sw M k p) k k)) P hP0 (by omega)) ?_
            rintro _ _ ⟨rfl, rfl⟩
            show zm_Run zt_get 2 zt_O_determinant (128, [some (.ref 2), some (.int (-(nI t))), some (.int (nI k)), some (.int (nI p))], [.int (nI (zz_mod (-(nI t) * nI ((zd_sw M k p) k k)) P))], (zw_C g gl (va_up a 12 h8) al)) _
            rw [zz_sgn P hPP _ ht _ hb1]
            refine zr_go (t := (131, [some (.ref 2), some (.int (nI ((P - t) * (zd_sw M k p) k k % P))), some (.int (nI k)), some (.int (nI p))], [.int (nI k), .ref 2], (zw_C g gl (va_up a 12 h8) al))) 3 rfl ?_
            refine zr_call (t := (134, [some (.ref 2), some (.int (nI ((P - t) * (zd_sw M k p) k k % P))), some (.int (nI k)), some (.int (nI p))], [], (zw_C g gl (va_up a 12 h8) al))) rfl (Nat.le_of_ble_eq_true rfl : 2 ≤ 2) (zs_C_clear_2 g gl (va_up a 12 h8) al N hN hN6 P hP hPP (zd_sw M k p) hh8 hMP2 k h2 hkk) ?_
            rintro _ _ ⟨rfl, h9, rfl, hh9⟩
            show zm_Run zt_get 2 zt_O_determinant (134, [some (.ref 2), some (.int (nI ((P - t) * (zd_sw M k p) k k % P))), some (.int (nI k)), some (.int (nI p))], [], (zw_C g gl (va_up a 12 h9) al)) _
            refine zr_go (t := (73, [some (.ref 2), some (.int (nI ((P - t) * (zd_sw M k p) k k % P))), some (.int ((nI k) + 1)), some (.int (nI p))], [], (zw_C g gl (va_up a 12 h9) al))) 2 rfl ?_
            rw [show (nI k) + 1 = nI (k + 1) from (zn_add rfl rfl)]
            refine zr_forget [some (.ref 2), some (.int (nI ((P - t) * (zd_sw M k p) k k % P))), some (.int (nI (k + 1))), none] ⟨Or.inr rfl, Or.inr rfl, Or.inr rfl, Or.inl rfl, trivial⟩ ?_
            exact ih2 (k + 1, (P - t) * (zd_sw M k p) k k % P, h9, zd_cl P (zd_sw M k p) k (zv_inv P ((zd_sw M k p) k k))) ⟨by omega, Nat.mod_lt _ hP0, hh9, zd_cl_lt hP0 hMP2, (by rw [if_neg h4] at hD; exact hD)⟩ (by omega)
  · skip
    refine zr_go (t := (12, [some (.ref 2), some (.int (nI i)), some (.int 0), none], [], (zw_C g gl (va_up a 12 f) al))) 2 rfl ?_
    refine zr_loop (fun zq : Nat × (Nat → Int32) => (12, [some (.ref 2), some (.int (nI i)), some (.int (nI zq.1)), none], [], (zw_C g gl (va_up a 12 zq.2) al))) (fun zq => zq.1 ≤ N ∧ (∀ r l, r < i → l < N → zq.2 (r * 6 + l) = nI (zd_mat P c r l)) ∧ ∀ l, l < zq.1 → zq.2 (i * 6 + l) = nI (zd_mat P c i l)) (fun zq => N - zq.1) ?_ (0, f) ⟨by omega, hf, fun l h => absurd h (Nat.not_lt_zero l)⟩
    rintro ⟨j, h⟩ ⟨hj, hh1, hh2⟩ ih3
    try dsimp only at *
    refine zr_go (t := (17, [some (.ref 2), some (.int (nI i)), some (.int (nI j)), none], [.int (g 12), .int (nI j)], (zw_C g gl (va_up a 12 h) al))) 3 rfl ?_
    refine zr_ige (x := nI j) (y := g 12) j N rfl hN (by omega) (by omega) (t := (63, [some (.ref 2), some (.int (nI i)), some (.int (nI j)), none], [], (zw_C g gl (va_up a 12 h) al))) (f := (20, [some (.ref 2), some (.int (nI i)), some (.int (nI j)), none], [], (zw_C g gl (va_up a 12 h) al))) rfl (fun h2 => ?_) (fun h2 => ?_)
    · skip
      refine zr_go (t := (2, [some (.ref 2), some (.int ((nI i) + 1)), some (.int (nI j)), none], [], (zw_C g gl (va_up a 12 h) al))) 2 rfl ?_
      rw [show (nI i) + 1 = nI (i + 1) from (zn_add rfl rfl)]
      refine zr_forget [some (.ref 2), some (.int (nI (i + 1))), none, none] ⟨Or.inr rfl, Or.inr rfl, Or.inl rfl, Or.inr rfl, trivial⟩ ?_
      exact ih (i + 1, h) ⟨by omega, fun r l hr hl => if q : r = i then (by subst q; exact hh2 l (by omega)) else hh1 r l (by have hr : r < i + 1 := hr; omega) hl⟩ (by omega)
    · skip
      have hb := hc4 _ (zx_36 (k := i) (l := j) (by omega) (by omega))
      refine zr_go (t := (22, [some (.ref 2), some (.int (nI i)), some (.int (nI j)), none], [.int (nI j), .int (nI i)], (zw_C g gl (va_up a 12 h) al))) 2 rfl ?_
      refine zr_ine (x := nI i) (y := nI j) i j rfl rfl (by omega) (by omega) (t := (29, [some (.ref 2), some (.int (nI i)), some (.int (nI j)), none], [], (zw_C g gl (va_up a 12 h) al))) (f := (25, [some (.ref 2), some (.int (nI i)), some (.int (nI j)), none], [], (zw_C g gl (va_up a 12 h) al))) rfl (fun h3 => ?_) (fun h3 => ?_)
      · skip
        refine zr_go (t := (45, [some (.ref 2), some (.int (nI i)), some (.int (nI j)), some (.int 1)], [.int (nI j), .int (nI i), .ref 2, .int 1, .int (((nI i) * 6) + (nI j)), .ref 12], (zw_C g gl (va_up a 12 h) al))) 13 rfl ?_
        refine zr_call (t := (48, [some (.ref 2), some (.int (nI i)), some (.int (nI j)), some (.int 1)], [.int 1, .int (((nI i) * 6) + (nI j)), .ref 12], (zw_C g gl (va_up a 12 h) al))) rfl (Nat.le_of_ble_eq_true rfl : 1 ≤ 2) (zs_C_cell_2 g gl (va_up a 12 h) al c hm i j (by omega) (by omega)) ?_
        rintro _ _ ⟨rfl, rfl⟩
        show zm_Run zt_get 2 zt_O_determinant (48, [some (.ref 2), some (.int (nI i)), some (.int (nI j)), some (.int 1)], [.int (nI (c (zq_pl i j))), .int 1, .int (((nI i) * 6) + (nI j)), .ref 12], (zw_C g gl (va_up a 12 h) al)) _
        refine zr_go (t := (53, [some (.ref 2), some (.int (nI i)), some (.int (nI j)), some (.int 1)], [.int (g 11), .int (1 * (nI (c (zq_pl i j)))), .int (((nI i) * 6) + (nI j)), .ref 12], (zw_C g gl (va_up a 12 h) al))) 3 rfl ?_
        rw [hP]
        refine zr_call (t := (56, [some (.ref 2), some (.int (nI i)), some (.int (nI j)), some (.int 1)], [.int (((nI i) * 6) + (nI j)), .ref 12], (zw_C g gl (va_up a 12 h) al))) rfl (Nat.le_of_ble_eq_true rfl : 1 ≤ 2) (zs_C_modN g gl (va_up a 12 h) al (1 * nI (c (zq_pl i j))) (1 * c (zq_pl i j)) P (zn_mul rfl rfl) (by omega) hP0 (by omega)) ?_
        rintro _ _ ⟨rfl, rfl⟩
        show zm_Run zt_get 2 zt_O_determinant (56, [some (.ref 2), some (.int (nI i)), some (.int (nI j)), some (.int 1)], [.int (nI (1 * c (zq_pl i j) % P)), .int (((nI i) * 6) + (nI j)), .ref 12], (zw_C g gl (va_up a 12 h) al)) _
        refine zr_cd (t := (57, [some (.ref 2), some (.int (nI i)), some (.int (nI j)), some (.int 1)], [], (zw_C g gl (va_up a 12 (upd h ((((nI i) * 6) + (nI j)).toNatClampNeg) (nI (1 * c (zq_pl i j) % P)))) al))) rfl (pk_in ((i * 6) + j) 36 (by omega) (zn_add (zn_mul rfl rfl) rfl) (by omega)) ?_
        rw [pk_cl (x := (((nI i) * 6) + (nI j))) ((i * 6) + j) (zn_add (zn_mul rfl rfl) rfl) (by omega)]
        refine zr_go (t := (12, [some (.ref 2), some (.int (nI i)), some (.int ((nI j) + 1)), some (.int 1)], [], (zw_C g gl (va_up a 12 (upd h ((i * 6) + j) (nI (1 * c (zq_pl i j) % P)))) al))) 2 rfl ?_
        rw [show (nI j) + 1 = nI (j + 1) from (zn_add rfl rfl)]
        refine zr_forget [some (.ref 2), some (.int (nI i)), some (.int (nI (j + 1))), none] ⟨Or.inr rfl, Or.inr rfl, Or.inr rfl, Or.inl rfl, trivial⟩ ?_
        exact ih3 (j + 1, (upd h ((i * 6) + j) (nI (1 * c (zq_pl i j) % P)))) ⟨by omega, fun r l hr hl => (pk_un (by omega)).trans (hh1 r l hr hl), fun l hl => if q : l = j then (by subst q; exact pk_us.trans (congrArg nI (zd_mat_plN h3).symm)) else (pk_un (by omega)).trans (hh2 l (by have hl : l < j + 1 := hl; omega))⟩ (by omega)
      · skip
        refine zr_go (t := (45, [some (.ref 2), some (.int (nI i)), some (.int (nI j)), some (.int 2)], [.int (nI j), .int (nI i), .ref 2, .int 2, .int (((nI i) * 6) + (nI j)), .ref 12], (zw_C g gl (va_up a 12 h) al))) 14 rfl ?_
        refine zr_call (t := (48, [some (.ref 2), some (.int (nI i)), some (.int (nI j)), some (.int 2)], [.int 2, .int (((nI i) * 6) + (nI j)), .ref 12], (zw_C g gl (va_up a 12 h) al))) rfl (Nat.le_of_ble_eq_true rfl : 1 ≤ 2) (zs_C_cell_2 g gl (va_up a 12 h) al c hm i j (by omega) (by omega)) ?_
        rintro _ _ ⟨rfl, rfl⟩
        show zm_Run zt_get 2 zt_O_determinant (48, [some (.ref 2), some (.int (nI i)), some (.int (nI j)), some (.int 2)], [.int (nI (c (zq_pl i j))), .int 2, .int (((nI i) * 6) + (nI j)), .ref 12], (zw_C g gl (va_up a 12 h) al)) _
        refine zr_go (t := (53, [some (.ref 2), some (.int (nI i)), some (.int (nI j)), some (.int 2)], [.int (g 11), .int (2 * (nI (c (zq_pl i j)))), .int (((nI i) * 6) + (nI j)), .ref 12], (zw_C g gl (va_up a 12 h) al))) 3 rfl ?_
        rw [hP]
        refine zr_call (t := (56, [some (.ref 2), some (.int (nI i)), some (.int (nI j)), some (.int 2)], [.int (((nI i) * 6) + (nI j)), .ref 12], (zw_C g gl (va_up a 12 h) al))) rfl (Nat.le_of_ble_eq_true rfl : 1 ≤ 2) (zs_C_modN g gl (va_up a 12 h) al (2 * nI (c (zq_pl i j))) (2 * c (zq_pl i j)) P (zn_mul rfl rfl) (by omega) hP0 (by omega)) ?_
        rintro _ _ ⟨rfl, rfl⟩
        show zm_Run zt_get 2 zt_O_determinant (56, [some (.ref 2), some (.int (nI i)), some (.int (nI j)), some (.int 2)], [.int (nI (2 * c (zq_pl i j) % P)), .int (((nI i) * 6) + (nI j)), .ref 12], (zw_C g gl (va_up a 12 h) al)) _
        refine zr_cd (t := (57, [some (.ref 2), some (.int (nI i)), some (.int (nI j)), some (.int 2)], [], (zw_C g gl (va_up a 12 (upd h ((((nI i) * 6) + (nI j)).toNatClampNeg) (nI (2 * c (zq_pl i j) % P)))) al))) rfl (pk_in ((i * 6) + j) 36 (by omega) (zn_add (zn_mul rfl rfl) rfl) (by omega)) ?_
        rw [pk_cl (x := (((nI i) * 6) + (nI j))) ((i * 6) + j) (zn_add (zn_mul rfl rfl) rfl) (by omega)]
        refine zr_go (t := (12, [some (.ref 2), some (.int (nI i)), some (.int ((nI j) + 1)), some (.int 2)], [], (zw_C g gl (va_up a 12 (upd h ((i * 6) + j) (nI (2 * c (zq_pl i j) % P)))) al))) 2 rfl ?_
        rw [show (nI j) + 1 = nI (j + 1) from (zn_add rfl rfl)]
        refine zr_forget [some (.ref 2), some (.int (nI i)), some (.int (nI (j + 1))), none] ⟨Or.inr rfl, Or.inr rfl, Or.inr rfl, Or.inl rfl, trivial⟩ ?_
        exact ih3 (j + 1, (upd h ((i * 6) + j) (nI (2 * c (zq_pl i j) % P)))) ⟨by omega, fun r l hr hl => (pk_un (by omega)).trans (hh1 r l hr hl), fun l hl => if q : l = j then (by subst q; exact pk_us.trans (congrArg nI (zd_mat_plE h3).symm)) else (pk_un (by omega)).trans (hh2 l (by have hl : l < j + 1 := hl; omega))⟩ (by omega)
theorem zs_C_disc_2 (g : Nat → Int32) (gl : Nat → Int64) (a : Nat → Nat → Int32) (al : Nat → Nat → Int64) (N : Nat) (hN : g 12 = nI N) (hN6 : N ≤ 6) (P : Nat) (hP : g 11 = nI P) (hPP : P = 2 ∨ P = 3 ∨ P = 5) (c : Nat → Nat) (hm : zC_m (a 11) 6 c) (hc4 : ∀ k, k < 36 → c k ≤ 4) : zm_Ev zt_get 4 17 [.ref 2] (zw_C g gl a al) (fun v w => v = some (.int (zd_disc P N c)) ∧ ∃ f, w = (zw_C g gl (va_up a 12 f) al)) := by
  obtain ⟨hP0, hP5⟩ := zv_P5 hPP
  have hDl : zd_det P N N 0 (zd_mat P c) 1 < P := zd_det_lt hP0 N 0 _ 1 (by omega)
  refine zr_ev zt_O_discriminant rfl rfl ?_
  show zm_Run zt_get 3 zt_O_discriminant (0, [some (.ref 2), none, none], [], (zw_C g gl a al)) _
  refine zr_go (t := (5, [some (.ref 2), none, none], [.int 2, .int (g 11)], (zw_C g gl a al))) 3 rfl ?_
  refine zr_ine (x := g 11) (y := 2) P 2 hP rfl (by omega) (by omega) (t := (10, [some (.ref 2), none, none], [], (zw_C g gl a al))) (f := (8, [some (.ref 2), none, none], [], (zw_C g gl a al))) rfl (fun h1 => ?_) (fun h1 => ?_)
  · skip
    refine zr_go (t := (11, [some (.ref 2), none, none], [.ref 2], (zw_C g gl a al))) 1 rfl ?_
    refine zr_call (t := (14, [some (.ref 2), none, none], [], (zw_C g gl a al))) rfl (Nat.le_of_ble_eq_true rfl : 3 ≤ 3) (zs_C_det_2 g gl a al N hN hN6 P hP hPP c hm hc4) ?_
    rintro _ _ ⟨rfl, f, rfl⟩
    show zm_Run zt_get 3 zt_O_discriminant (14, [some (.ref 2), none, none], [.int (nI (zd_det P N N 0 (zd_mat P c) 1))], (zw_C g gl (va_up a 12 f) al)) _
    refine zr_go (t := (16, [some (.ref 2), some (.int (nI (zd_det P N N 0 (zd_mat P c) 1))), none], [.int (nI (zd_det P N N 0 (zd_mat P c) 1))], (zw_C g gl (va_up a 12 f) al))) 2 rfl ?_
    refine zr_ine (x := nI (zd_det P N N 0 (zd_mat P c) 1)) (y := 0) (zd_det P N N 0 (zd_mat P c) 1) 0 rfl rfl (by omega) (by omega) (t := (21, [some (.ref 2), some (.int (nI (zd_det P N N 0 (zd_mat P c) 1))), none], [], (zw_C g gl (va_up a 12 f) al))) (f := (19, [some (.ref 2), some (.int (nI (zd_det P N N 0 (zd_mat P c) 1))), none], [], (zw_C g gl (va_up a 12 f) al))) rfl (fun h2 => ?_) (fun h2 => ?_)
    · skip
      generalize hv : zd_det P N N 0 (zd_mat P c) 1 = v at h2 hDl
      refine zr_go (t := (23, [some (.ref 2), some (.int (nI v)), some (.int 1)], [], (zw_C g gl (va_up a 12 f) al))) 2 rfl ?_
      refine zr_loop (fun zq : Nat => (23, [some (.ref 2), some (.int (nI v)), some (.int (nI zq))], [], (zw_C g gl (va_up a 12 f) al))) (fun zq => 1 ≤ zq ∧ zq ≤ P ∧ zE (fun x => (x + 1) * (x + 1) % P == v) (zq - 1) = false) (fun zq => P - zq) ?_ 1 ⟨by omega, by omega, rfl⟩
      rintro r ⟨hr1, hr, hz⟩ ih
      try dsimp only at *
      refine zr_go (t := (28, [some (.ref 2), some (.int (nI v)), some (.int (nI r))], [.int (g 11), .int (nI r)], (zw_C g gl (va_up a 12 f) al))) 3 rfl ?_
      refine zr_ige (x := nI r) (y := g 11) r P rfl hP (by omega) (by omega) (t := (53, [some (.ref 2), some (.int (nI v)), some (.int (nI r))], [], (zw_C g gl (va_up a 12 f) al))) (f := (31, [some (.ref 2), some (.int (nI v)), some (.int (nI r))], [], (zw_C g gl (va_up a 12 f) al))) rfl (fun h3 => ?_) (fun h3 => ?_)
      · skip
        refine zr_go (t := (54, [some (.ref 2), some (.int (nI v)), some (.int (nI r))], [.int (-1)], (zw_C g gl (va_up a 12 f) al))) 1 rfl ?_
        exact zr_ret rfl trivial ⟨by unfold zd_disc; rw [if_neg h1, hv, if_neg h2, if_neg (by rw [show P - 1 = r - 1 by omega, hz]; decide)], f, rfl⟩
      · skip
        have hbr : r * r ≤ 5 * 5 := Nat.mul_le_mul (by omega) (by omega)
        have hbr2 : r * r % P < P := Nat.mod_lt _ hP0
        refine zr_go (t := (38, [some (.ref 2), some (.int (nI v)), some (.int (nI r))], [.int (g 11), .int ((nI r) * (nI r))], (zw_C g gl (va_up a 12 f) al))) 5 rfl ?_
        rw [hP]
        refine zr_call (t := (41, [some (.ref 2), some (.int (nI v)), some (.int (nI r))], [], (zw_C g gl (va_up a 12 f) al))) rfl (Nat.le_of_ble_eq_true rfl : 1 ≤ 3) (zs_C_modN g gl (va_up a 12 f) al (nI r * nI r) (r * r) P (zn_mul rfl rfl) (by omega) hP0 (by omega)) ?_
        rintro _ _ ⟨rfl, rfl⟩
        show zm_Run zt_get 3 zt_O_discriminant (41, [some (.ref 2), some (.int (nI v)), some (.int (nI r))], [.int (nI (r * r % P))], (zw_C g gl (va_up a 12 f) al)) _
        refine zr_go (t := (42, [some (.ref 2), some (.int (nI v)), some (.int (nI r))], [.int (nI v), .int (nI (r * r % P))], (zw_C g gl (va_up a 12 f) al))) 1 rfl ?_
        refine zr_ine (x := nI (r * r % P)) (y := nI v) (r * r % P) v rfl rfl (by omega) (by omega) (t := (47, [some (.ref 2), some (.int (nI v)), some (.int (nI r))], [], (zw_C g gl (va_up a 12 f) al))) (f := (45, [some (.ref 2), some (.int (nI v)), some (.int (nI r))], [], (zw_C g gl (va_up a 12 f) al))) rfl (fun h4 => ?_) (fun h4 => ?_)
        · skip
          refine zr_go (t := (23, [some (.ref 2), some (.int (nI v)), some (.int ((nI r) + 1))], [], (zw_C g gl (va_up a 12 f) al))) 2 rfl ?_
          rw [show (nI r) + 1 = nI (r + 1) from (zn_add rfl rfl)]
          exact ih (r + 1) ⟨by omega, by omega, by obtain ⟨e, rfl⟩ : ∃ e, r = e + 1 := ⟨r - 1, by omega⟩; exact zE_nn hz (beq_eq_false_iff_ne.mpr h4)⟩ (by omega)
        · skip
          refine zr_go (t := (46, [some (.ref 2), some (.int (nI v)), some (.int (nI r))], [.int 1], (zw_C g gl (va_up a 12 f) al))) 1 rfl ?_
          exact zr_ret rfl trivial ⟨by unfold zd_disc; rw [if_neg h1, hv, if_neg h2, if_pos (zE_yes (f := (fun x => (x + 1) * (x + 1) % P == v)) (k := r - 1) (by show ((r - 1 + 1) * (r - 1 + 1) % P == v) = true; rw [show r - 1 + 1 = r by omega]; exact beq_iff_eq.mpr h4) (P - 1) (by omega))], f, rfl⟩
    · skip
      refine zr_go (t := (20, [some (.ref 2), some (.int (nI (zd_det P N N 0 (zd_mat P c) 1))), none], [.int 0], (zw_C g gl (va_up a 12 f) al))) 1 rfl ?_
      exact zr_ret rfl trivial ⟨by unfold zd_disc; rw [if_neg h1, if_pos h2], f, rfl⟩
  · skip
    refine zr_go (t := (9, [some (.ref 2), none, none], [.int 0], (zw_C g gl a al))) 1 rfl ?_
    exact zr_ret rfl trivial ⟨by unfold zd_disc; rw [if_pos h1], a 12, rfl⟩
theorem zs_C_pivot_3 (g : Nat → Int32) (gl : Nat → Int64) (a : Nat → Nat → Int32) (al : Nat → Nat → Int64) (N : Nat) (hN : g 14 = nI N) (hN6 : N ≤ 6) (M : Nat → Nat → Nat) (hM : zC_M (a 14) N M) (hM4 : ∀ i j, i < N → j < N → M i j ≤ 4) (k : Nat) (hk : k < N) : zm_Ev zt_get 1 19 [.ref 3, .int (nI k)] (zw_C g gl a al) (fun v w => v = some (.int (if zM (fun i => M i k != 0) k (N - k) = N then -1 else nI (zM (fun i => M i k != 0) k (N - k)))) ∧ w = (zw_C g gl a al)) := by
  refine zr_ev zt_O_pivotRow rfl rfl ?_
  show zm_Run zt_get 0 zt_O_pivotRow (0, [some (.ref 3), some (.int (nI k)), none], [], (zw_C g gl a al)) _
  refine zr_go (t := (2, [some (.ref 3), some (.int (nI k)), some (.int (nI k))], [], (zw_C g gl a al))) 2 rfl ?_
  refine zr_loop (fun zq : Nat => (2, [some (.ref 3), some (.int (nI k)), some (.int (nI zq))], [], (zw_C g gl a al))) (fun zq => k ≤ zq ∧ zq ≤ N ∧ zM (fun t => M t k != 0) zq (N - zq) = zM (fun t => M t k != 0) k (N - k)) (fun zq => N - zq) ?_ k ⟨Nat.le_refl _, by omega, rfl⟩
  rintro i ⟨hi1, hi, hz⟩ ih
  try dsimp only at *
  refine zr_go (t := (7, [some (.ref 3), some (.int (nI k)), some (.int (nI i))], [.int (g 14), .int (nI i)], (zw_C g gl a al))) 3 rfl ?_
  refine zr_ige (x := nI i) (y := g 14) i N rfl hN (by omega) (by omega) (t := (32, [some (.ref 3), some (.int (nI k)), some (.int (nI i))], [], (zw_C g gl a al))) (f := (10, [some (.ref 3), some (.int (nI k)), some (.int (nI i))], [], (zw_C g gl a al))) rfl (fun h1 => ?_) (fun h1 => ?_)
  · skip
    rw [show N - i = 0 by omega] at hz
    have hz : i = _ := hz
    refine zr_go (t := (33, [some (.ref 3), some (.int (nI k)), some (.int (nI i))], [.int (-1)], (zw_C g gl a al))) 1 rfl ?_
    exact zr_ret rfl trivial ⟨by rw [← hz, if_pos (by omega)], rfl⟩
  · skip
    have h64 : N - i = (N - (i + 1)) + 1 := by omega
    have hb := hM4 i k h1 hk
    refine zr_go (t := (20, [some (.ref 3), some (.int (nI k)), some (.int (nI i))], [.int (((nI i) * 6) + (nI k)), .ref 14], (zw_C g gl a al))) 7 rfl ?_
    refine zr_cd (t := (21, [some (.ref 3), some (.int (nI k)), some (.int (nI i))], [.int ((a 14) (((nI i) * 6) + (nI k)).toNatClampNeg)], (zw_C g gl a al))) rfl (pk_in ((i * 6) + k) 36 (by omega) (zn_add (zn_mul rfl rfl) rfl) (by omega)) ?_
    rw [pk_cl (x := (((nI i) * 6) + (nI k))) ((i * 6) + k) (zn_add (zn_mul rfl rfl) rfl) (by omega)]
    rw [show (a 14) ((i * 6) + k) = nI (M i k) from hM i k (by omega) hk]
    refine zr_ieq (x := nI (M i k)) (y := 0) (M i k) 0 rfl rfl (by omega) (by omega) (t := (26, [some (.ref 3), some (.int (nI k)), some (.int (nI i))], [], (zw_C g gl a al))) (f := (24, [some (.ref 3), some (.int (nI k)), some (.int (nI i))], [], (zw_C g gl a al))) rfl (fun h2 => ?_) (fun h2 => ?_)
    · skip
      refine zr_go (t := (2, [some (.ref 3), some (.int (nI k)), some (.int ((nI i) + 1))], [], (zw_C g gl a al))) 2 rfl ?_
      rw [show (nI i) + 1 = nI (i + 1) from (zn_add rfl rfl)]
      exact ih (i + 1) ⟨by omega, by omega, by rw [← hz, h64, zM_none (f := fun t => M t k != 0) (by show (M i k != 0) = false; rw [h2]; rfl)]⟩ (by omega)
    · skip
      refine zr_go (t := (25, [some (.ref 3), some (.int (nI k)), some (.int (nI i))], [.int (nI i)], (zw_C g gl a al))) 1 rfl ?_
      exact zr_ret rfl trivial ⟨by rw [← hz, h64, zM_here (f := fun t => M t k != 0) (by show (M i k != 0) = true; exact bne_iff_ne.mpr h2), if_neg (by omega)], rfl⟩
theorem zs_C_exchRows_3 (g : Nat → Int32) (gl : Nat → Int64) (a : Nat → Nat → Int32) (al : Nat → Nat → Int64) (N : Nat) (hN : g 14 = nI N) (hN6 : N ≤ 6) (M : Nat → Nat → Nat) (hM : zC_M (a 14) N M) (hM4 : ∀ i j, i < N → j < N → M i j ≤ 4) (r s : Nat) (hr : r < N) (hs : s < N) (hrs : r ≠ s) : zm_Ev zt_get 1 20 [.ref 3, .int (nI r), .int (nI s)] (zw_C g gl a al) (fun v w => v = none ∧ ∃ f, w = (zw_C g gl (va_up a 14 f) al) ∧ zC_M f N (zd_sw M r s)) := by
  refine zr_ev zt_O_exchangeRows rfl rfl ?_
  show zm_Run zt_get 0 zt_O_exchangeRows (0, [some (.ref 3), some (.int (nI r)), some (.int (nI s)), none, none], [], (zw_C g gl a al)) _
  refine zr_go (t := (2, [some (.ref 3), some (.int (nI r)), some (.int (nI s)), some (.int 0), none], [], (zw_C g gl a al))) 2 rfl ?_
  refine zr_loop (fun zq : Nat × (Nat → Int32) => (2, [some (.ref 3), some (.int (nI r)), some (.int (nI s)), some (.int (nI zq.1)), none], [], (zw_C g gl (va_up a 14 zq.2) al))) (fun zq => zq.1 ≤ N ∧ ∀ i l, i < N → l < N → zq.2 (i * 6 + l) = nI (if l < zq.1 then zd_sw M r s i l else M i l)) (fun zq => N - zq.1) ?_ (0, a 14) ⟨by omega, fun i l hi hl => by rw [if_neg (Nat.not_lt_zero l)]; exact hM i l hi hl⟩
  rintro ⟨j, f⟩ ⟨hj, hf⟩ ih
  try dsimp only at *
  refine zr_go (t := (7, [some (.ref 3), some (.int (nI r)), some (.int (nI s)), some (.int (nI j)), none], [.int (g 14), .int (nI j)], (zw_C g gl (va_up a 14 f) al))) 3 rfl ?_
  refine zr_ige (x := nI j) (y := g 14) j N rfl hN (by omega) (by omega) (t := (64, [some (.ref 3), some (.int (nI r)), some (.int (nI s)), some (.int (nI j)), none], [], (zw_C g gl (va_up a 14 f) al))) (f := (10, [some (.ref 3), some (.int (nI r)), some (.int (nI s)), some (.int (nI j)), none], [], (zw_C g gl (va_up a 14 f) al))) rfl (fun h1 => ?_) (fun h1 => ?_)
  · skip
    exact zr_ret rfl trivial ⟨rfl, f, rfl, fun i l hi hl => (hf i l hi hl).trans (by rw [if_pos (by omega)])⟩
  · skip
    have e1 : f (r * 6 + j) = nI (M r j) := (hf r j hr h1).trans (by rw [if_neg (Nat.lt_irrefl j)])
    have e2 : f (s * 6 + j) = nI (M s j) := (hf s j hs h1).trans (by rw [if_neg (Nat.lt_irrefl j)])
    have hb1 := hM4 r j hr h1
    have hb2 := hM4 s j hs h1
    refine zr_go (t := (20, [some (.ref 3), some (.int (nI r)), some (.int (nI s)), some (.int (nI j)), none], [.int (((nI r) * 6) + (nI j)), .ref 14], (zw_C g gl (va_up a 14 f) al))) 7 rfl ?_
    refine zr_cd (t := (21, [some (.ref 3), some (.int (nI r)), some (.int (nI s)), some (.int (nI j)), none], [.int (f (((nI r) * 6) + (nI j)).toNatClampNeg)], (zw_C g gl (va_up a 14 f) al))) rfl (pk_in ((r * 6) + j) 36 (by omega) (zn_add (zn_mul rfl rfl) rfl) (by omega)) ?_
    rw [pk_cl (x := (((nI r) * 6) + (nI j))) ((r * 6) + j) (zn_add (zn_mul rfl rfl) rfl) (by omega)]
    rw [show f ((r * 6) + j) = nI (M r j) from e1]
    refine zr_go (t := (43, [some (.ref 3), some (.int (nI r)), some (.int (nI s)), some (.int (nI j)), some (.int (nI (M r j)))], [.int (((nI s) * 6) + (nI j)), .ref 14, .int (((nI r) * 6) + (nI j)), .ref 14], (zw_C g gl (va_up a 14 f) al))) 15 rfl ?_
    refine zr_cd (t := (44, [some (.ref 3), some (.int (nI r)), some (.int (nI s)), some (.int (nI j)), some (.int (nI (M r j)))], [.int (f (((nI s) * 6) + (nI j)).toNatClampNeg), .int (((nI r) * 6) + (nI j)), .ref 14], (zw_C g gl (va_up a 14 f) al))) rfl (pk_in ((s * 6) + j) 36 (by omega) (zn_add (zn_mul rfl rfl) rfl) (by omega)) ?_
    rw [pk_cl (x := (((nI s) * 6) + (nI j))) ((s * 6) + j) (zn_add (zn_mul rfl rfl) rfl) (by omega)]
    rw [show f ((s * 6) + j) = nI (M s j) from e2]
    refine zr_cd (t := (45, [some (.ref 3), some (.int (nI r)), some (.int (nI s)), some (.int (nI j)), some (.int (nI (M r j)))], [], (zw_C g gl (va_up a 14 (upd f ((((nI r) * 6) + (nI j)).toNatClampNeg) (nI (M s j)))) al))) rfl (pk_in ((r * 6) + j) 36 (by omega) (zn_add (zn_mul rfl rfl) rfl) (by omega)) ?_
    rw [pk_cl (x := (((nI r) * 6) + (nI j))) ((r * 6) + j) (zn_add (zn_mul rfl rfl) rfl) (by omega)]
    refine zr_go (t := (57, [some (.ref 3), some (.int (nI r)), some (.int (nI s)), some (.int (nI j)), some (.int (nI (M r j)))], [.int (nI (M r j)), .int (((nI s) * 6) + (nI j)), .ref 14], (zw_C g gl (va_up a 14 (upd f ((r * 6) + j) (nI (M s j)))) al))) 8 rfl ?_
    refine zr_cd (t := (58, [some (.ref 3), some (.int (nI r)), some (.int (nI s)), some (.int (nI j)), some (.int (nI (M r j)))], [], (zw_C g gl (va_up a 14 (upd (upd f ((r * 6) + j) (nI (M s j))) ((((nI s) * 6) + (nI j)).toNatClampNeg) (nI (M r j)))) al))) rfl (pk_in ((s * 6) + j) 36 (by omega) (zn_add (zn_mul rfl rfl) rfl) (by omega)) ?_
    rw [pk_cl (x := (((nI s) * 6) + (nI j))) ((s * 6) + j) (zn_add (zn_mul rfl rfl) rfl) (by omega)]
    refine zr_go (t := (2, [some (.ref 3), some (.int (nI r)), some (.int (nI s)), some (.int ((nI j) + 1)), some (.int (nI (M r j)))], [], (zw_C g gl (va_up a 14 (upd (upd f ((r * 6) + j) (nI (M s j))) ((s * 6) + j) (nI (M r j)))) al))) 2 rfl ?_
    rw [show (nI j) + 1 = nI (j + 1) from (zn_add rfl rfl)]
    refine zr_forget [some (.ref 3), some (.int (nI r)), some (.int (nI s)), some (.int (nI (j + 1))), none] ⟨Or.inr rfl, Or.inr rfl, Or.inr rfl, Or.inr rfl, Or.inl rfl, trivial⟩ ?_
    exact ih (j + 1, (upd (upd f ((r * 6) + j) (nI (M s j))) ((s * 6) + j) (nI (M r j)))) ⟨by omega, fun i l hi hl => by show upd (upd f (r * 6 + j) (nI (M s j))) (s * 6 + j) (nI (M r j)) (i * 6 + l) = nI (if l < j + 1 then _ else _); by_cases q1 : i * 6 + l = s * 6 + j; have q3 : i = s := (by omega); have q4 : l = j := (by omega); subst q3 q4; rw [pk_us, if_pos (Nat.lt_succ_self _)]; unfold zd_sw; rw [if_neg (fun z => hrs z.symm), if_pos rfl]; rw [pk_un q1]; by_cases q2 : i * 6 + l = r * 6 + j; have q3 : i = r := (by omega); have q4 : l = j := (by omega); subst q3 q4; rw [pk_us, if_pos (Nat.lt_succ_self _)]; unfold zd_sw; rw [if_pos rfl]; rw [pk_un q2, hf i l hi hl]; by_cases q5 : l < j; rw [if_pos q5, if_pos (by omega)]; rw [if_neg q5]; by_cases q6 : l = j; rw [if_pos (by omega)]; unfold zd_sw; rw [if_neg (fun z => q2 (by rw [z, q6])), if_neg (fun z => q1 (by rw [z, q6]))]; rw [if_neg (by omega)]⟩ (by omega)
theorem zs_C_clear_3 (g : Nat → Int32) (gl : Nat → Int64) (a : Nat → Nat → Int32) (al : Nat → Nat → Int64) (N : Nat) (hN : g 14 = nI N) (hN6 : N ≤ 6) (P : Nat) (hP : g 13 = nI P) (hPP : P = 2 ∨ P = 3 ∨ P = 5) (M : Nat → Nat → Nat) (hM : zC_M (a 14) N M) (hMP : ∀ i j, i < N → j < N → M i j < P) (k : Nat) (hk : k < N) (hkk : M k k ≠ 0) : zm_Ev zt_get 2 21 [.ref 3, .int (nI k)] (zw_C g gl a al) (fun v w => v = none ∧ ∃ f, w = (zw_C g gl (va_up a 14 f) al) ∧ zC_M f N (zd_cl P M k (zv_inv P (M k k)))) := by
  obtain ⟨hP0, hP5⟩ := zv_P5 hPP
  have hM4 : ∀ i j, i < N → j < N → M i j ≤ 4 := fun i j hi hj => by have := hMP i j hi hj; omega
  have hkk4 := hMP k k hk hk
  have hiv := zz_invlt hkk4 hP5
  refine zr_ev zt_O_clearBelow rfl rfl ?_
  show zm_Run zt_get 1 zt_O_clearBelow (0, [some (.ref 3), some (.int (nI k)), none, none, none, none, none, none], [], (zw_C g gl a al)) _
  refine zr_go (t := (12, [some (.ref 3), some (.int (nI k)), some (.int ((nI k) * 6)), none, none, none, none, none], [.int (((nI k) * 6) + (nI k)), .ref 14], (zw_C g gl a al))) 9 rfl ?_
  refine zr_cd (t := (13, [some (.ref 3), some (.int (nI k)), some (.int ((nI k) * 6)), none, none, none, none, none], [.int ((a 14) (((nI k) * 6) + (nI k)).toNatClampNeg)], (zw_C g gl a al))) rfl (pk_in ((k * 6) + k) 36 (by omega) (zn_add (zn_mul rfl rfl) rfl) (by omega)) ?_
  rw [pk_cl (x := (((nI k) * 6) + (nI k))) ((k * 6) + k) (zn_add (zn_mul rfl rfl) rfl) (by omega)]
  rw [show (a 14) ((k * 6) + k) = nI (M k k) from hM k k hk hk]
  refine zr_go (t := (17, [some (.ref 3), some (.int (nI k)), some (.int ((nI k) * 6)), none, none, none, none, none], [.int (g 13), .int (nI (M k k))], (zw_C g gl a al))) 2 rfl ?_
  rw [hP]
  refine zr_call (t := (20, [some (.ref 3), some (.int (nI k)), some (.int ((nI k) * 6)), none, none, none, none, none], [], (zw_C g gl a al))) rfl (Nat.le_of_ble_eq_true rfl : 1 ≤ 1) (zs_C_inverse g gl a al (M k k) P (by omega) (by omega)) ?_
  rintro _ _ ⟨rfl, rfl⟩
  show zm_Run zt_get 1 zt_O_clearBelow (20, [some (.ref 3), some (.int (nI k)), some (.int ((nI k) * 6)), none, none, none, none, none], [.int (nI (zz_inv P (M k k)))], (zw_C g gl a al)) _
  refine zr_go (t := (26, [some (.ref 3), some (.int (nI k)), some (.int ((nI k) * 6)), some (.int (nI (zz_inv P (M k k)))), some (.int ((nI k) + 1)), none, none, none], [], (zw_C g gl a al))) 5 rfl ?_
  rw [show (nI k) + 1 = nI (k + 1) from (zn_add rfl rfl)]
  refine zr_loop (fun zq : Nat × (Nat → Int32) => (26, [some (.ref 3), some (.int (nI k)), some (.int ((nI k) * 6)), some (.int (nI (zz_inv P (M k k)))), some (.int (nI zq.1)), none, none, none], [], (zw_C g gl (va_up a 14 zq.2) al))) (fun zq => k < zq.1 ∧ zq.1 ≤ N ∧ ∀ r l, r < N → l < N → zq.2 (r * 6 + l) = nI (if r < zq.1 then (zd_cl P M k (zv_inv P (M k k))) r l else M r l)) (fun zq => N - zq.1) ?_ (k + 1, a 14) ⟨by omega, by omega, fun r l hr hl => (hM r l hr hl).trans (congrArg nI (by show _ = if r < k + 1 then _ else _; split; unfold zd_cl; rw [if_neg (by omega)]; rfl))⟩
  rintro ⟨i, f⟩ ⟨hki, hi, hf⟩ ih
  try dsimp only at *
  refine zr_go (t := (32, [some (.ref 3), some (.int (nI k)), some (.int ((nI k) * 6)), some (.int (nI (zz_inv P (M k k)))), some (.int (nI i)), none, none, none], [.int (g 14), .int (nI i)], (zw_C g gl (va_up a 14 f) al))) 3 rfl ?_
  refine zr_ige (x := nI i) (y := g 14) i N rfl hN (by omega) (by omega) (t := (119, [some (.ref 3), some (.int (nI k)), some (.int ((nI k) * 6)), some (.int (nI (zz_inv P (M k k)))), some (.int (nI i)), none, none, none], [], (zw_C g gl (va_up a 14 f) al))) (f := (35, [some (.ref 3), some (.int (nI k)), some (.int ((nI k) * 6)), some (.int (nI (zz_inv P (M k k)))), some (.int (nI i)), none, none, none], [], (zw_C g gl (va_up a 14 f) al))) rfl (fun h1 => ?_) (fun h1 => ?_)
  · skip
    exact zr_ret rfl trivial ⟨rfl, f, rfl, fun r l hr hl => (hf r l hr hl).trans (by rw [if_pos (by omega)])⟩
  · skip
    have e1 : f (i * 6 + k) = nI (M i k) := (hf i k h1 hk).trans (by rw [if_neg (Nat.lt_irrefl i)])
    have hb1 := hMP i k h1 hk
    have hbf : M i k * zz_inv P (M k k) ≤ 4 * 5 := Nat.mul_le_mul (by omega) hiv
    refine zr_go (t := (50, [some (.ref 3), some (.int (nI k)), some (.int ((nI k) * 6)), some (.int (nI (zz_inv P (M k k)))), some (.int (nI i)), some (.int ((nI i) * 6)), none, none], [.int (((nI i) * 6) + (nI k)), .ref 14], (zw_C g gl (va_up a 14 f) al))) 9 rfl ?_
    refine zr_cd (t := (51, [some (.ref 3), some (.int (nI k)), some (.int ((nI k) * 6)), some (.int (nI (zz_inv P (M k k)))), some (.int (nI i)), some (.int ((nI i) * 6)), none, none], [.int (f (((nI i) * 6) + (nI k)).toNatClampNeg)], (zw_C g gl (va_up a 14 f) al))) rfl (pk_in ((i * 6) + k) 36 (by omega) (zn_add (zn_mul rfl rfl) rfl) (by omega)) ?_
    rw [pk_cl (x := (((nI i) * 6) + (nI k))) ((i * 6) + k) (zn_add (zn_mul rfl rfl) rfl) (by omega)]
    rw [show f ((i * 6) + k) = nI (M i k) from e1]
    refine zr_go (t := (58, [some (.ref 3), some (.int (nI k)), some (.int ((nI k) * 6)), some (.int (nI (zz_inv P (M k k)))), some (.int (nI i)), some (.int ((nI i) * 6)), some (.int ((nI (M i k)) * (nI (zz_inv P (M k k))))), some (.int (nI k))], [], (zw_C g gl (va_up a 14 f) al))) 5 rfl ?_
    refine zr_loop (fun zq : Nat × (Nat → Int32) => (58, [some (.ref 3), some (.int (nI k)), some (.int ((nI k) * 6)), some (.int (nI (zz_inv P (M k k)))), some (.int (nI i)), some (.int ((nI i) * 6)), some (.int ((nI (M i k)) * (nI (zz_inv P (M k k))))), some (.int (nI zq.1))], [], (zw_C g gl (va_up a 14 zq.2) al))) (fun zq => k ≤ zq.1 ∧ zq.1 ≤ N ∧ ∀ r l, r < N → l < N → zq.2 (r * 6 + l) = nI (if r < i ∨ (r = i ∧ l < zq.1) then (zd_cl P M k (zv_inv P (M k k))) r l else M r l)) (fun zq => N - zq.1) ?_ (k, f) ⟨Nat.le_refl _, by omega, fun r l hr hl => (hf r l hr hl).trans (congrArg nI (by show _ = if r < i ∨ (r = i ∧ l < k) then _ else _; by_cases q : r < i; rw [if_pos q, if_pos (Or.inl q)]; rw [if_neg q]; split; unfold zd_cl; rw [if_neg (by omega)]; rfl))⟩
    rintro ⟨j, h⟩ ⟨hkj, hj, hh⟩ ih2
    try dsimp only at *
    refine zr_go (t := (64, [some (.ref 3), some (.int (nI k)), some (.int ((nI k) * 6)), some (.int (nI (zz_inv P (M k k)))), some (.int (nI i)), some (.int ((nI i) * 6)), some (.int ((nI (M i k)) * (nI (zz_inv P (M k k))))), some (.int (nI j))], [.int (g 14), .int (nI j)], (zw_C g gl (va_up a 14 h) al))) 3 rfl ?_
    refine zr_ige (x := nI j) (y := g 14) j N rfl hN (by omega) (by omega) (t := (113, [some (.ref 3), some (.int (nI k)), some (.int ((nI k) * 6)), some (.int (nI (zz_inv P (M k k)))), some (.int (nI i)), some (.int ((nI i) * 6)), some (.int ((nI (M i k)) * (nI (zz_inv P (M k k))))), some (.int (nI j))], [], (zw_C g gl (va_up a 14 h) al))) (f := (67, [some (.ref 3), some (.int (nI k)), some (.int ((nI k) * 6)), some (.int (nI (zz_inv P (M k k)))), some (.int (nI i)), some (.int ((nI i) * 6)), some (.int ((nI (M i k)) * (nI (zz_inv P (M k k))))), some (.int (nI j))], [], (zw_C g gl (va_up a 14 h) al))) rfl (fun h2 => ?_) (fun h2 => ?_)
    · skip
      refine zr_go (t := (26, [some (.ref 3), some (.int (nI k)), some (.int ((nI k) * 6)), some (.int (nI (zz_inv P (M k k)))), some (.int ((nI i) + 1)), some (.int ((nI i) * 6)), some (.int ((nI (M i k)) * (nI (zz_inv P (M k k))))), some (.int (nI j))], [], (zw_C g gl (va_up a 14 h) al))) 2 rfl ?_
      rw [show (nI i) + 1 = nI (i + 1) from (zn_add rfl rfl)]
      refine zr_forget [some (.ref 3), some (.int (nI k)), some (.int ((nI k) * 6)), some (.int (nI (zz_inv P (M k k)))), some (.int (nI (i + 1))), none, none, none] ⟨Or.inr rfl, Or.inr rfl, Or.inr rfl, Or.inr rfl, Or.inr rfl, Or.inl rfl, Or.inl rfl, Or.inl rfl, trivial⟩ ?_
      exact ih (i + 1, h) ⟨by omega, by omega, fun r l hr hl => (hh r l hr hl).trans (congrArg nI (by by_cases q : r < i + 1; rw [if_pos q, if_pos (by omega)]; rw [if_neg q, if_neg (by omega)]))⟩ (by omega)
    · skip
      have e2 : h (i * 6 + j) = nI (M i j) := (hh i j h1 h2).trans (by rw [if_neg (by omega)])
      have e3 : h (k * 6 + j) = nI (M k j) := (hh k j hk h2).trans (by rw [if_pos (Or.inl hki)]; unfold zd_cl; rw [if_neg (by omega)])
      have hb2 := hMP i j h1 h2
      have hb3 := hMP k j hk h2
      refine zr_go (t := (85, [some (.ref 3), some (.int (nI k)), some (.int ((nI k) * 6)), some (.int (nI (zz_inv P (M k k)))), some (.int (nI i)), some (.int ((nI i) * 6)), some (.int ((nI (M i k)) * (nI (zz_inv P (M k k))))), some (.int (nI j))], [.int (((nI i) * 6) + (nI j)), .ref 14, .int (((nI i) * 6) + (nI j)), .ref 14], (zw_C g gl (va_up a 14 h) al))) 10 rfl ?_
      refine zr_cd (t := (86, [some (.ref 3), some (.int (nI k)), some (.int ((nI k) * 6)), some (.int (nI (zz_inv P (M k k)))), some (.int (nI i)), some (.int ((nI i) * 6)), some (.int ((nI (M i k)) * (nI (zz_inv P (M k k))))), some (.int (nI j))], [.int (h (((nI i) * 6) + (nI j)).toNatClampNeg), .int (((nI i) * 6) + (nI j)), .ref 14], (zw_C g gl (va_up a 14 h) al))) rfl (pk_in ((i * 6) + j) 36 (by omega) (zn_add (zn_mul rfl rfl) rfl) (by omega)) ?_
      rw [pk_cl (x := (((nI i) * 6) + (nI j))) ((i * 6) + j) (zn_add (zn_mul rfl rfl) rfl) (by omega)]
      rw [show h ((i * 6) + j) = nI (M i j) from e2]
      refine zr_go (t := (96, [some (.ref 3), some (.int (nI k)), some (.int ((nI k) * 6)), some (.int (nI (zz_inv P (M k k)))), some (.int (nI i)), some (.int ((nI i) * 6)), some (.int ((nI (M i k)) * (nI (zz_inv P (M k k))))), some (.int (nI j))], [.int (((nI k) * 6) + (nI j)), .ref 14, .int ((nI (M i k)) * (nI (zz_inv P (M k k)))), .int (nI (M i j)), .int (((nI i) * 6) + (nI j)), .ref 14], (zw_C g gl (va_up a 14 h) al))) 6 rfl ?_
      refine zr_cd (t := (97, [some (.ref 3), some (.int (nI k)), some (.int ((nI k) * 6)), some (.int (nI (zz_inv P (M k k)))), some (.int (nI i)), some (.int ((nI i) * 6)), some (.int ((nI (M i k)) * (nI (zz_inv P (M k k))))), some (.int (nI j))], [.int (h (((nI k) * 6) + (nI j)).toNatClampNeg), .int ((nI (M i k)) * (nI (zz_inv P (M k k)))), .int (nI (M i j)), .int (((nI i) * 6) + (nI j)), .ref 14], (zw_C g gl (va_up a 14 h) al))) rfl (pk_in ((k * 6) + j) 36 (by omega) (zn_add (zn_mul rfl rfl) rfl) (by omega)) ?_
      rw [pk_cl (x := (((nI k) * 6) + (nI j))) ((k * 6) + j) (zn_add (zn_mul rfl rfl) rfl) (by omega)]
      rw [show h ((k * 6) + j) = nI (M k j) from e3]
      refine zr_go (t := (103, [some (.ref 3), some (.int (nI k)), some (.int ((nI k) * 6)), some (.int (nI (zz_inv P (M k k)))), some (.int (nI i)), some (.int ((nI i) * 6)), some (.int ((nI (M i k)) * (nI (zz_inv P (M k k))))), some (.int (nI j))], [.int (g 13), .int ((nI (M i j)) - (((nI (M i k)) * (nI (zz_inv P (M k k)))) * (nI (M k j)))), .int (((nI i) * 6) + (nI j)), .ref 14], (zw_C g gl (va_up a 14 h) al))) 4 rfl ?_
      rw [hP]
      refine zr_call (t := (106, [some (.ref 3), some (.int (nI k)), some (.int ((nI k) * 6)), some (.int (nI (zz_inv P (M k k)))), some (.int (nI i)), some (.int ((nI i) * 6)), some (.int ((nI (M i k)) * (nI (zz_inv P (M k k))))), some (.int (nI j))], [.int (((nI i) * 6) + (nI j)), .ref 14], (zw_C g gl (va_up a 14 h) al))) rfl (Nat.le_of_ble_eq_true rfl : 1 ≤ 1) (zs_C_mod g gl (va_up a 14 h) al ((nI (M i j)) - (((nI (M i k)) * (nI (zz_inv P (M k k)))) * (nI (M k j)))) P hP0 (by omega)) ?_
      rintro _ _ ⟨rfl, rfl⟩
      show zm_Run zt_get 1 zt_O_clearBelow (106, [some (.ref 3), some (.int (nI k)), some (.int ((nI k) * 6)), some (.int (nI (zz_inv P (M k k)))), some (.int (nI i)), some (.int ((nI i) * 6)), some (.int ((nI (M i k)) * (nI (zz_inv P (M k k))))), some (.int (nI j))], [.int (nI (zz_mod ((nI (M i j)) - (((nI (M i k)) * (nI (zz_inv P (M k k)))) * (nI (M k j)))) P)), .int (((nI i) * 6) + (nI j)), .ref 14], (zw_C g gl (va_up a 14 h) al)) _
      rw [zz_clr P hPP _ hb2 _ hb1 _ hkk4 hkk _ hb3]
      refine zr_cd (t := (107, [some (.ref 3), some (.int (nI k)), some (.int ((nI k) * 6)), some (.int (nI (zz_inv P (M k k)))), some (.int (nI i)), some (.int ((nI i) * 6)), some (.int ((nI (M i k)) * (nI (zz_inv P (M k k))))), some (.int (nI j))], [], (zw_C g gl (va_up a 14 (upd h ((((nI i) * 6) + (nI j)).toNatClampNeg) (nI ((M i j + P * P - M i k * zv_inv P (M k k) % P * M k j) % P)))) al))) rfl (pk_in ((i * 6) + j) 36 (by omega) (zn_add (zn_mul rfl rfl) rfl) (by omega)) ?_
      rw [pk_cl (x := (((nI i) * 6) + (nI j))) ((i * 6) + j) (zn_add (zn_mul rfl rfl) rfl) (by omega)]
      refine zr_go (t := (58, [some (.ref 3), some (.int (nI k)), some (.int ((nI k) * 6)), some (.int (nI (zz_inv P (M k k)))), some (.int (nI i)), some (.int ((nI i) * 6)), some (.int ((nI (M i k)) * (nI (zz_inv P (M k k))))), some (.int ((nI j) + 1))], [], (zw_C g gl (va_up a 14 (upd h ((i * 6) + j) (nI ((M i j + P * P - M i k * zv_inv P (M k k) % P * M k j) % P)))) al))) 2 rfl ?_
      rw [show (nI j) + 1 = nI (j + 1) from (zn_add rfl rfl)]
      exact ih2 (j + 1, (upd h ((i * 6) + j) (nI ((M i j + P * P - M i k * zv_inv P (M k k) % P * M k j) % P)))) ⟨by omega, by omega, fun r l hr hl => by show upd h (i * 6 + j) _ (r * 6 + l) = nI (if r < i ∨ (r = i ∧ l < j + 1) then _ else _); by_cases q : r * 6 + l = i * 6 + j; have q3 : r = i := (by omega); have q4 : l = j := (by omega); subst q3 q4; rw [pk_us, if_pos (by omega)]; refine congrArg nI ?_; unfold zd_cl; rw [if_pos (by omega)]; rw [pk_un q, hh r l hr hl]; refine congrArg nI ?_; by_cases q5 : r < i ∨ (r = i ∧ l < j); rw [if_pos q5, if_pos (by omega)]; rw [if_neg q5, if_neg (by omega)]⟩ (by omega)
theorem zs_C_det_3 (g : Nat → Int32) (gl : Nat → Int64) (a : Nat → Nat → Int32) (al : Nat → Nat → Int64) (N : Nat) (hN : g 14 = nI N) (hN6 : N ≤ 6) (P : Nat) (hP : g 13 = nI P) (hPP : P = 2 ∨ P = 3 ∨ P = 5) (c : Nat → Nat) (hm : zC_m (a 13) 6 c) (hc4 : ∀ k, k < 36 → c k ≤ 4) : zm_Ev zt_get 3 18 [.ref 3] (zw_C g gl a al) (fun v w => v = some (.int (nI (zd_det P N N 0 (zd_mat P c) 1))) ∧ ∃ f, w = (zw_C g gl (va_up a 14 f) al)) := by
  obtain ⟨hP0, hP5⟩ := zv_P5 hPP
  refine zr_ev zt_O_determinant rfl rfl ?_
  show zm_Run zt_get 2 zt_O_determinant (0, [some (.ref 3), none, none, none], [], (zw_C g gl a al)) _
  refine zr_go (t := (2, [some (.ref 3), some (.int 0), none, none], [], (zw_C g gl a al))) 2 rfl ?_
  refine zr_loop (fun zq : Nat × (Nat → Int32) => (2, [some (.ref 3), some (.int (nI zq.1)), none, none], [], (zw_C g gl (va_up a 14 zq.2) al))) (fun zq => zq.1 ≤ N ∧ ∀ r l, r < zq.1 → l < N → zq.2 (r * 6 + l) = nI (zd_mat P c r l)) (fun zq => N - zq.1) ?_ (0, a 14) ⟨by omega, fun r l h => absurd h (Nat.not_lt_zero r)⟩
  rintro ⟨i, f⟩ ⟨hi, hf⟩ ih
  try dsimp only at *
  refine zr_go (t := (7, [some (.ref 3), some (.int (nI i)), none, none], [.int (g 14), .int (nI i)], (zw_C g gl (va_up a 14 f) al))) 3 rfl ?_
  refine zr_ige (x := nI i) (y := g 14) i N rfl hN (by omega) (by omega) (t := (69, [some (.ref 3), some (.int (nI i)), none, none], [], (zw_C g gl (va_up a 14 f) al))) (f := (10, [some (.ref 3), some (.int (nI i)), none, none], [], (zw_C g gl (va_up a 14 f) al))) rfl (fun h1 => ?_) (fun h1 => ?_)
  · skip
    have hf2 : zC_M f N (zd_mat P c) := fun r l hr hl => hf r l (by omega) hl
    refine zr_go (t := (73, [some (.ref 3), some (.int 1), some (.int 0), none], [], (zw_C g gl (va_up a 14 f) al))) 4 rfl ?_
    refine zr_loop (fun zq : Nat × Nat × (Nat → Int32) × (Nat → Nat → Nat) => (73, [some (.ref 3), some (.int (nI zq.2.1)), some (.int (nI zq.1)), none], [], (zw_C g gl (va_up a 14 zq.2.2.1) al))) (fun zq => zq.1 ≤ N ∧ zq.2.1 < P ∧ zC_M zq.2.2.1 N zq.2.2.2 ∧ (∀ r l, r < N → l < N → zq.2.2.2 r l < P) ∧ zd_det P N (N - zq.1) zq.1 zq.2.2.2 zq.2.1 = zd_det P N N 0 (zd_mat P c) 1) (fun zq => N - zq.1) ?_ (0, 1, f, zd_mat P c) ⟨by omega, by show 1 < P; omega, hf2, fun r l _ _ => Nat.mod_lt _ hP0, rfl⟩
    rintro ⟨k, t, h, M⟩ ⟨hk, ht, hh, hMP, hD⟩ ih2
    try dsimp only at *
    have hM4 : ∀ r l, r < N → l < N → M r l ≤ 4 := fun r l hr hl => by have := hMP r l hr hl; omega
    refine zr_go (t := (78, [some (.ref 3), some (.int (nI t)), some (.int (nI k)), none], [.int (g 14), .int (nI k)], (zw_C g gl (va_up a 14 h) al))) 3 rfl ?_
    refine zr_ige (x := nI k) (y := g 14) k N rfl hN (by omega) (by omega) (t := (140, [some (.ref 3), some (.int (nI t)), some (.int (nI k)), none], [], (zw_C g gl (va_up a 14 h) al))) (f := (81, [some (.ref 3), some (.int (nI t)), some (.int (nI k)), none], [], (zw_C g gl (va_up a 14 h) al))) rfl (fun h2 => ?_) (fun h2 => ?_)
    · skip
      rw [show N - k = 0 by omega] at hD
      have hD : t = _ := hD
      refine zr_go (t := (141, [some (.ref 3), some (.int (nI t)), some (.int (nI k)), none], [.int (nI t)], (zw_C g gl (va_up a 14 h) al))) 1 rfl ?_
      exact zr_ret rfl trivial ⟨by rw [hD], h, rfl⟩
    · skip
      rw [show N - k = (N - (k + 1)) + 1 by omega, zd_det_s] at hD
      refine zr_go (t := (83, [some (.ref 3), some (.int (nI t)), some (.int (nI k)), none], [.int (nI k), .ref 3], (zw_C g gl (va_up a 14 h) al))) 2 rfl ?_
      refine zr_call (t := (86, [some (.ref 3), some (.int (nI t)), some (.int (nI k)), none], [], (zw_C g gl (va_up a 14 h) al))) rfl (Nat.le_of_ble_eq_true rfl : 1 ≤ 2) (zs_C_pivot_3 g gl (va_up a 14 h) al N hN hN6 M hh hM4 k h2) ?_
      rintro _ _ ⟨rfl, rfl⟩
      show zm_Run zt_get 2 zt_O_determinant (86, [some (.ref 3), some (.int (nI t)), some (.int (nI k)), none], [.int (if zM (fun i => M i k != 0) k (N - k) = N then -1 else nI (zM (fun i => M i k != 0) k (N - k)))], (zw_C g gl (va_up a 14 h) al)) _
      obtain ⟨p, hp⟩ : ∃ p, p = zM (fun i => M i k != 0) k (N - k) := ⟨_, rfl⟩
      have hpz := zM_ge (fun i => M i k != 0) (N - k) k
      rw [← hp] at hpz hD ⊢
      by_cases hpN : p = N
      · skip
        rw [if_pos hpN] at hD ⊢
        refine zr_go (t := (89, [some (.ref 3), some (.int (nI t)), some (.int (nI k)), some (.int (-1))], [.int (-1), .int (-1)], (zw_C g gl (va_up a 14 h) al))) 3 rfl ?_
        refine zr_if (c := (-1) = (-1)) (t := (92, [some (.ref 3), some (.int (nI t)), some (.int (nI k)), some (.int (-1))], [], (zw_C g gl (va_up a 14 h) al))) (f := (94, [some (.ref 3), some (.int (nI t)), some (.int (nI k)), some (.int (-1))], [], (zw_C g gl (va_up a 14 h) al))) rfl (fun h3 => ?_) (fun h3 => ?_)
        · skip
          refine zr_go (t := (93, [some (.ref 3), some (.int (nI t)), some (.int (nI k)), some (.int (-1))], [.int 0], (zw_C g gl (va_up a 14 h) al))) 1 rfl ?_
          exact zr_ret rfl trivial ⟨by rw [← hD]; rfl, h, rfl⟩
        · skip
          exact absurd rfl h3
      · skip
        rw [if_neg hpN] at hD ⊢
        have hp1 : p < N := by omega
        have hpk : k ≤ p := hpz.1
        have hpv : M p k ≠ 0 := bne_iff_ne.mp (hpz.2.2 (by omega))
        refine zr_go (t := (89, [some (.ref 3), some (.int (nI t)), some (.int (nI k)), some (.int (nI p))], [.int (-1), .int (nI p)], (zw_C g gl (va_up a 14 h) al))) 3 rfl ?_
        refine zr_if (c := nI p = (-1)) (t := (92, [some (.ref 3), some (.int (nI t)), some (.int (nI k)), some (.int (nI p))], [], (zw_C g gl (va_up a 14 h) al))) (f := (94, [some (.ref 3), some (.int (nI t)), some (.int (nI k)), some (.int (nI p))], [], (zw_C g gl (va_up a 14 h) al))) rfl (fun h3 => ?_) (fun h3 => ?_)
        · skip
          exact absurd h3 (zz_nm1 (by omega))
        · skip
          refine zr_go (t := (96, [some (.ref 3), some (.int (nI t)), some (.int (nI k)), some (.int (nI p))], [.int (nI k), .int (nI p)], (zw_C g gl (va_up a 14 h) al))) 2 rfl ?_
          refine zr_ieq (x := nI p) (y := nI k) p k rfl rfl (by omega) (by omega) (t := (108, [some (.ref 3), some (.int (nI t)), some (.int (nI k)), some (.int (nI p))], [], (zw_C g gl (va_up a 14 h) al))) (f := (99, [some (.ref 3), some (.int (nI t)), some (.int (nI k)), some (.int (nI p))], [], (zw_C g gl (va_up a 14 h) al))) rfl (fun h4 => ?_) (fun h4 => ?_)
          · skip
            have hkk : M k k ≠ 0 := by exact h4 ▸ hpv
            have hMP2 : ∀ r l, r < N → l < N → M r l < P := hMP
            have hb1 := hMP2 k k h2 h2
            refine zr_go (t := (119, [some (.ref 3), some (.int (nI t)), some (.int (nI k)), some (.int (nI p))], [.int (((nI k) * 6) + (nI k)), .ref 14, .int (nI t)], (zw_C g gl (va_up a 14 h) al))) 8 rfl ?_
            refine zr_cd (t := (120, [some (.ref 3), some (.int (nI t)), some (.int (nI k)), some (.int (nI p))], [.int (h (((nI k) * 6) + (nI k)).toNatClampNeg), .int (nI t)], (zw_C g gl (va_up a 14 h) al))) rfl (pk_in ((k * 6) + k) 36 (by omega) (zn_add (zn_mul rfl rfl) rfl) (by omega)) ?_
            rw [pk_cl (x := (((nI k) * 6) + (nI k))) ((k * 6) + k) (zn_add (zn_mul rfl rfl) rfl) (by omega)]
            rw [show h ((k * 6) + k) = nI (M k k) from hh k k h2 h2]
            refine zr_go (t := (125, [some (.ref 3), some (.int (nI t)), some (.int (nI k)), some (.int (nI p))], [.int (g 13), .int ((nI t) * (nI (M k k)))], (zw_C g gl (va_up a 14 h) al))) 3 rfl ?_
            rw [hP]
            have hbm : t * M k k ≤ 4 * 4 := Nat.mul_le_mul (by omega) (by omega)
            refine zr_call (t := (128, [some (.ref 3), some (.int (nI t)), some (.int (nI k)), some (.int (nI p))], [], (zw_C g gl (va_up a 14 h) al))) rfl (Nat.le_of_ble_eq_true rfl : 1 ≤ 2) (zs_C_modN g gl (va_up a 14 h) al (nI t * nI (M k k)) (t * M k k) P (zn_mul rfl rfl) (by omega) hP0 (by omega)) ?_
            rintro _ _ ⟨rfl, rfl⟩
            show zm_Run zt_get 2 zt_O_determinant (128, [some (.ref 3), some (.int (nI t)), some (.int (nI k)), some (.int (nI p))], [.int (nI (t * M k k % P))], (zw_C g gl (va_up a 14 h) al)) _
            refine zr_go (t := (131, [some (.ref 3), some (.int (nI (t * M k k % P))), some (.int (nI k)), some (.int (nI p))], [.int (nI k), .ref 3], (zw_C g gl (va_up a 14 h) al))) 3 rfl ?_
            refine zr_call (t := (134, [some (.ref 3), some (.int (nI (t * M k k % P))), some (.int (nI k)), some (.int (nI p))], [], (zw_C g gl (va_up a 14 h) al))) rfl (Nat.le_of_ble_eq_true rfl : 2 ≤ 2) (zs_C_clear_3 g gl (va_up a 14 h) al N hN hN6 P hP hPP M hh hMP2 k h2 hkk) ?_
            rintro _ _ ⟨rfl, h9, rfl, hh9⟩
            show zm_Run zt_get 2 zt_O_determinant (134, [some (.ref 3), some (.int (nI (t * M k k % P))), some (.int (nI k)), some (.int (nI p))], [], (zw_C g gl (va_up a 14 h9) al)) _
            refine zr_go (t := (73, [some (.ref 3), some (.int (nI (t * M k k % P))), some (.int ((nI k) + 1)), some (.int (nI p))], [], (zw_C g gl (va_up a 14 h9) al))) 2 rfl ?_
            rw [show (nI k) + 1 = nI (k + 1) from (zn_add rfl rfl)]
            refine zr_forget [some (.ref 3), some (.int (nI (t * M k k % P))), some (.int (nI (k + 1))), none] ⟨Or.inr rfl, Or.inr rfl, Or.inr rfl, Or.inl rfl, trivial⟩ ?_
            exact ih2 (k + 1, t * M k k % P, h9, zd_cl P M k (zv_inv P (M k k))) ⟨by omega, Nat.mod_lt _ hP0, hh9, zd_cl_lt hP0 hMP2, (by rw [if_pos h4] at hD; rw [← hD, show zd_sw M k p = M from zd_sw_id h4])⟩ (by omega)
          · skip
            refine zr_go (t := (102, [some (.ref 3), some (.int (nI t)), some (.int (nI k)), some (.int (nI p))], [.int (nI p), .int (nI k), .ref 3], (zw_C g gl (va_up a 14 h) al))) 3 rfl ?_
            refine zr_call (t := (105, [some (.ref 3), some (.int (nI t)), some (.int (nI k)), some (.int (nI p))], [], (zw_C g gl (va_up a 14 h) al))) rfl (Nat.le_of_ble_eq_true rfl : 1 ≤ 2) (zs_C_exchRows_3 g gl (va_up a 14 h) al N hN hN6 M hh hM4 k p h2 hp1 (fun z => h4 z.symm)) ?_
            rintro _ _ ⟨rfl, h8, rfl, hh8⟩
            show zm_Run zt_get 2 zt_O_determinant (105, [some (.ref 3), some (.int (nI t)), some (.int (nI k)), some (.int (nI p))], [], (zw_C g gl (va_up a 14 h8) al)) _
            refine zr_go (t := (108, [some (.ref 3), some (.int (-(nI t))), some (.int (nI k)), some (.int (nI p))], [], (zw_C g gl (va_up a 14 h8) al))) 3 rfl ?_
            have hkk : (zd_sw M k p) k k ≠ 0 := by unfold zd_sw; rw [if_pos rfl]; exact hpv
            have hMP2 : ∀ r l, r < N → l < N → (zd_sw M k p) r l < P := zd_sw_lt hMP h2 hp1
            have hb1 := hMP2 k k h2 h2
            refine zr_go (t := (119, [some (.ref 3), some (.int (-(nI t))), some (.int (nI k)), some (.int (nI p))], [.int (((nI k) * 6) + (nI k)), .ref 14, .int (-(nI t))], (zw_C g gl (va_up a 14 h8) al))) 8 rfl ?_
            refine zr_cd (t := (120, [some (.ref 3), some (.int (-(nI t))), some (.int (nI k)), some (.int (nI p))], [.int (h8 (((nI k) * 6) + (nI k)).toNatClampNeg), .int (-(nI t))], (zw_C g gl (va_up a 14 h8) al))) rfl (pk_in ((k * 6) + k) 36 (by omega) (zn_add (zn_mul rfl rfl) rfl) (by omega)) ?_
            rw [pk_cl (x := (((nI k) * 6) + (nI k))) ((k * 6) + k) (zn_add (zn_mul rfl rfl) rfl) (by omega)]
            rw [show h8 ((k * 6) + k) = nI ((zd_sw M k p) k k) from hh8 k k h2 h2]
            refine zr_go (t := (125, [some (.ref 3), some (.int (-(nI t))), some (.int (nI k)), some (.int (nI p))], [.int (g 13), .int ((-(nI t)) * (nI ((zd_sw M k p) k k)))], (zw_C g gl (va_up a 14 h8) al))) 3 rfl ?_
            rw [hP]
            refine zr_call (t := (128, [some (.ref 3), some (.int (-(nI t))), some (.int (nI k)), some (.int (nI p))], [], (zw_C g gl (va_up a 14 h8) al))) rfl (Nat.le_of_ble_eq_true rfl : 1 ≤ 2) (zs_C_mod g gl (va_up a 14 h8) al (-(nI t) * nI ((zd_sw M k p) k k)) P hP0 (by omega)) ?_
            rintro _ _ ⟨rfl, rfl⟩
            show zm_Run zt_get 2 zt_O_determinant (128, [some (.ref 3), some (.int (-(nI t))), some (.int (nI k)), some (.int (nI p))], [.int (nI (zz_mod (-(nI t) * nI ((zd_sw M k p) k k)) P))], (zw_C g gl (va_up a 14 h8) al)) _
            rw [zz_sgn P hPP _ ht _ hb1]
            refine zr_go (t := (131, [some (.ref 3), some (.int (nI ((P - t) * (zd_sw M k p) k k % P))), some (.int (nI k)), some (.int (nI p))], [.int (nI k), .ref 3], (zw_C g gl (va_up a 14 h8) al))) 3 rfl ?_
            refine zr_call (t := (134, [some (.ref 3), some (.int (nI ((P - t) * (zd_sw M k p) k k % P))), some (.int (nI k)), some (.int (nI p))], [], (zw_C g gl (va_up a 14 h8) al))) rfl (Nat.le_of_ble_eq_true rfl : 2 ≤ 2) (zs_C_clear_3 g gl (va_up a 14 h8) al N hN hN6 P hP hPP (zd_sw M k p) hh8 hMP2 k h2 hkk) ?_
            rintro _ _ ⟨rfl, h9, rfl, hh9⟩
            show zm_Run zt_get 2 zt_O_determinant (134, [some (.ref 3), some (.int (nI ((P - t) * (zd_sw M k p) k k % P))), some (.int (nI k)), some (.int (nI p))], [], (zw_C g gl (va_up a 14 h9) al)) _
            refine zr_go (t := (73, [some (.ref 3), some (.int (nI ((P - t) * (zd_sw M k p) k k % P))), some (.int ((nI k) + 1)), some (.int (nI p))], [], (zw_C g gl (va_up a 14 h9) al))) 2 rfl ?_
            rw [show (nI k) + 1 = nI (k + 1) from (zn_add rfl rfl)]
            refine zr_forget [some (.ref 3), some (.int (nI ((P - t) * (zd_sw M k p) k k % P))), some (.int (nI (k + 1))), none] ⟨Or.inr rfl, Or.inr rfl, Or.inr rfl, Or.inl rfl, trivial⟩ ?_
            exact ih2 (k + 1, (P - t) * (zd_sw M k p) k k % P, h9, zd_cl P (zd_sw M k p) k (zv_inv P ((zd_sw M k p) k k))) ⟨by omega, Nat.mod_lt _ hP0, hh9, zd_cl_lt hP0 hMP2, (by rw [if_neg h4] at hD; exact hD)⟩ (by omega)
  · skip
    refine zr_go (t := (12, [some (.ref 3), some (.int (nI i)), some (.int 0), none], [], (zw_C g gl (va_up a 14 f) al))) 2 rfl ?_
    refine zr_loop (fun zq : Nat × (Nat → Int32) => (12, [some (.ref 3), some (.int (nI i)), some (.int (nI zq.1)), none], [], (zw_C g gl (va_up a 14 zq.2) al))) (fun zq => zq.1 ≤ N ∧ (∀ r l, r < i → l < N → zq.2 (r * 6 + l) = nI (zd_mat P c r l)) ∧ ∀ l, l < zq.1 → zq.2 (i * 6 + l) = nI (zd_mat P c i l)) (fun zq => N - zq.1) ?_ (0, f) ⟨by omega, hf, fun l h => absurd h (Nat.not_lt_zero l)⟩
    rintro ⟨j, h⟩ ⟨hj, hh1, hh2⟩ ih3
    try dsimp only at *
    refine zr_go (t := (17, [some (.ref 3), some (.int (nI i)), some (.int (nI j)), none], [.int (g 14), .int (nI j)], (zw_C g gl (va_up a 14 h) al))) 3 rfl ?_
    refine zr_ige (x := nI j) (y := g 14) j N rfl hN (by omega) (by omega) (t := (63, [some (.ref 3), some (.int (nI i)), some (.int (nI j)), none], [], (zw_C g gl (va_up a 14 h) al))) (f := (20, [some (.ref 3), some (.int (nI i)), some (.int (nI j)), none], [], (zw_C g gl (va_up a 14 h) al))) rfl (fun h2 => ?_) (fun h2 => ?_)
    · skip
      refine zr_go (t := (2, [some (.ref 3), some (.int ((nI i) + 1)), some (.int (nI j)), none], [], (zw_C g gl (va_up a 14 h) al))) 2 rfl ?_
      rw [show (nI i) + 1 = nI (i + 1) from (zn_add rfl rfl)]
      refine zr_forget [some (.ref 3), some (.int (nI (i + 1))), none, none] ⟨Or.inr rfl, Or.inr rfl, Or.inl rfl, Or.inr rfl, trivial⟩ ?_
      exact ih (i + 1, h) ⟨by omega, fun r l hr hl => if q : r = i then (by subst q; exact hh2 l (by omega)) else hh1 r l (by have hr : r < i + 1 := hr; omega) hl⟩ (by omega)
    · skip
      have hb := hc4 _ (zx_36 (k := i) (l := j) (by omega) (by omega))
      refine zr_go (t := (22, [some (.ref 3), some (.int (nI i)), some (.int (nI j)), none], [.int (nI j), .int (nI i)], (zw_C g gl (va_up a 14 h) al))) 2 rfl ?_
      refine zr_ine (x := nI i) (y := nI j) i j rfl rfl (by omega) (by omega) (t := (29, [some (.ref 3), some (.int (nI i)), some (.int (nI j)), none], [], (zw_C g gl (va_up a 14 h) al))) (f := (25, [some (.ref 3), some (.int (nI i)), some (.int (nI j)), none], [], (zw_C g gl (va_up a 14 h) al))) rfl (fun h3 => ?_) (fun h3 => ?_)
      · skip
        refine zr_go (t := (45, [some (.ref 3), some (.int (nI i)), some (.int (nI j)), some (.int 1)], [.int (nI j), .int (nI i), .ref 3, .int 1, .int (((nI i) * 6) + (nI j)), .ref 14], (zw_C g gl (va_up a 14 h) al))) 13 rfl ?_
        refine zr_call (t := (48, [some (.ref 3), some (.int (nI i)), some (.int (nI j)), some (.int 1)], [.int 1, .int (((nI i) * 6) + (nI j)), .ref 14], (zw_C g gl (va_up a 14 h) al))) rfl (Nat.le_of_ble_eq_true rfl : 1 ≤ 2) (zs_C_cell_3 g gl (va_up a 14 h) al c hm i j (by omega) (by omega)) ?_
        rintro _ _ ⟨rfl, rfl⟩
        show zm_Run zt_get 2 zt_O_determinant (48, [some (.ref 3), some (.int (nI i)), some (.int (nI j)), some (.int 1)], [.int (nI (c (zq_pl i j))), .int 1, .int (((nI i) * 6) + (nI j)), .ref 14], (zw_C g gl (va_up a 14 h) al)) _
        refine zr_go (t := (53, [some (.ref 3), some (.int (nI i)), some (.int (nI j)), some (.int 1)], [.int (g 13), .int (1 * (nI (c (zq_pl i j)))), .int (((nI i) * 6) + (nI j)), .ref 14], (zw_C g gl (va_up a 14 h) al))) 3 rfl ?_
        rw [hP]
        refine zr_call (t := (56, [some (.ref 3), some (.int (nI i)), some (.int (nI j)), some (.int 1)], [.int (((nI i) * 6) + (nI j)), .ref 14], (zw_C g gl (va_up a 14 h) al))) rfl (Nat.le_of_ble_eq_true rfl : 1 ≤ 2) (zs_C_modN g gl (va_up a 14 h) al (1 * nI (c (zq_pl i j))) (1 * c (zq_pl i j)) P (zn_mul rfl rfl) (by omega) hP0 (by omega)) ?_
        rintro _ _ ⟨rfl, rfl⟩
        show zm_Run zt_get 2 zt_O_determinant (56, [some (.ref 3), some (.int (nI i)), some (.int (nI j)), some (.int 1)], [.int (nI (1 * c (zq_pl i j) % P)), .int (((nI i) * 6) + (nI j)), .ref 14], (zw_C g gl (va_up a 14 h) al)) _
        refine zr_cd (t := (57, [some (.ref 3), some (.int (nI i)), some (.int (nI j)), some (.int 1)], [], (zw_C g gl (va_up a 14 (upd h ((((nI i) * 6) + (nI j)).toNatClampNeg) (nI (1 * c (zq_pl i j) % P)))) al))) rfl (pk_in ((i * 6) + j) 36 (by omega) (zn_add (zn_mul rfl rfl) rfl) (by omega)) ?_
        rw [pk_cl (x := (((nI i) * 6) + (nI j))) ((i * 6) + j) (zn_add (zn_mul rfl rfl) rfl) (by omega)]
        refine zr_go (t := (12, [some (.ref 3), some (.int (nI i)), some (.int ((nI j) + 1)), some (.int 1)], [], (zw_C g gl (va_up a 14 (upd h ((i * 6) + j) (nI (1 * c (zq_pl i j) % P)))) al))) 2 rfl ?_
        rw [show (nI j) + 1 = nI (j + 1) from (zn_add rfl rfl)]
        refine zr_forget [some (.ref 3), some (.int (nI i)), some (.int (nI (j + 1))), none] ⟨Or.inr rfl, Or.inr rfl, Or.inr rfl, Or.inl rfl, trivial⟩ ?_
        exact ih3 (j + 1, (upd h ((i * 6) + j) (nI (1 * c (zq_pl i j) % P)))) ⟨by omega, fun r l hr hl => (pk_un (by omega)).trans (hh1 r l hr hl), fun l hl => if q : l = j then (by subst q; exact pk_us.trans (congrArg nI (zd_mat_plN h3).symm)) else (pk_un (by omega)).trans (hh2 l (by have hl : l < j + 1 := hl; omega))⟩ (by omega)
      · skip
        refine zr_go (t := (45, [some (.ref 3), some (.int (nI i)), some (.int (nI j)), some (.int 2)], [.int (nI j), .int (nI i), .ref 3, .int 2, .int (((nI i) * 6) + (nI j)), .ref 14], (zw_C g gl (va_up a 14 h) al))) 14 rfl ?_
        refine zr_call (t := (48, [some (.ref 3), some (.int (nI i)), some (.int (nI j)), some (.int 2)], [.int 2, .int (((nI i) * 6) + (nI j)), .ref 14], (zw_C g gl (va_up a 14 h) al))) rfl (Nat.le_of_ble_eq_true rfl : 1 ≤ 2) (zs_C_cell_3 g gl (va_up a 14 h) al c hm i j (by omega) (by omega)) ?_
        rintro _ _ ⟨rfl, rfl⟩
        show zm_Run zt_get 2 zt_O_determinant (48, [some (.ref 3), some (.int (nI i)), some (.int (nI j)), some (.int 2)], [.int (nI (c (zq_pl i j))), .int 2, .int (((nI i) * 6) + (nI j)), .ref 14], (zw_C g gl (va_up a 14 h) al)) _
        refine zr_go (t := (53, [some (.ref 3), some (.int (nI i)), some (.int (nI j)), some (.int 2)], [.int (g 13), .int (2 * (nI (c (zq_pl i j)))), .int (((nI i) * 6) + (nI j)), .ref 14], (zw_C g gl (va_up a 14 h) al))) 3 rfl ?_
        rw [hP]
        refine zr_call (t := (56, [some (.ref 3), some (.int (nI i)), some (.int (nI j)), some (.int 2)], [.int (((nI i) * 6) + (nI j)), .ref 14], (zw_C g gl (va_up a 14 h) al))) rfl (Nat.le_of_ble_eq_true rfl : 1 ≤ 2) (zs_C_modN g gl (va_up a 14 h) al (2 * nI (c (zq_pl i j))) (2 * c (zq_pl i j)) P (zn_mul rfl rfl) (by omega) hP0 (by omega)) ?_
        rintro _ _ ⟨rfl, rfl⟩
        show zm_Run zt_get 2 zt_O_determinant (56, [some (.ref 3), some (.int (nI i)), some (.int (nI j)), some (.int 2)], [.int (nI (2 * c (zq_pl i j) % P)), .int (((nI i) * 6) + (nI j)), .ref 14], (zw_C g gl (va_up a 14 h) al)) _
        refine zr_cd (t := (57, [some (.ref 3), some (.int (nI i)), some (.int (nI j)), some (.int 2)], [], (zw_C g gl (va_up a 14 (upd h ((((nI i) * 6) + (nI j)).toNatClampNeg) (nI (2 * c (zq_pl i j) % P)))) al))) rfl (pk_in ((i * 6) + j) 36 (by omega) (zn_add (zn_mul rfl rfl) rfl) (by omega)) ?_
        rw [pk_cl (x := (((nI i) * 6) + (nI j))) ((i * 6) + j) (zn_add (zn_mul rfl rfl) rfl) (by omega)]
        refine zr_go (t := (12, [some (.ref 3), some (.int (nI i)), some (.int ((nI j) + 1)), some (.int 2)], [], (zw_C g gl (va_up a 14 (upd h ((i * 6) + j) (nI (2 * c (zq_pl i j) % P)))) al))) 2 rfl ?_
        rw [show (nI j) + 1 = nI (j + 1) from (zn_add rfl rfl)]
        refine zr_forget [some (.ref 3), some (.int (nI i)), some (.int (nI (j + 1))), none] ⟨Or.inr rfl, Or.inr rfl, Or.inr rfl, Or.inl rfl, trivial⟩ ?_
        exact ih3 (j + 1, (upd h ((i * 6) + j) (nI (2 * c (zq_pl i j) % P)))) ⟨by omega, fun r l hr hl => (pk_un (by omega)).trans (hh1 r l hr hl), fun l hl => if q : l = j then (by subst q; exact pk_us.trans (congrArg nI (zd_mat_plE h3).symm)) else (pk_un (by omega)).trans (hh2 l (by have hl : l < j + 1 := hl; omega))⟩ (by omega)
theorem zs_C_disc_3 (g : Nat → Int32) (gl : Nat → Int64) (a : Nat → Nat → Int32) (al : Nat → Nat → Int64) (N : Nat) (hN : g 14 = nI N) (hN6 : N ≤ 6) (P : Nat) (hP : g 13 = nI P) (hPP : P = 2 ∨ P = 3 ∨ P = 5) (c : Nat → Nat) (hm : zC_m (a 13) 6 c) (hc4 : ∀ k, k < 36 → c k ≤ 4) : zm_Ev zt_get 4 17 [.ref 3] (zw_C g gl a al) (fun v w => v = some (.int (zd_disc P N c)) ∧ ∃ f, w = (zw_C g gl (va_up a 14 f) al)) := by
  obtain ⟨hP0, hP5⟩ := zv_P5 hPP
  have hDl : zd_det P N N 0 (zd_mat P c) 1 < P := zd_det_lt hP0 N 0 _ 1 (by omega)
  refine zr_ev zt_O_discriminant rfl rfl ?_
  show zm_Run zt_get 3 zt_O_discriminant (0, [some (.ref 3), none, none], [], (zw_C g gl a al)) _
  refine zr_go (t := (5, [some (.ref 3), none, none], [.int 2, .int (g 13)], (zw_C g gl a al))) 3 rfl ?_
  refine zr_ine (x := g 13) (y := 2) P 2 hP rfl (by omega) (by omega) (t := (10, [some (.ref 3), none, none], [], (zw_C g gl a al))) (f := (8, [some (.ref 3), none, none], [], (zw_C g gl a al))) rfl (fun h1 => ?_) (fun h1 => ?_)
  · skip
    refine zr_go (t := (11, [some (.ref 3), none, none], [.ref 3], (zw_C g gl a al))) 1 rfl ?_
    refine zr_call (t := (14, [some (.ref 3), none, none], [], (zw_C g gl a al))) rfl (Nat.le_of_ble_eq_true rfl : 3 ≤ 3) (zs_C_det_3 g gl a al N hN hN6 P hP hPP c hm hc4) ?_
    rintro _ _ ⟨rfl, f, rfl⟩
    show zm_Run zt_get 3 zt_O_discriminant (14, [some (.ref 3), none, none], [.int (nI (zd_det P N N 0 (zd_mat P c) 1))], (zw_C g gl (va_up a 14 f) al)) _
    refine zr_go (t := (16, [some (.ref 3), some (.int (nI (zd_det P N N 0 (zd_mat P c) 1))), none], [.int (nI (zd_det P N N 0 (zd_mat P c) 1))], (zw_C g gl (va_up a 14 f) al))) 2 rfl ?_
    refine zr_ine (x := nI (zd_det P N N 0 (zd_mat P c) 1)) (y := 0) (zd_det P N N 0 (zd_mat P c) 1) 0 rfl rfl (by omega) (by omega) (t := (21, [some (.ref 3), some (.int (nI (zd_det P N N 0 (zd_mat P c) 1))), none], [], (zw_C g gl (va_up a 14 f) al))) (f := (19, [some (.ref 3), some (.int (nI (zd_det P N N 0 (zd_mat P c) 1))), none], [], (zw_C g gl (va_up a 14 f) al))) rfl (fun h2 => ?_) (fun h2 => ?_)
    · skip
      generalize hv : zd_det P N N 0 (zd_mat P c) 1 = v at h2 hDl
      refine zr_go (t := (23, [some (.ref 3), some (.int (nI v)), some (.int 1)], [], (zw_C g gl (va_up a 14 f) al))) 2 rfl ?_
      refine zr_loop (fun zq : Nat => (23, [some (.ref 3), some (.int (nI v)), some (.int (nI zq))], [], (zw_C g gl (va_up a 14 f) al))) (fun zq => 1 ≤ zq ∧ zq ≤ P ∧ zE (fun x => (x + 1) * (x + 1) % P == v) (zq - 1) = false) (fun zq => P - zq) ?_ 1 ⟨by omega, by omega, rfl⟩
      rintro r ⟨hr1, hr, hz⟩ ih
      try dsimp only at *
      refine zr_go (t := (28, [some (.ref 3), some (.int (nI v)), some (.int (nI r))], [.int (g 13), .int (nI r)], (zw_C g gl (va_up a 14 f) al))) 3 rfl ?_
      refine zr_ige (x := nI r) (y := g 13) r P rfl hP (by omega) (by omega) (t := (53, [some (.ref 3), some (.int (nI v)), some (.int (nI r))], [], (zw_C g gl (va_up a 14 f) al))) (f := (31, [some (.ref 3), some (.int (nI v)), some (.int (nI r))], [], (zw_C g gl (va_up a 14 f) al))) rfl (fun h3 => ?_) (fun h3 => ?_)
      · skip
        refine zr_go (t := (54, [some (.ref 3), some (.int (nI v)), some (.int (nI r))], [.int (-1)], (zw_C g gl (va_up a 14 f) al))) 1 rfl ?_
        exact zr_ret rfl trivial ⟨by unfold zd_disc; rw [if_neg h1, hv, if_neg h2, if_neg (by rw [show P - 1 = r - 1 by omega, hz]; decide)], f, rfl⟩
      · skip
        have hbr : r * r ≤ 5 * 5 := Nat.mul_le_mul (by omega) (by omega)
        have hbr2 : r * r % P < P := Nat.mod_lt _ hP0
        refine zr_go (t := (38, [some (.ref 3), some (.int (nI v)), some (.int (nI r))], [.int (g 13), .int ((nI r) * (nI r))], (zw_C g gl (va_up a 14 f) al))) 5 rfl ?_
        rw [hP]
        refine zr_call (t := (41, [some (.ref 3), some (.int (nI v)), some (.int (nI r))], [], (zw_C g gl (va_up a 14 f) al))) rfl (Nat.le_of_ble_eq_true rfl : 1 ≤ 3) (zs_C_modN g gl (va_up a 14 f) al (nI r * nI r) (r * r) P (zn_mul rfl rfl) (by omega) hP0 (by omega)) ?_
        rintro _ _ ⟨rfl, rfl⟩
        show zm_Run zt_get 3 zt_O_discriminant (41, [some (.ref 3), some (.int (nI v)), some (.int (nI r))], [.int (nI (r * r % P))], (zw_C g gl (va_up a 14 f) al)) _
        refine zr_go (t := (42, [some (.ref 3), some (.int (nI v)), some (.int (nI r))], [.int (nI v), .int (nI (r * r % P))], (zw_C g gl (va_up a 14 f) al))) 1 rfl ?_
        refine zr_ine (x := nI (r * r % P)) (y := nI v) (r * r % P) v rfl rfl (by omega) (by omega) (t := (47, [some (.ref 3), some (.int (nI v)), some (.int (nI r))], [], (zw_C g gl (va_up a 14 f) al))) (f := (45, [some (.ref 3), some (.int (nI v)), some (.int (nI r))], [], (zw_C g gl (va_up a 14 f) al))) rfl (fun h4 => ?_) (fun h4 => ?_)
        · skip
          refine zr_go (t := (23, [some (.ref 3), some (.int (nI v)), some (.int ((nI r) + 1))], [], (zw_C g gl (va_up a 14 f) al))) 2 rfl ?_
          rw [show (nI r) + 1 = nI (r + 1) from (zn_add rfl rfl)]
          exact ih (r + 1) ⟨by omega, by omega, by obtain ⟨e, rfl⟩ : ∃ e, r = e + 1 := ⟨r - 1, by omega⟩; exact zE_nn hz (beq_eq_false_iff_ne.mpr h4)⟩ (by omega)
        · skip
          refine zr_go (t := (46, [some (.ref 3), some (.int (nI v)), some (.int (nI r))], [.int 1], (zw_C g gl (va_up a 14 f) al))) 1 rfl ?_
          exact zr_ret rfl trivial ⟨by unfold zd_disc; rw [if_neg h1, hv, if_neg h2, if_pos (zE_yes (f := (fun x => (x + 1) * (x + 1) % P == v)) (k := r - 1) (by show ((r - 1 + 1) * (r - 1 + 1) % P == v) = true; rw [show r - 1 + 1 = r by omega]; exact beq_iff_eq.mpr h4) (P - 1) (by omega))], f, rfl⟩
    · skip
      refine zr_go (t := (20, [some (.ref 3), some (.int (nI (zd_det P N N 0 (zd_mat P c) 1))), none], [.int 0], (zw_C g gl (va_up a 14 f) al))) 1 rfl ?_
      exact zr_ret rfl trivial ⟨by unfold zd_disc; rw [if_neg h1, if_pos h2], f, rfl⟩
  · skip
    refine zr_go (t := (9, [some (.ref 3), none, none], [.int 0], (zw_C g gl a al))) 1 rfl ?_
    exact zr_ret rfl trivial ⟨by unfold zd_disc; rw [if_pos h1], a 14, rfl⟩
