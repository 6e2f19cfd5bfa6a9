/-! the reference: matrix, determinant, discriminant (written by wip/whole/gen_m14.py) -/
def zc_M (a : Nat → Nat → Int32) (N : Nat) (M : Nat → Nat → Nat) : Prop := ∀ i j, i < N → j < N → a 15 (6 * i + j) = nI (M i j)
def zd_mat (P : Nat) (c : Nat → Nat) (i j : Nat) : Nat := (if i = j then 2 * c (6 * j + i) else if i < j then c (6 * i + j) else c (6 * j + i)) % P
def zd_sw (M : Nat → Nat → Nat) (r s i j : Nat) : Nat := if i = r then M s j else if i = s then M r j else M i j
def zd_cl (P : Nat) (M : Nat → Nat → Nat) (k b i j : Nat) : Nat := if k < i ∧ k ≤ j then (M i j + P * P - M i k * b % P * M k j) % P else M i j
def zd_det (P N : Nat) : Nat → Nat → (Nat → Nat → Nat) → Nat → Nat
  | 0, _, _, t => t
  | n + 1, k, M, t => if zM (fun i => M i k != 0) k (N - k) = N then 0 else zd_det P N n (k + 1) (zd_cl P (zd_sw M k (zM (fun i => M i k != 0) k (N - k))) k (zv_inv P (zd_sw M k (zM (fun i => M i k != 0) k (N - k)) k k))) ((if zM (fun i => M i k != 0) k (N - k) = k then t else P - t) * zd_sw M k (zM (fun i => M i k != 0) k (N - k)) k k % P)
def zd_disc (P N : Nat) (c : Nat → Nat) : Int32 := if P = 2 then 0 else if zd_det P N N 0 (zd_mat P c) 1 = 0 then 0 else if zE (fun x => (x + 1) * (x + 1) % P == zd_det P N N 0 (zd_mat P c) 1) (P - 1) = true then 1 else -1
theorem zv_modc (P : Nat) (h : P = 2 ∨ P = 3 ∨ P = 5) : ∀ x, x < P → ∀ t, t < P → ∀ y, y < P → zv_mod (nI x - nI t * nI y) (nI P) = nI ((x + P * P - t * y) % P) := by
  rcases h with rfl | rfl | rfl <;> decide +kernel
theorem z6 {i j i' j' : Nat} (hj : j < 6) (hj' : j' < 6) (h : ¬ (i = i' ∧ j = j')) : 6 * i + j ≠ 6 * i' + j' := by omega
theorem zM_ge (f : Nat → Bool) (n : Nat) : ∀ k, k ≤ zM f k n ∧ zM f k n ≤ k + n ∧ (zM f k n < k + n → f (zM f k n) = true) := by
  induction n with
  | zero => intro k; exact ⟨Nat.le_refl _, Nat.le_refl _, fun h => absurd h (Nat.lt_irrefl _)⟩
  | succ n ih =>
    intro k
    unfold zM
    split
    next h => exact ⟨Nat.le_refl _, by omega, fun _ => h⟩
    next h =>
      obtain ⟨a1, a2, a3⟩ := ih (k + 1)
      exact ⟨by omega, by omega, fun q => a3 (by omega)⟩
theorem zs_M_layMatrix (g : Nat → Int32) (gl : Nat → Int64) (a : Nat → Nat → Int32) (al : Nat → Nat → Int64) (P N : Nat) (hP : g 0 = nI P) (hN : g 1 = nI N) (hPP : P = 2 ∨ P = 3 ∨ P = 5) (hN6 : N ≤ 6) (c : Nat → Nat) (hc : ∀ k, k < 36 → a 1 k = nI (c k)) (hc4 : ∀ k, k < 36 → c k ≤ 4) : zm_Ev zt_get 1 151 [.ref 0] (zw_M g gl a al) (fun v w => v = none ∧ ∃ f, w = (zw_M g gl (va_up a 15 f) al) ∧ ∀ i j, i < N → j < N → f (6 * i + j) = nI (zd_mat P c i j)) := by
  obtain ⟨hP0, hP5⟩ := zv_P5 hPP
  refine zr_ev zt_M_layMatrix rfl rfl ?_
  show zm_Run zt_get 0 zt_M_layMatrix (0, [some (.ref 0), none, none, none], [], (zw_M g gl a al)) _
  refine zr_go (t := (2, [some (.ref 0), some (.int 0), none, none], [], (zw_M g gl a al))) 2 rfl ?_
  refine zr_loop (fun zq : Nat × (Nat → Int32) => (2, [some (.ref 0), some (.int (nI zq.1)), none, none], [], (zw_M g gl (va_up a 15 zq.2) al))) (fun zq => zq.1 ≤ N ∧ ∀ r s, r < zq.1 → s < N → zq.2 (6 * r + s) = nI (zd_mat P c r s)) (fun zq => N - zq.1) ?_ (0, a 15) ⟨by omega, fun r s h => absurd h (Nat.not_lt_zero r)⟩
  rintro ⟨i, f⟩ ⟨hi, hf⟩ ih
  try dsimp only at *
  refine zr_go (t := (7, [some (.ref 0), some (.int (nI i)), none, none], [.int (g 1), .int (nI i)], (zw_M g gl (va_up a 15 f) al))) 3 rfl ?_
  refine zr_ige (x := nI i) (y := g 1) i N rfl hN (by omega) (by omega) (t := (91, [some (.ref 0), some (.int (nI i)), none, none], [], (zw_M g gl (va_up a 15 f) al))) (f := (10, [some (.ref 0), some (.int (nI i)), none, none], [], (zw_M g gl (va_up a 15 f) al))) rfl (fun h1 => ?_) (fun h1 => ?_)
  · skip
    exact zr_ret rfl trivial ⟨rfl, f, rfl, fun r s h2 h3 => hf r s (by omega) h3⟩
  · skip
    refine zr_go (t := (12, [some (.ref 0), some (.int (nI i)), some (.int 0), none], [], (zw_M g gl (va_up a 15 f) al))) 2 rfl ?_
    refine zr_loop (fun zq : Nat × (Nat → Int32) => (12, [some (.ref 0), some (.int (nI i)), some (.int (nI zq.1)), none], [], (zw_M g gl (va_up a 15 zq.2) al))) (fun zq => zq.1 ≤ N ∧ (∀ r s, r < i → s < N → zq.2 (6 * r + s) = nI (zd_mat P c r s)) ∧ ∀ s, s < zq.1 → zq.2 (6 * i + s) = nI (zd_mat P c i s)) (fun zq => N - zq.1) ?_ (0, f) ⟨by omega, hf, fun s h => absurd h (Nat.not_lt_zero s)⟩
    rintro ⟨j, f2⟩ ⟨hj, hf2, hf3⟩ ih2
    try dsimp only at *
    refine zr_go (t := (17, [some (.ref 0), some (.int (nI i)), some (.int (nI j)), none], [.int (g 1), .int (nI j)], (zw_M g gl (va_up a 15 f2) al))) 3 rfl ?_
    refine zr_ige (x := nI j) (y := g 1) j N rfl hN (by omega) (by omega) (t := (85, [some (.ref 0), some (.int (nI i)), some (.int (nI j)), none], [], (zw_M g gl (va_up a 15 f2) al))) (f := (20, [some (.ref 0), some (.int (nI i)), some (.int (nI j)), none], [], (zw_M g gl (va_up a 15 f2) al))) rfl (fun h2 => ?_) (fun h2 => ?_)
    · skip
      refine zr_go (t := (2, [some (.ref 0), some (.int ((nI i) + 1)), some (.int (nI j)), none], [], (zw_M g gl (va_up a 15 f2) al))) 2 rfl ?_
      rw [show (nI i) + 1 = nI (i + 1) from (zn_add rfl rfl)]
      refine zr_forget [some (.ref 0), some (.int (nI (i + 1))), none, none] ⟨Or.inr rfl, Or.inr rfl, Or.inl rfl, Or.inr rfl, trivial⟩ ?_
      exact ih (i + 1, f2) ⟨by omega, fun r s h3 h4 => if e : r = i then by subst e; exact hf3 s (by omega) else hf2 r s (by have h3 : r < i + 1 := h3; omega) h4⟩ (by omega)
    · skip
      refine zr_go (t := (22, [some (.ref 0), some (.int (nI i)), some (.int (nI j)), none], [.int (nI j), .int (nI i)], (zw_M g gl (va_up a 15 f2) al))) 2 rfl ?_
      refine zr_ige (x := nI i) (y := nI j) i j rfl rfl (by omega) (by omega) (t := (39, [some (.ref 0), some (.int (nI i)), some (.int (nI j)), none], [], (zw_M g gl (va_up a 15 f2) al))) (f := (25, [some (.ref 0), some (.int (nI i)), some (.int (nI j)), none], [], (zw_M g gl (va_up a 15 f2) al))) rfl (fun h3 => ?_) (fun h3 => ?_)
      · skip
        refine zr_go (t := (49, [some (.ref 0), some (.int (nI i)), some (.int (nI j)), none], [.int ((6 * (nI j)) + (nI i)), .ref 1], (zw_M g gl (va_up a 15 f2) al))) 7 rfl ?_
        refine zr_cd (t := (50, [some (.ref 0), some (.int (nI i)), some (.int (nI j)), none], [.int ((a 1) ((6 * (nI j)) + (nI i)).toNatClampNeg)], (zw_M g gl (va_up a 15 f2) al))) rfl (pk_in ((6 * j) + i) 36 (by omega) (zn_add (zn_mul rfl rfl) rfl) (by omega)) ?_
        rw [pk_cl (x := ((6 * (nI j)) + (nI i))) ((6 * j) + i) (zn_add (zn_mul rfl rfl) rfl) (by omega)]
        rw [show (a 1) ((6 * j) + i) = nI (c ((6 * j) + i)) from hc ((6 * j) + i) (by omega)]
        refine zr_go (t := (63, [some (.ref 0), some (.int (nI i)), some (.int (nI j)), some (.int (nI (c ((6 * j) + i))))], [.int (nI j), .int (nI i), .int ((6 * (nI i)) + (nI j)), .ref 15], (zw_M g gl (va_up a 15 f2) al))) 10 rfl ?_
        have hcc := hc4 (6 * j + i) (by omega)
        refine zr_ine (x := nI i) (y := nI j) i j rfl rfl (by omega) (by omega) (t := (72, [some (.ref 0), some (.int (nI i)), some (.int (nI j)), some (.int (nI (c ((6 * j) + i))))], [.int ((6 * (nI i)) + (nI j)), .ref 15], (zw_M g gl (va_up a 15 f2) al))) (f := (66, [some (.ref 0), some (.int (nI i)), some (.int (nI j)), some (.int (nI (c ((6 * j) + i))))], [.int ((6 * (nI i)) + (nI j)), .ref 15], (zw_M g gl (va_up a 15 f2) al))) rfl (fun h4 => ?_) (fun h4 => ?_)
        · skip
          refine zr_go (t := (77, [some (.ref 0), some (.int (nI i)), some (.int (nI j)), some (.int (nI (c ((6 * j) + i))))], [.int (g 0), .int (nI (c ((6 * j) + i))), .int ((6 * (nI i)) + (nI j)), .ref 15], (zw_M g gl (va_up a 15 f2) al))) 3 rfl ?_
          refine zr_cd (t := (78, [some (.ref 0), some (.int (nI i)), some (.int (nI j)), some (.int (nI (c ((6 * j) + i))))], [.int ((nI (c ((6 * j) + i))) - (nI (c ((6 * j) + i))) / (g 0) * (g 0)), .int ((6 * (nI i)) + (nI j)), .ref 15], (zw_M g gl (va_up a 15 f2) al))) rfl (zn_ne0 hP (by omega) (by omega)) ?_
          rw [show (nI (c ((6 * j) + i))) - (nI (c ((6 * j) + i))) / (g 0) * (g 0) = nI ((c ((6 * j) + i)) % P) from (zn_rem rfl hP (by omega) (by omega) (by omega))]
          refine zr_cd (t := (79, [some (.ref 0), some (.int (nI i)), some (.int (nI j)), some (.int (nI (c ((6 * j) + i))))], [], (zw_M g gl (va_up a 15 (upd f2 (((6 * (nI i)) + (nI j)).toNatClampNeg) (nI ((c ((6 * j) + i)) % P)))) al))) rfl (pk_in ((6 * i) + j) 36 (by omega) (zn_add (zn_mul rfl rfl) rfl) (by omega)) ?_
          rw [pk_cl (x := ((6 * (nI i)) + (nI j))) ((6 * i) + j) (zn_add (zn_mul rfl rfl) rfl) (by omega)]
          refine zr_go (t := (12, [some (.ref 0), some (.int (nI i)), some (.int ((nI j) + 1)), some (.int (nI (c ((6 * j) + i))))], [], (zw_M g gl (va_up a 15 (upd f2 ((6 * i) + j) (nI ((c ((6 * j) + i)) % P)))) al))) 2 rfl ?_
          rw [show (nI j) + 1 = nI (j + 1) from (zn_add rfl rfl)]
          refine zr_forget [some (.ref 0), some (.int (nI i)), some (.int (nI (j + 1))), none] ⟨Or.inr rfl, Or.inr rfl, Or.inr rfl, Or.inl rfl, trivial⟩ ?_
          exact ih2 (j + 1, (upd f2 ((6 * i) + j) (nI ((c ((6 * j) + i)) % P)))) ⟨by omega, fun r s h5 h6 => (pk_un (z6 (by omega) (by omega) (by omega))).trans (hf2 r s h5 h6), fun s h5 => if e : s = j then by subst e; exact pk_us.trans (congrArg nI (by unfold zd_mat; rw [if_neg h4, if_neg (by omega)])) else (pk_un (z6 (by omega) (by omega) (by omega))).trans (hf3 s (by have h5 : s < j + 1 := h5; omega))⟩ (by omega)
        · skip
          refine zr_go (t := (77, [some (.ref 0), some (.int (nI i)), some (.int (nI j)), some (.int (nI (c ((6 * j) + i))))], [.int (g 0), .int (2 * (nI (c ((6 * j) + i)))), .int ((6 * (nI i)) + (nI j)), .ref 15], (zw_M g gl (va_up a 15 f2) al))) 6 rfl ?_
          refine zr_cd (t := (78, [some (.ref 0), some (.int (nI i)), some (.int (nI j)), some (.int (nI (c ((6 * j) + i))))], [.int ((2 * (nI (c ((6 * j) + i)))) - (2 * (nI (c ((6 * j) + i)))) / (g 0) * (g 0)), .int ((6 * (nI i)) + (nI j)), .ref 15], (zw_M g gl (va_up a 15 f2) al))) rfl (zn_ne0 hP (by omega) (by omega)) ?_
          rw [show (2 * (nI (c ((6 * j) + i)))) - (2 * (nI (c ((6 * j) + i)))) / (g 0) * (g 0) = nI ((2 * (c ((6 * j) + i))) % P) from (zn_rem (zn_mul rfl rfl) hP (by omega) (by omega) (by omega))]
          refine zr_cd (t := (79, [some (.ref 0), some (.int (nI i)), some (.int (nI j)), some (.int (nI (c ((6 * j) + i))))], [], (zw_M g gl (va_up a 15 (upd f2 (((6 * (nI i)) + (nI j)).toNatClampNeg) (nI ((2 * (c ((6 * j) + i))) % P)))) al))) rfl (pk_in ((6 * i) + j) 36 (by omega) (zn_add (zn_mul rfl rfl) rfl) (by omega)) ?_
          rw [pk_cl (x := ((6 * (nI i)) + (nI j))) ((6 * i) + j) (zn_add (zn_mul rfl rfl) rfl) (by omega)]
          refine zr_go (t := (12, [some (.ref 0), some (.int (nI i)), some (.int ((nI j) + 1)), some (.int (nI (c ((6 * j) + i))))], [], (zw_M g gl (va_up a 15 (upd f2 ((6 * i) + j) (nI ((2 * (c ((6 * j) + i))) % P)))) al))) 2 rfl ?_
          rw [show (nI j) + 1 = nI (j + 1) from (zn_add rfl rfl)]
          refine zr_forget [some (.ref 0), some (.int (nI i)), some (.int (nI (j + 1))), none] ⟨Or.inr rfl, Or.inr rfl, Or.inr rfl, Or.inl rfl, trivial⟩ ?_
          exact ih2 (j + 1, (upd f2 ((6 * i) + j) (nI ((2 * (c ((6 * j) + i))) % P)))) ⟨by omega, fun r s h5 h6 => (pk_un (z6 (by omega) (by omega) (by omega))).trans (hf2 r s h5 h6), fun s h5 => if e : s = j then by subst e; exact pk_us.trans (congrArg nI (by unfold zd_mat; rw [if_pos h4])) else (pk_un (z6 (by omega) (by omega) (by omega))).trans (hf3 s (by have h5 : s < j + 1 := h5; omega))⟩ (by omega)
      · skip
        refine zr_go (t := (35, [some (.ref 0), some (.int (nI i)), some (.int (nI j)), none], [.int ((6 * (nI i)) + (nI j)), .ref 1], (zw_M g gl (va_up a 15 f2) al))) 7 rfl ?_
        refine zr_cd (t := (36, [some (.ref 0), some (.int (nI i)), some (.int (nI j)), none], [.int ((a 1) ((6 * (nI i)) + (nI j)).toNatClampNeg)], (zw_M g gl (va_up a 15 f2) al))) rfl (pk_in ((6 * i) + j) 36 (by omega) (zn_add (zn_mul rfl rfl) rfl) (by omega)) ?_
        rw [pk_cl (x := ((6 * (nI i)) + (nI j))) ((6 * i) + j) (zn_add (zn_mul rfl rfl) rfl) (by omega)]
        rw [show (a 1) ((6 * i) + j) = nI (c ((6 * i) + j)) from hc ((6 * i) + j) (by omega)]
        refine zr_go (t := (63, [some (.ref 0), some (.int (nI i)), some (.int (nI j)), some (.int (nI (c ((6 * i) + j))))], [.int (nI j), .int (nI i), .int ((6 * (nI i)) + (nI j)), .ref 15], (zw_M g gl (va_up a 15 f2) al))) 11 rfl ?_
        have hcc := hc4 (6 * i + j) (by omega)
        refine zr_ine (x := nI i) (y := nI j) i j rfl rfl (by omega) (by omega) (t := (72, [some (.ref 0), some (.int (nI i)), some (.int (nI j)), some (.int (nI (c ((6 * i) + j))))], [.int ((6 * (nI i)) + (nI j)), .ref 15], (zw_M g gl (va_up a 15 f2) al))) (f := (66, [some (.ref 0), some (.int (nI i)), some (.int (nI j)), some (.int (nI (c ((6 * i) + j))))], [.int ((6 * (nI i)) + (nI j)), .ref 15], (zw_M g gl (va_up a 15 f2) al))) rfl (fun h4 => ?_) (fun h4 => ?_)
        · skip
          refine zr_go (t := (77, [some (.ref 0), some (.int (nI i)), some (.int (nI j)), some (.int (nI (c ((6 * i) + j))))], [.int (g 0), .int (nI (c ((6 * i) + j))), .int ((6 * (nI i)) + (nI j)), .ref 15], (zw_M g gl (va_up a 15 f2) al))) 3 rfl ?_
          refine zr_cd (t := (78, [some (.ref 0), some (.int (nI i)), some (.int (nI j)), some (.int (nI (c ((6 * i) + j))))], [.int ((nI (c ((6 * i) + j))) - (nI (c ((6 * i) + j))) / (g 0) * (g 0)), .int ((6 * (nI i)) + (nI j)), .ref 15], (zw_M g gl (va_up a 15 f2) al))) rfl (zn_ne0 hP (by omega) (by omega)) ?_
          rw [show (nI (c ((6 * i) + j))) - (nI (c ((6 * i) + j))) / (g 0) * (g 0) = nI ((c ((6 * i) + j)) % P) from (zn_rem rfl hP (by omega) (by omega) (by omega))]
          refine zr_cd (t := (79, [some (.ref 0), some (.int (nI i)), some (.int (nI j)), some (.int (nI (c ((6 * i) + j))))], [], (zw_M g gl (va_up a 15 (upd f2 (((6 * (nI i)) + (nI j)).toNatClampNeg) (nI ((c ((6 * i) + j)) % P)))) al))) rfl (pk_in ((6 * i) + j) 36 (by omega) (zn_add (zn_mul rfl rfl) rfl) (by omega)) ?_
          rw [pk_cl (x := ((6 * (nI i)) + (nI j))) ((6 * i) + j) (zn_add (zn_mul rfl rfl) rfl) (by omega)]
          refine zr_go (t := (12, [some (.ref 0), some (.int (nI i)), some (.int ((nI j) + 1)), some (.int (nI (c ((6 * i) + j))))], [], (zw_M g gl (va_up a 15 (upd f2 ((6 * i) + j) (nI ((c ((6 * i) + j)) % P)))) al))) 2 rfl ?_
          rw [show (nI j) + 1 = nI (j + 1) from (zn_add rfl rfl)]
          refine zr_forget [some (.ref 0), some (.int (nI i)), some (.int (nI (j + 1))), none] ⟨Or.inr rfl, Or.inr rfl, Or.inr rfl, Or.inl rfl, trivial⟩ ?_
          exact ih2 (j + 1, (upd f2 ((6 * i) + j) (nI ((c ((6 * i) + j)) % P)))) ⟨by omega, fun r s h5 h6 => (pk_un (z6 (by omega) (by omega) (by omega))).trans (hf2 r s h5 h6), fun s h5 => if e : s = j then by subst e; exact pk_us.trans (congrArg nI (by unfold zd_mat; rw [if_neg h4, if_pos h3])) else (pk_un (z6 (by omega) (by omega) (by omega))).trans (hf3 s (by have h5 : s < j + 1 := h5; omega))⟩ (by omega)
        · skip
          exfalso; omega
theorem zs_M_swapLines (g : Nat → Int32) (gl : Nat → Int64) (a : Nat → Nat → Int32) (al : Nat → Nat → Int64) (P N : Nat) (hP : g 0 = nI P) (hN : g 1 = nI N) (hPP : P = 2 ∨ P = 3 ∨ P = 5) (hN6 : N ≤ 6) (M : Nat → Nat → Nat) (hM : zc_M a N M) (hMP : ∀ i j, i < N → j < N → M i j < P) (r s : Nat) (hr : r < N) (hs : s < N) : zm_Ev zt_get 1 153 [.ref 0, .int (nI r), .int (nI s)] (zw_M g gl a al) (fun v w => v = none ∧ ∃ f, w = (zw_M g gl (va_up a 15 f) al) ∧ ∀ i j, i < N → j < N → f (6 * i + j) = nI (zd_sw M r s i j)) := by
  obtain ⟨hP0, hP5⟩ := zv_P5 hPP
  refine zr_ev zt_M_swapLines rfl rfl ?_
  show zm_Run zt_get 0 zt_M_swapLines (0, [some (.ref 0), some (.int (nI r)), some (.int (nI s)), none, none], [], (zw_M g gl a al)) _
  refine zr_go (t := (2, [some (.ref 0), some (.int (nI r)), some (.int (nI s)), some (.int 0), none], [], (zw_M g gl a al))) 2 rfl ?_
  refine zr_loop (fun zq : Nat × (Nat → Int32) => (2, [some (.ref 0), some (.int (nI r)), some (.int (nI s)), some (.int (nI zq.1)), none], [], (zw_M g gl (va_up a 15 zq.2) al))) (fun zq => zq.1 ≤ N ∧ (∀ i j, i < N → j < zq.1 → zq.2 (6 * i + j) = nI (zd_sw M r s i j)) ∧ ∀ i j, i < N → zq.1 ≤ j → j < N → zq.2 (6 * i + j) = nI (M i j)) (fun zq => N - zq.1) ?_ (0, a 15) ⟨by omega, fun i j _ h => absurd h (Nat.not_lt_zero j), fun i j h1 _ h3 => hM i j h1 h3⟩
  rintro ⟨t, f⟩ ⟨ht, hf1, hf2⟩ ih
  try dsimp only at *
  refine zr_go (t := (7, [some (.ref 0), some (.int (nI r)), some (.int (nI s)), some (.int (nI t)), none], [.int (g 1), .int (nI t)], (zw_M g gl (va_up a 15 f) al))) 3 rfl ?_
  refine zr_ige (x := nI t) (y := g 1) t N rfl hN (by omega) (by omega) (t := (64, [some (.ref 0), some (.int (nI r)), some (.int (nI s)), some (.int (nI t)), none], [], (zw_M g gl (va_up a 15 f) al))) (f := (10, [some (.ref 0), some (.int (nI r)), some (.int (nI s)), some (.int (nI t)), none], [], (zw_M g gl (va_up a 15 f) al))) rfl (fun h1 => ?_) (fun h1 => ?_)
  · skip
    exact zr_ret rfl trivial ⟨rfl, f, rfl, fun i j h2 h3 => hf1 i j h2 (by omega)⟩
  · skip
    refine zr_go (t := (20, [some (.ref 0), some (.int (nI r)), some (.int (nI s)), some (.int (nI t)), none], [.int ((6 * (nI r)) + (nI t)), .ref 15], (zw_M g gl (va_up a 15 f) al))) 7 rfl ?_
    refine zr_cd (t := (21, [some (.ref 0), some (.int (nI r)), some (.int (nI s)), some (.int (nI t)), none], [.int (f ((6 * (nI r)) + (nI t)).toNatClampNeg)], (zw_M g gl (va_up a 15 f) al))) rfl (pk_in ((6 * r) + t) 36 (by omega) (zn_add (zn_mul rfl rfl) rfl) (by omega)) ?_
    rw [pk_cl (x := ((6 * (nI r)) + (nI t))) ((6 * r) + t) (zn_add (zn_mul rfl rfl) rfl) (by omega)]
    rw [show f ((6 * r) + t) = nI (M r t) from hf2 r t hr (Nat.le_refl _) h1]
    refine zr_go (t := (43, [some (.ref 0), some (.int (nI r)), some (.int (nI s)), some (.int (nI t)), some (.int (nI (M r t)))], [.int ((6 * (nI s)) + (nI t)), .ref 15, .int ((6 * (nI r)) + (nI t)), .ref 15], (zw_M g gl (va_up a 15 f) al))) 15 rfl ?_
    refine zr_cd (t := (44, [some (.ref 0), some (.int (nI r)), some (.int (nI s)), some (.int (nI t)), some (.int (nI (M r t)))], [.int (f ((6 * (nI s)) + (nI t)).toNatClampNeg), .int ((6 * (nI r)) + (nI t)), .ref 15], (zw_M g gl (va_up a 15 f) al))) rfl (pk_in ((6 * s) + t) 36 (by omega) (zn_add (zn_mul rfl rfl) rfl) (by omega)) ?_
    rw [pk_cl (x := ((6 * (nI s)) + (nI t))) ((6 * s) + t) (zn_add (zn_mul rfl rfl) rfl) (by omega)]
    rw [show f ((6 * s) + t) = nI (M s t) from hf2 s t hs (Nat.le_refl _) h1]
    refine zr_cd (t := (45, [some (.ref 0), some (.int (nI r)), some (.int (nI s)), some (.int (nI t)), some (.int (nI (M r t)))], [], (zw_M g gl (va_up a 15 (upd f (((6 * (nI r)) + (nI t)).toNatClampNeg) (nI (M s t)))) al))) rfl (pk_in ((6 * r) + t) 36 (by omega) (zn_add (zn_mul rfl rfl) rfl) (by omega)) ?_
    rw [pk_cl (x := ((6 * (nI r)) + (nI t))) ((6 * r) + t) (zn_add (zn_mul rfl rfl) rfl) (by omega)]
    refine zr_go (t := (57, [some (.ref 0), some (.int (nI r)), some (.int (nI s)), some (.int (nI t)), some (.int (nI (M r t)))], [.int (nI (M r t)), .int ((6 * (nI s)) + (nI t)), .ref 15], (zw_M g gl (va_up a 15 (upd f ((6 * r) + t) (nI (M s t)))) al))) 8 rfl ?_
    refine zr_cd (t := (58, [some (.ref 0), some (.int (nI r)), some (.int (nI s)), some (.int (nI t)), some (.int (nI (M r t)))], [], (zw_M g gl (va_up a 15 (upd (upd f ((6 * r) + t) (nI (M s t))) (((6 * (nI s)) + (nI t)).toNatClampNeg) (nI (M r t)))) al))) rfl (pk_in ((6 * s) + t) 36 (by omega) (zn_add (zn_mul rfl rfl) rfl) (by omega)) ?_
    rw [pk_cl (x := ((6 * (nI s)) + (nI t))) ((6 * s) + t) (zn_add (zn_mul rfl rfl) rfl) (by omega)]
    refine zr_go (t := (2, [some (.ref 0), some (.int (nI r)), some (.int (nI s)), some (.int ((nI t) + 1)), some (.int (nI (M r t)))], [], (zw_M g gl (va_up a 15 (upd (upd f ((6 * r) + t) (nI (M s t))) ((6 * s) + t) (nI (M r t)))) al))) 2 rfl ?_
    rw [show (nI t) + 1 = nI (t + 1) from (zn_add rfl rfl)]
    refine zr_forget [some (.ref 0), some (.int (nI r)), some (.int (nI s)), some (.int (nI (t + 1))), none] ⟨Or.inr rfl, Or.inr rfl, Or.inr rfl, Or.inr rfl, Or.inl rfl, trivial⟩ ?_
    refine ih (t + 1, (upd (upd f ((6 * r) + t) (nI (M s t))) ((6 * s) + t) (nI (M r t)))) ⟨by omega, fun i j h2 h3 => ?_, fun i j h2 h3 h4 => (pk_un (z6 (by omega) (by omega) (by have h3 : t + 1 ≤ j := h3; omega))).trans ((pk_un (z6 (by omega) (by omega) (by have h3 : t + 1 ≤ j := h3; omega))).trans (hf2 i j h2 (by have h3 : t + 1 ≤ j := h3; omega) h4))⟩ (by omega)
    have h3 : j < t + 1 := h3
    show upd (upd _ _ _) _ _ _ = _
    by_cases e : j = t
    · subst e
      by_cases e1 : i = s
      · subst e1
        refine pk_us.trans (congrArg nI ?_)
        unfold zd_sw
        by_cases e2 : i = r
        · rw [if_pos e2, e2]
        · rw [if_neg e2, if_pos rfl]
      · refine (pk_un (z6 (by omega) (by omega) (by omega))).trans ?_
        by_cases e2 : i = r
        · subst e2; refine pk_us.trans (congrArg nI ?_); unfold zd_sw; rw [if_pos rfl]
        · refine (pk_un (z6 (by omega) (by omega) (by omega))).trans ((hf2 i j h2 (Nat.le_refl _) (by omega)).trans (congrArg nI ?_)); unfold zd_sw; rw [if_neg e2, if_neg e1]
    · exact (pk_un (z6 (by omega) (by omega) (by omega))).trans ((pk_un (z6 (by omega) (by omega) (by omega))).trans (hf1 i j h2 (by omega)))
theorem zs_M_clearBelow (g : Nat → Int32) (gl : Nat → Int64) (a : Nat → Nat → Int32) (al : Nat → Nat → Int64) (P N : Nat) (hP : g 0 = nI P) (hN : g 1 = nI N) (hPP : P = 2 ∨ P = 3 ∨ P = 5) (hN6 : N ≤ 6) (M : Nat → Nat → Nat) (hM : zc_M a N M) (hMP : ∀ i j, i < N → j < N → M i j < P) (k : Nat) (hk : k < N) (hkk : M k k ≠ 0) : zm_Ev zt_get 2 154 [.ref 0, .int (nI k)] (zw_M g gl a al) (fun v w => v = none ∧ ∃ f, w = (zw_M g gl (va_up a 15 f) al) ∧ ∀ i j, i < N → j < N → f (6 * i + j) = nI (zd_cl P M k (zv_inv P (M k k)) i j)) := by
  obtain ⟨hP0, hP5⟩ := zv_P5 hPP
  have hkP := hMP k k hk hk
  obtain ⟨hi1, hi2, hi3⟩ := zv_inv_ok P (by omega) hPP _ hkP hkk
  refine zr_ev zt_M_clearBelow rfl rfl ?_
  show zm_Run zt_get 1 zt_M_clearBelow (0, [some (.ref 0), some (.int (nI k)), none, none, none, none], [], (zw_M g gl a al)) _
  refine zr_go (t := (2, [some (.ref 0), some (.int (nI k)), some (.int 1), none, none, none], [], (zw_M g gl a al))) 2 rfl ?_
  refine zr_loop (fun zq : Nat => (2, [some (.ref 0), some (.int (nI k)), some (.int (nI zq)), none, none, none], [], (zw_M g gl a al))) (fun zq => 1 ≤ zq ∧ zq ≤ zv_inv P (M k k)) (fun zq => 5 - zq) ?_ 1 ⟨Nat.le_refl _, hi2⟩
  rintro b ⟨hb1, hb2⟩ ih
  try dsimp only at *
  have hfb : M k k * b ≤ 5 * 5 := Nat.mul_le_mul (by omega) (by omega)
  have hmf : M k k * b % P < P := Nat.mod_lt _ hP0
  refine zr_go (t := (12, [some (.ref 0), some (.int (nI k)), some (.int (nI b)), none, none, none], [.int ((6 * (nI k)) + (nI k)), .ref 15], (zw_M g gl a al))) 7 rfl ?_
  refine zr_cd (t := (13, [some (.ref 0), some (.int (nI k)), some (.int (nI b)), none, none, none], [.int ((a 15) ((6 * (nI k)) + (nI k)).toNatClampNeg)], (zw_M g gl a al))) rfl (pk_in ((6 * k) + k) 36 (by omega) (zn_add (zn_mul rfl rfl) rfl) (by omega)) ?_
  rw [pk_cl (x := ((6 * (nI k)) + (nI k))) ((6 * k) + k) (zn_add (zn_mul rfl rfl) rfl) (by omega)]
  rw [show (a 15) ((6 * k) + k) = nI (M k k) from hM k k hk hk]
  refine zr_go (t := (19, [some (.ref 0), some (.int (nI k)), some (.int (nI b)), none, none, none], [.int (g 0), .int ((nI (M k k)) * (nI b))], (zw_M g gl a al))) 4 rfl ?_
  refine zr_cd (t := (20, [some (.ref 0), some (.int (nI k)), some (.int (nI b)), none, none, none], [.int (((nI (M k k)) * (nI b)) - ((nI (M k k)) * (nI b)) / (g 0) * (g 0))], (zw_M g gl a al))) rfl (zn_ne0 hP (by omega) (by omega)) ?_
  rw [show ((nI (M k k)) * (nI b)) - ((nI (M k k)) * (nI b)) / (g 0) * (g 0) = nI (((M k k) * b) % P) from (zn_rem (zn_mul rfl rfl) hP (by omega) (by omega) (by omega))]
  refine zr_go (t := (21, [some (.ref 0), some (.int (nI k)), some (.int (nI b)), none, none, none], [.int 1, .int (nI (((M k k) * b) % P))], (zw_M g gl a al))) 1 rfl ?_
  refine zr_ieq (x := nI (((M k k) * b) % P)) (y := 1) (((M k k) * b) % P) 1 rfl rfl (by omega) (by omega) (t := (30, [some (.ref 0), some (.int (nI k)), some (.int (nI b)), none, none, none], [], (zw_M g gl a al))) (f := (24, [some (.ref 0), some (.int (nI k)), some (.int (nI b)), none, none, none], [], (zw_M g gl a al))) rfl (fun h1 => ?_) (fun h1 => ?_)
  · skip
    have e1 : b = zv_inv P (M k k) := Nat.le_antisymm hb2 (zv_inv_le P (by omega) _ (by omega) b (by omega) hb1 h1)
    subst e1
    refine zr_go (t := (34, [some (.ref 0), some (.int (nI k)), some (.int (nI (zv_inv P (M k k)))), some (.int ((nI k) + 1)), none, none], [], (zw_M g gl a al))) 4 rfl ?_
    rw [show (nI k) + 1 = nI (k + 1) from (zn_add rfl rfl)]
    refine zr_loop (fun zq : Nat × (Nat → Int32) => (34, [some (.ref 0), some (.int (nI k)), some (.int (nI (zv_inv P (M k k)))), some (.int (nI zq.1)), none, none], [], (zw_M g gl (va_up a 15 zq.2) al))) (fun zq => k + 1 ≤ zq.1 ∧ zq.1 ≤ N ∧ (∀ r j, r < zq.1 → j < N → zq.2 (6 * r + j) = nI (zd_cl P M k (zv_inv P (M k k)) r j)) ∧ ∀ r j, zq.1 ≤ r → r < N → j < N → zq.2 (6 * r + j) = nI (M r j)) (fun zq => N - zq.1) ?_ (k + 1, a 15) ⟨Nat.le_refl _, by omega, fun r j h2 h3 => (hM r j (by have h2 : r < k + 1 := h2; omega) h3).trans (congrArg nI (by unfold zd_cl; rw [if_neg (by have h2 : r < k + 1 := h2; omega)])), fun r j _ h3 h4 => hM r j h3 h4⟩
    rintro ⟨i, f⟩ ⟨hki, hi, hf1, hf2⟩ ih2
    try dsimp only at *
    refine zr_go (t := (39, [some (.ref 0), some (.int (nI k)), some (.int (nI (zv_inv P (M k k)))), some (.int (nI i)), none, none], [.int (g 1), .int (nI i)], (zw_M g gl (va_up a 15 f) al))) 3 rfl ?_
    refine zr_ige (x := nI i) (y := g 1) i N rfl hN (by omega) (by omega) (t := (133, [some (.ref 0), some (.int (nI k)), some (.int (nI (zv_inv P (M k k)))), some (.int (nI i)), none, none], [], (zw_M g gl (va_up a 15 f) al))) (f := (42, [some (.ref 0), some (.int (nI k)), some (.int (nI (zv_inv P (M k k)))), some (.int (nI i)), none, none], [], (zw_M g gl (va_up a 15 f) al))) rfl (fun h2 => ?_) (fun h2 => ?_)
    · skip
      exact zr_ret rfl trivial ⟨rfl, f, rfl, fun r j h3 h4 => hf1 r j (by omega) h4⟩
    · skip
      have hib : M i k * zv_inv P (M k k) ≤ 5 * 5 := Nat.mul_le_mul (by have := hMP i k h2 hk; omega) (by omega)
      have htp : M i k * zv_inv P (M k k) % P < P := Nat.mod_lt _ hP0
      refine zr_go (t := (52, [some (.ref 0), some (.int (nI k)), some (.int (nI (zv_inv P (M k k)))), some (.int (nI i)), none, none], [.int ((6 * (nI i)) + (nI k)), .ref 15], (zw_M g gl (va_up a 15 f) al))) 7 rfl ?_
      refine zr_cd (t := (53, [some (.ref 0), some (.int (nI k)), some (.int (nI (zv_inv P (M k k)))), some (.int (nI i)), none, none], [.int (f ((6 * (nI i)) + (nI k)).toNatClampNeg)], (zw_M g gl (va_up a 15 f) al))) rfl (pk_in ((6 * i) + k) 36 (by omega) (zn_add (zn_mul rfl rfl) rfl) (by omega)) ?_
      rw [pk_cl (x := ((6 * (nI i)) + (nI k))) ((6 * i) + k) (zn_add (zn_mul rfl rfl) rfl) (by omega)]
      rw [show f ((6 * i) + k) = nI (M i k) from hf2 i k (Nat.le_refl _) h2 hk]
      refine zr_go (t := (59, [some (.ref 0), some (.int (nI k)), some (.int (nI (zv_inv P (M k k)))), some (.int (nI i)), none, none], [.int (g 0), .int ((nI (M i k)) * (nI (zv_inv P (M k k))))], (zw_M g gl (va_up a 15 f) al))) 4 rfl ?_
      refine zr_cd (t := (60, [some (.ref 0), some (.int (nI k)), some (.int (nI (zv_inv P (M k k)))), some (.int (nI i)), none, none], [.int (((nI (M i k)) * (nI (zv_inv P (M k k)))) - ((nI (M i k)) * (nI (zv_inv P (M k k)))) / (g 0) * (g 0))], (zw_M g gl (va_up a 15 f) al))) rfl (zn_ne0 hP (by omega) (by omega)) ?_
      rw [show ((nI (M i k)) * (nI (zv_inv P (M k k)))) - ((nI (M i k)) * (nI (zv_inv P (M k k)))) / (g 0) * (g 0) = nI (((M i k) * (zv_inv P (M k k))) % P) from (zn_rem (zn_mul rfl rfl) hP (by omega) (by omega) (by omega))]
      refine zr_go (t := (65, [some (.ref 0), some (.int (nI k)), some (.int (nI (zv_inv P (M k k)))), some (.int (nI i)), some (.int (nI (((M i k) * (zv_inv P (M k k))) % P))), some (.int (nI k))], [], (zw_M g gl (va_up a 15 f) al))) 3 rfl ?_
      refine zr_loop (fun zq : Nat × (Nat → Int32) => (65, [some (.ref 0), some (.int (nI k)), some (.int (nI (zv_inv P (M k k)))), some (.int (nI i)), some (.int (nI (((M i k) * (zv_inv P (M k k))) % P))), some (.int (nI zq.1))], [], (zw_M g gl (va_up a 15 zq.2) al))) (fun zq => k ≤ zq.1 ∧ zq.1 ≤ N ∧ (∀ r j, r < i → j < N → zq.2 (6 * r + j) = nI (zd_cl P M k (zv_inv P (M k k)) r j)) ∧ (∀ r j, i < r → r < N → j < N → zq.2 (6 * r + j) = nI (M r j)) ∧ (∀ j, j < zq.1 → zq.2 (6 * i + j) = nI (zd_cl P M k (zv_inv P (M k k)) i j)) ∧ ∀ j, zq.1 ≤ j → j < N → zq.2 (6 * i + j) = nI (M i j)) (fun zq => N - zq.1) ?_ (k, f) ⟨Nat.le_refl _, by omega, hf1, fun r j h5 h6 h7 => hf2 r j (by omega) h6 h7, fun j h5 => (hf2 i j (Nat.le_refl _) h2 (by have h5 : j < k := h5; omega)).trans (congrArg nI (by unfold zd_cl; rw [if_neg (by have h5 : j < k := h5; omega)])), fun j h5 h6 => hf2 i j (Nat.le_refl _) h2 h6⟩
      rintro ⟨t, f3⟩ ⟨hkt, ht, hg1, hg2, hg3, hg4⟩ ih3
      try dsimp only at *
      refine zr_go (t := (71, [some (.ref 0), some (.int (nI k)), some (.int (nI (zv_inv P (M k k)))), some (.int (nI i)), some (.int (nI (((M i k) * (zv_inv P (M k k))) % P))), some (.int (nI t))], [.int (g 1), .int (nI t)], (zw_M g gl (va_up a 15 f3) al))) 3 rfl ?_
      refine zr_ige (x := nI t) (y := g 1) t N rfl hN (by omega) (by omega) (t := (127, [some (.ref 0), some (.int (nI k)), some (.int (nI (zv_inv P (M k k)))), some (.int (nI i)), some (.int (nI (((M i k) * (zv_inv P (M k k))) % P))), some (.int (nI t))], [], (zw_M g gl (va_up a 15 f3) al))) (f := (74, [some (.ref 0), some (.int (nI k)), some (.int (nI (zv_inv P (M k k)))), some (.int (nI i)), some (.int (nI (((M i k) * (zv_inv P (M k k))) % P))), some (.int (nI t))], [], (zw_M g gl (va_up a 15 f3) al))) rfl (fun h3 => ?_) (fun h3 => ?_)
      · skip
        refine zr_go (t := (34, [some (.ref 0), some (.int (nI k)), some (.int (nI (zv_inv P (M k k)))), some (.int ((nI i) + 1)), some (.int (nI (((M i k) * (zv_inv P (M k k))) % P))), some (.int (nI t))], [], (zw_M g gl (va_up a 15 f3) al))) 2 rfl ?_
        rw [show (nI i) + 1 = nI (i + 1) from (zn_add rfl rfl)]
        refine zr_forget [some (.ref 0), some (.int (nI k)), some (.int (nI (zv_inv P (M k k)))), some (.int (nI (i + 1))), none, none] ⟨Or.inr rfl, Or.inr rfl, Or.inr rfl, Or.inr rfl, Or.inl rfl, Or.inl rfl, trivial⟩ ?_
        exact ih2 (i + 1, f3) ⟨by omega, by omega, fun r j h5 h6 => if e : r = i then by subst e; exact hg3 j (by omega) else hg1 r j (by have h5 : r < i + 1 := h5; omega) h6, fun r j h5 h6 h7 => hg2 r j h5 h6 h7⟩ (by omega)
      · skip
        refine zr_go (t := (96, [some (.ref 0), some (.int (nI k)), some (.int (nI (zv_inv P (M k k)))), some (.int (nI i)), some (.int (nI (((M i k) * (zv_inv P (M k k))) % P))), some (.int (nI t))], [.int ((6 * (nI i)) + (nI t)), .ref 15, .int ((6 * (nI i)) + (nI t)), .ref 15], (zw_M g gl (va_up a 15 f3) al))) 14 rfl ?_
        refine zr_cd (t := (97, [some (.ref 0), some (.int (nI k)), some (.int (nI (zv_inv P (M k k)))), some (.int (nI i)), some (.int (nI (((M i k) * (zv_inv P (M k k))) % P))), some (.int (nI t))], [.int (f3 ((6 * (nI i)) + (nI t)).toNatClampNeg), .int ((6 * (nI i)) + (nI t)), .ref 15], (zw_M g gl (va_up a 15 f3) al))) rfl (pk_in ((6 * i) + t) 36 (by omega) (zn_add (zn_mul rfl rfl) rfl) (by omega)) ?_
        rw [pk_cl (x := ((6 * (nI i)) + (nI t))) ((6 * i) + t) (zn_add (zn_mul rfl rfl) rfl) (by omega)]
        rw [show f3 ((6 * i) + t) = nI (M i t) from hg4 t (Nat.le_refl _) h3]
        refine zr_go (t := (110, [some (.ref 0), some (.int (nI k)), some (.int (nI (zv_inv P (M k k)))), some (.int (nI i)), some (.int (nI (((M i k) * (zv_inv P (M k k))) % P))), some (.int (nI t))], [.int ((6 * (nI k)) + (nI t)), .ref 15, .int (nI (((M i k) * (zv_inv P (M k k))) % P)), .int (nI (M i t)), .int ((6 * (nI i)) + (nI t)), .ref 15], (zw_M g gl (va_up a 15 f3) al))) 8 rfl ?_
        refine zr_cd (t := (111, [some (.ref 0), some (.int (nI k)), some (.int (nI (zv_inv P (M k k)))), some (.int (nI i)), some (.int (nI (((M i k) * (zv_inv P (M k k))) % P))), some (.int (nI t))], [.int (f3 ((6 * (nI k)) + (nI t)).toNatClampNeg), .int (nI (((M i k) * (zv_inv P (M k k))) % P)), .int (nI (M i t)), .int ((6 * (nI i)) + (nI t)), .ref 15], (zw_M g gl (va_up a 15 f3) al))) rfl (pk_in ((6 * k) + t) 36 (by omega) (zn_add (zn_mul rfl rfl) rfl) (by omega)) ?_
        rw [pk_cl (x := ((6 * (nI k)) + (nI t))) ((6 * k) + t) (zn_add (zn_mul rfl rfl) rfl) (by omega)]
        rw [show f3 ((6 * k) + t) = nI (M k t) from (hg1 k t (by omega) h3).trans (congrArg nI (by unfold zd_cl; rw [if_neg (by omega)]))]
        refine zr_go (t := (117, [some (.ref 0), some (.int (nI k)), some (.int (nI (zv_inv P (M k k)))), some (.int (nI i)), some (.int (nI (((M i k) * (zv_inv P (M k k))) % P))), some (.int (nI t))], [.int (g 0), .int ((nI (M i t)) - ((nI (((M i k) * (zv_inv P (M k k))) % P)) * (nI (M k t)))), .int ((6 * (nI i)) + (nI t)), .ref 15], (zw_M g gl (va_up a 15 f3) al))) 4 rfl ?_
        refine zr_call (t := (120, [some (.ref 0), some (.int (nI k)), some (.int (nI (zv_inv P (M k k)))), some (.int (nI i)), some (.int (nI (((M i k) * (zv_inv P (M k k))) % P))), some (.int (nI t))], [.int ((6 * (nI i)) + (nI t)), .ref 15], (zw_M g gl (va_up a 15 f3) al))) rfl (Nat.le_of_ble_eq_true rfl : 1 ≤ 1) (zs_M_mod g gl (va_up a 15 f3) al ((nI (M i t)) - ((nI (((M i k) * (zv_inv P (M k k))) % P)) * (nI (M k t)))) (g 0) (zn_ne0 hP hP0 (by omega))) ?_
        rintro _ _ ⟨rfl, rfl⟩
        show zm_Run zt_get 1 zt_M_clearBelow (120, [some (.ref 0), some (.int (nI k)), some (.int (nI (zv_inv P (M k k)))), some (.int (nI i)), some (.int (nI (((M i k) * (zv_inv P (M k k))) % P))), some (.int (nI t))], [.int (zv_mod ((nI (M i t)) - ((nI (((M i k) * (zv_inv P (M k k))) % P)) * (nI (M k t)))) (g 0)), .int ((6 * (nI i)) + (nI t)), .ref 15], (zw_M g gl (va_up a 15 f3) al)) _
        rw [show zv_mod ((nI (M i t)) - ((nI (((M i k) * (zv_inv P (M k k))) % P)) * (nI (M k t)))) (g 0) = nI ((M i t + P * P - M i k * zv_inv P (M k k) % P * M k t) % P) from by rw [hP]; exact zv_modc P hPP _ (hMP i t h2 h3) _ htp _ (hMP k t hk h3)]
        refine zr_cd (t := (121, [some (.ref 0), some (.int (nI k)), some (.int (nI (zv_inv P (M k k)))), some (.int (nI i)), some (.int (nI (((M i k) * (zv_inv P (M k k))) % P))), some (.int (nI t))], [], (zw_M g gl (va_up a 15 (upd f3 (((6 * (nI i)) + (nI t)).toNatClampNeg) (nI ((M i t + P * P - M i k * zv_inv P (M k k) % P * M k t) % P)))) al))) rfl (pk_in ((6 * i) + t) 36 (by omega) (zn_add (zn_mul rfl rfl) rfl) (by omega)) ?_
        rw [pk_cl (x := ((6 * (nI i)) + (nI t))) ((6 * i) + t) (zn_add (zn_mul rfl rfl) rfl) (by omega)]
        refine zr_go (t := (65, [some (.ref 0), some (.int (nI k)), some (.int (nI (zv_inv P (M k k)))), some (.int (nI i)), some (.int (nI (((M i k) * (zv_inv P (M k k))) % P))), some (.int ((nI t) + 1))], [], (zw_M g gl (va_up a 15 (upd f3 ((6 * i) + t) (nI ((M i t + P * P - M i k * zv_inv P (M k k) % P * M k t) % P)))) al))) 2 rfl ?_
        rw [show (nI t) + 1 = nI (t + 1) from (zn_add rfl rfl)]
        exact ih3 (t + 1, (upd f3 ((6 * i) + t) (nI ((M i t + P * P - M i k * zv_inv P (M k k) % P * M k t) % P)))) ⟨by omega, by omega, fun r j h5 h6 => (pk_un (z6 (by omega) (by omega) (by omega))).trans (hg1 r j h5 h6), fun r j h5 h6 h7 => (pk_un (z6 (by omega) (by omega) (by omega))).trans (hg2 r j h5 h6 h7), fun j h5 => if e : j = t then by subst e; exact pk_us.trans (congrArg nI (by unfold zd_cl; rw [if_pos (by omega)])) else (pk_un (z6 (by have h5 : j < t + 1 := h5; omega) (by omega) (by omega))).trans (hg3 j (by have h5 : j < t + 1 := h5; omega)), fun j h5 h6 => (pk_un (z6 (by omega) (by omega) (by have h5 : t + 1 ≤ j := h5; omega))).trans (hg4 j (by have h5 : t + 1 ≤ j := h5; omega) h6)⟩ (by omega)
  · skip
    refine zr_go (t := (2, [some (.ref 0), some (.int (nI k)), some (.int ((nI b) + 1)), none, none, none], [], (zw_M g gl a al))) 2 rfl ?_
    rw [show (nI b) + 1 = nI (b + 1) from (zn_add rfl rfl)]
    exact ih (b + 1) ⟨by omega, by have : b ≠ zv_inv P (M k k) := (fun q => h1 (by rw [q]; exact hi1)); omega⟩ (by omega)
