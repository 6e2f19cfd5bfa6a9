/-! the reference: the points, lines through two of them (written by wip/whole/gen_m4.py) -/
/-- the numbers of a vector by its code, the first one the highest -/
def zv_dg (P N k i : Nat) : Nat := if i < N then k / P ^ (N - 1 - i) % P else 0
theorem zv_dg_lt {P N k i : Nat} (h : 0 < P) : zv_dg P N k i < P := by
  unfold zv_dg; split
  · exact Nat.mod_lt _ h
  · exact h
/-- a code whose first number that isn't 0 is 1 -/
def zv_l1 (P N k : Nat) : Bool := zv_ff (zv_dg P N k) 6 == 1
/-- how many such codes there are below one -/
def zv_cnt (P N k : Nat) : Nat := zC (zv_l1 P N) k
theorem zv_l1_0 (P N : Nat) : zv_l1 P N 0 = false := by
  have h : ∀ i, zv_dg P N 0 i = 0 := by intro i; unfold zv_dg; split <;> simp
  simp [zv_l1, zv_ff, h]
theorem zs_M_layRow (g : Nat → Int32) (gl : Nat → Int64) (a : Nat → Nat → Int32) (al : Nat → Nat → Int64) (P N : Nat) (hP : g 0 = nI P) (hN : g 1 = nI N) (hP0 : 0 < P) (hP5 : P ≤ 5) (hN6 : N ≤ 6) (k : Nat) (hk : k < 2 ^ 31) : zm_Ev zt_get 1 119 [.ref 0, .int (nI k)] (zw_M g gl a al) (fun v w => v = none ∧ ∃ f, w = (zw_M g gl (va_up a 9 f) al) ∧ ∀ i, i < 6 → f i = nI (zv_dg P N k i)) := by
  refine zr_ev zt_M_layRow rfl rfl ?_
  show zm_Run zt_get 0 zt_M_layRow (0, [some (.ref 0), some (.int (nI k)), none, none], [], (zw_M g gl a al)) _
  refine zr_go (t := (4, [some (.ref 0), some (.int (nI k)), some (.int (nI k)), some (.int 5)], [], (zw_M g gl a al))) 4 rfl ?_
  rw [show (5 : Int32) = nI 6 + (-1) from by decide]
  refine zr_loop (fun q : Nat × Nat × (Nat → Int32) => (4, [some (.ref 0), some (.int (nI k)), some (.int (nI q.2.1)), some (.int (nI q.1 + (-1)))], [], (zw_M g gl (va_up a 9 q.2.2) al))) (fun q => q.1 ≤ 6 ∧ q.2.1 = k / P ^ (N - q.1) ∧ ∀ t, q.1 ≤ t → t < 6 → q.2.2 t = nI (zv_dg P N k t)) (fun q => q.1) ?_ (6, k, a 9) ⟨by omega, by rw [show N - 6 = 0 by omega, Nat.pow_zero, Nat.div_one], fun t h1 h2 => absurd h2 (by omega)⟩
  rintro ⟨j, L, f⟩ ⟨hj, hL, hf⟩ ih
  try dsimp only at *
  have hL1 : L ≤ k := by rw [hL]; exact Nat.div_le_self _ _
  rcases j with _ | j
  · skip
    refine zr_go (t := (5, [some (.ref 0), some (.int (nI k)), some (.int (nI L)), some (.int (nI 0 + (-1)))], [.int (nI 0 + (-1))], (zw_M g gl (va_up a 9 f) al))) 1 rfl ?_
    refine zr_if (c := (nI 0 + (-1)) < 0) (t := (57, [some (.ref 0), some (.int (nI k)), some (.int (nI L)), some (.int (nI 0 + (-1)))], [], (zw_M g gl (va_up a 9 f) al))) (f := (8, [some (.ref 0), some (.int (nI k)), some (.int (nI L)), some (.int (nI 0 + (-1)))], [], (zw_M g gl (va_up a 9 f) al))) rfl (fun h1 => ?_) (fun h1 => ?_)
    · skip
      exact zr_ret rfl trivial ⟨rfl, f, rfl, fun i hi => hf i (Nat.zero_le _) hi⟩
    · skip
      exact absurd (by decide : nI 0 + (-1) < (0 : Int32)) h1
  · skip
    rw [pk_m1]
    refine zr_go (t := (5, [some (.ref 0), some (.int (nI k)), some (.int (nI L)), some (.int (nI j))], [.int (nI j)], (zw_M g gl (va_up a 9 f) al))) 1 rfl ?_
    refine zr_ilt (x := nI j) (y := 0) j 0 rfl rfl (by omega) (by omega) (t := (57, [some (.ref 0), some (.int (nI k)), some (.int (nI L)), some (.int (nI j))], [], (zw_M g gl (va_up a 9 f) al))) (f := (8, [some (.ref 0), some (.int (nI k)), some (.int (nI L)), some (.int (nI j))], [], (zw_M g gl (va_up a 9 f) al))) rfl (fun h1 => ?_) (fun h1 => ?_)
    · skip
      exact absurd h1 (Nat.not_lt_zero _)
    · skip
      refine zr_go (t := (18, [some (.ref 0), some (.int (nI k)), some (.int (nI L)), some (.int (nI j))], [.int (g 1), .int (nI j), .int (nI j), .ref 9], (zw_M g gl (va_up a 9 f) al))) 6 rfl ?_
      refine zr_ige (x := nI j) (y := g 1) j N rfl hN (by omega) (by omega) (t := (30, [some (.ref 0), some (.int (nI k)), some (.int (nI L)), some (.int (nI j))], [.int (nI j), .ref 9], (zw_M g gl (va_up a 9 f) al))) (f := (21, [some (.ref 0), some (.int (nI k)), some (.int (nI L)), some (.int (nI j))], [.int (nI j), .ref 9], (zw_M g gl (va_up a 9 f) al))) rfl (fun h2 => ?_) (fun h2 => ?_)
      · skip
        refine zr_go (t := (31, [some (.ref 0), some (.int (nI k)), some (.int (nI L)), some (.int (nI j))], [.int 0, .int (nI j), .ref 9], (zw_M g gl (va_up a 9 f) al))) 1 rfl ?_
        refine zr_cd (t := (32, [some (.ref 0), some (.int (nI k)), some (.int (nI L)), some (.int (nI j))], [], (zw_M g gl (va_up a 9 (upd f ((nI j).toNatClampNeg) 0)) al))) rfl (pk_in j 6 (by omega) rfl (by omega)) ?_
        rw [pk_cl (x := nI j) j rfl (by omega)]
        refine zr_go (t := (37, [some (.ref 0), some (.int (nI k)), some (.int (nI L)), some (.int (nI j))], [.int (g 1), .int (nI j)], (zw_M g gl (va_up a 9 (upd f j 0)) al))) 3 rfl ?_
        refine zr_ige (x := nI j) (y := g 1) j N rfl hN (by omega) (by omega) (t := (49, [some (.ref 0), some (.int (nI k)), some (.int (nI L)), some (.int (nI j))], [], (zw_M g gl (va_up a 9 (upd f j 0)) al))) (f := (40, [some (.ref 0), some (.int (nI k)), some (.int (nI L)), some (.int (nI j))], [], (zw_M g gl (va_up a 9 (upd f j 0)) al))) rfl (fun h3 => ?_) (fun h3 => ?_)
        · skip
          refine zr_go (t := (4, [some (.ref 0), some (.int (nI k)), some (.int (nI L)), some (.int ((nI j) + (-1)))], [], (zw_M g gl (va_up a 9 (upd f j 0)) al))) 4 rfl ?_
          exact ih (j, L, (upd f j 0)) ⟨by omega, by rw [hL, show N - (j + 1) = N - j by omega], fun t h5 h6 => if e : t = j then by subst e; refine pk_us.trans ?_; exact congrArg nI (by unfold zv_dg; rw [if_neg (by omega)]) else (pk_un e).trans (hf t (by omega) h6)⟩ (Nat.lt_succ_self j)
        · skip
          exfalso; omega
      · skip
        refine zr_go (t := (26, [some (.ref 0), some (.int (nI k)), some (.int (nI L)), some (.int (nI j))], [.int (g 0), .int (nI L), .int (nI j), .ref 9], (zw_M g gl (va_up a 9 f) al))) 3 rfl ?_
        refine zr_cd (t := (27, [some (.ref 0), some (.int (nI k)), some (.int (nI L)), some (.int (nI j))], [.int ((nI L) - (nI L) / (g 0) * (g 0)), .int (nI j), .ref 9], (zw_M g gl (va_up a 9 f) al))) rfl (zn_ne0 hP (by omega) (by omega)) ?_
        rw [show (nI L) - (nI L) / (g 0) * (g 0) = nI (L % P) from (zn_rem rfl hP (by omega) (by omega) (by omega))]
        refine zr_go (t := (31, [some (.ref 0), some (.int (nI k)), some (.int (nI L)), some (.int (nI j))], [.int (nI (L % P)), .int (nI j), .ref 9], (zw_M g gl (va_up a 9 f) al))) 1 rfl ?_
        refine zr_cd (t := (32, [some (.ref 0), some (.int (nI k)), some (.int (nI L)), some (.int (nI j))], [], (zw_M g gl (va_up a 9 (upd f ((nI j).toNatClampNeg) (nI (L % P)))) al))) rfl (pk_in j 6 (by omega) rfl (by omega)) ?_
        rw [pk_cl (x := nI j) j rfl (by omega)]
        refine zr_go (t := (37, [some (.ref 0), some (.int (nI k)), some (.int (nI L)), some (.int (nI j))], [.int (g 1), .int (nI j)], (zw_M g gl (va_up a 9 (upd f j (nI (L % P)))) al))) 3 rfl ?_
        refine zr_ige (x := nI j) (y := g 1) j N rfl hN (by omega) (by omega) (t := (49, [some (.ref 0), some (.int (nI k)), some (.int (nI L)), some (.int (nI j))], [], (zw_M g gl (va_up a 9 (upd f j (nI (L % P)))) al))) (f := (40, [some (.ref 0), some (.int (nI k)), some (.int (nI L)), some (.int (nI j))], [], (zw_M g gl (va_up a 9 (upd f j (nI (L % P)))) al))) rfl (fun h3 => ?_) (fun h3 => ?_)
        · skip
          exfalso; omega
        · skip
          refine zr_go (t := (45, [some (.ref 0), some (.int (nI k)), some (.int (nI L)), some (.int (nI j))], [.int (g 0), .int (nI L)], (zw_M g gl (va_up a 9 (upd f j (nI (L % P)))) al))) 3 rfl ?_
          refine zr_cd (t := (46, [some (.ref 0), some (.int (nI k)), some (.int (nI L)), some (.int (nI j))], [.int ((nI L) / (g 0))], (zw_M g gl (va_up a 9 (upd f j (nI (L % P)))) al))) rfl (zn_ne0 hP (by omega) (by omega)) ?_
          rw [show (nI L) / (g 0) = nI (L / P) from (zn_div rfl hP (by omega) (by omega) (by omega))]
          refine zr_go (t := (4, [some (.ref 0), some (.int (nI k)), some (.int (nI (L / P))), some (.int ((nI j) + (-1)))], [], (zw_M g gl (va_up a 9 (upd f j (nI (L % P)))) al))) 4 rfl ?_
          exact ih (j, L / P, (upd f j (nI (L % P)))) ⟨by omega, by rw [hL, Nat.div_div_eq_div_mul, ← Nat.pow_succ, show (N - (j + 1)).succ = N - j by omega], fun t h5 h6 => if e : t = j then by subst e; refine pk_us.trans ?_; exact congrArg nI (by unfold zv_dg; rw [if_pos (by omega), hL, show N - (t + 1) = N - 1 - t by omega]) else (pk_un e).trans (hf t (by omega) h6)⟩ (Nat.lt_succ_self j)
theorem zv_ff_lt {x : Nat → Nat} {B : Nat} (h : ∀ i, i < 6 → x i < B + 1) (n : Nat) : zv_ff x n < B + 1 := by
  induction n with
  | zero => exact Nat.succ_pos _
  | succ n ih => unfold zv_ff; split; exact ih; exact h _ (by omega)
theorem zC_lt {f : Nat → Bool} {k n : Nat} (h : f k = true) (hk : k < n) : zC f k + 1 ≤ zC f n := by
  refine Nat.le_trans ?_ (zC_mono f hk)
  show _ ≤ zC f k + (f k).toNat
  rw [h]; exact Nat.le_refl _
theorem zs_M_layPoints (g : Nat → Int32) (gl : Nat → Int64) (a : Nat → Nat → Int32) (al : Nat → Nat → Int64) (P N : Nat) (hP : g 0 = nI P) (hN : g 1 = nI N) (hP0 : 0 < P) (hP5 : P ≤ 5) (hN6 : N ≤ 6) (hA : P ^ N ≤ 729) (hB : zv_cnt P N (P ^ N) ≤ 156) : zm_Ev zt_get 2 120 [.ref 0] (zw_M g gl a al) (fun v w => v = none ∧ ∃ fr fn f9, w = (zw_M (upd g 6 (nI (zv_cnt P N (P ^ N)))) gl (va_up (va_up (va_up a 3 fr) 4 fn) 9 f9) al) ∧ (∀ t, 1 ≤ t → t < P ^ N → fn t = if zv_l1 P N t then nI (zv_cnt P N t) else -1) ∧ (∀ t, 1 ≤ t → t < P ^ N → zv_l1 P N t = true → ∀ i, i < 6 → fr (6 * zv_cnt P N t + i) = nI (zv_dg P N t i))) := by
  refine zr_ev zt_M_layPoints rfl rfl ?_
  show zm_Run zt_get 1 zt_M_layPoints (0, [some (.ref 0), none, none, none], [], (zw_M g gl a al)) _
  refine zr_go (t := (4, [some (.ref 0), some (.int 1), some (.int 0), none], [], (zw_M g gl a al))) 4 rfl ?_
  refine zr_loop (fun q : Nat × Nat => (4, [some (.ref 0), some (.int (nI q.2)), some (.int (nI q.1)), none], [], (zw_M g gl a al))) (fun q => q.1 ≤ N ∧ q.2 = P ^ q.1) (fun q => N - q.1) ?_ (0, 1) ⟨by omega, rfl⟩
  rintro ⟨i, A⟩ ⟨hi, hAe⟩ ih
  try dsimp only at *
  refine zr_go (t := (9, [some (.ref 0), some (.int (nI A)), some (.int (nI i)), none], [.int (g 1), .int (nI i)], (zw_M g gl a al))) 3 rfl ?_
  refine zr_ige (x := nI i) (y := g 1) i N rfl hN (by omega) (by omega) (t := (25, [some (.ref 0), some (.int (nI A)), some (.int (nI i)), none], [], (zw_M g gl a al))) (f := (12, [some (.ref 0), some (.int (nI A)), some (.int (nI i)), none], [], (zw_M g gl a al))) rfl (fun h1 => ?_) (fun h1 => ?_)
  · skip
    have e1 : N = i := by omega
    subst e1
    subst hAe
    refine zr_go (t := (32, [some (.ref 0), some (.int (nI (P ^ N))), some (.int 1), none], [], (zw_M (upd g 6 0) gl a al))) 5 rfl ?_
    refine zr_loop (fun q : Nat × Nat × (Nat → Int32) × (Nat → Int32) × (Nat → Int32) => (32, [some (.ref 0), some (.int (nI (P ^ N))), some (.int (nI q.1)), none], [], (zw_M (upd g 6 (nI q.2.1)) gl (va_up (va_up (va_up a 3 q.2.2.1) 4 q.2.2.2.1) 9 q.2.2.2.2) al))) (fun q => 1 ≤ q.1 ∧ q.1 ≤ P ^ N ∧ q.2.1 = zv_cnt P N q.1 ∧ (∀ t, 1 ≤ t → t < q.1 → q.2.2.2.1 t = if zv_l1 P N t then nI (zv_cnt P N t) else -1) ∧ (∀ t, 1 ≤ t → t < q.1 → zv_l1 P N t = true → ∀ i, i < 6 → q.2.2.1 (6 * zv_cnt P N t + i) = nI (zv_dg P N t i))) (fun q => P ^ N - q.1) ?_ (1, 0, a 3, a 4, a 9) ⟨Nat.le_refl _, Nat.pow_pos hP0, by show 0 = 0 + (zv_l1 P N 0).toNat; rw [zv_l1_0]; rfl, fun t h1 h2 => absurd h2 (by omega), fun t h1 h2 => absurd h2 (by omega)⟩
    rintro ⟨k, n, fr, fn, f9⟩ ⟨hk1, hk2, hn, hfn, hfr⟩ ih2
    try dsimp only at *
    have hn1 : n ≤ 156 := by rw [hn]; exact Nat.le_trans (zC_mono _ hk2) hB
    refine zr_go (t := (34, [some (.ref 0), some (.int (nI (P ^ N))), some (.int (nI k)), none], [.int (nI (P ^ N)), .int (nI k)], (zw_M (upd g 6 (nI n)) gl (va_up (va_up (va_up a 3 fr) 4 fn) 9 f9) al))) 2 rfl ?_
    refine zr_ige (x := nI k) (y := nI (P ^ N)) k (P ^ N) rfl rfl (by omega) (by omega) (t := (120, [some (.ref 0), some (.int (nI (P ^ N))), some (.int (nI k)), none], [], (zw_M (upd g 6 (nI n)) gl (va_up (va_up (va_up a 3 fr) 4 fn) 9 f9) al))) (f := (37, [some (.ref 0), some (.int (nI (P ^ N))), some (.int (nI k)), none], [], (zw_M (upd g 6 (nI n)) gl (va_up (va_up (va_up a 3 fr) 4 fn) 9 f9) al))) rfl (fun h2 => ?_) (fun h2 => ?_)
    · skip
      have e2 : k = P ^ N := by omega
      subst e2
      exact zr_ret rfl trivial ⟨rfl, fr, fn, f9, by rw [hn], hfn, hfr⟩
    · skip
      refine zr_go (t := (39, [some (.ref 0), some (.int (nI (P ^ N))), some (.int (nI k)), none], [.int (nI k), .ref 0], (zw_M (upd g 6 (nI n)) gl (va_up (va_up (va_up a 3 fr) 4 fn) 9 f9) al))) 2 rfl ?_
      refine zr_call (t := (42, [some (.ref 0), some (.int (nI (P ^ N))), some (.int (nI k)), none], [], (zw_M (upd g 6 (nI n)) gl (va_up (va_up (va_up a 3 fr) 4 fn) 9 f9) al))) rfl (Nat.le_of_ble_eq_true rfl : 1 ≤ 1) (zs_M_layRow (upd g 6 (nI n)) gl (va_up (va_up (va_up a 3 fr) 4 fn) 9 f9) al P N hP hN hP0 hP5 hN6 k (by omega)) ?_
      rintro _ _ ⟨rfl, e9, rfl, he9⟩
      show zm_Run zt_get 1 zt_M_layPoints (42, [some (.ref 0), some (.int (nI (P ^ N))), some (.int (nI k)), none], [], (zw_M (upd g 6 (nI n)) gl (va_up (va_up (va_up a 3 fr) 4 fn) 9 e9) al)) _
      refine zr_go (t := (48, [some (.ref 0), some (.int (nI (P ^ N))), some (.int (nI k)), none], [.int (-1), .int (nI k), .ref 4], (zw_M (upd g 6 (nI n)) gl (va_up (va_up (va_up a 3 fr) 4 fn) 9 e9) al))) 4 rfl ?_
      refine zr_cd (t := (49, [some (.ref 0), some (.int (nI (P ^ N))), some (.int (nI k)), none], [], (zw_M (upd g 6 (nI n)) gl (va_up (va_up (va_up a 3 fr) 4 (upd fn ((nI k).toNatClampNeg) (-1))) 9 e9) al))) rfl (pk_in k 729 (by omega) rfl (by omega)) ?_
      rw [pk_cl (x := nI k) k rfl (by omega)]
      refine zr_go (t := (53, [some (.ref 0), some (.int (nI (P ^ N))), some (.int (nI k)), none], [.ref 9], (zw_M (upd g 6 (nI n)) gl (va_up (va_up (va_up a 3 fr) 4 (upd fn k (-1))) 9 e9) al))) 2 rfl ?_
      refine zr_call (t := (56, [some (.ref 0), some (.int (nI (P ^ N))), some (.int (nI k)), none], [], (zw_M (upd g 6 (nI n)) gl (va_up (va_up (va_up a 3 fr) 4 (upd fn k (-1))) 9 e9) al))) rfl (Nat.le_of_ble_eq_true rfl : 1 ≤ 1) (zs_M_firstOf_9 (upd g 6 (nI n)) gl (va_up (va_up (va_up a 3 fr) 4 (upd fn k (-1))) 9 e9) al (zv_dg P N k) he9 (fun i hi => Nat.le_of_lt_succ (Nat.lt_of_lt_of_le (zv_dg_lt hP0) hP5))) ?_
      rintro _ _ ⟨rfl, rfl⟩
      show zm_Run zt_get 1 zt_M_layPoints (56, [some (.ref 0), some (.int (nI (P ^ N))), some (.int (nI k)), none], [.int (nI (zv_ff (zv_dg P N k) 6))], (zw_M (upd g 6 (nI n)) gl (va_up (va_up (va_up a 3 fr) 4 (upd fn k (-1))) 9 e9) al)) _
      have hff : zv_ff (zv_dg P N k) 6 < 6 := zv_ff_lt (fun i hi => Nat.lt_of_lt_of_le (zv_dg_lt hP0) (by omega)) 6
      refine zr_go (t := (57, [some (.ref 0), some (.int (nI (P ^ N))), some (.int (nI k)), none], [.int 1, .int (nI (zv_ff (zv_dg P N k) 6))], (zw_M (upd g 6 (nI n)) gl (va_up (va_up (va_up a 3 fr) 4 (upd fn k (-1))) 9 e9) al))) 1 rfl ?_
      refine zr_ine (x := nI (zv_ff (zv_dg P N k) 6)) (y := 1) (zv_ff (zv_dg P N k) 6) 1 rfl rfl (by omega) (by omega) (t := (114, [some (.ref 0), some (.int (nI (P ^ N))), some (.int (nI k)), none], [], (zw_M (upd g 6 (nI n)) gl (va_up (va_up (va_up a 3 fr) 4 (upd fn k (-1))) 9 e9) al))) (f := (60, [some (.ref 0), some (.int (nI (P ^ N))), some (.int (nI k)), none], [], (zw_M (upd g 6 (nI n)) gl (va_up (va_up (va_up a 3 fr) 4 (upd fn k (-1))) 9 e9) al))) rfl (fun h3 => ?_) (fun h3 => ?_)
      · skip
        have hl1 : zv_l1 P N k = false := by unfold zv_l1; simp [h3]
        have hn2 : n = zv_cnt P N (k + 1) := by rw [hn]; show _ = _ + (zv_l1 P N k).toNat; rw [hl1]; rfl
        refine zr_go (t := (32, [some (.ref 0), some (.int (nI (P ^ N))), some (.int ((nI k) + 1)), none], [], (zw_M (upd g 6 (nI n)) gl (va_up (va_up (va_up a 3 fr) 4 (upd fn k (-1))) 9 e9) al))) 2 rfl ?_
        rw [show (nI k) + 1 = nI (k + 1) from (zn_add rfl rfl)]
        exact ih2 (k + 1, n, fr, (upd fn k (-1)), e9) ⟨by omega, by omega, hn2, fun t h5 h6 => if e : t = k then by subst e; refine pk_us.trans ?_; rw [hl1]; rfl else (pk_un e).trans (hfn t h5 (by have h6 : t < k + 1 := h6; omega)), fun t h5 (h6 : t < k + 1) h7 => hfr t h5 (by have : t ≠ k := (fun q => by rw [q, hl1] at h7; cases h7); omega) h7⟩ (by omega)
      · skip
        have hl1 : zv_l1 P N k = true := by unfold zv_l1; simp [h3]
        have hn2 : n + 1 = zv_cnt P N (k + 1) := by rw [hn]; show _ = _ + (zv_l1 P N k).toNat; rw [hl1]; rfl
        have hn3 : n + 1 ≤ 156 := by rw [hn2]; exact Nat.le_trans (zC_mono _ (by omega)) hB
        refine zr_go (t := (69, [some (.ref 0), some (.int (nI (P ^ N))), some (.int (nI k)), none], [.int (nI n), .int (nI k), .ref 4], (zw_M (upd g 6 (nI n)) gl (va_up (va_up (va_up a 3 fr) 4 (upd fn k (-1))) 9 e9) al))) 5 rfl ?_
        refine zr_cd (t := (70, [some (.ref 0), some (.int (nI (P ^ N))), some (.int (nI k)), none], [], (zw_M (upd g 6 (nI n)) gl (va_up (va_up (va_up a 3 fr) 4 (upd (upd fn k (-1)) ((nI k).toNatClampNeg) (nI n))) 9 e9) al))) rfl (pk_in k 729 (by omega) rfl (by omega)) ?_
        rw [pk_cl (x := nI k) k rfl (by omega)]
        refine zr_go (t := (72, [some (.ref 0), some (.int (nI (P ^ N))), some (.int (nI k)), some (.int 0)], [], (zw_M (upd g 6 (nI n)) gl (va_up (va_up (va_up a 3 fr) 4 (upd (upd fn k (-1)) k (nI n))) 9 e9) al))) 2 rfl ?_
        refine zr_loop (fun q : Nat × (Nat → Int32) => (72, [some (.ref 0), some (.int (nI (P ^ N))), some (.int (nI k)), some (.int (nI q.1))], [], (zw_M (upd g 6 (nI n)) gl (va_up (va_up (va_up a 3 q.2) 4 (upd (upd fn k (-1)) k (nI n))) 9 e9) al))) (fun q => q.1 ≤ 6 ∧ (∀ s, s < 6 * n → q.2 s = fr s) ∧ ∀ s, s < q.1 → q.2 (6 * n + s) = nI (zv_dg P N k s)) (fun q => 6 - q.1) ?_ (0, fr) ⟨by omega, fun s _ => rfl, fun s h => absurd h (Nat.not_lt_zero s)⟩
        rintro ⟨t, fs⟩ ⟨ht, hs1, hs2⟩ ih3
        try dsimp only at *
        refine zr_go (t := (75, [some (.ref 0), some (.int (nI (P ^ N))), some (.int (nI k)), some (.int (nI t))], [.int 6, .int (nI t)], (zw_M (upd g 6 (nI n)) gl (va_up (va_up (va_up a 3 fs) 4 (upd (upd fn k (-1)) k (nI n))) 9 e9) al))) 2 rfl ?_
        refine zr_ige (x := nI t) (y := 6) t 6 rfl rfl (by omega) (by omega) (t := (104, [some (.ref 0), some (.int (nI (P ^ N))), some (.int (nI k)), some (.int (nI t))], [], (zw_M (upd g 6 (nI n)) gl (va_up (va_up (va_up a 3 fs) 4 (upd (upd fn k (-1)) k (nI n))) 9 e9) al))) (f := (78, [some (.ref 0), some (.int (nI (P ^ N))), some (.int (nI k)), some (.int (nI t))], [], (zw_M (upd g 6 (nI n)) gl (va_up (va_up (va_up a 3 fs) 4 (upd (upd fn k (-1)) k (nI n))) 9 e9) al))) rfl (fun h4 => ?_) (fun h4 => ?_)
        · skip
          refine zr_go (t := (32, [some (.ref 0), some (.int (nI (P ^ N))), some (.int ((nI k) + 1)), some (.int (nI t))], [], (zw_M (upd g 6 ((nI n) + 1)) gl (va_up (va_up (va_up a 3 fs) 4 (upd (upd fn k (-1)) k (nI n))) 9 e9) al))) 8 rfl ?_
          rw [show (nI k) + 1 = nI (k + 1) from (zn_add rfl rfl)]
          rw [show (nI n) + 1 = nI (n + 1) from (zn_add rfl rfl)]
          refine zr_forget [some (.ref 0), some (.int (nI (P ^ N))), some (.int (nI (k + 1))), none] ⟨Or.inr rfl, Or.inr rfl, Or.inr rfl, Or.inl rfl, trivial⟩ ?_
          exact ih2 (k + 1, n + 1, fs, (upd (upd fn k (-1)) k (nI n)), e9) ⟨by omega, by omega, hn2, fun t h5 h6 => if e : t = k then by subst e; refine pk_us.trans ?_; rw [if_pos hl1, ← hn] else ((pk_un e).trans (pk_un e)).trans (hfn t h5 (by have h6 : t < k + 1 := h6; omega)), fun s h5 (h6 : s < k + 1) h7 => if e : s = k then by subst e; intro i2 hi2; rw [← hn]; exact hs2 i2 (by omega) else fun i2 hi2 => (hs1 _ (by have h8 : zv_cnt P N s + 1 ≤ zv_cnt P N k := zC_lt h7 (by omega); omega)).trans (hfr s h5 (by omega) h7 i2 hi2)⟩ (by omega)
        · skip
          refine zr_go (t := (96, [some (.ref 0), some (.int (nI (P ^ N))), some (.int (nI k)), some (.int (nI t))], [.int (nI t), .ref 9, .int ((6 * (nI n)) + (nI t)), .ref 3], (zw_M (upd g 6 (nI n)) gl (va_up (va_up (va_up a 3 fs) 4 (upd (upd fn k (-1)) k (nI n))) 9 e9) al))) 11 rfl ?_
          refine zr_cd (t := (97, [some (.ref 0), some (.int (nI (P ^ N))), some (.int (nI k)), some (.int (nI t))], [.int (e9 (nI t).toNatClampNeg), .int ((6 * (nI n)) + (nI t)), .ref 3], (zw_M (upd g 6 (nI n)) gl (va_up (va_up (va_up a 3 fs) 4 (upd (upd fn k (-1)) k (nI n))) 9 e9) al))) rfl (pk_in t 6 (by omega) rfl (by omega)) ?_
          rw [pk_cl (x := nI t) t rfl (by omega)]
          rw [show e9 t = nI (zv_dg P N k t) from he9 t (by omega)]
          refine zr_cd (t := (98, [some (.ref 0), some (.int (nI (P ^ N))), some (.int (nI k)), some (.int (nI t))], [], (zw_M (upd g 6 (nI n)) gl (va_up (va_up (va_up a 3 (upd fs (((6 * (nI n)) + (nI t)).toNatClampNeg) (nI (zv_dg P N k t)))) 4 (upd (upd fn k (-1)) k (nI n))) 9 e9) al))) rfl (pk_in ((6 * n) + t) 936 (by omega) (zn_add (zn_mul rfl rfl) rfl) (by omega)) ?_
          rw [pk_cl (x := (6 * (nI n)) + (nI t)) ((6 * n) + t) (zn_add (zn_mul rfl rfl) rfl) (by omega)]
          refine zr_go (t := (72, [some (.ref 0), some (.int (nI (P ^ N))), some (.int (nI k)), some (.int ((nI t) + 1))], [], (zw_M (upd g 6 (nI n)) gl (va_up (va_up (va_up a 3 (upd fs ((6 * n) + t) (nI (zv_dg P N k t)))) 4 (upd (upd fn k (-1)) k (nI n))) 9 e9) al))) 2 rfl ?_
          rw [show (nI t) + 1 = nI (t + 1) from (zn_add rfl rfl)]
          exact ih3 (t + 1, (upd fs ((6 * n) + t) (nI (zv_dg P N k t)))) ⟨by omega, fun s h => (pk_un (by omega)).trans (hs1 s h), fun s h => if e : s = t then by subst e; exact pk_us else (pk_un (by omega)).trans (hs2 s (by omega))⟩ (by omega)
  · skip
    refine zr_go (t := (4, [some (.ref 0), some (.int ((nI A) * (g 0))), some (.int ((nI i) + 1)), none], [], (zw_M g gl a al))) 7 rfl ?_
    rw [show (nI i) + 1 = nI (i + 1) from (zn_add rfl rfl)]
    rw [show (nI A) * (g 0) = nI (A * P) from (zn_mul rfl hP)]
    exact ih (i + 1, A * P) ⟨by omega, by rw [hAe]; rfl⟩ (by omega)
