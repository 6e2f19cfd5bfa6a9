/-! the reference's arithmetic (written by wip/whole/gen_m1.py) -/
def zv_mod (x y : Int32) : Int32 := (x - x / y * y + y) - (x - x / y * y + y) / y * y
theorem zs_M_mod (g : Nat → Int32) (gl : Nat → Int64) (a : Nat → Nat → Int32) (al : Nat → Nat → Int64) (x y : Int32) (hy : ¬ y = 0) : zm_Ev zt_get 1 108 [.int x, .int y] (zw_M g gl a al) (fun v w => v = some (.int (zv_mod x y)) ∧ w = (zw_M g gl a al)) := by
  refine zr_ev zt_M_mod rfl rfl ?_
  show zm_Run zt_get 0 zt_M_mod (0, [some (.int x), some (.int y)], [], (zw_M g gl a al)) _
  refine zr_go (t := (2, [some (.int x), some (.int y)], [.int y, .int x], (zw_M g gl a al))) 2 rfl ?_
  refine zr_cd (t := (3, [some (.int x), some (.int y)], [.int (x - x / y * y)], (zw_M g gl a al))) rfl hy ?_
  refine zr_go (t := (6, [some (.int x), some (.int y)], [.int y, .int ((x - x / y * y) + y)], (zw_M g gl a al))) 3 rfl ?_
  refine zr_cd (t := (7, [some (.int x), some (.int y)], [.int (((x - x / y * y) + y) - ((x - x / y * y) + y) / y * y)], (zw_M g gl a al))) rfl hy ?_
  exact zr_ret rfl trivial ⟨rfl, rfl⟩
theorem zs_M_within (g : Nat → Int32) (gl : Nat → Int64) (a : Nat → Nat → Int32) (al : Nat → Nat → Int64) (x y z : Int32) : zm_Ev zt_get 1 107 [.int x, .int y, .int z] (zw_M g gl a al) (fun v w => ((y ≤ x ∧ x ≤ z) ∧ v = some (.int 1) ∨ ¬ (y ≤ x ∧ x ≤ z) ∧ v = some (.int 0)) ∧ w = (zw_M g gl a al)) := by
  refine zr_ev zt_M_within rfl rfl ?_
  show zm_Run zt_get 0 zt_M_within (0, [some (.int x), some (.int y), some (.int z)], [], (zw_M g gl a al)) _
  refine zr_go (t := (2, [some (.int x), some (.int y), some (.int z)], [.int y, .int x], (zw_M g gl a al))) 2 rfl ?_
  refine zr_if (c := x < y) (t := (14, [some (.int x), some (.int y), some (.int z)], [], (zw_M g gl a al))) (f := (5, [some (.int x), some (.int y), some (.int z)], [], (zw_M g gl a al))) rfl (fun h1 => ?_) (fun h1 => ?_)
  · skip
    refine zr_go (t := (15, [some (.int x), some (.int y), some (.int z)], [.int 0], (zw_M g gl a al))) 1 rfl ?_
    exact zr_ret rfl (Or.inl rfl) ⟨Or.inr ⟨fun q => absurd h1 (Int32.not_lt.mpr q.1), rfl⟩, rfl⟩
  · skip
    refine zr_go (t := (7, [some (.int x), some (.int y), some (.int z)], [.int z, .int x], (zw_M g gl a al))) 2 rfl ?_
    refine zr_if (c := z < x) (t := (14, [some (.int x), some (.int y), some (.int z)], [], (zw_M g gl a al))) (f := (10, [some (.int x), some (.int y), some (.int z)], [], (zw_M g gl a al))) rfl (fun h2 => ?_) (fun h2 => ?_)
    · skip
      refine zr_go (t := (15, [some (.int x), some (.int y), some (.int z)], [.int 0], (zw_M g gl a al))) 1 rfl ?_
      exact zr_ret rfl (Or.inl rfl) ⟨Or.inr ⟨fun q => absurd h2 (Int32.not_lt.mpr q.2), rfl⟩, rfl⟩
    · skip
      refine zr_go (t := (15, [some (.int x), some (.int y), some (.int z)], [.int 1], (zw_M g gl a al))) 2 rfl ?_
      exact zr_ret rfl (Or.inr rfl) ⟨Or.inl ⟨⟨Int32.not_lt.mp h1, Int32.not_lt.mp h2⟩, rfl⟩, rfl⟩
/-- the sum of the form at a vector, as a number -/
def zv_row (N : Nat) (c x : Nat → Nat) (i : Nat) : Nat := zS (fun t => c (6 * i + (i + t)) * x i * x (i + t)) (N - i)
def zv_sum (N : Nat) (c x : Nat → Nat) : Nat := zS (zv_row N c x) N
theorem zv_sum_lt {N : Nat} {c x : Nat → Nat} (hN : N ≤ 6) (hc : ∀ k, k < 36 → c k ≤ 4) (hx : ∀ i, i < 6 → x i ≤ 4) : zv_sum N c x ≤ 2304 := by
  have h1 : ∀ i, i < N → zv_row N c x i ≤ 6 * 64 := by
    intro i hi
    refine Nat.le_trans (zS_le (B := 64) (N - i) (fun t ht => ?_)) (Nat.mul_le_mul_right _ (by omega))
    have a1 := hc (6 * i + (i + t)) (by omega)
    have a2 := hx i (by omega)
    have a3 := hx (i + t) (by omega)
    exact Nat.mul_le_mul (Nat.mul_le_mul a1 a2) a3
  exact Nat.le_trans (zS_le N h1) (Nat.le_trans (Nat.mul_le_mul_right _ hN) (by decide))
theorem zS_snoc {f : Nat → Nat} {i N : Nat} : zS f i + f i = zS f (i + 1) := rfl
theorem zs_M_valueOf_9 (g : Nat → Int32) (gl : Nat → Int64) (a : Nat → Nat → Int32) (al : Nat → Nat → Int64) (P N : Nat) (c x : Nat → Nat) (hP : g 0 = nI P) (hN : g 1 = nI N) (hP0 : 0 < P) (hP5 : P ≤ 5) (hN6 : N ≤ 6) (hc : ∀ k, k < 36 → a 1 k = nI (c k)) (hx : ∀ i, i < 6 → a 9 i = nI (x i)) (hc4 : ∀ k, k < 36 → c k ≤ 4) (hx4 : ∀ i, i < 6 → x i ≤ 4) : zm_Ev zt_get 1 122 [.ref 0, .ref 9] (zw_M g gl a al) (fun v w => v = some (.int (nI (zv_sum N c x % P))) ∧ w = (zw_M g gl a al)) := by
  refine zr_ev zt_M_valueOf rfl rfl ?_
  show zm_Run zt_get 0 zt_M_valueOf (0, [some (.ref 0), some (.ref 9), none, none, none], [], (zw_M g gl a al)) _
  refine zr_go (t := (4, [some (.ref 0), some (.ref 9), some (.int 0), some (.int 0), none], [], (zw_M g gl a al))) 4 rfl ?_
  refine zr_loop (fun q : Nat × Nat => (4, [some (.ref 0), some (.ref 9), some (.int (nI q.2)), some (.int (nI q.1)), none], [], (zw_M g gl a al))) (fun q => q.1 ≤ N ∧ q.2 = zS (zv_row N c x) q.1) (fun q => N - q.1) ?_ (0, 0) ⟨Nat.zero_le _, rfl⟩
  rintro ⟨i, S⟩ ⟨hi, hS⟩ ih
  dsimp only at hi hS ih ⊢
  refine zr_go (t := (9, [some (.ref 0), some (.ref 9), some (.int (nI S)), some (.int (nI i)), none], [.int (g 1), .int (nI i)], (zw_M g gl a al))) 3 rfl ?_
  refine zr_ige (x := nI i) (y := g 1) i N rfl hN (by omega) (by omega) (t := (60, [some (.ref 0), some (.ref 9), some (.int (nI S)), some (.int (nI i)), none], [], (zw_M g gl a al))) (f := (12, [some (.ref 0), some (.ref 9), some (.int (nI S)), some (.int (nI i)), none], [], (zw_M g gl a al))) rfl (fun h1 => ?_) (fun h1 => ?_)
  · skip
    refine zr_go (t := (65, [some (.ref 0), some (.ref 9), some (.int (nI S)), some (.int (nI i)), none], [.int (g 0), .int (nI S)], (zw_M g gl a al))) 3 rfl ?_
    refine zr_cd (t := (66, [some (.ref 0), some (.ref 9), some (.int (nI S)), some (.int (nI i)), none], [.int ((nI S) - (nI S) / (g 0) * (g 0))], (zw_M g gl a al))) rfl (zn_ne0 hP (by have := zv_sum_lt hN6 hc4 hx4; have : S = zv_sum N c x := (by rw [hS, show i = N by omega]; rfl); omega) (by have := zv_sum_lt hN6 hc4 hx4; have : S = zv_sum N c x := (by rw [hS, show i = N by omega]; rfl); omega)) ?_
    rw [show (nI S) - (nI S) / (g 0) * (g 0) = nI (S % P) from (zn_rem rfl hP (by have := zv_sum_lt hN6 hc4 hx4; have : S = zv_sum N c x := (by rw [hS, show i = N by omega]; rfl); omega) (by have := zv_sum_lt hN6 hc4 hx4; have : S = zv_sum N c x := (by rw [hS, show i = N by omega]; rfl); omega) (by have := zv_sum_lt hN6 hc4 hx4; have : S = zv_sum N c x := (by rw [hS, show i = N by omega]; rfl); omega))]
    exact zr_ret rfl trivial ⟨by rw [hS, show i = N by omega]; rfl, rfl⟩
  · skip
    refine zr_go (t := (15, [some (.ref 0), some (.ref 9), some (.int (nI S)), some (.int (nI i)), some (.int (nI i))], [], (zw_M g gl a al))) 2 rfl ?_
    refine zr_loop (fun q : Nat × Nat => (15, [some (.ref 0), some (.ref 9), some (.int (nI q.2)), some (.int (nI i)), some (.int (nI q.1))], [], (zw_M g gl a al))) (fun q => i ≤ q.1 ∧ q.1 ≤ N ∧ q.2 = zS (zv_row N c x) i + zS (fun t => c (6 * i + (i + t)) * x i * x (i + t)) (q.1 - i)) (fun q => N - q.1) ?_ (i, S) ⟨Nat.le_refl _, hi, by rw [Nat.sub_self]; exact hS⟩
    rintro ⟨j, S2⟩ ⟨hj1, hj2, hS2⟩ ih2
    dsimp only at hj1 hj2 hS2 ih2 ⊢
    refine zr_go (t := (21, [some (.ref 0), some (.ref 9), some (.int (nI S2)), some (.int (nI i)), some (.int (nI j))], [.int (g 1), .int (nI j)], (zw_M g gl a al))) 3 rfl ?_
    refine zr_ige (x := nI j) (y := g 1) j N rfl hN (by omega) (by omega) (t := (54, [some (.ref 0), some (.ref 9), some (.int (nI S2)), some (.int (nI i)), some (.int (nI j))], [], (zw_M g gl a al))) (f := (24, [some (.ref 0), some (.ref 9), some (.int (nI S2)), some (.int (nI i)), some (.int (nI j))], [], (zw_M g gl a al))) rfl (fun h2 => ?_) (fun h2 => ?_)
    · skip
      refine zr_go (t := (4, [some (.ref 0), some (.ref 9), some (.int (nI S2)), some (.int ((nI i) + 1)), some (.int (nI j))], [], (zw_M g gl a al))) 2 rfl ?_
      rw [show nI i + 1 = nI (i + 1) from nI_1 i]
      refine zr_forget [some (.ref 0), some (.ref 9), some (.int (nI S2)), some (.int (nI (i + 1))), none] ⟨Or.inr rfl, Or.inr rfl, Or.inr rfl, Or.inr rfl, Or.inl rfl, trivial⟩ ?_
      exact ih (i + 1, S2) ⟨by omega, by rw [hS2, show j = N by omega]; rfl⟩ (by show N - (i + 1) < N - i; omega)
    · skip
      refine zr_go (t := (36, [some (.ref 0), some (.ref 9), some (.int (nI S2)), some (.int (nI i)), some (.int (nI j))], [.int ((6 * (nI i)) + (nI j)), .ref 1, .int (nI S2)], (zw_M g gl a al))) 8 rfl ?_
      refine zr_cd (t := (37, [some (.ref 0), some (.ref 9), some (.int (nI S2)), some (.int (nI i)), some (.int (nI j))], [.int ((a 1) ((6 * (nI i)) + (nI j)).toNatClampNeg), .int (nI S2)], (zw_M g gl a al))) rfl (pk_in ((6 * i) + j) 36 (by omega) (zn_add (zn_mul rfl rfl) rfl) (by omega)) ?_
      rw [pk_cl (x := (6 * (nI i)) + (nI j)) ((6 * i) + j) (zn_add (zn_mul rfl rfl) rfl) (by omega)]
      rw [show (a 1) ((6 * i) + j) = nI (c ((6 * i) + j)) from hc ((6 * i) + j) (by omega)]
      refine zr_go (t := (39, [some (.ref 0), some (.ref 9), some (.int (nI S2)), some (.int (nI i)), some (.int (nI j))], [.int (nI i), .ref 9, .int (nI (c ((6 * i) + j))), .int (nI S2)], (zw_M g gl a al))) 2 rfl ?_
      refine zr_cd (t := (40, [some (.ref 0), some (.ref 9), some (.int (nI S2)), some (.int (nI i)), some (.int (nI j))], [.int ((a 9) (nI i).toNatClampNeg), .int (nI (c ((6 * i) + j))), .int (nI S2)], (zw_M g gl a al))) rfl (pk_in i 6 (by omega) rfl (by omega)) ?_
      rw [pk_cl (x := nI i) i rfl (by omega)]
      rw [show (a 9) i = nI (x i) from hx i (by omega)]
      refine zr_go (t := (44, [some (.ref 0), some (.ref 9), some (.int (nI S2)), some (.int (nI i)), some (.int (nI j))], [.int (nI j), .ref 9, .int ((nI (c ((6 * i) + j))) * (nI (x i))), .int (nI S2)], (zw_M g gl a al))) 3 rfl ?_
      refine zr_cd (t := (45, [some (.ref 0), some (.ref 9), some (.int (nI S2)), some (.int (nI i)), some (.int (nI j))], [.int ((a 9) (nI j).toNatClampNeg), .int ((nI (c ((6 * i) + j))) * (nI (x i))), .int (nI S2)], (zw_M g gl a al))) rfl (pk_in j 6 (by omega) rfl (by omega)) ?_
      rw [pk_cl (x := nI j) j rfl (by omega)]
      rw [show (a 9) j = nI (x j) from hx j (by omega)]
      refine zr_go (t := (15, [some (.ref 0), some (.ref 9), some (.int ((nI S2) + (((nI (c ((6 * i) + j))) * (nI (x i))) * (nI (x j))))), some (.int (nI i)), some (.int ((nI j) + 1))], [], (zw_M g gl a al))) 5 rfl ?_
      have e1 : (nI S2) + (((nI (c ((6 * i) + j))) * (nI (x i))) * (nI (x j))) = nI (S2 + c (6 * i + j) * x i * x j) := (zn_add rfl (zn_mul (zn_mul rfl rfl) rfl))
      rw [e1, show nI j + 1 = nI (j + 1) from nI_1 j]
      refine ih2 (j + 1, _) ⟨by omega, by omega, ?_⟩ (by show N - (j + 1) < N - j; omega)
      show S2 + c (6 * i + j) * x i * x j = _
      rw [hS2, show j + 1 - i = (j - i) + 1 by omega]
      show _ = _ + (zS _ (j - i) + _)
      dsimp only
      rw [show i + (j - i) = j by omega, Nat.add_assoc]
theorem zs_M_valueOf_10 (g : Nat → Int32) (gl : Nat → Int64) (a : Nat → Nat → Int32) (al : Nat → Nat → Int64) (P N : Nat) (c x : Nat → Nat) (hP : g 0 = nI P) (hN : g 1 = nI N) (hP0 : 0 < P) (hP5 : P ≤ 5) (hN6 : N ≤ 6) (hc : ∀ k, k < 36 → a 1 k = nI (c k)) (hx : ∀ i, i < 6 → a 10 i = nI (x i)) (hc4 : ∀ k, k < 36 → c k ≤ 4) (hx4 : ∀ i, i < 6 → x i ≤ 4) : zm_Ev zt_get 1 122 [.ref 0, .ref 10] (zw_M g gl a al) (fun v w => v = some (.int (nI (zv_sum N c x % P))) ∧ w = (zw_M g gl a al)) := by
  refine zr_ev zt_M_valueOf rfl rfl ?_
  show zm_Run zt_get 0 zt_M_valueOf (0, [some (.ref 0), some (.ref 10), none, none, none], [], (zw_M g gl a al)) _
  refine zr_go (t := (4, [some (.ref 0), some (.ref 10), some (.int 0), some (.int 0), none], [], (zw_M g gl a al))) 4 rfl ?_
  refine zr_loop (fun q : Nat × Nat => (4, [some (.ref 0), some (.ref 10), some (.int (nI q.2)), some (.int (nI q.1)), none], [], (zw_M g gl a al))) (fun q => q.1 ≤ N ∧ q.2 = zS (zv_row N c x) q.1) (fun q => N - q.1) ?_ (0, 0) ⟨Nat.zero_le _, rfl⟩
  rintro ⟨i, S⟩ ⟨hi, hS⟩ ih
  dsimp only at hi hS ih ⊢
  refine zr_go (t := (9, [some (.ref 0), some (.ref 10), some (.int (nI S)), some (.int (nI i)), none], [.int (g 1), .int (nI i)], (zw_M g gl a al))) 3 rfl ?_
  refine zr_ige (x := nI i) (y := g 1) i N rfl hN (by omega) (by omega) (t := (60, [some (.ref 0), some (.ref 10), some (.int (nI S)), some (.int (nI i)), none], [], (zw_M g gl a al))) (f := (12, [some (.ref 0), some (.ref 10), some (.int (nI S)), some (.int (nI i)), none], [], (zw_M g gl a al))) rfl (fun h1 => ?_) (fun h1 => ?_)
  · skip
    refine zr_go (t := (65, [some (.ref 0), some (.ref 10), some (.int (nI S)), some (.int (nI i)), none], [.int (g 0), .int (nI S)], (zw_M g gl a al))) 3 rfl ?_
    refine zr_cd (t := (66, [some (.ref 0), some (.ref 10), some (.int (nI S)), some (.int (nI i)), none], [.int ((nI S) - (nI S) / (g 0) * (g 0))], (zw_M g gl a al))) rfl (zn_ne0 hP (by have := zv_sum_lt hN6 hc4 hx4; have : S = zv_sum N c x := (by rw [hS, show i = N by omega]; rfl); omega) (by have := zv_sum_lt hN6 hc4 hx4; have : S = zv_sum N c x := (by rw [hS, show i = N by omega]; rfl); omega)) ?_
    rw [show (nI S) - (nI S) / (g 0) * (g 0) = nI (S % P) from (zn_rem rfl hP (by have := zv_sum_lt hN6 hc4 hx4; have : S = zv_sum N c x := (by rw [hS, show i = N by omega]; rfl); omega) (by have := zv_sum_lt hN6 hc4 hx4; have : S = zv_sum N c x := (by rw [hS, show i = N by omega]; rfl); omega) (by have := zv_sum_lt hN6 hc4 hx4; have : S = zv_sum N c x := (by rw [hS, show i = N by omega]; rfl); omega))]
    exact zr_ret rfl trivial ⟨by rw [hS, show i = N by omega]; rfl, rfl⟩
  · skip
    refine zr_go (t := (15, [some (.ref 0), some (.ref 10), some (.int (nI S)), some (.int (nI i)), some (.int (nI i))], [], (zw_M g gl a al))) 2 rfl ?_
    refine zr_loop (fun q : Nat × Nat => (15, [some (.ref 0), some (.ref 10), some (.int (nI q.2)), some (.int (nI i)), some (.int (nI q.1))], [], (zw_M g gl a al))) (fun q => i ≤ q.1 ∧ q.1 ≤ N ∧ q.2 = zS (zv_row N c x) i + zS (fun t => c (6 * i + (i + t)) * x i * x (i + t)) (q.1 - i)) (fun q => N - q.1) ?_ (i, S) ⟨Nat.le_refl _, hi, by rw [Nat.sub_self]; exact hS⟩
    rintro ⟨j, S2⟩ ⟨hj1, hj2, hS2⟩ ih2
    dsimp only at hj1 hj2 hS2 ih2 ⊢
    refine zr_go (t := (21, [some (.ref 0), some (.ref 10), some (.int (nI S2)), some (.int (nI i)), some (.int (nI j))], [.int (g 1), .int (nI j)], (zw_M g gl a al))) 3 rfl ?_
    refine zr_ige (x := nI j) (y := g 1) j N rfl hN (by omega) (by omega) (t := (54, [some (.ref 0), some (.ref 10), some (.int (nI S2)), some (.int (nI i)), some (.int (nI j))], [], (zw_M g gl a al))) (f := (24, [some (.ref 0), some (.ref 10), some (.int (nI S2)), some (.int (nI i)), some (.int (nI j))], [], (zw_M g gl a al))) rfl (fun h2 => ?_) (fun h2 => ?_)
    · skip
      refine zr_go (t := (4, [some (.ref 0), some (.ref 10), some (.int (nI S2)), some (.int ((nI i) + 1)), some (.int (nI j))], [], (zw_M g gl a al))) 2 rfl ?_
      rw [show nI i + 1 = nI (i + 1) from nI_1 i]
      refine zr_forget [some (.ref 0), some (.ref 10), some (.int (nI S2)), some (.int (nI (i + 1))), none] ⟨Or.inr rfl, Or.inr rfl, Or.inr rfl, Or.inr rfl, Or.inl rfl, trivial⟩ ?_
      exact ih (i + 1, S2) ⟨by omega, by rw [hS2, show j = N by omega]; rfl⟩ (by show N - (i + 1) < N - i; omega)
    · skip
      refine zr_go (t := (36, [some (.ref 0), some (.ref 10), some (.int (nI S2)), some (.int (nI i)), some (.int (nI j))], [.int ((6 * (nI i)) + (nI j)), .ref 1, .int (nI S2)], (zw_M g gl a al))) 8 rfl ?_
      refine zr_cd (t := (37, [some (.ref 0), some (.ref 10), some (.int (nI S2)), some (.int (nI i)), some (.int (nI j))], [.int ((a 1) ((6 * (nI i)) + (nI j)).toNatClampNeg), .int (nI S2)], (zw_M g gl a al))) rfl (pk_in ((6 * i) + j) 36 (by omega) (zn_add (zn_mul rfl rfl) rfl) (by omega)) ?_
      rw [pk_cl (x := (6 * (nI i)) + (nI j)) ((6 * i) + j) (zn_add (zn_mul rfl rfl) rfl) (by omega)]
      rw [show (a 1) ((6 * i) + j) = nI (c ((6 * i) + j)) from hc ((6 * i) + j) (by omega)]
      refine zr_go (t := (39, [some (.ref 0), some (.ref 10), some (.int (nI S2)), some (.int (nI i)), some (.int (nI j))], [.int (nI i), .ref 10, .int (nI (c ((6 * i) + j))), .int (nI S2)], (zw_M g gl a al))) 2 rfl ?_
      refine zr_cd (t := (40, [some (.ref 0), some (.ref 10), some (.int (nI S2)), some (.int (nI i)), some (.int (nI j))], [.int ((a 10) (nI i).toNatClampNeg), .int (nI (c ((6 * i) + j))), .int (nI S2)], (zw_M g gl a al))) rfl (pk_in i 6 (by omega) rfl (by omega)) ?_
      rw [pk_cl (x := nI i) i rfl (by omega)]
      rw [show (a 10) i = nI (x i) from hx i (by omega)]
      refine zr_go (t := (44, [some (.ref 0), some (.ref 10), some (.int (nI S2)), some (.int (nI i)), some (.int (nI j))], [.int (nI j), .ref 10, .int ((nI (c ((6 * i) + j))) * (nI (x i))), .int (nI S2)], (zw_M g gl a al))) 3 rfl ?_
      refine zr_cd (t := (45, [some (.ref 0), some (.ref 10), some (.int (nI S2)), some (.int (nI i)), some (.int (nI j))], [.int ((a 10) (nI j).toNatClampNeg), .int ((nI (c ((6 * i) + j))) * (nI (x i))), .int (nI S2)], (zw_M g gl a al))) rfl (pk_in j 6 (by omega) rfl (by omega)) ?_
      rw [pk_cl (x := nI j) j rfl (by omega)]
      rw [show (a 10) j = nI (x j) from hx j (by omega)]
      refine zr_go (t := (15, [some (.ref 0), some (.ref 10), some (.int ((nI S2) + (((nI (c ((6 * i) + j))) * (nI (x i))) * (nI (x j))))), some (.int (nI i)), some (.int ((nI j) + 1))], [], (zw_M g gl a al))) 5 rfl ?_
      have e1 : (nI S2) + (((nI (c ((6 * i) + j))) * (nI (x i))) * (nI (x j))) = nI (S2 + c (6 * i + j) * x i * x j) := (zn_add rfl (zn_mul (zn_mul rfl rfl) rfl))
      rw [e1, show nI j + 1 = nI (j + 1) from nI_1 j]
      refine ih2 (j + 1, _) ⟨by omega, by omega, ?_⟩ (by show N - (j + 1) < N - j; omega)
      show S2 + c (6 * i + j) * x i * x j = _
      rw [hS2, show j + 1 - i = (j - i) + 1 by omega]
      show _ = _ + (zS _ (j - i) + _)
      dsimp only
      rw [show i + (j - i) = j by omega, Nat.add_assoc]
theorem zs_M_valueOf_11 (g : Nat → Int32) (gl : Nat → Int64) (a : Nat → Nat → Int32) (al : Nat → Nat → Int64) (P N : Nat) (c x : Nat → Nat) (hP : g 0 = nI P) (hN : g 1 = nI N) (hP0 : 0 < P) (hP5 : P ≤ 5) (hN6 : N ≤ 6) (hc : ∀ k, k < 36 → a 1 k = nI (c k)) (hx : ∀ i, i < 6 → a 11 i = nI (x i)) (hc4 : ∀ k, k < 36 → c k ≤ 4) (hx4 : ∀ i, i < 6 → x i ≤ 4) : zm_Ev zt_get 1 122 [.ref 0, .ref 11] (zw_M g gl a al) (fun v w => v = some (.int (nI (zv_sum N c x % P))) ∧ w = (zw_M g gl a al)) := by
  refine zr_ev zt_M_valueOf rfl rfl ?_
  show zm_Run zt_get 0 zt_M_valueOf (0, [some (.ref 0), some (.ref 11), none, none, none], [], (zw_M g gl a al)) _
  refine zr_go (t := (4, [some (.ref 0), some (.ref 11), some (.int 0), some (.int 0), none], [], (zw_M g gl a al))) 4 rfl ?_
  refine zr_loop (fun q : Nat × Nat => (4, [some (.ref 0), some (.ref 11), some (.int (nI q.2)), some (.int (nI q.1)), none], [], (zw_M g gl a al))) (fun q => q.1 ≤ N ∧ q.2 = zS (zv_row N c x) q.1) (fun q => N - q.1) ?_ (0, 0) ⟨Nat.zero_le _, rfl⟩
  rintro ⟨i, S⟩ ⟨hi, hS⟩ ih
  dsimp only at hi hS ih ⊢
  refine zr_go (t := (9, [some (.ref 0), some (.ref 11), some (.int (nI S)), some (.int (nI i)), none], [.int (g 1), .int (nI i)], (zw_M g gl a al))) 3 rfl ?_
  refine zr_ige (x := nI i) (y := g 1) i N rfl hN (by omega) (by omega) (t := (60, [some (.ref 0), some (.ref 11), some (.int (nI S)), some (.int (nI i)), none], [], (zw_M g gl a al))) (f := (12, [some (.ref 0), some (.ref 11), some (.int (nI S)), some (.int (nI i)), none], [], (zw_M g gl a al))) rfl (fun h1 => ?_) (fun h1 => ?_)
  · skip
    refine zr_go (t := (65, [some (.ref 0), some (.ref 11), some (.int (nI S)), some (.int (nI i)), none], [.int (g 0), .int (nI S)], (zw_M g gl a al))) 3 rfl ?_
    refine zr_cd (t := (66, [some (.ref 0), some (.ref 11), some (.int (nI S)), some (.int (nI i)), none], [.int ((nI S) - (nI S) / (g 0) * (g 0))], (zw_M g gl a al))) rfl (zn_ne0 hP (by have := zv_sum_lt hN6 hc4 hx4; have : S = zv_sum N c x := (by rw [hS, show i = N by omega]; rfl); omega) (by have := zv_sum_lt hN6 hc4 hx4; have : S = zv_sum N c x := (by rw [hS, show i = N by omega]; rfl); omega)) ?_
    rw [show (nI S) - (nI S) / (g 0) * (g 0) = nI (S % P) from (zn_rem rfl hP (by have := zv_sum_lt hN6 hc4 hx4; have : S = zv_sum N c x := (by rw [hS, show i = N by omega]; rfl); omega) (by have := zv_sum_lt hN6 hc4 hx4; have : S = zv_sum N c x := (by rw [hS, show i = N by omega]; rfl); omega) (by have := zv_sum_lt hN6 hc4 hx4; have : S = zv_sum N c x := (by rw [hS, show i = N by omega]; rfl); omega))]
    exact zr_ret rfl trivial ⟨by rw [hS, show i = N by omega]; rfl, rfl⟩
  · skip
    refine zr_go (t := (15, [some (.ref 0), some (.ref 11), some (.int (nI S)), some (.int (nI i)), some (.int (nI i))], [], (zw_M g gl a al))) 2 rfl ?_
    refine zr_loop (fun q : Nat × Nat => (15, [some (.ref 0), some (.ref 11), some (.int (nI q.2)), some (.int (nI i)), some (.int (nI q.1))], [], (zw_M g gl a al))) (fun q => i ≤ q.1 ∧ q.1 ≤ N ∧ q.2 = zS (zv_row N c x) i + zS (fun t => c (6 * i + (i + t)) * x i * x (i + t)) (q.1 - i)) (fun q => N - q.1) ?_ (i, S) ⟨Nat.le_refl _, hi, by rw [Nat.sub_self]; exact hS⟩
    rintro ⟨j, S2⟩ ⟨hj1, hj2, hS2⟩ ih2
    dsimp only at hj1 hj2 hS2 ih2 ⊢
    refine zr_go (t := (21, [some (.ref 0), some (.ref 11), some (.int (nI S2)), some (.int (nI i)), some (.int (nI j))], [.int (g 1), .int (nI j)], (zw_M g gl a al))) 3 rfl ?_
    refine zr_ige (x := nI j) (y := g 1) j N rfl hN (by omega) (by omega) (t := (54, [some (.ref 0), some (.ref 11), some (.int (nI S2)), some (.int (nI i)), some (.int (nI j))], [], (zw_M g gl a al))) (f := (24, [some (.ref 0), some (.ref 11), some (.int (nI S2)), some (.int (nI i)), some (.int (nI j))], [], (zw_M g gl a al))) rfl (fun h2 => ?_) (fun h2 => ?_)
    · skip
      refine zr_go (t := (4, [some (.ref 0), some (.ref 11), some (.int (nI S2)), some (.int ((nI i) + 1)), some (.int (nI j))], [], (zw_M g gl a al))) 2 rfl ?_
      rw [show nI i + 1 = nI (i + 1) from nI_1 i]
      refine zr_forget [some (.ref 0), some (.ref 11), some (.int (nI S2)), some (.int (nI (i + 1))), none] ⟨Or.inr rfl, Or.inr rfl, Or.inr rfl, Or.inr rfl, Or.inl rfl, trivial⟩ ?_
      exact ih (i + 1, S2) ⟨by omega, by rw [hS2, show j = N by omega]; rfl⟩ (by show N - (i + 1) < N - i; omega)
    · skip
      refine zr_go (t := (36, [some (.ref 0), some (.ref 11), some (.int (nI S2)), some (.int (nI i)), some (.int (nI j))], [.int ((6 * (nI i)) + (nI j)), .ref 1, .int (nI S2)], (zw_M g gl a al))) 8 rfl ?_
      refine zr_cd (t := (37, [some (.ref 0), some (.ref 11), some (.int (nI S2)), some (.int (nI i)), some (.int (nI j))], [.int ((a 1) ((6 * (nI i)) + (nI j)).toNatClampNeg), .int (nI S2)], (zw_M g gl a al))) rfl (pk_in ((6 * i) + j) 36 (by omega) (zn_add (zn_mul rfl rfl) rfl) (by omega)) ?_
      rw [pk_cl (x := (6 * (nI i)) + (nI j)) ((6 * i) + j) (zn_add (zn_mul rfl rfl) rfl) (by omega)]
      rw [show (a 1) ((6 * i) + j) = nI (c ((6 * i) + j)) from hc ((6 * i) + j) (by omega)]
      refine zr_go (t := (39, [some (.ref 0), some (.ref 11), some (.int (nI S2)), some (.int (nI i)), some (.int (nI j))], [.int (nI i), .ref 11, .int (nI (c ((6 * i) + j))), .int (nI S2)], (zw_M g gl a al))) 2 rfl ?_
      refine zr_cd (t := (40, [some (.ref 0), some (.ref 11), some (.int (nI S2)), some (.int (nI i)), some (.int (nI j))], [.int ((a 11) (nI i).toNatClampNeg), .int (nI (c ((6 * i) + j))), .int (nI S2)], (zw_M g gl a al))) rfl (pk_in i 6 (by omega) rfl (by omega)) ?_
      rw [pk_cl (x := nI i) i rfl (by omega)]
      rw [show (a 11) i = nI (x i) from hx i (by omega)]
      refine zr_go (t := (44, [some (.ref 0), some (.ref 11), some (.int (nI S2)), some (.int (nI i)), some (.int (nI j))], [.int (nI j), .ref 11, .int ((nI (c ((6 * i) + j))) * (nI (x i))), .int (nI S2)], (zw_M g gl a al))) 3 rfl ?_
      refine zr_cd (t := (45, [some (.ref 0), some (.ref 11), some (.int (nI S2)), some (.int (nI i)), some (.int (nI j))], [.int ((a 11) (nI j).toNatClampNeg), .int ((nI (c ((6 * i) + j))) * (nI (x i))), .int (nI S2)], (zw_M g gl a al))) rfl (pk_in j 6 (by omega) rfl (by omega)) ?_
      rw [pk_cl (x := nI j) j rfl (by omega)]
      rw [show (a 11) j = nI (x j) from hx j (by omega)]
      refine zr_go (t := (15, [some (.ref 0), some (.ref 11), some (.int ((nI S2) + (((nI (c ((6 * i) + j))) * (nI (x i))) * (nI (x j))))), some (.int (nI i)), some (.int ((nI j) + 1))], [], (zw_M g gl a al))) 5 rfl ?_
      have e1 : (nI S2) + (((nI (c ((6 * i) + j))) * (nI (x i))) * (nI (x j))) = nI (S2 + c (6 * i + j) * x i * x j) := (zn_add rfl (zn_mul (zn_mul rfl rfl) rfl))
      rw [e1, show nI j + 1 = nI (j + 1) from nI_1 j]
      refine ih2 (j + 1, _) ⟨by omega, by omega, ?_⟩ (by show N - (j + 1) < N - j; omega)
      show S2 + c (6 * i + j) * x i * x j = _
      rw [hS2, show j + 1 - i = (j - i) + 1 by omega]
      show _ = _ + (zS _ (j - i) + _)
      dsimp only
      rw [show i + (j - i) = j by omega, Nat.add_assoc]
