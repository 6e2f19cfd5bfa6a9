/-! the reference: coefficient, point, value, polar, joined, section (written by wip/whole/gen_m17.py) -/
/-- an argument names one of n things -/
def zx_in (x : Int32) (n : Nat) : Bool := decide (0 ≤ x.toInt ∧ x.toInt < n)
def zx_k (x : Int32) : Nat := x.toInt.toNat
theorem zx_of {x : Int32} {n : Nat} (h : zx_in x n = true) : zx_k x < n ∧ x = nI (zx_k x) := by
  have h1 := of_decide_eq_true h
  refine ⟨by unfold zx_k; omega, ?_⟩
  apply Int32.toInt_inj.mp
  have h2 := Int32.toInt_lt x
  rw [nI_toInt (by unfold zx_k; omega)]
  unfold zx_k; omega
theorem zx_iff (x : Int32) {n : Nat} (hn : n < 2 ^ 30) : (0 ≤ x ∧ x ≤ nI n - 1) ↔ (0 ≤ x.toInt ∧ x.toInt < n) := by
  rw [Int32.le_iff_toInt_le, Int32.le_iff_toInt_le, show nI n - 1 = nI n - nI 1 from rfl, pk_sub_toInt hn (by decide)]
  simp
  omega
theorem zs_M_withinI (g : Nat → Int32) (gl : Nat → Int64) (a : Nat → Nat → Int32) (al : Nat → Nat → Int64) (x Z : Int32) (n : Nat) (hZ : Z = nI n) (hn : n < 2 ^ 30) : zm_Ev zt_get 1 107 [.int x, .int 0, .int (Z - 1)] (zw_M g gl a al) (fun v w => v = some (.int (nI (zx_in x n).toNat)) ∧ w = zw_M g gl a al) := by
  refine zr_evp (zs_M_within g gl a al x 0 (Z - 1)) ?_
  rintro v w ⟨h, rfl⟩
  refine ⟨?_, rfl⟩
  subst hZ
  rw [zx_iff x hn] at h
  unfold zx_in
  rcases h with ⟨h, rfl⟩ | ⟨h, rfl⟩
  · rw [decide_eq_true h]; rfl
  · rw [decide_eq_false h]; rfl
/-- a number of 0 and 1 -/
def zx_01 (x : Int32) : Bool := zx_in x 2
theorem zs_M_within01 (g : Nat → Int32) (gl : Nat → Int64) (a : Nat → Nat → Int32) (al : Nat → Nat → Int64) (x : Int32) : zm_Ev zt_get 1 107 [.int x, .int 0, .int 1] (zw_M g gl a al) (fun v w => v = some (.int (nI (zx_in x 2).toNat)) ∧ w = zw_M g gl a al) := zs_M_withinI g gl a al x 2 2 rfl (by decide)
/-- the form, or none (P is 0) -/
def zS_0 (g : Nat → Int32) : Prop := g 0 = 0 ∧ g 1 = 0 ∧ g 6 = 0 ∧ g 10 = 0 ∧ g 11 = 0 ∧ g 12 = 0 ∧ g 14 = 0
def zS_F (g : Nat → Int32) (a : Nat → Nat → Int32) (P N : Nat) (c : Nat → Nat) : Prop := (P = 0 ∧ N = 0 ∧ zS_0 g) ∨ zS_f g a P N c
def zS_np (P N : Nat) : Nat := if P = 0 then 0 else zv_np P N
theorem zS_F.nums {g : Nat → Int32} {a : Nat → Nat → Int32} {P N : Nat} {c : Nat → Nat} (h : zS_F g a P N c) : g 0 = nI P ∧ g 1 = nI N ∧ g 6 = nI (zS_np P N) ∧ P ≤ 5 ∧ N ≤ 6 ∧ zS_np P N ≤ 156 := by
  rcases h with ⟨rfl, rfl, h0, h1, h6, -⟩ | ⟨hok, hF, hR, -⟩
  · exact ⟨h0, h1, h6, by omega, by omega, by show 0 ≤ 156; omega⟩
  · obtain ⟨hP0, hP5⟩ := zv_P5 hok.1
    have e : zS_np P N = zv_np P N := if_neg (by omega)
    exact ⟨hF.1, hF.2.1, by rw [e]; exact hR.1, hP5, zv_okN hok, by rw [e]; exact (zv_nums hok).2.1⟩
theorem zS_F.form {g : Nat → Int32} {a : Nat → Nat → Int32} {P N : Nat} {c : Nat → Nat} (h : zS_F g a P N c) (hP : 0 < P) : zS_f g a P N c ∧ zS_np P N = zv_np P N := by
  rcases h with ⟨rfl, -⟩ | h
  · omega
  · exact ⟨h, if_neg (by omega)⟩
theorem zs_M_isVariable (g : Nat → Int32) (gl : Nat → Int64) (a : Nat → Nat → Int32) (al : Nat → Nat → Int64) (P N : Nat) (hP : g 0 = nI P) (hP5 : P ≤ 5) (hn : g 1 = nI N) (hn1 : N ≤ 6) (x : Int32) : zm_Ev zt_get 2 158 [.ref 0, .int x] (zw_M g gl a al) (fun v w => v = some (.int (nI (decide (0 < P) && zx_in x N).toNat)) ∧ w = (zw_M g gl a al)) := by
  refine zr_ev zt_M_isVariable rfl rfl ?_
  show zm_Run zt_get 1 zt_M_isVariable (0, [some (.ref 0), some (.int x)], [], (zw_M g gl a al)) _
  refine zr_go (t := (1, [some (.ref 0), some (.int x)], [.ref 0], (zw_M g gl a al))) 1 rfl ?_
  refine zr_call (t := (4, [some (.ref 0), some (.int x)], [], (zw_M g gl a al))) rfl (Nat.le_of_ble_eq_true rfl : 1 ≤ 1) (zs_M_isForm g gl a al P hP hP5) ?_
  rintro _ _ ⟨rfl, rfl⟩
  show zm_Run zt_get 1 zt_M_isVariable (4, [some (.ref 0), some (.int x)], [.int (nI ((decide (0 < P)).toNat))], (zw_M g gl a al)) _
  have hb1 := zb_le (decide (0 < P))
  refine zr_ieq (x := nI ((decide (0 < P)).toNat)) (y := 0) ((decide (0 < P)).toNat) 0 rfl rfl (by omega) (by omega) (t := (25, [some (.ref 0), some (.int x)], [], (zw_M g gl a al))) (f := (7, [some (.ref 0), some (.int x)], [], (zw_M g gl a al))) rfl (fun h1 => ?_) (fun h1 => ?_)
  · skip
    refine zr_go (t := (26, [some (.ref 0), some (.int x)], [.int 0], (zw_M g gl a al))) 1 rfl ?_
    exact zr_ret rfl (Or.inl rfl) ⟨by rw [zb_0 h1]; rfl, rfl⟩
  · skip
    refine zr_go (t := (15, [some (.ref 0), some (.int x)], [.int ((g 1) - 1), .int 0, .int x], (zw_M g gl a al))) 6 rfl ?_
    refine zr_call (t := (18, [some (.ref 0), some (.int x)], [], (zw_M g gl a al))) rfl (Nat.le_of_ble_eq_true rfl : 1 ≤ 1) (zs_M_withinI g gl a al x (g 1) N hn (by omega)) ?_
    rintro _ _ ⟨rfl, rfl⟩
    show zm_Run zt_get 1 zt_M_isVariable (18, [some (.ref 0), some (.int x)], [.int (nI ((zx_in x N).toNat))], (zw_M g gl a al)) _
    have hb2 := zb_le (zx_in x N)
    refine zr_ieq (x := nI ((zx_in x N).toNat)) (y := 0) ((zx_in x N).toNat) 0 rfl rfl (by omega) (by omega) (t := (25, [some (.ref 0), some (.int x)], [], (zw_M g gl a al))) (f := (21, [some (.ref 0), some (.int x)], [], (zw_M g gl a al))) rfl (fun h2 => ?_) (fun h2 => ?_)
    · skip
      refine zr_go (t := (26, [some (.ref 0), some (.int x)], [.int 0], (zw_M g gl a al))) 1 rfl ?_
      exact zr_ret rfl (Or.inl rfl) ⟨by rw [zb_0 h2, Bool.and_false]; rfl, rfl⟩
    · skip
      refine zr_go (t := (26, [some (.ref 0), some (.int x)], [.int 1], (zw_M g gl a al))) 2 rfl ?_
      exact zr_ret rfl (Or.inr rfl) ⟨by rw [zb_1 h1, zb_1 h2]; rfl, rfl⟩
theorem zs_M_isPoint (g : Nat → Int32) (gl : Nat → Int64) (a : Nat → Nat → Int32) (al : Nat → Nat → Int64) (P np : Nat) (hP : g 0 = nI P) (hP5 : P ≤ 5) (hn : g 6 = nI np) (hn1 : np ≤ 156) (x : Int32) : zm_Ev zt_get 2 161 [.ref 0, .int x] (zw_M g gl a al) (fun v w => v = some (.int (nI (decide (0 < P) && zx_in x np).toNat)) ∧ w = (zw_M g gl a al)) := by
  refine zr_ev zt_M_isPoint rfl rfl ?_
  show zm_Run zt_get 1 zt_M_isPoint (0, [some (.ref 0), some (.int x)], [], (zw_M g gl a al)) _
  refine zr_go (t := (1, [some (.ref 0), some (.int x)], [.ref 0], (zw_M g gl a al))) 1 rfl ?_
  refine zr_call (t := (4, [some (.ref 0), some (.int x)], [], (zw_M g gl a al))) rfl (Nat.le_of_ble_eq_true rfl : 1 ≤ 1) (zs_M_isForm g gl a al P hP hP5) ?_
  rintro _ _ ⟨rfl, rfl⟩
  show zm_Run zt_get 1 zt_M_isPoint (4, [some (.ref 0), some (.int x)], [.int (nI ((decide (0 < P)).toNat))], (zw_M g gl a al)) _
  have hb1 := zb_le (decide (0 < P))
  refine zr_ieq (x := nI ((decide (0 < P)).toNat)) (y := 0) ((decide (0 < P)).toNat) 0 rfl rfl (by omega) (by omega) (t := (25, [some (.ref 0), some (.int x)], [], (zw_M g gl a al))) (f := (7, [some (.ref 0), some (.int x)], [], (zw_M g gl a al))) rfl (fun h1 => ?_) (fun h1 => ?_)
  · skip
    refine zr_go (t := (26, [some (.ref 0), some (.int x)], [.int 0], (zw_M g gl a al))) 1 rfl ?_
    exact zr_ret rfl (Or.inl rfl) ⟨by rw [zb_0 h1]; rfl, rfl⟩
  · skip
    refine zr_go (t := (15, [some (.ref 0), some (.int x)], [.int ((g 6) - 1), .int 0, .int x], (zw_M g gl a al))) 6 rfl ?_
    refine zr_call (t := (18, [some (.ref 0), some (.int x)], [], (zw_M g gl a al))) rfl (Nat.le_of_ble_eq_true rfl : 1 ≤ 1) (zs_M_withinI g gl a al x (g 6) np hn (by omega)) ?_
    rintro _ _ ⟨rfl, rfl⟩
    show zm_Run zt_get 1 zt_M_isPoint (18, [some (.ref 0), some (.int x)], [.int (nI ((zx_in x np).toNat))], (zw_M g gl a al)) _
    have hb2 := zb_le (zx_in x np)
    refine zr_ieq (x := nI ((zx_in x np).toNat)) (y := 0) ((zx_in x np).toNat) 0 rfl rfl (by omega) (by omega) (t := (25, [some (.ref 0), some (.int x)], [], (zw_M g gl a al))) (f := (21, [some (.ref 0), some (.int x)], [], (zw_M g gl a al))) rfl (fun h2 => ?_) (fun h2 => ?_)
    · skip
      refine zr_go (t := (26, [some (.ref 0), some (.int x)], [.int 0], (zw_M g gl a al))) 1 rfl ?_
      exact zr_ret rfl (Or.inl rfl) ⟨by rw [zb_0 h2, Bool.and_false]; rfl, rfl⟩
    · skip
      refine zr_go (t := (26, [some (.ref 0), some (.int x)], [.int 1], (zw_M g gl a al))) 2 rfl ?_
      exact zr_ret rfl (Or.inr rfl) ⟨by rw [zb_1 h1, zb_1 h2]; rfl, rfl⟩
theorem zs_M_placeOf (g : Nat → Int32) (gl : Nat → Int64) (a : Nat → Nat → Int32) (al : Nat → Nat → Int64) (i j : Nat) (hi : i < 6) (hj : j < 6) : zm_Ev zt_get 1 159 [.int (nI i), .int (nI j)] (zw_M g gl a al) (fun v w => v = some (.int (nI (if i < j then 6 * i + j else 6 * j + i))) ∧ w = (zw_M g gl a al)) := by
  refine zr_ev zt_M_placeOf rfl rfl ?_
  show zm_Run zt_get 0 zt_M_placeOf (0, [some (.int (nI i)), some (.int (nI j))], [], (zw_M g gl a al)) _
  refine zr_go (t := (2, [some (.int (nI i)), some (.int (nI j))], [.int (nI j), .int (nI i)], (zw_M g gl a al))) 2 rfl ?_
  refine zr_ige (x := nI i) (y := nI j) i j rfl rfl (by omega) (by omega) (t := (14, [some (.int (nI i)), some (.int (nI j))], [], (zw_M g gl a al))) (f := (5, [some (.int (nI i)), some (.int (nI j))], [], (zw_M g gl a al))) rfl (fun h1 => ?_) (fun h1 => ?_)
  · skip
    refine zr_go (t := (20, [some (.int (nI i)), some (.int (nI j))], [.int ((6 * (nI j)) + (nI i))], (zw_M g gl a al))) 5 rfl ?_
    rw [show (6 * (nI j)) + (nI i) = nI ((6 * j) + i) from (zn_add (zn_mul rfl rfl) rfl)]
    exact zr_ret rfl trivial ⟨by rw [if_neg (by omega)], rfl⟩
  · skip
    refine zr_go (t := (20, [some (.int (nI i)), some (.int (nI j))], [.int ((6 * (nI i)) + (nI j))], (zw_M g gl a al))) 6 rfl ?_
    rw [show (6 * (nI i)) + (nI j) = nI ((6 * i) + j) from (zn_add (zn_mul rfl rfl) rfl)]
    exact zr_ret rfl trivial ⟨by rw [if_pos h1], rfl⟩
def aw_coef (P N : Nat) (c : Nat → Nat) (x y : Int32) : Int32 := if 0 < P ∧ zx_in x N = true ∧ zx_in y N = true then nI (c (if zx_k x < zx_k y then 6 * zx_k x + zx_k y else 6 * zx_k y + zx_k x)) else -101
def aw_point (P N : Nat) (x y : Int32) : Int32 := if 0 < P ∧ zx_in x (zv_np P N) = true ∧ zx_in y N = true then nI (zv_y P N (zx_k x) (zx_k y)) else -101
def aw_value (P N : Nat) (c : Nat → Nat) (x : Int32) : Int32 := if 0 < P ∧ zx_in x (zv_np P N) = true then nI (zv_val P N c (zv_y P N (zx_k x))) else -101
def aw_polar (P N : Nat) (c : Nat → Nat) (x y : Int32) : Int32 := if 0 < P ∧ zx_in x (zv_np P N) = true ∧ zx_in y (zv_np P N) = true then nI (zv_pol P N c (zv_y P N (zx_k x)) (zv_y P N (zx_k y))) else -101
def aw_joined (P N : Nat) (c : Nat → Nat) (x y : Int32) : Int32 := if 0 < P ∧ zx_in x (zv_np P N) = true ∧ zx_in y (zv_np P N) = true then nI (zv_jn P N (zv_y P N) (zv_oo P N c (zv_y P N)) (zx_k x) (zx_k y)).toNat else -101
def aw_section (P N : Nat) (c : Nat → Nat) (x z : Int32) : Int32 := if 0 < P ∧ zx_in x (zv_np P N) = true then (if zx_in z 2 = true then (if z = 0 then nI (zC (fun k => zv_oo P N c (zv_y P N) k && zv_dot N (zv_y P N (zx_k x)) (zv_y P N k) % P == 0) (zv_np P N)) else (if zM (zv_tch P N c (zv_np P N) (zv_y P N) (zv_oo P N c (zv_y P N)) (zx_k x)) 0 (zv_np P N) < zv_np P N then nI (zM (zv_tch P N c (zv_np P N) (zv_y P N) (zv_oo P N c (zv_y P N)) (zx_k x)) 0 (zv_np P N)) else -1)) else -102) else -101
theorem zs_M_coefficient (g : Nat → Int32) (gl : Nat → Int64) (a : Nat → Nat → Int32) (al : Nat → Nat → Int64) (P N : Nat) (c : Nat → Nat) (hS : zS_F g a P N c) (x z : Int32) : zm_Ev zt_get 3 160 [.ref 0, .int x, .int z] (zw_M g gl a al) (fun v w => v = some (.int (aw_coef P N c x z)) ∧ w = (zw_M g gl a al)) := by
  obtain ⟨hP, hN, hnp, hP5, hN6, hnp1⟩ := hS.nums
  refine zr_ev zt_M_coefficient rfl rfl ?_
  show zm_Run zt_get 2 zt_M_coefficient (0, [some (.ref 0), some (.int x), some (.int z)], [], (zw_M g gl a al)) _
  refine zr_go (t := (2, [some (.ref 0), some (.int x), some (.int z)], [.int x, .ref 0], (zw_M g gl a al))) 2 rfl ?_
  refine zr_call (t := (5, [some (.ref 0), some (.int x), some (.int z)], [], (zw_M g gl a al))) rfl (Nat.le_of_ble_eq_true rfl : 2 ≤ 2) (zs_M_isVariable g gl a al P N hP hP5 hN hN6 x) ?_
  rintro _ _ ⟨rfl, rfl⟩
  show zm_Run zt_get 2 zt_M_coefficient (5, [some (.ref 0), some (.int x), some (.int z)], [.int (nI ((decide (0 < P) && zx_in x N).toNat))], (zw_M g gl a al)) _
  have hb_x := zb_le (decide (0 < P) && zx_in x N)
  refine zr_ieq (x := nI ((decide (0 < P) && zx_in x N).toNat)) (y := 0) ((decide (0 < P) && zx_in x N).toNat) 0 rfl rfl (by omega) (by omega) (t := (29, [some (.ref 0), some (.int x), some (.int z)], [], (zw_M g gl a al))) (f := (8, [some (.ref 0), some (.int x), some (.int z)], [], (zw_M g gl a al))) rfl (fun h1 => ?_) (fun h1 => ?_)
  · skip
    refine zr_go (t := (31, [some (.ref 0), some (.int x), some (.int z)], [.int (-101)], (zw_M g gl a al))) 1 rfl ?_
    exact zr_ret rfl trivial ⟨by unfold aw_coef; rw [if_neg (fun q => by have := zb_0 h1; rw [decide_eq_true q.1, q.2.1] at this; cases this)], rfl⟩
  · skip
    refine zr_go (t := (10, [some (.ref 0), some (.int x), some (.int z)], [.int z, .ref 0], (zw_M g gl a al))) 2 rfl ?_
    refine zr_call (t := (13, [some (.ref 0), some (.int x), some (.int z)], [], (zw_M g gl a al))) rfl (Nat.le_of_ble_eq_true rfl : 2 ≤ 2) (zs_M_isVariable g gl a al P N hP hP5 hN hN6 z) ?_
    rintro _ _ ⟨rfl, rfl⟩
    show zm_Run zt_get 2 zt_M_coefficient (13, [some (.ref 0), some (.int x), some (.int z)], [.int (nI ((decide (0 < P) && zx_in z N).toNat))], (zw_M g gl a al)) _
    have hb_z := zb_le (decide (0 < P) && zx_in z N)
    refine zr_ieq (x := nI ((decide (0 < P) && zx_in z N).toNat)) (y := 0) ((decide (0 < P) && zx_in z N).toNat) 0 rfl rfl (by omega) (by omega) (t := (29, [some (.ref 0), some (.int x), some (.int z)], [], (zw_M g gl a al))) (f := (16, [some (.ref 0), some (.int x), some (.int z)], [], (zw_M g gl a al))) rfl (fun h2 => ?_) (fun h2 => ?_)
    · skip
      refine zr_go (t := (31, [some (.ref 0), some (.int x), some (.int z)], [.int (-101)], (zw_M g gl a al))) 1 rfl ?_
      exact zr_ret rfl trivial ⟨by unfold aw_coef; rw [if_neg (fun q => by have := zb_0 h2; rw [decide_eq_true q.1, q.2.2] at this; cases this)], rfl⟩
    · skip
      obtain ⟨hp0, hv_x⟩ := Bool.and_eq_true_iff.mp (zb_1 h1)
      have hp0 := of_decide_eq_true hp0
      obtain ⟨hi, ei⟩ := zx_of hv_x
      obtain ⟨hp0, hv_z⟩ := Bool.and_eq_true_iff.mp (zb_1 h2)
      have hp0 := of_decide_eq_true hp0
      obtain ⟨hj, ej⟩ := zx_of hv_z
      obtain ⟨hf, -⟩ := hS.form hp0
      have hcc := hf.2.1.2.2.2.2.2.1
      refine zr_go (t := (22, [some (.ref 0), some (.int x), some (.int z)], [.int z, .int x, .ref 1], (zw_M g gl a al))) 4 rfl ?_
      generalize hI : zx_k x = i at hi ei
      generalize hJ : zx_k z = j at hj ej
      subst ei
      subst ej
      refine zr_call (t := (25, [some (.ref 0), some (.int (nI i)), some (.int (nI j))], [.ref 1], (zw_M g gl a al))) rfl (Nat.le_of_ble_eq_true rfl : 1 ≤ 2) (zs_M_placeOf g gl a al i j (by omega) (by omega)) ?_
      rintro _ _ ⟨rfl, rfl⟩
      show zm_Run zt_get 2 zt_M_coefficient (25, [some (.ref 0), some (.int (nI i)), some (.int (nI j))], [.int (nI (if i < j then 6 * i + j else 6 * j + i)), .ref 1], (zw_M g gl a al)) _
      refine zr_cd (t := (26, [some (.ref 0), some (.int (nI i)), some (.int (nI j))], [.int ((a 1) (nI (if i < j then 6 * i + j else 6 * j + i)).toNatClampNeg)], (zw_M g gl a al))) rfl (pk_in (if i < j then 6 * i + j else 6 * j + i) 36 (by split <;> omega) rfl (by omega)) ?_
      rw [pk_cl (x := (nI (if i < j then 6 * i + j else 6 * j + i))) (if i < j then 6 * i + j else 6 * j + i) rfl (by split <;> omega)]
      rw [show (a 1) (if i < j then 6 * i + j else 6 * j + i) = nI (c (if i < j then 6 * i + j else 6 * j + i)) from hcc _ (by split <;> omega)]
      refine zr_go (t := (31, [some (.ref 0), some (.int (nI i)), some (.int (nI j))], [.int (nI (c (if i < j then 6 * i + j else 6 * j + i)))], (zw_M g gl a al))) 1 rfl ?_
      exact zr_ret rfl trivial ⟨by unfold aw_coef; rw [if_pos (And.intro hp0 (And.intro hv_x hv_z)), hI, hJ], rfl⟩
theorem zs_M_point (g : Nat → Int32) (gl : Nat → Int64) (a : Nat → Nat → Int32) (al : Nat → Nat → Int64) (P N : Nat) (c : Nat → Nat) (hS : zS_F g a P N c) (x z : Int32) : zm_Ev zt_get 3 162 [.ref 0, .int x, .int z] (zw_M g gl a al) (fun v w => v = some (.int (aw_point P N x z)) ∧ w = (zw_M g gl a al)) := by
  obtain ⟨hP, hN, hnp, hP5, hN6, hnp1⟩ := hS.nums
  refine zr_ev zt_M_point rfl rfl ?_
  show zm_Run zt_get 2 zt_M_point (0, [some (.ref 0), some (.int x), some (.int z)], [], (zw_M g gl a al)) _
  refine zr_go (t := (2, [some (.ref 0), some (.int x), some (.int z)], [.int x, .ref 0], (zw_M g gl a al))) 2 rfl ?_
  refine zr_call (t := (5, [some (.ref 0), some (.int x), some (.int z)], [], (zw_M g gl a al))) rfl (Nat.le_of_ble_eq_true rfl : 2 ≤ 2) (zs_M_isPoint g gl a al P (zS_np P N) hP hP5 hnp hnp1 x) ?_
  rintro _ _ ⟨rfl, rfl⟩
  show zm_Run zt_get 2 zt_M_point (5, [some (.ref 0), some (.int x), some (.int z)], [.int (nI ((decide (0 < P) && zx_in x (zS_np P N)).toNat))], (zw_M g gl a al)) _
  have hb_x := zb_le (decide (0 < P) && zx_in x (zS_np P N))
  refine zr_ieq (x := nI ((decide (0 < P) && zx_in x (zS_np P N)).toNat)) (y := 0) ((decide (0 < P) && zx_in x (zS_np P N)).toNat) 0 rfl rfl (by omega) (by omega) (t := (30, [some (.ref 0), some (.int x), some (.int z)], [], (zw_M g gl a al))) (f := (8, [some (.ref 0), some (.int x), some (.int z)], [], (zw_M g gl a al))) rfl (fun h1 => ?_) (fun h1 => ?_)
  · skip
    refine zr_go (t := (32, [some (.ref 0), some (.int x), some (.int z)], [.int (-101)], (zw_M g gl a al))) 1 rfl ?_
    exact zr_ret rfl trivial ⟨by unfold aw_point; rw [if_neg (fun q => by have := zb_0 h1; rw [(hS.form q.1).2, decide_eq_true q.1, q.2.1] at this; cases this)], rfl⟩
  · skip
    refine zr_go (t := (10, [some (.ref 0), some (.int x), some (.int z)], [.int z, .ref 0], (zw_M g gl a al))) 2 rfl ?_
    refine zr_call (t := (13, [some (.ref 0), some (.int x), some (.int z)], [], (zw_M g gl a al))) rfl (Nat.le_of_ble_eq_true rfl : 2 ≤ 2) (zs_M_isVariable g gl a al P N hP hP5 hN hN6 z) ?_
    rintro _ _ ⟨rfl, rfl⟩
    show zm_Run zt_get 2 zt_M_point (13, [some (.ref 0), some (.int x), some (.int z)], [.int (nI ((decide (0 < P) && zx_in z N).toNat))], (zw_M g gl a al)) _
    have hb_z := zb_le (decide (0 < P) && zx_in z N)
    refine zr_ieq (x := nI ((decide (0 < P) && zx_in z N).toNat)) (y := 0) ((decide (0 < P) && zx_in z N).toNat) 0 rfl rfl (by omega) (by omega) (t := (30, [some (.ref 0), some (.int x), some (.int z)], [], (zw_M g gl a al))) (f := (16, [some (.ref 0), some (.int x), some (.int z)], [], (zw_M g gl a al))) rfl (fun h2 => ?_) (fun h2 => ?_)
    · skip
      refine zr_go (t := (32, [some (.ref 0), some (.int x), some (.int z)], [.int (-101)], (zw_M g gl a al))) 1 rfl ?_
      exact zr_ret rfl trivial ⟨by unfold aw_point; rw [if_neg (fun q => by have := zb_0 h2; rw [decide_eq_true q.1, q.2.2] at this; cases this)], rfl⟩
    · skip
      obtain ⟨hp0, hv_x⟩ := Bool.and_eq_true_iff.mp (zb_1 h1)
      have hp0 := of_decide_eq_true hp0
      obtain ⟨hp, ep⟩ := zx_of hv_x
      obtain ⟨hf, enp⟩ := hS.form hp0
      rw [enp] at hp hv_x
      obtain ⟨hp0, hv_z⟩ := Bool.and_eq_true_iff.mp (zb_1 h2)
      have hp0 := of_decide_eq_true hp0
      obtain ⟨hi, ei⟩ := zx_of hv_z
      obtain ⟨-, hb156, hyy, -⟩ := id hf.2.2.1
      generalize hP_ : zx_k x = p at hp ep
      subst ep
      generalize hI : zx_k z = i at hi ei
      subst ei
      refine zr_go (t := (26, [some (.ref 0), some (.int (nI p)), some (.int (nI i))], [.int ((6 * (nI p)) + (nI i)), .ref 3], (zw_M g gl a al))) 7 rfl ?_
      refine zr_cd (t := (27, [some (.ref 0), some (.int (nI p)), some (.int (nI i))], [.int ((a 3) ((6 * (nI p)) + (nI i)).toNatClampNeg)], (zw_M g gl a al))) rfl (pk_in ((6 * p) + i) 936 (by omega) (zn_add (zn_mul rfl rfl) rfl) (by omega)) ?_
      rw [pk_cl (x := ((6 * (nI p)) + (nI i))) ((6 * p) + i) (zn_add (zn_mul rfl rfl) rfl) (by omega)]
      rw [show (a 3) ((6 * p) + i) = nI (zv_y P N p i) from hyy p i hp (by omega)]
      refine zr_go (t := (32, [some (.ref 0), some (.int (nI p)), some (.int (nI i))], [.int (nI (zv_y P N p i))], (zw_M g gl a al))) 1 rfl ?_
      exact zr_ret rfl trivial ⟨by unfold aw_point; rw [if_pos (And.intro hp0 (And.intro hv_x hv_z)), hP_, hI], rfl⟩
theorem zs_M_value (g : Nat → Int32) (gl : Nat → Int64) (a : Nat → Nat → Int32) (al : Nat → Nat → Int64) (P N : Nat) (c : Nat → Nat) (hS : zS_F g a P N c) (x : Int32) : zm_Ev zt_get 3 163 [.ref 0, .int x] (zw_M g gl a al) (fun v w => v = some (.int (aw_value P N c x)) ∧ ∃ f, w = (zw_M g gl (va_up a 9 f) al)) := by
  obtain ⟨hP, hN, hnp, hP5, hN6, hnp1⟩ := hS.nums
  refine zr_ev zt_M_value rfl rfl ?_
  show zm_Run zt_get 2 zt_M_value (0, [some (.ref 0), some (.int x)], [], (zw_M g gl a al)) _
  refine zr_go (t := (2, [some (.ref 0), some (.int x)], [.int x, .ref 0], (zw_M g gl a al))) 2 rfl ?_
  refine zr_call (t := (5, [some (.ref 0), some (.int x)], [], (zw_M g gl a al))) rfl (Nat.le_of_ble_eq_true rfl : 2 ≤ 2) (zs_M_isPoint g gl a al P (zS_np P N) hP hP5 hnp hnp1 x) ?_
  rintro _ _ ⟨rfl, rfl⟩
  show zm_Run zt_get 2 zt_M_value (5, [some (.ref 0), some (.int x)], [.int (nI ((decide (0 < P) && zx_in x (zS_np P N)).toNat))], (zw_M g gl a al)) _
  have hb_x := zb_le (decide (0 < P) && zx_in x (zS_np P N))
  refine zr_ieq (x := nI ((decide (0 < P) && zx_in x (zS_np P N)).toNat)) (y := 0) ((decide (0 < P) && zx_in x (zS_np P N)).toNat) 0 rfl rfl (by omega) (by omega) (t := (16, [some (.ref 0), some (.int x)], [], (zw_M g gl a al))) (f := (8, [some (.ref 0), some (.int x)], [], (zw_M g gl a al))) rfl (fun h1 => ?_) (fun h1 => ?_)
  · skip
    refine zr_go (t := (18, [some (.ref 0), some (.int x)], [.int (-101)], (zw_M g gl a al))) 1 rfl ?_
    exact zr_ret rfl trivial ⟨by unfold aw_value; rw [if_neg (fun q => by have := zb_0 h1; rw [(hS.form q.1).2, decide_eq_true q.1, q.2] at this; cases this)], a 9, rfl⟩
  · skip
    obtain ⟨hp0, hv_x⟩ := Bool.and_eq_true_iff.mp (zb_1 h1)
    have hp0 := of_decide_eq_true hp0
    obtain ⟨hp, ep⟩ := zx_of hv_x
    obtain ⟨hf, enp⟩ := hS.form hp0
    rw [enp] at hp hv_x
    obtain ⟨-, hb156, hyy, hyy4⟩ := id hf.2.2.1
    generalize hP_ : zx_k x = p at hp ep
    subst ep
    refine zr_go (t := (10, [some (.ref 0), some (.int (nI p))], [.int (nI p), .ref 0], (zw_M g gl a al))) 2 rfl ?_
    refine zr_call (t := (13, [some (.ref 0), some (.int (nI p))], [], (zw_M g gl a al))) rfl (Nat.le_of_ble_eq_true rfl : 2 ≤ 2) (zs_M_valueAt g gl a al P N c hf.2.1 p (by omega) (zv_y P N p) (fun i hi => hyy p i hp hi) (fun i hi => hyy4 p i hp hi)) ?_
    rintro _ _ ⟨rfl, f, rfl⟩
    show zm_Run zt_get 2 zt_M_value (13, [some (.ref 0), some (.int (nI p))], [.int (nI (zv_val P N c (zv_y P N p)))], (zw_M g gl (va_up a 9 f) al)) _
    refine zr_go (t := (18, [some (.ref 0), some (.int (nI p))], [.int (nI (zv_val P N c (zv_y P N p)))], (zw_M g gl (va_up a 9 f) al))) 1 rfl ?_
    exact zr_ret rfl trivial ⟨by unfold aw_value; rw [if_pos (And.intro hp0 hv_x), hP_], f, rfl⟩
theorem zs_M_polar (g : Nat → Int32) (gl : Nat → Int64) (a : Nat → Nat → Int32) (al : Nat → Nat → Int64) (P N : Nat) (c : Nat → Nat) (hS : zS_F g a P N c) (x z : Int32) : zm_Ev zt_get 4 164 [.ref 0, .int x, .int z] (zw_M g gl a al) (fun v w => v = some (.int (aw_polar P N c x z)) ∧ ∃ f1 f2 f3, w = (zw_M g gl (va_up (va_up (va_up a 9 f1) 10 f2) 11 f3) al)) := by
  obtain ⟨hP, hN, hnp, hP5, hN6, hnp1⟩ := hS.nums
  refine zr_ev zt_M_polar rfl rfl ?_
  show zm_Run zt_get 3 zt_M_polar (0, [some (.ref 0), some (.int x), some (.int z)], [], (zw_M g gl a al)) _
  refine zr_go (t := (2, [some (.ref 0), some (.int x), some (.int z)], [.int x, .ref 0], (zw_M g gl a al))) 2 rfl ?_
  refine zr_call (t := (5, [some (.ref 0), some (.int x), some (.int z)], [], (zw_M g gl a al))) rfl (Nat.le_of_ble_eq_true rfl : 2 ≤ 3) (zs_M_isPoint g gl a al P (zS_np P N) hP hP5 hnp hnp1 x) ?_
  rintro _ _ ⟨rfl, rfl⟩
  show zm_Run zt_get 3 zt_M_polar (5, [some (.ref 0), some (.int x), some (.int z)], [.int (nI ((decide (0 < P) && zx_in x (zS_np P N)).toNat))], (zw_M g gl a al)) _
  have hb_x := zb_le (decide (0 < P) && zx_in x (zS_np P N))
  refine zr_ieq (x := nI ((decide (0 < P) && zx_in x (zS_np P N)).toNat)) (y := 0) ((decide (0 < P) && zx_in x (zS_np P N)).toNat) 0 rfl rfl (by omega) (by omega) (t := (25, [some (.ref 0), some (.int x), some (.int z)], [], (zw_M g gl a al))) (f := (8, [some (.ref 0), some (.int x), some (.int z)], [], (zw_M g gl a al))) rfl (fun h1 => ?_) (fun h1 => ?_)
  · skip
    refine zr_go (t := (27, [some (.ref 0), some (.int x), some (.int z)], [.int (-101)], (zw_M g gl a al))) 1 rfl ?_
    exact zr_ret rfl trivial ⟨by unfold aw_polar; rw [if_neg (fun q => by have := zb_0 h1; rw [(hS.form q.1).2, decide_eq_true q.1, q.2.1] at this; cases this)], a 9, a 10, a 11, rfl⟩
  · skip
    refine zr_go (t := (10, [some (.ref 0), some (.int x), some (.int z)], [.int z, .ref 0], (zw_M g gl a al))) 2 rfl ?_
    refine zr_call (t := (13, [some (.ref 0), some (.int x), some (.int z)], [], (zw_M g gl a al))) rfl (Nat.le_of_ble_eq_true rfl : 2 ≤ 3) (zs_M_isPoint g gl a al P (zS_np P N) hP hP5 hnp hnp1 z) ?_
    rintro _ _ ⟨rfl, rfl⟩
    show zm_Run zt_get 3 zt_M_polar (13, [some (.ref 0), some (.int x), some (.int z)], [.int (nI ((decide (0 < P) && zx_in z (zS_np P N)).toNat))], (zw_M g gl a al)) _
    have hb_z := zb_le (decide (0 < P) && zx_in z (zS_np P N))
    refine zr_ieq (x := nI ((decide (0 < P) && zx_in z (zS_np P N)).toNat)) (y := 0) ((decide (0 < P) && zx_in z (zS_np P N)).toNat) 0 rfl rfl (by omega) (by omega) (t := (25, [some (.ref 0), some (.int x), some (.int z)], [], (zw_M g gl a al))) (f := (16, [some (.ref 0), some (.int x), some (.int z)], [], (zw_M g gl a al))) rfl (fun h2 => ?_) (fun h2 => ?_)
    · skip
      refine zr_go (t := (27, [some (.ref 0), some (.int x), some (.int z)], [.int (-101)], (zw_M g gl a al))) 1 rfl ?_
      exact zr_ret rfl trivial ⟨by unfold aw_polar; rw [if_neg (fun q => by have := zb_0 h2; rw [(hS.form q.1).2, decide_eq_true q.1, q.2.2] at this; cases this)], a 9, a 10, a 11, rfl⟩
    · skip
      obtain ⟨hp0, hv_x⟩ := Bool.and_eq_true_iff.mp (zb_1 h1)
      have hp0 := of_decide_eq_true hp0
      obtain ⟨hp, ep⟩ := zx_of hv_x
      obtain ⟨hf, enp⟩ := hS.form hp0
      rw [enp] at hp hv_x
      obtain ⟨hp0, hv_z⟩ := Bool.and_eq_true_iff.mp (zb_1 h2)
      have hp0 := of_decide_eq_true hp0
      obtain ⟨hq, eq⟩ := zx_of hv_z
      obtain ⟨hf, enp⟩ := hS.form hp0
      rw [enp] at hq hv_z
      obtain ⟨-, hb156, hyy, hyy4⟩ := id hf.2.2.1
      generalize hP_ : zx_k x = p at hp ep
      subst ep
      generalize hQ : zx_k z = q at hq eq
      subst eq
      refine zr_go (t := (19, [some (.ref 0), some (.int (nI p)), some (.int (nI q))], [.int (nI q), .int (nI p), .ref 0], (zw_M g gl a al))) 3 rfl ?_
      refine zr_call (t := (22, [some (.ref 0), some (.int (nI p)), some (.int (nI q))], [], (zw_M g gl a al))) rfl (Nat.le_of_ble_eq_true rfl : 3 ≤ 3) (zs_M_polarAt g gl a al P N c hf.2.1 p q (by omega) (by omega) (zv_y P N p) (zv_y P N q) (fun i hi => hyy p i hp hi) (fun i hi => hyy4 p i hp hi) (fun i hi => hyy q i hq hi) (fun i hi => hyy4 q i hq hi)) ?_
      rintro _ _ ⟨rfl, f1, f2, f3, rfl⟩
      show zm_Run zt_get 3 zt_M_polar (22, [some (.ref 0), some (.int (nI p)), some (.int (nI q))], [.int (nI (zv_pol P N c (zv_y P N p) (zv_y P N q)))], (zw_M g gl (va_up (va_up (va_up a 9 f1) 10 f2) 11 f3) al)) _
      refine zr_go (t := (27, [some (.ref 0), some (.int (nI p)), some (.int (nI q))], [.int (nI (zv_pol P N c (zv_y P N p) (zv_y P N q)))], (zw_M g gl (va_up (va_up (va_up a 9 f1) 10 f2) 11 f3) al))) 1 rfl ?_
      exact zr_ret rfl trivial ⟨by unfold aw_polar; rw [if_pos (And.intro hp0 (And.intro hv_x hv_z)), hP_, hQ], f1, f2, f3, rfl⟩
theorem zs_M_joined (g : Nat → Int32) (gl : Nat → Int64) (a : Nat → Nat → Int32) (al : Nat → Nat → Int64) (P N : Nat) (c : Nat → Nat) (hS : zS_F g a P N c) (x z : Int32) : zm_Ev zt_get 5 165 [.ref 0, .int x, .int z] (zw_M g gl a al) (fun v w => v = some (.int (aw_joined P N c x z)) ∧ ∃ f, w = (zw_M g gl (va_up a 12 f) al)) := by
  obtain ⟨hP, hN, hnp, hP5, hN6, hnp1⟩ := hS.nums
  refine zr_ev zt_M_joined rfl rfl ?_
  show zm_Run zt_get 4 zt_M_joined (0, [some (.ref 0), some (.int x), some (.int z)], [], (zw_M g gl a al)) _
  refine zr_go (t := (2, [some (.ref 0), some (.int x), some (.int z)], [.int x, .ref 0], (zw_M g gl a al))) 2 rfl ?_
  refine zr_call (t := (5, [some (.ref 0), some (.int x), some (.int z)], [], (zw_M g gl a al))) rfl (Nat.le_of_ble_eq_true rfl : 2 ≤ 4) (zs_M_isPoint g gl a al P (zS_np P N) hP hP5 hnp hnp1 x) ?_
  rintro _ _ ⟨rfl, rfl⟩
  show zm_Run zt_get 4 zt_M_joined (5, [some (.ref 0), some (.int x), some (.int z)], [.int (nI ((decide (0 < P) && zx_in x (zS_np P N)).toNat))], (zw_M g gl a al)) _
  have hb_x := zb_le (decide (0 < P) && zx_in x (zS_np P N))
  refine zr_ieq (x := nI ((decide (0 < P) && zx_in x (zS_np P N)).toNat)) (y := 0) ((decide (0 < P) && zx_in x (zS_np P N)).toNat) 0 rfl rfl (by omega) (by omega) (t := (16, [some (.ref 0), some (.int x), some (.int z)], [], (zw_M g gl a al))) (f := (8, [some (.ref 0), some (.int x), some (.int z)], [], (zw_M g gl a al))) rfl (fun h1 => ?_) (fun h1 => ?_)
  · skip
    refine zr_go (t := (35, [some (.ref 0), some (.int x), some (.int z)], [.int (-101)], (zw_M g gl a al))) 2 rfl ?_
    exact zr_ret rfl trivial ⟨by unfold aw_joined; rw [if_neg (fun q => by have := zb_0 h1; rw [(hS.form q.1).2, decide_eq_true q.1, q.2.1] at this; cases this)], a 12, rfl⟩
  · skip
    refine zr_go (t := (10, [some (.ref 0), some (.int x), some (.int z)], [.int z, .ref 0], (zw_M g gl a al))) 2 rfl ?_
    refine zr_call (t := (13, [some (.ref 0), some (.int x), some (.int z)], [], (zw_M g gl a al))) rfl (Nat.le_of_ble_eq_true rfl : 2 ≤ 4) (zs_M_isPoint g gl a al P (zS_np P N) hP hP5 hnp hnp1 z) ?_
    rintro _ _ ⟨rfl, rfl⟩
    show zm_Run zt_get 4 zt_M_joined (13, [some (.ref 0), some (.int x), some (.int z)], [.int (nI ((decide (0 < P) && zx_in z (zS_np P N)).toNat))], (zw_M g gl a al)) _
    have hb_z := zb_le (decide (0 < P) && zx_in z (zS_np P N))
    refine zr_ine (x := nI ((decide (0 < P) && zx_in z (zS_np P N)).toNat)) (y := 0) ((decide (0 < P) && zx_in z (zS_np P N)).toNat) 0 rfl rfl (by omega) (by omega) (t := (21, [some (.ref 0), some (.int x), some (.int z)], [], (zw_M g gl a al))) (f := (16, [some (.ref 0), some (.int x), some (.int z)], [], (zw_M g gl a al))) rfl (fun h2 => ?_) (fun h2 => ?_)
    · skip
      obtain ⟨hp0, hv_x⟩ := Bool.and_eq_true_iff.mp (zb_1 h1)
      have hp0 := of_decide_eq_true hp0
      obtain ⟨hp, ep⟩ := zx_of hv_x
      obtain ⟨hf, enp⟩ := hS.form hp0
      rw [enp] at hp hv_x
      obtain ⟨hp0, hv_z⟩ := Bool.and_eq_true_iff.mp (zb_1 h2)
      have hp0 := of_decide_eq_true hp0
      obtain ⟨hq, eq⟩ := zx_of hv_z
      obtain ⟨hf, enp⟩ := hS.form hp0
      rw [enp] at hq hv_z
      obtain ⟨hok, hFF, hRR, hnum, hOO, -⟩ := id hf
      generalize hP_ : zx_k x = p at hp ep
      subst ep
      generalize hQ : zx_k z = q at hq eq
      subst eq
      refine zr_go (t := (24, [some (.ref 0), some (.int (nI p)), some (.int (nI q))], [.int (nI q), .int (nI p), .ref 0], (zw_M g gl a al))) 3 rfl ?_
      refine zr_call (t := (27, [some (.ref 0), some (.int (nI p)), some (.int (nI q))], [], (zw_M g gl a al))) rfl (Nat.le_of_ble_eq_true rfl : 4 ≤ 4) (zs_M_isJoined g gl a al P N hP hN hok.1 hN6 (zv_nums hok).1 hnum (zv_np P N) (zv_y P N) hRR (zv_oo P N c (zv_y P N)) hOO p q hp hq (zv_hv2 hok hp hq)) ?_
      rintro _ _ ⟨rfl, f, rfl⟩
      show zm_Run zt_get 4 zt_M_joined (27, [some (.ref 0), some (.int (nI p)), some (.int (nI q))], [.int (nI ((zv_jn P N (zv_y P N) (zv_oo P N c (zv_y P N)) p q).toNat))], (zw_M g gl (va_up a 12 f) al)) _
      have hj1 := zb_le (zv_jn P N (zv_y P N) (zv_oo P N c (zv_y P N)) p q)
      refine zr_ieq (x := nI ((zv_jn P N (zv_y P N) (zv_oo P N c (zv_y P N)) p q).toNat)) (y := 0) ((zv_jn P N (zv_y P N) (zv_oo P N c (zv_y P N)) p q).toNat) 0 rfl rfl (by omega) (by omega) (t := (34, [some (.ref 0), some (.int (nI p)), some (.int (nI q))], [], (zw_M g gl (va_up a 12 f) al))) (f := (30, [some (.ref 0), some (.int (nI p)), some (.int (nI q))], [], (zw_M g gl (va_up a 12 f) al))) rfl (fun h3 => ?_) (fun h3 => ?_)
      · skip
        refine zr_go (t := (35, [some (.ref 0), some (.int (nI p)), some (.int (nI q))], [.int 0], (zw_M g gl (va_up a 12 f) al))) 1 rfl ?_
        exact zr_ret rfl trivial ⟨by unfold aw_joined; rw [if_pos (And.intro hp0 (And.intro hv_x hv_z)), hP_, hQ, zb_0 h3]; rfl, f, rfl⟩
      · skip
        refine zr_go (t := (35, [some (.ref 0), some (.int (nI p)), some (.int (nI q))], [.int 1], (zw_M g gl (va_up a 12 f) al))) 2 rfl ?_
        exact zr_ret rfl trivial ⟨by unfold aw_joined; rw [if_pos (And.intro hp0 (And.intro hv_x hv_z)), hP_, hQ, zb_1 h3]; rfl, f, rfl⟩
    · skip
      refine zr_go (t := (35, [some (.ref 0), some (.int x), some (.int z)], [.int (-101)], (zw_M g gl a al))) 2 rfl ?_
      exact zr_ret rfl trivial ⟨by unfold aw_joined; rw [if_neg (fun q => by have := zb_0 h2; rw [(hS.form q.1).2, decide_eq_true q.1, q.2.2] at this; cases this)], a 12, rfl⟩
theorem zs_M_section (g : Nat → Int32) (gl : Nat → Int64) (a : Nat → Nat → Int32) (al : Nat → Nat → Int64) (P N : Nat) (c : Nat → Nat) (hS : zS_F g a P N c) (x z : Int32) : zm_Ev zt_get 7 170 [.ref 0, .int x, .int z] (zw_M g gl a al) (fun v w => v = some (.int (aw_section P N c x z)) ∧ ∃ f1 f2 f3, w = (zw_M g gl (va_up (va_up (va_up a 9 f1) 10 f2) 11 f3) al)) := by
  obtain ⟨hP, hN, hnp, hP5, hN6, hnp1⟩ := hS.nums
  refine zr_ev zt_M_section rfl rfl ?_
  show zm_Run zt_get 6 zt_M_section (0, [some (.ref 0), some (.int x), some (.int z)], [], (zw_M g gl a al)) _
  refine zr_go (t := (2, [some (.ref 0), some (.int x), some (.int z)], [.int x, .ref 0], (zw_M g gl a al))) 2 rfl ?_
  refine zr_call (t := (5, [some (.ref 0), some (.int x), some (.int z)], [], (zw_M g gl a al))) rfl (Nat.le_of_ble_eq_true rfl : 2 ≤ 6) (zs_M_isPoint g gl a al P (zS_np P N) hP hP5 hnp hnp1 x) ?_
  rintro _ _ ⟨rfl, rfl⟩
  show zm_Run zt_get 6 zt_M_section (5, [some (.ref 0), some (.int x), some (.int z)], [.int (nI ((decide (0 < P) && zx_in x (zS_np P N)).toNat))], (zw_M g gl a al)) _
  have hb_x := zb_le (decide (0 < P) && zx_in x (zS_np P N))
  refine zr_ine (x := nI ((decide (0 < P) && zx_in x (zS_np P N)).toNat)) (y := 0) ((decide (0 < P) && zx_in x (zS_np P N)).toNat) 0 rfl rfl (by omega) (by omega) (t := (11, [some (.ref 0), some (.int x), some (.int z)], [], (zw_M g gl a al))) (f := (8, [some (.ref 0), some (.int x), some (.int z)], [], (zw_M g gl a al))) rfl (fun h1 => ?_) (fun h1 => ?_)
  · skip
    obtain ⟨hp0, hv_x⟩ := Bool.and_eq_true_iff.mp (zb_1 h1)
    have hp0 := of_decide_eq_true hp0
    obtain ⟨hp, ep⟩ := zx_of hv_x
    obtain ⟨hf, enp⟩ := hS.form hp0
    rw [enp] at hp hv_x
    obtain ⟨hok, hFF, hRR, hnum, hOO, -⟩ := id hf
    generalize hP_ : zx_k x = p at hp ep
    subst ep
    refine zr_go (t := (14, [some (.ref 0), some (.int (nI p)), some (.int z)], [.int 1, .int 0, .int z], (zw_M g gl a al))) 3 rfl ?_
    refine zr_call (t := (17, [some (.ref 0), some (.int (nI p)), some (.int z)], [], (zw_M g gl a al))) rfl (Nat.le_of_ble_eq_true rfl : 1 ≤ 6) (zs_M_within01 g gl a al z) ?_
    rintro _ _ ⟨rfl, rfl⟩
    show zm_Run zt_get 6 zt_M_section (17, [some (.ref 0), some (.int (nI p)), some (.int z)], [.int (nI ((zx_in z 2).toNat))], (zw_M g gl a al)) _
    have hb2 := zb_le (zx_in z 2)
    refine zr_ine (x := nI ((zx_in z 2).toNat)) (y := 0) ((zx_in z 2).toNat) 0 rfl rfl (by omega) (by omega) (t := (25, [some (.ref 0), some (.int (nI p)), some (.int z)], [], (zw_M g gl a al))) (f := (20, [some (.ref 0), some (.int (nI p)), some (.int z)], [], (zw_M g gl a al))) rfl (fun h2 => ?_) (fun h2 => ?_)
    · skip
      refine zr_go (t := (26, [some (.ref 0), some (.int (nI p)), some (.int z)], [.int z], (zw_M g gl a al))) 1 rfl ?_
      refine zr_if (c := z = 0) (t := (29, [some (.ref 0), some (.int (nI p)), some (.int z)], [], (zw_M g gl a al))) (f := (37, [some (.ref 0), some (.int (nI p)), some (.int z)], [], (zw_M g gl a al))) rfl (fun h3 => ?_) (fun h3 => ?_)
      · skip
        refine zr_go (t := (31, [some (.ref 0), some (.int (nI p)), some (.int z)], [.int (nI p), .ref 0], (zw_M g gl a al))) 2 rfl ?_
        refine zr_call (t := (34, [some (.ref 0), some (.int (nI p)), some (.int z)], [], (zw_M g gl a al))) rfl (Nat.le_of_ble_eq_true rfl : 2 ≤ 6) (zs_M_sectionOn g gl a al P N c hFF (zv_np P N) (zv_y P N) hRR (zv_oo P N c (zv_y P N)) hOO p hp) ?_
        rintro _ _ ⟨rfl, rfl⟩
        show zm_Run zt_get 6 zt_M_section (34, [some (.ref 0), some (.int (nI p)), some (.int z)], [.int (nI (zC (fun k => zv_oo P N c (zv_y P N) k && zv_dot N (zv_y P N p) (zv_y P N k) % P == 0) (zv_np P N)))], (zw_M g gl a al)) _
        refine zr_go (t := (42, [some (.ref 0), some (.int (nI p)), some (.int z)], [.int (nI (zC (fun k => zv_oo P N c (zv_y P N) k && zv_dot N (zv_y P N p) (zv_y P N k) % P == 0) (zv_np P N)))], (zw_M g gl a al))) 1 rfl ?_
        exact zr_ret rfl trivial ⟨by unfold aw_section; rw [if_pos (And.intro hp0 hv_x), if_pos (zb_1 h2), if_pos h3, hP_], a 9, a 10, a 11, rfl⟩
      · skip
        refine zr_go (t := (39, [some (.ref 0), some (.int (nI p)), some (.int z)], [.int (nI p), .ref 0], (zw_M g gl a al))) 2 rfl ?_
        refine zr_call (t := (42, [some (.ref 0), some (.int (nI p)), some (.int z)], [], (zw_M g gl a al))) rfl (Nat.le_of_ble_eq_true rfl : 6 ≤ 6) (zs_M_touches g gl a al P N c hFF (zv_np P N) (zv_y P N) hRR (zv_oo P N c (zv_y P N)) hOO p hp) ?_
        rintro _ _ ⟨rfl, f1, f2, f3, rfl⟩
        show zm_Run zt_get 6 zt_M_section (42, [some (.ref 0), some (.int (nI p)), some (.int z)], [.int (if zM (zv_tch P N c (zv_np P N) (zv_y P N) (zv_oo P N c (zv_y P N)) p) 0 (zv_np P N) < zv_np P N then nI (zM (zv_tch P N c (zv_np P N) (zv_y P N) (zv_oo P N c (zv_y P N)) p) 0 (zv_np P N)) else -1)], (zw_M g gl (va_up (va_up (va_up a 9 f1) 10 f2) 11 f3) al)) _
        exact zr_ret rfl trivial ⟨by unfold aw_section; rw [if_pos (And.intro hp0 hv_x), if_pos (zb_1 h2), if_neg h3, hP_], f1, f2, f3, rfl⟩
    · skip
      refine zr_go (t := (42, [some (.ref 0), some (.int (nI p)), some (.int z)], [.int (-102)], (zw_M g gl a al))) 2 rfl ?_
      exact zr_ret rfl trivial ⟨by unfold aw_section; rw [if_pos (And.intro hp0 hv_x), if_neg (by rw [zb_0 h2]; decide)], a 9, a 10, a 11, rfl⟩
  · skip
    refine zr_go (t := (10, [some (.ref 0), some (.int x), some (.int z)], [.int (-101)], (zw_M g gl a al))) 1 rfl ?_
    exact zr_ret rfl trivial ⟨by unfold aw_section; rw [if_neg (fun q => by have := zb_0 h1; rw [(hS.form q.1).2, decide_eq_true q.1, q.2] at this; cases this)], a 9, a 10, a 11, rfl⟩
