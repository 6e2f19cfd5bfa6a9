/-! the reference: drawn, count (written by wip/whole/gen_m24.py) -/
theorem nq_add {x y : Int64} (h1 : -2 ^ 63 ≤ x.toInt + y.toInt) (h2 : x.toInt + y.toInt < 2 ^ 63) : (x + y).toInt = x.toInt + y.toInt := by rw [Int64.toInt_add, Int.bmod_def]; omega
theorem nq_mul {x y : Int64} (h1 : -2 ^ 63 ≤ x.toInt * y.toInt) (h2 : x.toInt * y.toInt < 2 ^ 63) : (x * y).toInt = x.toInt * y.toInt := by rw [Int64.toInt_mul, Int.bmod_def]; generalize x.toInt * y.toInt = z at h1 h2; omega
theorem nq_rem {x y : Int64} (hx : 0 ≤ x.toInt) : (x - x / y * y).toInt = x.toInt % y.toInt := by
  have a := (x % y).toInt_lt
  have b := (x % y).le_toInt
  rw [Int64.toInt_mod] at a b
  rw [Int64.toInt_sub, Int64.toInt_mul, Int64.toInt_div, Int.bmod_mul_bmod, Int.sub_bmod_bmod, Int.mul_comm, ← Int.tmod_def, ← Int.tmod_eq_emod_of_nonneg hx]
  generalize x.toInt.tmod y.toInt = z at a b
  rw [Int.bmod_def]; omega
def nL (n : Nat) : Int64 := Int64.ofNat n
theorem nL_toInt {n : Nat} (h : n < 2 ^ 63) : (nL n).toInt = n := lg_ofNat_toInt h
theorem nL_of {x : Int64} {n : Nat} (h : n < 2 ^ 63) (e : x.toInt = n) : x = nL n := Int64.toInt_inj.mp (by rw [nL_toInt h, e])
theorem nI_nL {n : Nat} (h : n < 2 ^ 31) : (nI n).toInt64 = nL n := nL_of (by omega) (by rw [Int32.toInt_toInt64, nI_toInt h])
theorem nL_nI {n : Nat} (h : n < 2 ^ 31) : (nL n).toInt32 = nI n := by
  apply Int32.toInt_inj.mp
  have e := nL_toInt (n := n) (by omega)
  rw [Int64.toInt_toInt32, e, nI_toInt h, Int.bmod_def]; omega
/-- one draw's seed -/
def zk_nx (s : Nat) : Nat := (1103515245 * s + 12345) % 2147483648
def zk_s (s0 : Nat) : Nat → Nat
  | 0 => s0
  | n + 1 => zk_nx (zk_s s0 n)
theorem zk_nx_lt (s : Nat) : zk_nx s < 2147483648 := Nat.mod_lt _ (by decide)
theorem zk_s_lt {s0 : Nat} (h : s0 < 2147483648) : ∀ n, zk_s s0 n < 2147483648
  | 0 => h
  | _ + 1 => zk_nx_lt _
def zk_pt (np s0 k : Nat) : Nat := zk_s s0 k / 65536 % np
theorem zk_seed {s : Nat} (h : s < 2147483648) : (1103515245 * nL s + 12345) - (1103515245 * nL s + 12345) / 2147483648 * 2147483648 = nL (zk_nx s) := by
  have e1 : (nL s).toInt = s := nL_toInt (by omega)
  have e2 : ((1103515245 : Int64) * nL s).toInt = 1103515245 * s := by
    rw [nq_mul (by rw [e1, show (1103515245 : Int64).toInt = 1103515245 from rfl]; omega) (by rw [e1, show (1103515245 : Int64).toInt = 1103515245 from rfl]; omega), e1]; rfl
  have e3 : ((1103515245 : Int64) * nL s + 12345).toInt = 1103515245 * s + 12345 := by
    rw [nq_add (by rw [e2, show (12345 : Int64).toInt = 12345 from rfl]; omega) (by rw [e2, show (12345 : Int64).toInt = 12345 from rfl]; omega), e2]; rfl
  have h1 := zk_nx_lt s
  refine nL_of (by omega) ?_
  rw [nq_rem (by rw [e3]; omega), e3, show (2147483648 : Int64).toInt = 2147483648 from rfl]
  unfold zk_nx; omega
theorem zk_q {s d : Nat} (h : s < 2147483648) (hd : 0 < d) (hd1 : d < 1000) : (nL s / 65536 - nL s / 65536 / (nI d).toInt64 * (nI d).toInt64).toInt32 = nI (s / 65536 % d) := by
  have e1 : (nL s).toInt = s := nL_toInt (by omega)
  have e2 : (nL s / 65536).toInt = s / 65536 := by rw [lg_ldiv_nonneg (by rw [e1]; omega) (by decide), e1]; rfl
  have e3 : (nI d).toInt64.toInt = d := by rw [Int32.toInt_toInt64, nI_toInt (by omega)]
  have e4 : nL s / 65536 - nL s / 65536 / (nI d).toInt64 * (nI d).toInt64 = nL (s / 65536 % d) := by
    have h1 : s / 65536 % d < d := Nat.mod_lt _ hd
    refine nL_of (by omega) ?_
    rw [nq_rem (by rw [e2]; omega), e2, e3, Int.natCast_emod]; rfl
  have h1 : s / 65536 % d < d := Nat.mod_lt _ hd
  rw [e4, nL_nI (by omega)]
theorem zs_M_withinB (g : Nat → Int32) (gl : Nat → Int64) (a : Nat → Nat → Int32) (al : Nat → Nat → Int64) (x y z : Int32) : zm_Ev zt_get 1 107 [.int x, .int y, .int z] (zw_M g gl a al) (fun v w => v = some (.int (nI (decide (y ≤ x ∧ x ≤ z)).toNat)) ∧ w = zw_M g gl a al) := by
  refine zr_evp (zs_M_within g gl a al x y z) ?_
  rintro v w ⟨h, rfl⟩
  refine ⟨?_, rfl⟩
  rcases h with ⟨h, rfl⟩ | ⟨h, rfl⟩
  · rw [decide_eq_true h]; rfl
  · rw [decide_eq_false h]; rfl
theorem zk_d0 {d : Nat} (hd : 0 < d) (hd1 : d < 1000) : ¬ (nI d).toInt64 = 0 := by
  intro q
  have e : (nI d).toInt64.toInt = d := by rw [Int32.toInt_toInt64, nI_toInt (by omega)]
  rw [q] at e
  have : (0 : Int64).toInt = 0 := rfl
  omega
theorem zs_M_drawOf (g : Nat → Int32) (gl : Nat → Int64) (a : Nat → Nat → Int32) (al : Nat → Nat → Int64) (s d : Nat) (hs : s < 2147483648) (hd : 0 < d) (hd1 : d < 1000) : zm_Ev zt_get 1 207 [.ref 0, .int (nI d)] (zw_M g (vp_updL gl 45 (nL s)) a al) (fun v w => v = some (.int (nI (zk_nx s / 65536 % d))) ∧ w = (zw_M g (vp_updL gl 45 (nL (zk_nx s))) a al)) := by
  refine zr_ev zt_M_drawOf rfl rfl ?_
  show zm_Run zt_get 0 zt_M_drawOf (0, [some (.ref 0), some (.int (nI d))], [], (zw_M g (vp_updL gl 45 (nL s)) a al)) _
  refine zr_go (t := (16, [some (.ref 0), some (.int (nI d))], [.long 2147483648, .long ((1103515245 * (nL s)) + 12345), .ref 0], (zw_M g (vp_updL gl 45 (nL s)) a al))) 8 rfl ?_
  refine zr_cd (t := (17, [some (.ref 0), some (.int (nI d))], [.long (((1103515245 * (nL s)) + 12345) - ((1103515245 * (nL s)) + 12345) / 2147483648 * 2147483648), .ref 0], (zw_M g (vp_updL gl 45 (nL s)) a al))) rfl (by decide) ?_
  rw [zk_seed hs]
  have hlt := zk_nx_lt s
  generalize zk_nx s = s1 at hlt ⊢
  generalize hS1 : nL s1 = S1
  refine zr_go (t := (27, [some (.ref 0), some (.int (nI d))], [.long 65536, .long S1], (zw_M g (vp_updL gl 45 S1) a al))) 4 rfl ?_
  refine zr_cd (t := (28, [some (.ref 0), some (.int (nI d))], [.long (S1 / 65536)], (zw_M g (vp_updL gl 45 S1) a al))) rfl (by decide) ?_
  refine zr_go (t := (30, [some (.ref 0), some (.int (nI d))], [.long ((nI d).toInt64), .long (S1 / 65536)], (zw_M g (vp_updL gl 45 S1) a al))) 2 rfl ?_
  refine zr_cd (t := (31, [some (.ref 0), some (.int (nI d))], [.long ((S1 / 65536) - (S1 / 65536) / ((nI d).toInt64) * ((nI d).toInt64))], (zw_M g (vp_updL gl 45 S1) a al))) rfl (zk_d0 hd hd1) ?_
  refine zr_go (t := (32, [some (.ref 0), some (.int (nI d))], [.int (((S1 / 65536) - (S1 / 65536) / ((nI d).toInt64) * ((nI d).toInt64)).toInt32)], (zw_M g (vp_updL gl 45 S1) a al))) 1 rfl ?_
  subst hS1
  rw [zk_q hlt hd hd1]
  exact zr_ret rfl trivial ⟨rfl, rfl⟩
/-- what is drawn: points on the quadric, collinear pairs -/
def zk_on (np s0 : Nat) (o : Nat → Bool) (t : Nat) : Nat := (o (zk_pt np s0 (2 * t + 1))).toNat + (o (zk_pt np s0 (2 * t + 2))).toNat
def zk_pr (P N np s0 : Nat) (y : Nat → Nat → Nat) (o : Nat → Bool) (t : Nat) : Nat := (zv_jn P N y o (zk_pt np s0 (2 * t + 1)) (zk_pt np s0 (2 * t + 2))).toNat
def zw_dr (P N : Nat) (c : Nat → Nat) (n s0 : Nat) (z : Int32) : Int32 := if z = 0 then nI (zS (zk_on (zv_np P N) s0 (zw_oo P N c)) n) else if z = 1 then nI (zS (zk_pr P N (zv_np P N) s0 (zv_y P N) (zw_oo P N c)) n) else nI (zk_s s0 (2 * n))
def aw_drawn (P N : Nat) (c : Nat → Nat) (x y z : Int32) : Int32 := if (1 ≤ x ∧ x ≤ 100) ∧ 0 ≤ y ∧ 0 ≤ z ∧ z ≤ 2 then (if 0 < P then zw_dr P N c (zx_k x) (zx_k y) z else -103) else -102
theorem zs_M_drawnNow (g : Nat → Int32) (gl : Nat → Int64) (a : Nat → Nat → Int32) (al : Nat → Nat → Int64) (P N : Nat) (c : Nat → Nat) (hf : zS_f g a P N c) (n s0 : Nat) (z : Int32) (hn : n ≤ 100) (hs0 : s0 < 2147483648) : zm_Ev zt_get 5 208 [.ref 0, .int (nI n), .int (nI s0), .int z] (zw_M g gl a al) (fun v w => v = some (.int (zw_dr P N c n s0 z)) ∧ ∃ (s : Int64) (f : Nat → Int32), w = (zw_M g (vp_updL gl 45 s) (va_up a 12 f) al)) := by
  obtain ⟨hok, hFF, hRR, hnum, hOO, -⟩ := id hf
  obtain ⟨hP, hN, hP0, hP5, hN6, hcc, hc4⟩ := id hFF
  obtain ⟨hA, hB, hnp0⟩ := zv_nums hok
  refine zr_ev zt_M_drawnNow rfl rfl ?_
  show zm_Run zt_get 4 zt_M_drawnNow (0, [some (.ref 0), some (.int (nI n)), some (.int (nI s0)), some (.int z), none, none, none, none, none], [], (zw_M g gl a al)) _
  refine zr_go (t := (6, [some (.ref 0), some (.int (nI n)), some (.int (nI s0)), some (.int z), none, none, none, none, none], [], (zw_M g (vp_updL gl 45 ((nI s0).toInt64)) a al))) 4 rfl ?_
  rw [nI_nL hs0]
  refine zr_go (t := (15, [some (.ref 0), some (.int (nI n)), some (.int (nI s0)), some (.int z), some (.int 0), some (.int 0), some (.int 0), none, none], [], (zw_M g (vp_updL gl 45 (nL s0)) a al))) 6 rfl ?_
  refine zr_loop (fun zq : Nat × Nat × Nat × Int64 × (Nat → Int32) => (15, [some (.ref 0), some (.int (nI n)), some (.int (nI s0)), some (.int z), some (.int (nI zq.2.1)), some (.int (nI zq.2.2.1)), some (.int (nI zq.1)), none, none], [], (zw_M g (vp_updL gl 45 zq.2.2.2.1) (va_up a 12 zq.2.2.2.2) al))) (fun zq => zq.1 ≤ n ∧ zq.2.1 = zS (zk_on (zv_np P N) s0 (zw_oo P N c)) zq.1 ∧ zq.2.2.1 = zS (zk_pr P N (zv_np P N) s0 (zv_y P N) (zw_oo P N c)) zq.1 ∧ zq.2.2.2.1 = nL (zk_s s0 (2 * zq.1))) (fun zq => n - zq.1) ?_ (0, 0, 0, nL s0, a 12) ⟨by omega, rfl, rfl, rfl⟩
  rintro ⟨k, O, B, S, f12⟩ ⟨hk, hO, hB2, hS⟩ ih
  try dsimp only at *
  have hO1 : O ≤ k * 2 := by rw [hO]; exact zS_le k (fun t _ => by unfold zk_on; have := zb_le (zw_oo P N c (zk_pt (zv_np P N) s0 (2 * t + 1))); have := zb_le (zw_oo P N c (zk_pt (zv_np P N) s0 (2 * t + 2))); omega)
  have hB1 : B ≤ k * 1 := by rw [hB2]; exact zS_le k (fun t _ => by unfold zk_pr; exact zb_le _)
  refine zr_go (t := (18, [some (.ref 0), some (.int (nI n)), some (.int (nI s0)), some (.int z), some (.int (nI O)), some (.int (nI B)), some (.int (nI k)), none, none], [.int (nI n), .int (nI k)], (zw_M g (vp_updL gl 45 S) (va_up a 12 f12) al))) 2 rfl ?_
  refine zr_ige (x := nI k) (y := nI n) k n rfl rfl (by omega) (by omega) (t := (104, [some (.ref 0), some (.int (nI n)), some (.int (nI s0)), some (.int z), some (.int (nI O)), some (.int (nI B)), some (.int (nI k)), none, none], [], (zw_M g (vp_updL gl 45 S) (va_up a 12 f12) al))) (f := (21, [some (.ref 0), some (.int (nI n)), some (.int (nI s0)), some (.int z), some (.int (nI O)), some (.int (nI B)), some (.int (nI k)), none, none], [], (zw_M g (vp_updL gl 45 S) (va_up a 12 f12) al))) rfl (fun h1 => ?_) (fun h1 => ?_)
  · skip
    have ek : k = n := by omega
    subst ek
    refine zr_go (t := (105, [some (.ref 0), some (.int (nI k)), some (.int (nI s0)), some (.int z), some (.int (nI O)), some (.int (nI B)), some (.int (nI k)), none, none], [.int z], (zw_M g (vp_updL gl 45 S) (va_up a 12 f12) al))) 1 rfl ?_
    refine zr_if (c := z = 0) (t := (108, [some (.ref 0), some (.int (nI k)), some (.int (nI s0)), some (.int z), some (.int (nI O)), some (.int (nI B)), some (.int (nI k)), none, none], [], (zw_M g (vp_updL gl 45 S) (va_up a 12 f12) al))) (f := (113, [some (.ref 0), some (.int (nI k)), some (.int (nI s0)), some (.int z), some (.int (nI O)), some (.int (nI B)), some (.int (nI k)), none, none], [], (zw_M g (vp_updL gl 45 S) (va_up a 12 f12) al))) rfl (fun h2 => ?_) (fun h2 => ?_)
    · skip
      refine zr_go (t := (128, [some (.ref 0), some (.int (nI k)), some (.int (nI s0)), some (.int z), some (.int (nI O)), some (.int (nI B)), some (.int (nI k)), none, none], [.int (nI O)], (zw_M g (vp_updL gl 45 S) (va_up a 12 f12) al))) 2 rfl ?_
      exact zr_ret rfl trivial ⟨by unfold zw_dr; rw [if_pos h2, hO], S, f12, rfl⟩
    · skip
      refine zr_go (t := (115, [some (.ref 0), some (.int (nI k)), some (.int (nI s0)), some (.int z), some (.int (nI O)), some (.int (nI B)), some (.int (nI k)), none, none], [.int 1, .int z], (zw_M g (vp_updL gl 45 S) (va_up a 12 f12) al))) 2 rfl ?_
      refine zr_if (c := z = 1) (t := (118, [some (.ref 0), some (.int (nI k)), some (.int (nI s0)), some (.int z), some (.int (nI O)), some (.int (nI B)), some (.int (nI k)), none, none], [], (zw_M g (vp_updL gl 45 S) (va_up a 12 f12) al))) (f := (123, [some (.ref 0), some (.int (nI k)), some (.int (nI s0)), some (.int z), some (.int (nI O)), some (.int (nI B)), some (.int (nI k)), none, none], [], (zw_M g (vp_updL gl 45 S) (va_up a 12 f12) al))) rfl (fun h3 => ?_) (fun h3 => ?_)
      · skip
        refine zr_go (t := (128, [some (.ref 0), some (.int (nI k)), some (.int (nI s0)), some (.int z), some (.int (nI O)), some (.int (nI B)), some (.int (nI k)), none, none], [.int (nI B)], (zw_M g (vp_updL gl 45 S) (va_up a 12 f12) al))) 2 rfl ?_
        exact zr_ret rfl trivial ⟨by unfold zw_dr; rw [if_neg h2, if_pos h3, hB2], S, f12, rfl⟩
      · skip
        refine zr_go (t := (128, [some (.ref 0), some (.int (nI k)), some (.int (nI s0)), some (.int z), some (.int (nI O)), some (.int (nI B)), some (.int (nI k)), none, none], [.int S.toInt32], (zw_M g (vp_updL gl 45 S) (va_up a 12 f12) al))) 3 rfl ?_
        exact zr_ret rfl trivial ⟨by unfold zw_dr; rw [if_neg h2, if_neg h3, hS, nL_nI (zk_s_lt hs0 _)], S, f12, rfl⟩
  · skip
    subst hS
    have hq1 : zk_pt (zv_np P N) s0 (2 * k + 1) < zv_np P N := Nat.mod_lt _ hnp0
    have hq2 : zk_pt (zv_np P N) s0 (2 * k + 2) < zv_np P N := Nat.mod_lt _ hnp0
    refine zr_go (t := (26, [some (.ref 0), some (.int (nI n)), some (.int (nI s0)), some (.int z), some (.int (nI O)), some (.int (nI B)), some (.int (nI k)), none, none], [.int (g 6), .ref 0], (zw_M g (vp_updL gl 45 (nL (zk_s s0 (2 * k)))) (va_up a 12 f12) al))) 3 rfl ?_
    rw [hRR.1]
    refine zr_call (t := (29, [some (.ref 0), some (.int (nI n)), some (.int (nI s0)), some (.int z), some (.int (nI O)), some (.int (nI B)), some (.int (nI k)), none, none], [], (zw_M g (vp_updL gl 45 (nL (zk_s s0 (2 * k)))) (va_up a 12 f12) al))) rfl (Nat.le_of_ble_eq_true rfl : 1 ≤ 4) (zs_M_drawOf g gl (va_up a 12 f12) al (zk_s s0 (2 * k)) (zv_np P N) (zk_s_lt hs0 _) hnp0 (by omega)) ?_
    rintro _ _ ⟨rfl, rfl⟩
    show zm_Run zt_get 4 zt_M_drawnNow (29, [some (.ref 0), some (.int (nI n)), some (.int (nI s0)), some (.int z), some (.int (nI O)), some (.int (nI B)), some (.int (nI k)), none, none], [.int (nI (zk_pt (zv_np P N) s0 (2 * k + 1)))], (zw_M g (vp_updL gl 45 (nL (zk_s s0 (2 * k + 1)))) (va_up a 12 f12) al)) _
    refine zr_go (t := (36, [some (.ref 0), some (.int (nI n)), some (.int (nI s0)), some (.int z), some (.int (nI O)), some (.int (nI B)), some (.int (nI k)), some (.int (nI (zk_pt (zv_np P N) s0 (2 * k + 1)))), none], [.int (g 6), .ref 0], (zw_M g (vp_updL gl 45 (nL (zk_s s0 (2 * k + 1)))) (va_up a 12 f12) al))) 4 rfl ?_
    rw [hRR.1]
    refine zr_call (t := (39, [some (.ref 0), some (.int (nI n)), some (.int (nI s0)), some (.int z), some (.int (nI O)), some (.int (nI B)), some (.int (nI k)), some (.int (nI (zk_pt (zv_np P N) s0 (2 * k + 1)))), none], [], (zw_M g (vp_updL gl 45 (nL (zk_s s0 (2 * k + 1)))) (va_up a 12 f12) al))) rfl (Nat.le_of_ble_eq_true rfl : 1 ≤ 4) (zs_M_drawOf g gl (va_up a 12 f12) al (zk_s s0 (2 * k + 1)) (zv_np P N) (zk_s_lt hs0 _) hnp0 (by omega)) ?_
    rintro _ _ ⟨rfl, rfl⟩
    show zm_Run zt_get 4 zt_M_drawnNow (39, [some (.ref 0), some (.int (nI n)), some (.int (nI s0)), some (.int z), some (.int (nI O)), some (.int (nI B)), some (.int (nI k)), some (.int (nI (zk_pt (zv_np P N) s0 (2 * k + 1)))), none], [.int (nI (zk_pt (zv_np P N) s0 (2 * k + 2)))], (zw_M g (vp_updL gl 45 (nL (zk_s s0 (2 * k + 2)))) (va_up a 12 f12) al)) _
    refine zr_go (t := (49, [some (.ref 0), some (.int (nI n)), some (.int (nI s0)), some (.int z), some (.int (nI O)), some (.int (nI B)), some (.int (nI k)), some (.int (nI (zk_pt (zv_np P N) s0 (2 * k + 1)))), some (.int (nI (zk_pt (zv_np P N) s0 (2 * k + 2))))], [.int (nI (zk_pt (zv_np P N) s0 (2 * k + 1))), .ref 5, .int (nI O)], (zw_M g (vp_updL gl 45 (nL (zk_s s0 (2 * k + 2)))) (va_up a 12 f12) al))) 5 rfl ?_
    refine zr_cd (t := (50, [some (.ref 0), some (.int (nI n)), some (.int (nI s0)), some (.int z), some (.int (nI O)), some (.int (nI B)), some (.int (nI k)), some (.int (nI (zk_pt (zv_np P N) s0 (2 * k + 1)))), some (.int (nI (zk_pt (zv_np P N) s0 (2 * k + 2))))], [.int ((a 5) (nI (zk_pt (zv_np P N) s0 (2 * k + 1))).toNatClampNeg), .int (nI O)], (zw_M g (vp_updL gl 45 (nL (zk_s s0 (2 * k + 2)))) (va_up a 12 f12) al))) rfl (pk_in (zk_pt (zv_np P N) s0 (2 * k + 1)) 156 (by omega) rfl (by omega)) ?_
    rw [pk_cl (x := (nI (zk_pt (zv_np P N) s0 (2 * k + 1)))) (zk_pt (zv_np P N) s0 (2 * k + 1)) rfl (by omega)]
    rw [show (a 5) (zk_pt (zv_np P N) s0 (2 * k + 1)) = nI ((zw_oo P N c (zk_pt (zv_np P N) s0 (2 * k + 1))).toNat) from hOO (zk_pt (zv_np P N) s0 (2 * k + 1)) (by omega)]
    have hb1 := zb_le (zw_oo P N c (zk_pt (zv_np P N) s0 (2 * k + 1)))
    have hb2 := zb_le (zw_oo P N c (zk_pt (zv_np P N) s0 (2 * k + 2)))
    have hb3 := zb_le (zv_jn P N (zv_y P N) (zw_oo P N c) (zk_pt (zv_np P N) s0 (2 * k + 1)) (zk_pt (zv_np P N) s0 (2 * k + 2)))
    refine zr_ieq (x := nI ((zw_oo P N c (zk_pt (zv_np P N) s0 (2 * k + 1))).toNat)) (y := 0) ((zw_oo P N c (zk_pt (zv_np P N) s0 (2 * k + 1))).toNat) 0 rfl rfl (by omega) (by omega) (t := (57, [some (.ref 0), some (.int (nI n)), some (.int (nI s0)), some (.int z), some (.int (nI O)), some (.int (nI B)), some (.int (nI k)), some (.int (nI (zk_pt (zv_np P N) s0 (2 * k + 1)))), some (.int (nI (zk_pt (zv_np P N) s0 (2 * k + 2))))], [.int (nI O)], (zw_M g (vp_updL gl 45 (nL (zk_s s0 (2 * k + 2)))) (va_up a 12 f12) al))) (f := (53, [some (.ref 0), some (.int (nI n)), some (.int (nI s0)), some (.int z), some (.int (nI O)), some (.int (nI B)), some (.int (nI k)), some (.int (nI (zk_pt (zv_np P N) s0 (2 * k + 1)))), some (.int (nI (zk_pt (zv_np P N) s0 (2 * k + 2))))], [.int (nI O)], (zw_M g (vp_updL gl 45 (nL (zk_s s0 (2 * k + 2)))) (va_up a 12 f12) al))) rfl (fun h4 => ?_) (fun h4 => ?_)
    · skip
      have e1 := zb_0 h4
      refine zr_go (t := (64, [some (.ref 0), some (.int (nI n)), some (.int (nI s0)), some (.int z), some (.int (nI O)), some (.int (nI B)), some (.int (nI k)), some (.int (nI (zk_pt (zv_np P N) s0 (2 * k + 1)))), some (.int (nI (zk_pt (zv_np P N) s0 (2 * k + 2))))], [.int (nI (zk_pt (zv_np P N) s0 (2 * k + 2))), .ref 5, .int 0, .int (nI O)], (zw_M g (vp_updL gl 45 (nL (zk_s s0 (2 * k + 2)))) (va_up a 12 f12) al))) 4 rfl ?_
      refine zr_cd (t := (65, [some (.ref 0), some (.int (nI n)), some (.int (nI s0)), some (.int z), some (.int (nI O)), some (.int (nI B)), some (.int (nI k)), some (.int (nI (zk_pt (zv_np P N) s0 (2 * k + 1)))), some (.int (nI (zk_pt (zv_np P N) s0 (2 * k + 2))))], [.int ((a 5) (nI (zk_pt (zv_np P N) s0 (2 * k + 2))).toNatClampNeg), .int 0, .int (nI O)], (zw_M g (vp_updL gl 45 (nL (zk_s s0 (2 * k + 2)))) (va_up a 12 f12) al))) rfl (pk_in (zk_pt (zv_np P N) s0 (2 * k + 2)) 156 (by omega) rfl (by omega)) ?_
      rw [pk_cl (x := (nI (zk_pt (zv_np P N) s0 (2 * k + 2)))) (zk_pt (zv_np P N) s0 (2 * k + 2)) rfl (by omega)]
      rw [show (a 5) (zk_pt (zv_np P N) s0 (2 * k + 2)) = nI ((zw_oo P N c (zk_pt (zv_np P N) s0 (2 * k + 2))).toNat) from hOO (zk_pt (zv_np P N) s0 (2 * k + 2)) (by omega)]
      refine zr_ieq (x := nI ((zw_oo P N c (zk_pt (zv_np P N) s0 (2 * k + 2))).toNat)) (y := 0) ((zw_oo P N c (zk_pt (zv_np P N) s0 (2 * k + 2))).toNat) 0 rfl rfl (by omega) (by omega) (t := (72, [some (.ref 0), some (.int (nI n)), some (.int (nI s0)), some (.int z), some (.int (nI O)), some (.int (nI B)), some (.int (nI k)), some (.int (nI (zk_pt (zv_np P N) s0 (2 * k + 1)))), some (.int (nI (zk_pt (zv_np P N) s0 (2 * k + 2))))], [.int 0, .int (nI O)], (zw_M g (vp_updL gl 45 (nL (zk_s s0 (2 * k + 2)))) (va_up a 12 f12) al))) (f := (68, [some (.ref 0), some (.int (nI n)), some (.int (nI s0)), some (.int z), some (.int (nI O)), some (.int (nI B)), some (.int (nI k)), some (.int (nI (zk_pt (zv_np P N) s0 (2 * k + 1)))), some (.int (nI (zk_pt (zv_np P N) s0 (2 * k + 2))))], [.int 0, .int (nI O)], (zw_M g (vp_updL gl 45 (nL (zk_s s0 (2 * k + 2)))) (va_up a 12 f12) al))) rfl (fun h5 => ?_) (fun h5 => ?_)
      · skip
        have e2 := zb_0 h5
        refine zr_go (t := (84, [some (.ref 0), some (.int (nI n)), some (.int (nI s0)), some (.int z), some (.int ((nI O) + (0 + 0))), some (.int (nI B)), some (.int (nI k)), some (.int (nI (zk_pt (zv_np P N) s0 (2 * k + 1)))), some (.int (nI (zk_pt (zv_np P N) s0 (2 * k + 2))))], [.int (nI (zk_pt (zv_np P N) s0 (2 * k + 2))), .int (nI (zk_pt (zv_np P N) s0 (2 * k + 1))), .ref 0, .int (nI B)], (zw_M g (vp_updL gl 45 (nL (zk_s s0 (2 * k + 2)))) (va_up a 12 f12) al))) 8 rfl ?_
        refine zr_call (t := (87, [some (.ref 0), some (.int (nI n)), some (.int (nI s0)), some (.int z), some (.int ((nI O) + (0 + 0))), some (.int (nI B)), some (.int (nI k)), some (.int (nI (zk_pt (zv_np P N) s0 (2 * k + 1)))), some (.int (nI (zk_pt (zv_np P N) s0 (2 * k + 2))))], [.int (nI B)], (zw_M g (vp_updL gl 45 (nL (zk_s s0 (2 * k + 2)))) (va_up a 12 f12) al))) rfl (Nat.le_of_ble_eq_true rfl : 4 ≤ 4) (zs_M_isJoined g (vp_updL gl 45 (nL (zk_s s0 (2 * k + 2)))) (va_up a 12 f12) al P N hP hN hok.1 hN6 hA hnum (zv_np P N) (zv_y P N) hRR (zw_oo P N c) hOO (zk_pt (zv_np P N) s0 (2 * k + 1)) (zk_pt (zv_np P N) s0 (2 * k + 2)) hq1 hq2 (zv_hv2 hok hq1 hq2)) ?_
        rintro _ _ ⟨rfl, e12, rfl⟩
        show zm_Run zt_get 4 zt_M_drawnNow (87, [some (.ref 0), some (.int (nI n)), some (.int (nI s0)), some (.int z), some (.int ((nI O) + (0 + 0))), some (.int (nI B)), some (.int (nI k)), some (.int (nI (zk_pt (zv_np P N) s0 (2 * k + 1)))), some (.int (nI (zk_pt (zv_np P N) s0 (2 * k + 2))))], [.int (nI ((zv_jn P N (zv_y P N) (zw_oo P N c) (zk_pt (zv_np P N) s0 (2 * k + 1)) (zk_pt (zv_np P N) s0 (2 * k + 2))).toNat)), .int (nI B)], (zw_M g (vp_updL gl 45 (nL (zk_s s0 (2 * k + 2)))) (va_up a 12 e12) al)) _
        refine zr_ieq (x := nI ((zv_jn P N (zv_y P N) (zw_oo P N c) (zk_pt (zv_np P N) s0 (2 * k + 1)) (zk_pt (zv_np P N) s0 (2 * k + 2))).toNat)) (y := 0) ((zv_jn P N (zv_y P N) (zw_oo P N c) (zk_pt (zv_np P N) s0 (2 * k + 1)) (zk_pt (zv_np P N) s0 (2 * k + 2))).toNat) 0 rfl rfl (by omega) (by omega) (t := (94, [some (.ref 0), some (.int (nI n)), some (.int (nI s0)), some (.int z), some (.int ((nI O) + (0 + 0))), some (.int (nI B)), some (.int (nI k)), some (.int (nI (zk_pt (zv_np P N) s0 (2 * k + 1)))), some (.int (nI (zk_pt (zv_np P N) s0 (2 * k + 2))))], [.int (nI B)], (zw_M g (vp_updL gl 45 (nL (zk_s s0 (2 * k + 2)))) (va_up a 12 e12) al))) (f := (90, [some (.ref 0), some (.int (nI n)), some (.int (nI s0)), some (.int z), some (.int ((nI O) + (0 + 0))), some (.int (nI B)), some (.int (nI k)), some (.int (nI (zk_pt (zv_np P N) s0 (2 * k + 1)))), some (.int (nI (zk_pt (zv_np P N) s0 (2 * k + 2))))], [.int (nI B)], (zw_M g (vp_updL gl 45 (nL (zk_s s0 (2 * k + 2)))) (va_up a 12 e12) al))) rfl (fun h7 => ?_) (fun h7 => ?_)
        · skip
          refine zr_go (t := (15, [some (.ref 0), some (.int (nI n)), some (.int (nI s0)), some (.int z), some (.int ((nI O) + (0 + 0))), some (.int ((nI B) + 0)), some (.int ((nI k) + 1)), some (.int (nI (zk_pt (zv_np P N) s0 (2 * k + 1)))), some (.int (nI (zk_pt (zv_np P N) s0 (2 * k + 2))))], [], (zw_M g (vp_updL gl 45 (nL (zk_s s0 (2 * k + 2)))) (va_up a 12 e12) al))) 5 rfl ?_
          rw [show (nI O) + (0 + 0) = nI (O + (0 + 0)) from (zn_add rfl (zn_add rfl rfl))]
          rw [show (nI B) + 0 = nI (B + 0) from (zn_add rfl rfl)]
          rw [show (nI k) + 1 = nI (k + 1) from (zn_add rfl rfl)]
          refine zr_forget [some (.ref 0), some (.int (nI n)), some (.int (nI s0)), some (.int z), some (.int (nI (O + (0 + 0)))), some (.int (nI (B + 0))), some (.int (nI (k + 1))), none, none] ⟨Or.inr rfl, Or.inr rfl, Or.inr rfl, Or.inr rfl, Or.inr rfl, Or.inr rfl, Or.inr rfl, Or.inl rfl, Or.inl rfl, trivial⟩ ?_
          exact ih (k + 1, O + (0 + 0), B + 0, nL (zk_s s0 (2 * (k + 1))), e12) ⟨by omega, by rw [hO]; show _ = _ + zk_on (zv_np P N) s0 (zw_oo P N c) k; unfold zk_on; rw [e1, e2]; rfl, by rw [hB2]; show _ = _ + zk_pr P N (zv_np P N) s0 (zv_y P N) (zw_oo P N c) k; unfold zk_pr; rw [zb_0 h7]; rfl, rfl⟩ (by omega)
        · skip
          refine zr_go (t := (15, [some (.ref 0), some (.int (nI n)), some (.int (nI s0)), some (.int z), some (.int ((nI O) + (0 + 0))), some (.int ((nI B) + 1)), some (.int ((nI k) + 1)), some (.int (nI (zk_pt (zv_np P N) s0 (2 * k + 1)))), some (.int (nI (zk_pt (zv_np P N) s0 (2 * k + 2))))], [], (zw_M g (vp_updL gl 45 (nL (zk_s s0 (2 * k + 2)))) (va_up a 12 e12) al))) 6 rfl ?_
          rw [show (nI O) + (0 + 0) = nI (O + (0 + 0)) from (zn_add rfl (zn_add rfl rfl))]
          rw [show (nI B) + 1 = nI (B + 1) from (zn_add rfl rfl)]
          rw [show (nI k) + 1 = nI (k + 1) from (zn_add rfl rfl)]
          refine zr_forget [some (.ref 0), some (.int (nI n)), some (.int (nI s0)), some (.int z), some (.int (nI (O + (0 + 0)))), some (.int (nI (B + 1))), some (.int (nI (k + 1))), none, none] ⟨Or.inr rfl, Or.inr rfl, Or.inr rfl, Or.inr rfl, Or.inr rfl, Or.inr rfl, Or.inr rfl, Or.inl rfl, Or.inl rfl, trivial⟩ ?_
          exact ih (k + 1, O + (0 + 0), B + 1, nL (zk_s s0 (2 * (k + 1))), e12) ⟨by omega, by rw [hO]; show _ = _ + zk_on (zv_np P N) s0 (zw_oo P N c) k; unfold zk_on; rw [e1, e2]; rfl, by rw [hB2]; show _ = _ + zk_pr P N (zv_np P N) s0 (zv_y P N) (zw_oo P N c) k; unfold zk_pr; rw [zb_1 h7]; rfl, rfl⟩ (by omega)
      · skip
        have e2 := zb_1 h5
        refine zr_go (t := (84, [some (.ref 0), some (.int (nI n)), some (.int (nI s0)), some (.int z), some (.int ((nI O) + (0 + 1))), some (.int (nI B)), some (.int (nI k)), some (.int (nI (zk_pt (zv_np P N) s0 (2 * k + 1)))), some (.int (nI (zk_pt (zv_np P N) s0 (2 * k + 2))))], [.int (nI (zk_pt (zv_np P N) s0 (2 * k + 2))), .int (nI (zk_pt (zv_np P N) s0 (2 * k + 1))), .ref 0, .int (nI B)], (zw_M g (vp_updL gl 45 (nL (zk_s s0 (2 * k + 2)))) (va_up a 12 f12) al))) 9 rfl ?_
        refine zr_call (t := (87, [some (.ref 0), some (.int (nI n)), some (.int (nI s0)), some (.int z), some (.int ((nI O) + (0 + 1))), some (.int (nI B)), some (.int (nI k)), some (.int (nI (zk_pt (zv_np P N) s0 (2 * k + 1)))), some (.int (nI (zk_pt (zv_np P N) s0 (2 * k + 2))))], [.int (nI B)], (zw_M g (vp_updL gl 45 (nL (zk_s s0 (2 * k + 2)))) (va_up a 12 f12) al))) rfl (Nat.le_of_ble_eq_true rfl : 4 ≤ 4) (zs_M_isJoined g (vp_updL gl 45 (nL (zk_s s0 (2 * k + 2)))) (va_up a 12 f12) al P N hP hN hok.1 hN6 hA hnum (zv_np P N) (zv_y P N) hRR (zw_oo P N c) hOO (zk_pt (zv_np P N) s0 (2 * k + 1)) (zk_pt (zv_np P N) s0 (2 * k + 2)) hq1 hq2 (zv_hv2 hok hq1 hq2)) ?_
        rintro _ _ ⟨rfl, e12, rfl⟩
        show zm_Run zt_get 4 zt_M_drawnNow (87, [some (.ref 0), some (.int (nI n)), some (.int (nI s0)), some (.int z), some (.int ((nI O) + (0 + 1))), some (.int (nI B)), some (.int (nI k)), some (.int (nI (zk_pt (zv_np P N) s0 (2 * k + 1)))), some (.int (nI (zk_pt (zv_np P N) s0 (2 * k + 2))))], [.int (nI ((zv_jn P N (zv_y P N) (zw_oo P N c) (zk_pt (zv_np P N) s0 (2 * k + 1)) (zk_pt (zv_np P N) s0 (2 * k + 2))).toNat)), .int (nI B)], (zw_M g (vp_updL gl 45 (nL (zk_s s0 (2 * k + 2)))) (va_up a 12 e12) al)) _
        refine zr_ieq (x := nI ((zv_jn P N (zv_y P N) (zw_oo P N c) (zk_pt (zv_np P N) s0 (2 * k + 1)) (zk_pt (zv_np P N) s0 (2 * k + 2))).toNat)) (y := 0) ((zv_jn P N (zv_y P N) (zw_oo P N c) (zk_pt (zv_np P N) s0 (2 * k + 1)) (zk_pt (zv_np P N) s0 (2 * k + 2))).toNat) 0 rfl rfl (by omega) (by omega) (t := (94, [some (.ref 0), some (.int (nI n)), some (.int (nI s0)), some (.int z), some (.int ((nI O) + (0 + 1))), some (.int (nI B)), some (.int (nI k)), some (.int (nI (zk_pt (zv_np P N) s0 (2 * k + 1)))), some (.int (nI (zk_pt (zv_np P N) s0 (2 * k + 2))))], [.int (nI B)], (zw_M g (vp_updL gl 45 (nL (zk_s s0 (2 * k + 2)))) (va_up a 12 e12) al))) (f := (90, [some (.ref 0), some (.int (nI n)), some (.int (nI s0)), some (.int z), some (.int ((nI O) + (0 + 1))), some (.int (nI B)), some (.int (nI k)), some (.int (nI (zk_pt (zv_np P N) s0 (2 * k + 1)))), some (.int (nI (zk_pt (zv_np P N) s0 (2 * k + 2))))], [.int (nI B)], (zw_M g (vp_updL gl 45 (nL (zk_s s0 (2 * k + 2)))) (va_up a 12 e12) al))) rfl (fun h7 => ?_) (fun h7 => ?_)
        · skip
          refine zr_go (t := (15, [some (.ref 0), some (.int (nI n)), some (.int (nI s0)), some (.int z), some (.int ((nI O) + (0 + 1))), some (.int ((nI B) + 0)), some (.int ((nI k) + 1)), some (.int (nI (zk_pt (zv_np P N) s0 (2 * k + 1)))), some (.int (nI (zk_pt (zv_np P N) s0 (2 * k + 2))))], [], (zw_M g (vp_updL gl 45 (nL (zk_s s0 (2 * k + 2)))) (va_up a 12 e12) al))) 5 rfl ?_
          rw [show (nI O) + (0 + 1) = nI (O + (0 + 1)) from (zn_add rfl (zn_add rfl rfl))]
          rw [show (nI B) + 0 = nI (B + 0) from (zn_add rfl rfl)]
          rw [show (nI k) + 1 = nI (k + 1) from (zn_add rfl rfl)]
          refine zr_forget [some (.ref 0), some (.int (nI n)), some (.int (nI s0)), some (.int z), some (.int (nI (O + (0 + 1)))), some (.int (nI (B + 0))), some (.int (nI (k + 1))), none, none] ⟨Or.inr rfl, Or.inr rfl, Or.inr rfl, Or.inr rfl, Or.inr rfl, Or.inr rfl, Or.inr rfl, Or.inl rfl, Or.inl rfl, trivial⟩ ?_
          exact ih (k + 1, O + (0 + 1), B + 0, nL (zk_s s0 (2 * (k + 1))), e12) ⟨by omega, by rw [hO]; show _ = _ + zk_on (zv_np P N) s0 (zw_oo P N c) k; unfold zk_on; rw [e1, e2]; rfl, by rw [hB2]; show _ = _ + zk_pr P N (zv_np P N) s0 (zv_y P N) (zw_oo P N c) k; unfold zk_pr; rw [zb_0 h7]; rfl, rfl⟩ (by omega)
        · skip
          refine zr_go (t := (15, [some (.ref 0), some (.int (nI n)), some (.int (nI s0)), some (.int z), some (.int ((nI O) + (0 + 1))), some (.int ((nI B) + 1)), some (.int ((nI k) + 1)), some (.int (nI (zk_pt (zv_np P N) s0 (2 * k + 1)))), some (.int (nI (zk_pt (zv_np P N) s0 (2 * k + 2))))], [], (zw_M g (vp_updL gl 45 (nL (zk_s s0 (2 * k + 2)))) (va_up a 12 e12) al))) 6 rfl ?_
          rw [show (nI O) + (0 + 1) = nI (O + (0 + 1)) from (zn_add rfl (zn_add rfl rfl))]
          rw [show (nI B) + 1 = nI (B + 1) from (zn_add rfl rfl)]
          rw [show (nI k) + 1 = nI (k + 1) from (zn_add rfl rfl)]
          refine zr_forget [some (.ref 0), some (.int (nI n)), some (.int (nI s0)), some (.int z), some (.int (nI (O + (0 + 1)))), some (.int (nI (B + 1))), some (.int (nI (k + 1))), none, none] ⟨Or.inr rfl, Or.inr rfl, Or.inr rfl, Or.inr rfl, Or.inr rfl, Or.inr rfl, Or.inr rfl, Or.inl rfl, Or.inl rfl, trivial⟩ ?_
          exact ih (k + 1, O + (0 + 1), B + 1, nL (zk_s s0 (2 * (k + 1))), e12) ⟨by omega, by rw [hO]; show _ = _ + zk_on (zv_np P N) s0 (zw_oo P N c) k; unfold zk_on; rw [e1, e2]; rfl, by rw [hB2]; show _ = _ + zk_pr P N (zv_np P N) s0 (zv_y P N) (zw_oo P N c) k; unfold zk_pr; rw [zb_1 h7]; rfl, rfl⟩ (by omega)
    · skip
      have e1 := zb_1 h4
      refine zr_go (t := (64, [some (.ref 0), some (.int (nI n)), some (.int (nI s0)), some (.int z), some (.int (nI O)), some (.int (nI B)), some (.int (nI k)), some (.int (nI (zk_pt (zv_np P N) s0 (2 * k + 1)))), some (.int (nI (zk_pt (zv_np P N) s0 (2 * k + 2))))], [.int (nI (zk_pt (zv_np P N) s0 (2 * k + 2))), .ref 5, .int 1, .int (nI O)], (zw_M g (vp_updL gl 45 (nL (zk_s s0 (2 * k + 2)))) (va_up a 12 f12) al))) 5 rfl ?_
      refine zr_cd (t := (65, [some (.ref 0), some (.int (nI n)), some (.int (nI s0)), some (.int z), some (.int (nI O)), some (.int (nI B)), some (.int (nI k)), some (.int (nI (zk_pt (zv_np P N) s0 (2 * k + 1)))), some (.int (nI (zk_pt (zv_np P N) s0 (2 * k + 2))))], [.int ((a 5) (nI (zk_pt (zv_np P N) s0 (2 * k + 2))).toNatClampNeg), .int 1, .int (nI O)], (zw_M g (vp_updL gl 45 (nL (zk_s s0 (2 * k + 2)))) (va_up a 12 f12) al))) rfl (pk_in (zk_pt (zv_np P N) s0 (2 * k + 2)) 156 (by omega) rfl (by omega)) ?_
      rw [pk_cl (x := (nI (zk_pt (zv_np P N) s0 (2 * k + 2)))) (zk_pt (zv_np P N) s0 (2 * k + 2)) rfl (by omega)]
      rw [show (a 5) (zk_pt (zv_np P N) s0 (2 * k + 2)) = nI ((zw_oo P N c (zk_pt (zv_np P N) s0 (2 * k + 2))).toNat) from hOO (zk_pt (zv_np P N) s0 (2 * k + 2)) (by omega)]
      refine zr_ieq (x := nI ((zw_oo P N c (zk_pt (zv_np P N) s0 (2 * k + 2))).toNat)) (y := 0) ((zw_oo P N c (zk_pt (zv_np P N) s0 (2 * k + 2))).toNat) 0 rfl rfl (by omega) (by omega) (t := (72, [some (.ref 0), some (.int (nI n)), some (.int (nI s0)), some (.int z), some (.int (nI O)), some (.int (nI B)), some (.int (nI k)), some (.int (nI (zk_pt (zv_np P N) s0 (2 * k + 1)))), some (.int (nI (zk_pt (zv_np P N) s0 (2 * k + 2))))], [.int 1, .int (nI O)], (zw_M g (vp_updL gl 45 (nL (zk_s s0 (2 * k + 2)))) (va_up a 12 f12) al))) (f := (68, [some (.ref 0), some (.int (nI n)), some (.int (nI s0)), some (.int z), some (.int (nI O)), some (.int (nI B)), some (.int (nI k)), some (.int (nI (zk_pt (zv_np P N) s0 (2 * k + 1)))), some (.int (nI (zk_pt (zv_np P N) s0 (2 * k + 2))))], [.int 1, .int (nI O)], (zw_M g (vp_updL gl 45 (nL (zk_s s0 (2 * k + 2)))) (va_up a 12 f12) al))) rfl (fun h5 => ?_) (fun h5 => ?_)
      · skip
        have e2 := zb_0 h5
        refine zr_go (t := (84, [some (.ref 0), some (.int (nI n)), some (.int (nI s0)), some (.int z), some (.int ((nI O) + (1 + 0))), some (.int (nI B)), some (.int (nI k)), some (.int (nI (zk_pt (zv_np P N) s0 (2 * k + 1)))), some (.int (nI (zk_pt (zv_np P N) s0 (2 * k + 2))))], [.int (nI (zk_pt (zv_np P N) s0 (2 * k + 2))), .int (nI (zk_pt (zv_np P N) s0 (2 * k + 1))), .ref 0, .int (nI B)], (zw_M g (vp_updL gl 45 (nL (zk_s s0 (2 * k + 2)))) (va_up a 12 f12) al))) 8 rfl ?_
        refine zr_call (t := (87, [some (.ref 0), some (.int (nI n)), some (.int (nI s0)), some (.int z), some (.int ((nI O) + (1 + 0))), some (.int (nI B)), some (.int (nI k)), some (.int (nI (zk_pt (zv_np P N) s0 (2 * k + 1)))), some (.int (nI (zk_pt (zv_np P N) s0 (2 * k + 2))))], [.int (nI B)], (zw_M g (vp_updL gl 45 (nL (zk_s s0 (2 * k + 2)))) (va_up a 12 f12) al))) rfl (Nat.le_of_ble_eq_true rfl : 4 ≤ 4) (zs_M_isJoined g (vp_updL gl 45 (nL (zk_s s0 (2 * k + 2)))) (va_up a 12 f12) al P N hP hN hok.1 hN6 hA hnum (zv_np P N) (zv_y P N) hRR (zw_oo P N c) hOO (zk_pt (zv_np P N) s0 (2 * k + 1)) (zk_pt (zv_np P N) s0 (2 * k + 2)) hq1 hq2 (zv_hv2 hok hq1 hq2)) ?_
        rintro _ _ ⟨rfl, e12, rfl⟩
        show zm_Run zt_get 4 zt_M_drawnNow (87, [some (.ref 0), some (.int (nI n)), some (.int (nI s0)), some (.int z), some (.int ((nI O) + (1 + 0))), some (.int (nI B)), some (.int (nI k)), some (.int (nI (zk_pt (zv_np P N) s0 (2 * k + 1)))), some (.int (nI (zk_pt (zv_np P N) s0 (2 * k + 2))))], [.int (nI ((zv_jn P N (zv_y P N) (zw_oo P N c) (zk_pt (zv_np P N) s0 (2 * k + 1)) (zk_pt (zv_np P N) s0 (2 * k + 2))).toNat)), .int (nI B)], (zw_M g (vp_updL gl 45 (nL (zk_s s0 (2 * k + 2)))) (va_up a 12 e12) al)) _
        refine zr_ieq (x := nI ((zv_jn P N (zv_y P N) (zw_oo P N c) (zk_pt (zv_np P N) s0 (2 * k + 1)) (zk_pt (zv_np P N) s0 (2 * k + 2))).toNat)) (y := 0) ((zv_jn P N (zv_y P N) (zw_oo P N c) (zk_pt (zv_np P N) s0 (2 * k + 1)) (zk_pt (zv_np P N) s0 (2 * k + 2))).toNat) 0 rfl rfl (by omega) (by omega) (t := (94, [some (.ref 0), some (.int (nI n)), some (.int (nI s0)), some (.int z), some (.int ((nI O) + (1 + 0))), some (.int (nI B)), some (.int (nI k)), some (.int (nI (zk_pt (zv_np P N) s0 (2 * k + 1)))), some (.int (nI (zk_pt (zv_np P N) s0 (2 * k + 2))))], [.int (nI B)], (zw_M g (vp_updL gl 45 (nL (zk_s s0 (2 * k + 2)))) (va_up a 12 e12) al))) (f := (90, [some (.ref 0), some (.int (nI n)), some (.int (nI s0)), some (.int z), some (.int ((nI O) + (1 + 0))), some (.int (nI B)), some (.int (nI k)), some (.int (nI (zk_pt (zv_np P N) s0 (2 * k + 1)))), some (.int (nI (zk_pt (zv_np P N) s0 (2 * k + 2))))], [.int (nI B)], (zw_M g (vp_updL gl 45 (nL (zk_s s0 (2 * k + 2)))) (va_up a 12 e12) al))) rfl (fun h7 => ?_) (fun h7 => ?_)
        · skip
          refine zr_go (t := (15, [some (.ref 0), some (.int (nI n)), some (.int (nI s0)), some (.int z), some (.int ((nI O) + (1 + 0))), some (.int ((nI B) + 0)), some (.int ((nI k) + 1)), some (.int (nI (zk_pt (zv_np P N) s0 (2 * k + 1)))), some (.int (nI (zk_pt (zv_np P N) s0 (2 * k + 2))))], [], (zw_M g (vp_updL gl 45 (nL (zk_s s0 (2 * k + 2)))) (va_up a 12 e12) al))) 5 rfl ?_
          rw [show (nI O) + (1 + 0) = nI (O + (1 + 0)) from (zn_add rfl (zn_add rfl rfl))]
          rw [show (nI B) + 0 = nI (B + 0) from (zn_add rfl rfl)]
          rw [show (nI k) + 1 = nI (k + 1) from (zn_add rfl rfl)]
          refine zr_forget [some (.ref 0), some (.int (nI n)), some (.int (nI s0)), some (.int z), some (.int (nI (O + (1 + 0)))), some (.int (nI (B + 0))), some (.int (nI (k + 1))), none, none] ⟨Or.inr rfl, Or.inr rfl, Or.inr rfl, Or.inr rfl, Or.inr rfl, Or.inr rfl, Or.inr rfl, Or.inl rfl, Or.inl rfl, trivial⟩ ?_
          exact ih (k + 1, O + (1 + 0), B + 0, nL (zk_s s0 (2 * (k + 1))), e12) ⟨by omega, by rw [hO]; show _ = _ + zk_on (zv_np P N) s0 (zw_oo P N c) k; unfold zk_on; rw [e1, e2]; rfl, by rw [hB2]; show _ = _ + zk_pr P N (zv_np P N) s0 (zv_y P N) (zw_oo P N c) k; unfold zk_pr; rw [zb_0 h7]; rfl, rfl⟩ (by omega)
        · skip
          refine zr_go (t := (15, [some (.ref 0), some (.int (nI n)), some (.int (nI s0)), some (.int z), some (.int ((nI O) + (1 + 0))), some (.int ((nI B) + 1)), some (.int ((nI k) + 1)), some (.int (nI (zk_pt (zv_np P N) s0 (2 * k + 1)))), some (.int (nI (zk_pt (zv_np P N) s0 (2 * k + 2))))], [], (zw_M g (vp_updL gl 45 (nL (zk_s s0 (2 * k + 2)))) (va_up a 12 e12) al))) 6 rfl ?_
          rw [show (nI O) + (1 + 0) = nI (O + (1 + 0)) from (zn_add rfl (zn_add rfl rfl))]
          rw [show (nI B) + 1 = nI (B + 1) from (zn_add rfl rfl)]
          rw [show (nI k) + 1 = nI (k + 1) from (zn_add rfl rfl)]
          refine zr_forget [some (.ref 0), some (.int (nI n)), some (.int (nI s0)), some (.int z), some (.int (nI (O + (1 + 0)))), some (.int (nI (B + 1))), some (.int (nI (k + 1))), none, none] ⟨Or.inr rfl, Or.inr rfl, Or.inr rfl, Or.inr rfl, Or.inr rfl, Or.inr rfl, Or.inr rfl, Or.inl rfl, Or.inl rfl, trivial⟩ ?_
          exact ih (k + 1, O + (1 + 0), B + 1, nL (zk_s s0 (2 * (k + 1))), e12) ⟨by omega, by rw [hO]; show _ = _ + zk_on (zv_np P N) s0 (zw_oo P N c) k; unfold zk_on; rw [e1, e2]; rfl, by rw [hB2]; show _ = _ + zk_pr P N (zv_np P N) s0 (zv_y P N) (zw_oo P N c) k; unfold zk_pr; rw [zb_1 h7]; rfl, rfl⟩ (by omega)
      · skip
        have e2 := zb_1 h5
        refine zr_go (t := (84, [some (.ref 0), some (.int (nI n)), some (.int (nI s0)), some (.int z), some (.int ((nI O) + (1 + 1))), some (.int (nI B)), some (.int (nI k)), some (.int (nI (zk_pt (zv_np P N) s0 (2 * k + 1)))), some (.int (nI (zk_pt (zv_np P N) s0 (2 * k + 2))))], [.int (nI (zk_pt (zv_np P N) s0 (2 * k + 2))), .int (nI (zk_pt (zv_np P N) s0 (2 * k + 1))), .ref 0, .int (nI B)], (zw_M g (vp_updL gl 45 (nL (zk_s s0 (2 * k + 2)))) (va_up a 12 f12) al))) 9 rfl ?_
        refine zr_call (t := (87, [some (.ref 0), some (.int (nI n)), some (.int (nI s0)), some (.int z), some (.int ((nI O) + (1 + 1))), some (.int (nI B)), some (.int (nI k)), some (.int (nI (zk_pt (zv_np P N) s0 (2 * k + 1)))), some (.int (nI (zk_pt (zv_np P N) s0 (2 * k + 2))))], [.int (nI B)], (zw_M g (vp_updL gl 45 (nL (zk_s s0 (2 * k + 2)))) (va_up a 12 f12) al))) rfl (Nat.le_of_ble_eq_true rfl : 4 ≤ 4) (zs_M_isJoined g (vp_updL gl 45 (nL (zk_s s0 (2 * k + 2)))) (va_up a 12 f12) al P N hP hN hok.1 hN6 hA hnum (zv_np P N) (zv_y P N) hRR (zw_oo P N c) hOO (zk_pt (zv_np P N) s0 (2 * k + 1)) (zk_pt (zv_np P N) s0 (2 * k + 2)) hq1 hq2 (zv_hv2 hok hq1 hq2)) ?_
        rintro _ _ ⟨rfl, e12, rfl⟩
        show zm_Run zt_get 4 zt_M_drawnNow (87, [some (.ref 0), some (.int (nI n)), some (.int (nI s0)), some (.int z), some (.int ((nI O) + (1 + 1))), some (.int (nI B)), some (.int (nI k)), some (.int (nI (zk_pt (zv_np P N) s0 (2 * k + 1)))), some (.int (nI (zk_pt (zv_np P N) s0 (2 * k + 2))))], [.int (nI ((zv_jn P N (zv_y P N) (zw_oo P N c) (zk_pt (zv_np P N) s0 (2 * k + 1)) (zk_pt (zv_np P N) s0 (2 * k + 2))).toNat)), .int (nI B)], (zw_M g (vp_updL gl 45 (nL (zk_s s0 (2 * k + 2)))) (va_up a 12 e12) al)) _
        refine zr_ieq (x := nI ((zv_jn P N (zv_y P N) (zw_oo P N c) (zk_pt (zv_np P N) s0 (2 * k + 1)) (zk_pt (zv_np P N) s0 (2 * k + 2))).toNat)) (y := 0) ((zv_jn P N (zv_y P N) (zw_oo P N c) (zk_pt (zv_np P N) s0 (2 * k + 1)) (zk_pt (zv_np P N) s0 (2 * k + 2))).toNat) 0 rfl rfl (by omega) (by omega) (t := (94, [some (.ref 0), some (.int (nI n)), some (.int (nI s0)), some (.int z), some (.int ((nI O) + (1 + 1))), some (.int (nI B)), some (.int (nI k)), some (.int (nI (zk_pt (zv_np P N) s0 (2 * k + 1)))), some (.int (nI (zk_pt (zv_np P N) s0 (2 * k + 2))))], [.int (nI B)], (zw_M g (vp_updL gl 45 (nL (zk_s s0 (2 * k + 2)))) (va_up a 12 e12) al))) (f := (90, [some (.ref 0), some (.int (nI n)), some (.int (nI s0)), some (.int z), some (.int ((nI O) + (1 + 1))), some (.int (nI B)), some (.int (nI k)), some (.int (nI (zk_pt (zv_np P N) s0 (2 * k + 1)))), some (.int (nI (zk_pt (zv_np P N) s0 (2 * k + 2))))], [.int (nI B)], (zw_M g (vp_updL gl 45 (nL (zk_s s0 (2 * k + 2)))) (va_up a 12 e12) al))) rfl (fun h7 => ?_) (fun h7 => ?_)
        · skip
          refine zr_go (t := (15, [some (.ref 0), some (.int (nI n)), some (.int (nI s0)), some (.int z), some (.int ((nI O) + (1 + 1))), some (.int ((nI B) + 0)), some (.int ((nI k) + 1)), some (.int (nI (zk_pt (zv_np P N) s0 (2 * k + 1)))), some (.int (nI (zk_pt (zv_np P N) s0 (2 * k + 2))))], [], (zw_M g (vp_updL gl 45 (nL (zk_s s0 (2 * k + 2)))) (va_up a 12 e12) al))) 5 rfl ?_
          rw [show (nI O) + (1 + 1) = nI (O + (1 + 1)) from (zn_add rfl (zn_add rfl rfl))]
          rw [show (nI B) + 0 = nI (B + 0) from (zn_add rfl rfl)]
          rw [show (nI k) + 1 = nI (k + 1) from (zn_add rfl rfl)]
          refine zr_forget [some (.ref 0), some (.int (nI n)), some (.int (nI s0)), some (.int z), some (.int (nI (O + (1 + 1)))), some (.int (nI (B + 0))), some (.int (nI (k + 1))), none, none] ⟨Or.inr rfl, Or.inr rfl, Or.inr rfl, Or.inr rfl, Or.inr rfl, Or.inr rfl, Or.inr rfl, Or.inl rfl, Or.inl rfl, trivial⟩ ?_
          exact ih (k + 1, O + (1 + 1), B + 0, nL (zk_s s0 (2 * (k + 1))), e12) ⟨by omega, by rw [hO]; show _ = _ + zk_on (zv_np P N) s0 (zw_oo P N c) k; unfold zk_on; rw [e1, e2]; rfl, by rw [hB2]; show _ = _ + zk_pr P N (zv_np P N) s0 (zv_y P N) (zw_oo P N c) k; unfold zk_pr; rw [zb_0 h7]; rfl, rfl⟩ (by omega)
        · skip
          refine zr_go (t := (15, [some (.ref 0), some (.int (nI n)), some (.int (nI s0)), some (.int z), some (.int ((nI O) + (1 + 1))), some (.int ((nI B) + 1)), some (.int ((nI k) + 1)), some (.int (nI (zk_pt (zv_np P N) s0 (2 * k + 1)))), some (.int (nI (zk_pt (zv_np P N) s0 (2 * k + 2))))], [], (zw_M g (vp_updL gl 45 (nL (zk_s s0 (2 * k + 2)))) (va_up a 12 e12) al))) 6 rfl ?_
          rw [show (nI O) + (1 + 1) = nI (O + (1 + 1)) from (zn_add rfl (zn_add rfl rfl))]
          rw [show (nI B) + 1 = nI (B + 1) from (zn_add rfl rfl)]
          rw [show (nI k) + 1 = nI (k + 1) from (zn_add rfl rfl)]
          refine zr_forget [some (.ref 0), some (.int (nI n)), some (.int (nI s0)), some (.int z), some (.int (nI (O + (1 + 1)))), some (.int (nI (B + 1))), some (.int (nI (k + 1))), none, none] ⟨Or.inr rfl, Or.inr rfl, Or.inr rfl, Or.inr rfl, Or.inr rfl, Or.inr rfl, Or.inr rfl, Or.inl rfl, Or.inl rfl, trivial⟩ ?_
          exact ih (k + 1, O + (1 + 1), B + 1, nL (zk_s s0 (2 * (k + 1))), e12) ⟨by omega, by rw [hO]; show _ = _ + zk_on (zv_np P N) s0 (zw_oo P N c) k; unfold zk_on; rw [e1, e2]; rfl, by rw [hB2]; show _ = _ + zk_pr P N (zv_np P N) s0 (zv_y P N) (zw_oo P N c) k; unfold zk_pr; rw [zb_1 h7]; rfl, rfl⟩ (by omega)
theorem zk_of {x : Int32} (h1 : 1 ≤ x) (h2 : x ≤ 100) : 1 ≤ zx_k x ∧ zx_k x ≤ 100 ∧ x = nI (zx_k x) := by
  rw [Int32.le_iff_toInt_le, show (1 : Int32).toInt = 1 from rfl] at h1
  rw [Int32.le_iff_toInt_le, show (100 : Int32).toInt = 100 from rfl] at h2
  refine ⟨by unfold zx_k; omega, by unfold zx_k; omega, ?_⟩
  apply Int32.toInt_inj.mp
  rw [nI_toInt (by unfold zx_k; omega)]
  unfold zx_k; omega
theorem zk_of0 {x : Int32} (h1 : 0 ≤ x) : zx_k x < 2147483648 ∧ x = nI (zx_k x) := by
  rw [Int32.le_iff_toInt_le, show (0 : Int32).toInt = 0 from rfl] at h1
  have h2 := Int32.toInt_lt x
  refine ⟨by unfold zx_k; omega, ?_⟩
  apply Int32.toInt_inj.mp
  rw [nI_toInt (by unfold zx_k; omega)]
  unfold zx_k; omega
theorem zs_M_drawn (g : Nat → Int32) (gl : Nat → Int64) (a : Nat → Nat → Int32) (al : Nat → Nat → Int64) (P N : Nat) (c : Nat → Nat) (hS : zS_F g a P N c) (x y z : Int32) : zm_Ev zt_get 6 209 [.ref 0, .int x, .int y, .int z] (zw_M g gl a al) (fun v w => v = some (.int (aw_drawn P N c x y z)) ∧ ∃ (s : Int64) (f : Nat → Int32), w = (zw_M g (vp_updL gl 45 s) (va_up a 12 f) al)) := by
  obtain ⟨hP, hN, hnp, hP5, hN6, hnp1⟩ := hS.nums
  have hsame : (zw_M g gl a al) = (zw_M g (vp_updL gl 45 (gl 45)) (va_up a 12 (a 12)) al) := rfl
  refine zr_ev zt_M_drawn rfl rfl ?_
  show zm_Run zt_get 5 zt_M_drawn (0, [some (.ref 0), some (.int x), some (.int y), some (.int z)], [], (zw_M g gl a al)) _
  refine zr_go (t := (4, [some (.ref 0), some (.int x), some (.int y), some (.int z)], [.int 100, .int 1, .int x], (zw_M g gl a al))) 3 rfl ?_
  refine zr_call (t := (7, [some (.ref 0), some (.int x), some (.int y), some (.int z)], [], (zw_M g gl a al))) rfl (Nat.le_of_ble_eq_true rfl : 1 ≤ 5) (zs_M_withinB g gl a al x 1 100) ?_
  rintro _ _ ⟨rfl, rfl⟩
  show zm_Run zt_get 5 zt_M_drawn (7, [some (.ref 0), some (.int x), some (.int y), some (.int z)], [.int (nI ((decide (1 ≤ x ∧ x ≤ 100)).toNat))], (zw_M g gl a al)) _
  have hb1 := zb_le (decide (1 ≤ x ∧ x ≤ 100))
  refine zr_ieq (x := nI ((decide (1 ≤ x ∧ x ≤ 100)).toNat)) (y := 0) ((decide (1 ≤ x ∧ x ≤ 100)).toNat) 0 rfl rfl (by omega) (by omega) (t := (23, [some (.ref 0), some (.int x), some (.int y), some (.int z)], [], (zw_M g gl a al))) (f := (10, [some (.ref 0), some (.int x), some (.int y), some (.int z)], [], (zw_M g gl a al))) rfl (fun h1 => ?_) (fun h1 => ?_)
  · skip
    refine zr_go (t := (25, [some (.ref 0), some (.int x), some (.int y), some (.int z)], [.int (-102)], (zw_M g gl a al))) 1 rfl ?_
    exact zr_ret rfl trivial ⟨by unfold aw_drawn; rw [if_neg (fun q => of_decide_eq_false (zb_0 h1) q.1)], gl 45, a 12, hsame⟩
  · skip
    have hx := of_decide_eq_true (zb_1 h1)
    refine zr_go (t := (11, [some (.ref 0), some (.int x), some (.int y), some (.int z)], [.int y], (zw_M g gl a al))) 1 rfl ?_
    refine zr_if (c := y < 0) (t := (23, [some (.ref 0), some (.int x), some (.int y), some (.int z)], [], (zw_M g gl a al))) (f := (14, [some (.ref 0), some (.int x), some (.int y), some (.int z)], [], (zw_M g gl a al))) rfl (fun h2 => ?_) (fun h2 => ?_)
    · skip
      refine zr_go (t := (25, [some (.ref 0), some (.int x), some (.int y), some (.int z)], [.int (-102)], (zw_M g gl a al))) 1 rfl ?_
      exact zr_ret rfl trivial ⟨by unfold aw_drawn; rw [if_neg (fun q => absurd q.2.1 (by rw [Int32.le_iff_toInt_le]; rw [Int32.lt_iff_toInt_lt] at h2; omega))], gl 45, a 12, hsame⟩
    · skip
      have hy : 0 ≤ y := by rw [Int32.le_iff_toInt_le]; rw [Int32.lt_iff_toInt_lt] at h2; omega
      refine zr_go (t := (17, [some (.ref 0), some (.int x), some (.int y), some (.int z)], [.int 2, .int 0, .int z], (zw_M g gl a al))) 3 rfl ?_
      refine zr_call (t := (20, [some (.ref 0), some (.int x), some (.int y), some (.int z)], [], (zw_M g gl a al))) rfl (Nat.le_of_ble_eq_true rfl : 1 ≤ 5) (zs_M_withinB g gl a al z 0 2) ?_
      rintro _ _ ⟨rfl, rfl⟩
      show zm_Run zt_get 5 zt_M_drawn (20, [some (.ref 0), some (.int x), some (.int y), some (.int z)], [.int (nI ((decide (0 ≤ z ∧ z ≤ 2)).toNat))], (zw_M g gl a al)) _
      have hb3 := zb_le (decide (0 ≤ z ∧ z ≤ 2))
      refine zr_ine (x := nI ((decide (0 ≤ z ∧ z ≤ 2)).toNat)) (y := 0) ((decide (0 ≤ z ∧ z ≤ 2)).toNat) 0 rfl rfl (by omega) (by omega) (t := (26, [some (.ref 0), some (.int x), some (.int y), some (.int z)], [], (zw_M g gl a al))) (f := (23, [some (.ref 0), some (.int x), some (.int y), some (.int z)], [], (zw_M g gl a al))) rfl (fun h3 => ?_) (fun h3 => ?_)
      · skip
        have hz := of_decide_eq_true (zb_1 h3)
        have hq : (1 ≤ x ∧ x ≤ 100) ∧ 0 ≤ y ∧ 0 ≤ z ∧ z ≤ 2 := ⟨hx, hy, hz.1, hz.2⟩
        refine zr_go (t := (27, [some (.ref 0), some (.int x), some (.int y), some (.int z)], [.ref 0], (zw_M g gl a al))) 1 rfl ?_
        refine zr_call (t := (30, [some (.ref 0), some (.int x), some (.int y), some (.int z)], [], (zw_M g gl a al))) rfl (Nat.le_of_ble_eq_true rfl : 1 ≤ 5) (zs_M_isForm g gl a al P hP hP5) ?_
        rintro _ _ ⟨rfl, rfl⟩
        show zm_Run zt_get 5 zt_M_drawn (30, [some (.ref 0), some (.int x), some (.int y), some (.int z)], [.int (nI ((decide (0 < P)).toNat))], (zw_M g gl a al)) _
        have hb4 := zb_le (decide (0 < P))
        refine zr_ieq (x := nI ((decide (0 < P)).toNat)) (y := 0) ((decide (0 < P)).toNat) 0 rfl rfl (by omega) (by omega) (t := (43, [some (.ref 0), some (.int x), some (.int y), some (.int z)], [], (zw_M g gl a al))) (f := (33, [some (.ref 0), some (.int x), some (.int y), some (.int z)], [], (zw_M g gl a al))) rfl (fun h4 => ?_) (fun h4 => ?_)
        · skip
          refine zr_go (t := (45, [some (.ref 0), some (.int x), some (.int y), some (.int z)], [.int (-103)], (zw_M g gl a al))) 1 rfl ?_
          exact zr_ret rfl trivial ⟨by unfold aw_drawn; rw [if_pos hq, if_neg (of_decide_eq_false (zb_0 h4))], gl 45, a 12, hsame⟩
        · skip
          have hp0 := of_decide_eq_true (zb_1 h4)
          obtain ⟨hx1, hx2, hx3⟩ := zk_of hx.1 hx.2
          obtain ⟨hy1, hy2⟩ := zk_of0 hy
          generalize hK : zx_k x = k at hx1 hx2 hx3
          generalize hL : zx_k y = l at hy1 hy2
          subst hx3
          subst hy2
          refine zr_go (t := (37, [some (.ref 0), some (.int (nI k)), some (.int (nI l)), some (.int z)], [.int z, .int (nI l), .int (nI k), .ref 0], (zw_M g gl a al))) 4 rfl ?_
          refine zr_call (t := (40, [some (.ref 0), some (.int (nI k)), some (.int (nI l)), some (.int z)], [], (zw_M g gl a al))) rfl (Nat.le_of_ble_eq_true rfl : 5 ≤ 5) (zs_M_drawnNow g gl a al P N c (hS.form hp0).1 k l z hx2 hy1) ?_
          rintro _ _ ⟨rfl, s, f, rfl⟩
          show zm_Run zt_get 5 zt_M_drawn (40, [some (.ref 0), some (.int (nI k)), some (.int (nI l)), some (.int z)], [.int (zw_dr P N c k l z)], (zw_M g (vp_updL gl 45 s) (va_up a 12 f) al)) _
          refine zr_go (t := (45, [some (.ref 0), some (.int (nI k)), some (.int (nI l)), some (.int z)], [.int (zw_dr P N c k l z)], (zw_M g (vp_updL gl 45 s) (va_up a 12 f) al))) 1 rfl ?_
          exact zr_ret rfl trivial ⟨by unfold aw_drawn; rw [if_pos hq, if_pos hp0, hK, hL], s, f, rfl⟩
      · skip
        refine zr_go (t := (25, [some (.ref 0), some (.int x), some (.int y), some (.int z)], [.int (-102)], (zw_M g gl a al))) 1 rfl ?_
        exact zr_ret rfl trivial ⟨by unfold aw_drawn; rw [if_neg (fun q => of_decide_eq_false (zb_0 h3) q.2.2)], gl 45, a 12, hsame⟩
def aw_ct (P N : Nat) (c : Nat → Nat) (nn : Nat → Nat) (x4 x3 x36 x37 : Int32) (k : Nat) : Int32 := if k = 0 then nI (zS_np P N) else if k = 1 then nI (if 0 < P then zw_on P N c else 0) else if k = 2 then nI (if zw_sound P N c = true then zw_gm P N c else 0) else if k = 3 then nI (nn 0) else if k = 4 then nI (nn 1) else if k = 5 then x4 else if k = 6 then x3 else if k = 7 then x36 else if k = 8 then x37 else -102
def aw_count (P N : Nat) (c : Nat → Nat) (nn : Nat → Nat) (x4 x3 x36 x37 x : Int32) : Int32 := if zx_in x 9 = true then aw_ct P N c nn x4 x3 x36 x37 (zx_k x) else -102
theorem zs_M_howMany (g : Nat → Int32) (gl : Nat → Int64) (a : Nat → Nat → Int32) (al : Nat → Nat → Int64) (hG : zG) (P N : Nat) (c : Nat → Nat) (hS : zS_F g a P N c) (nn : Nat → Nat) (ff : Nat → Nat → Nat) (hl : zS_l a nn ff) (x : Int32) : zm_Ev zt_get 3 210 [.ref 0, .int x] (zw_M g gl a al) (fun v w => v = some (.int (aw_count P N c nn (g 4) (g 3) (g 36) (g 37) x)) ∧ w = (zw_M g gl a al)) := by
  obtain ⟨hP, hN, hnp, hP5, hN6, hnp1⟩ := hS.nums
  obtain ⟨ns, on, nl, npl, hns, hon, hnl, hnpl, hns1, hon1, hnl1, hnpl1, hz0, hzP⟩ := hS.more hG
  refine zr_ev zt_M_howMany rfl rfl ?_
  show zm_Run zt_get 2 zt_M_howMany (0, [some (.ref 0), some (.int x)], [], (zw_M g gl a al)) _
  by_cases hx : zx_in x 9 = true
  · skip
    have hu : aw_count P N c nn (g 4) (g 3) (g 36) (g 37) x = aw_ct P N c nn (g 4) (g 3) (g 36) (g 37) (zx_k x) := by unfold aw_count; rw [if_pos hx]
    rw [hu]
    obtain ⟨k1, k2⟩ := zx_of hx
    generalize hK : zx_k x = k at k1 k2
    subst k2
    have hk9 : k = 0 ∨ k = 1 ∨ k = 2 ∨ k = 3 ∨ k = 4 ∨ k = 5 ∨ k = 6 ∨ k = 7 ∨ k = 8 := by omega
    clear hu hx hK k1
    rcases hk9 with rfl | rfl | rfl | rfl | rfl | rfl | rfl | rfl | rfl
    · skip
      refine zr_go (t := (1, [some (.ref 0), some (.int (nI 0))], [.int (nI 0)], (zw_M g gl a al))) 1 rfl ?_
      refine zr_step (c := none) (t := ((zm_sw 1 100 0 8 #[51, 56, 61, 66, 73, 80, 85, 90, 95] (nI 0)), [some (.ref 0), some (.int (nI 0))], [], (zw_M g gl a al))) rfl trivial ?_
      rw [show zm_sw 1 100 0 8 #[51, 56, 61, 66, 73, 80, 85, 90, 95] (nI 0) = 52 from by decide]
      refine zr_go (t := (56, [some (.ref 0), some (.int (nI 0))], [.int (g 6)], (zw_M g gl a al))) 2 rfl ?_
      exact zr_ret rfl trivial ⟨by rw [hnp]; rfl, rfl⟩
    · skip
      refine zr_go (t := (1, [some (.ref 0), some (.int (nI 1))], [.int (nI 1)], (zw_M g gl a al))) 1 rfl ?_
      refine zr_step (c := none) (t := ((zm_sw 1 100 0 8 #[51, 56, 61, 66, 73, 80, 85, 90, 95] (nI 1)), [some (.ref 0), some (.int (nI 1))], [], (zw_M g gl a al))) rfl trivial ?_
      rw [show zm_sw 1 100 0 8 #[51, 56, 61, 66, 73, 80, 85, 90, 95] (nI 1) = 57 from by decide]
      refine zr_go (t := (61, [some (.ref 0), some (.int (nI 1))], [.int (g 10)], (zw_M g gl a al))) 2 rfl ?_
      exact zr_ret rfl trivial ⟨by rw [hon]; show _ = some (Value.int (nI (if 0 < P then zw_on P N c else 0))); by_cases q : 0 < P; rw [if_pos q, (hzP q).2.1]; rw [if_neg q, (hz0 (by omega)).2.1], rfl⟩
    · skip
      refine zr_go (t := (1, [some (.ref 0), some (.int (nI 2))], [.int (nI 2)], (zw_M g gl a al))) 1 rfl ?_
      refine zr_step (c := none) (t := ((zm_sw 1 100 0 8 #[51, 56, 61, 66, 73, 80, 85, 90, 95] (nI 2)), [some (.ref 0), some (.int (nI 2))], [], (zw_M g gl a al))) rfl trivial ?_
      rw [show zm_sw 1 100 0 8 #[51, 56, 61, 66, 73, 80, 85, 90, 95] (nI 2) = 62 from by decide]
      refine zr_go (t := (63, [some (.ref 0), some (.int (nI 2))], [.ref 0], (zw_M g gl a al))) 1 rfl ?_
      refine zr_call (t := (66, [some (.ref 0), some (.int (nI 2))], [], (zw_M g gl a al))) rfl (Nat.le_of_ble_eq_true rfl : 2 ≤ 2) (zs_M_greatestMany g gl a al nl npl hnl hnpl hnl1 hnpl1 P ns on hP hP5 hns hns1 hon) ?_
      rintro _ _ ⟨rfl, rfl⟩
      show zm_Run zt_get 2 zt_M_howMany (66, [some (.ref 0), some (.int (nI 2))], [.int (nI (zq_gm P ns on nl npl))], (zw_M g gl a al)) _
      exact zr_ret rfl trivial ⟨by show _ = some (Value.int (nI (if zw_sound P N c = true then zw_gm P N c else 0))); congr 3; unfold zq_gm zw_sound; by_cases q : 0 < P; rw [(hzP q).1, decide_eq_true q, Bool.true_and]; by_cases r : zw_ns P N c = 0; rw [if_pos (And.intro q r), if_pos (decide_eq_true r), ((hzP q).2.2 ((hzP q).1.trans r)).1, ((hzP q).2.2 ((hzP q).1.trans r)).2, (hzP q).2.1]; rfl; rw [if_neg (fun z => r z.2), if_neg (by rw [decide_eq_false r]; decide)]; rw [if_neg (fun z => q z.1), if_neg (by rw [decide_eq_false q, Bool.false_and]; decide)], rfl⟩
    · skip
      refine zr_go (t := (1, [some (.ref 0), some (.int (nI 3))], [.int (nI 3)], (zw_M g gl a al))) 1 rfl ?_
      refine zr_step (c := none) (t := ((zm_sw 1 100 0 8 #[51, 56, 61, 66, 73, 80, 85, 90, 95] (nI 3)), [some (.ref 0), some (.int (nI 3))], [], (zw_M g gl a al))) rfl trivial ?_
      rw [show zm_sw 1 100 0 8 #[51, 56, 61, 66, 73, 80, 85, 90, 95] (nI 3) = 67 from by decide]
      refine zr_go (t := (72, [some (.ref 0), some (.int (nI 3))], [.int 0, .ref 16], (zw_M g gl a al))) 3 rfl ?_
      refine zr_cd (t := (73, [some (.ref 0), some (.int (nI 3))], [.int ((a 16) (0 : Int32).toNatClampNeg)], (zw_M g gl a al))) rfl (pk_in 0 2 (by omega) rfl (by omega)) ?_
      rw [pk_cl (x := (0 : Int32)) 0 rfl (by omega)]
      exact zr_ret rfl trivial ⟨by rw [(hl 0 (by decide)).1]; rfl, rfl⟩
    · skip
      refine zr_go (t := (1, [some (.ref 0), some (.int (nI 4))], [.int (nI 4)], (zw_M g gl a al))) 1 rfl ?_
      refine zr_step (c := none) (t := ((zm_sw 1 100 0 8 #[51, 56, 61, 66, 73, 80, 85, 90, 95] (nI 4)), [some (.ref 0), some (.int (nI 4))], [], (zw_M g gl a al))) rfl trivial ?_
      rw [show zm_sw 1 100 0 8 #[51, 56, 61, 66, 73, 80, 85, 90, 95] (nI 4) = 74 from by decide]
      refine zr_go (t := (79, [some (.ref 0), some (.int (nI 4))], [.int 1, .ref 16], (zw_M g gl a al))) 3 rfl ?_
      refine zr_cd (t := (80, [some (.ref 0), some (.int (nI 4))], [.int ((a 16) (1 : Int32).toNatClampNeg)], (zw_M g gl a al))) rfl (pk_in 1 2 (by omega) rfl (by omega)) ?_
      rw [pk_cl (x := (1 : Int32)) 1 rfl (by omega)]
      exact zr_ret rfl trivial ⟨by rw [(hl 1 (by decide)).1]; rfl, rfl⟩
    · skip
      refine zr_go (t := (1, [some (.ref 0), some (.int (nI 5))], [.int (nI 5)], (zw_M g gl a al))) 1 rfl ?_
      refine zr_step (c := none) (t := ((zm_sw 1 100 0 8 #[51, 56, 61, 66, 73, 80, 85, 90, 95] (nI 5)), [some (.ref 0), some (.int (nI 5))], [], (zw_M g gl a al))) rfl trivial ?_
      rw [show zm_sw 1 100 0 8 #[51, 56, 61, 66, 73, 80, 85, 90, 95] (nI 5) = 81 from by decide]
      refine zr_go (t := (85, [some (.ref 0), some (.int (nI 5))], [.int (g 4)], (zw_M g gl a al))) 2 rfl ?_
      exact zr_ret rfl trivial ⟨rfl, rfl⟩
    · skip
      refine zr_go (t := (1, [some (.ref 0), some (.int (nI 6))], [.int (nI 6)], (zw_M g gl a al))) 1 rfl ?_
      refine zr_step (c := none) (t := ((zm_sw 1 100 0 8 #[51, 56, 61, 66, 73, 80, 85, 90, 95] (nI 6)), [some (.ref 0), some (.int (nI 6))], [], (zw_M g gl a al))) rfl trivial ?_
      rw [show zm_sw 1 100 0 8 #[51, 56, 61, 66, 73, 80, 85, 90, 95] (nI 6) = 86 from by decide]
      refine zr_go (t := (90, [some (.ref 0), some (.int (nI 6))], [.int (g 3)], (zw_M g gl a al))) 2 rfl ?_
      exact zr_ret rfl trivial ⟨rfl, rfl⟩
    · skip
      refine zr_go (t := (1, [some (.ref 0), some (.int (nI 7))], [.int (nI 7)], (zw_M g gl a al))) 1 rfl ?_
      refine zr_step (c := none) (t := ((zm_sw 1 100 0 8 #[51, 56, 61, 66, 73, 80, 85, 90, 95] (nI 7)), [some (.ref 0), some (.int (nI 7))], [], (zw_M g gl a al))) rfl trivial ?_
      rw [show zm_sw 1 100 0 8 #[51, 56, 61, 66, 73, 80, 85, 90, 95] (nI 7) = 91 from by decide]
      refine zr_go (t := (95, [some (.ref 0), some (.int (nI 7))], [.int (g 36)], (zw_M g gl a al))) 2 rfl ?_
      exact zr_ret rfl trivial ⟨rfl, rfl⟩
    · skip
      refine zr_go (t := (1, [some (.ref 0), some (.int (nI 8))], [.int (nI 8)], (zw_M g gl a al))) 1 rfl ?_
      refine zr_step (c := none) (t := ((zm_sw 1 100 0 8 #[51, 56, 61, 66, 73, 80, 85, 90, 95] (nI 8)), [some (.ref 0), some (.int (nI 8))], [], (zw_M g gl a al))) rfl trivial ?_
      rw [show zm_sw 1 100 0 8 #[51, 56, 61, 66, 73, 80, 85, 90, 95] (nI 8) = 96 from by decide]
      refine zr_go (t := (100, [some (.ref 0), some (.int (nI 8))], [.int (g 37)], (zw_M g gl a al))) 2 rfl ?_
      exact zr_ret rfl trivial ⟨rfl, rfl⟩
  · skip
    refine zr_go (t := (1, [some (.ref 0), some (.int x)], [.int x], (zw_M g gl a al))) 1 rfl ?_
    refine zr_step (c := none) (t := ((zm_sw 1 100 0 8 #[51, 56, 61, 66, 73, 80, 85, 90, 95] x), [some (.ref 0), some (.int x)], [], (zw_M g gl a al))) rfl trivial ?_
    rw [show zm_sw 1 100 0 8 #[51, 56, 61, 66, 73, 80, 85, 90, 95] x = 101 from by unfold zm_sw; rw [if_pos (by have : ¬ (0 ≤ x.toInt ∧ x.toInt < 9) := fun q => hx (decide_eq_true q); omega)]; rfl]
    refine zr_go (t := (103, [some (.ref 0), some (.int x)], [.int (-102)], (zw_M g gl a al))) 1 rfl ?_
    exact zr_ret rfl trivial ⟨by unfold aw_count; rw [if_neg hx], rfl⟩
theorem zs_M_count (g : Nat → Int32) (gl : Nat → Int64) (a : Nat → Nat → Int32) (al : Nat → Nat → Int64) (hG : zG) (P N : Nat) (c : Nat → Nat) (hS : zS_F g a P N c) (nn : Nat → Nat) (ff : Nat → Nat → Nat) (hl : zS_l a nn ff) (x : Int32) : zm_Ev zt_get 4 211 [.ref 0, .int x] (zw_M g gl a al) (fun v w => v = some (.int (aw_count P N c nn (g 4) (g 3) (g 36) (g 37) x)) ∧ w = (zw_M g gl a al)) := by
  refine zr_ev zt_M_count rfl rfl ?_
  show zm_Run zt_get 3 zt_M_count (0, [some (.ref 0), some (.int x)], [], (zw_M g gl a al)) _
  refine zr_go (t := (2, [some (.ref 0), some (.int x)], [.int x, .ref 0], (zw_M g gl a al))) 2 rfl ?_
  refine zr_call (t := (5, [some (.ref 0), some (.int x)], [], (zw_M g gl a al))) rfl (Nat.le_of_ble_eq_true rfl : 3 ≤ 3) (zs_M_howMany g gl a al hG P N c hS nn ff hl x) ?_
  rintro _ _ ⟨rfl, rfl⟩
  show zm_Run zt_get 3 zt_M_count (5, [some (.ref 0), some (.int x)], [.int (aw_count P N c nn (g 4) (g 3) (g 36) (g 37) x)], (zw_M g gl a al)) _
  exact zr_ret rfl trivial ⟨rfl, rfl⟩
