/-! the class: flats as bits (written by wip/whole/gen_c8.py) -/
/-- a bit; what is linked with all of a set; the span of a set; two lowest bits -/
def zf_b (k : Nat) : Int64 := 1 <<< ((nI k).toInt64 &&& 63)
def zf_all (L : Nat → Int64) (x : Int64) : Nat → Int64
  | 0 => -1
  | n + 1 => if lb x n = true then zf_all L x n &&& L n else zf_all L x n
def zf_sp (L : Nat → Int64) (n : Nat) (x : Int64) : Int64 := zf_all L (zf_all L x n) n
def zf_l2 (x : Int64) : Int64 := (x &&& -x) ||| ((x &&& (x - 1)) &&& -(x &&& (x - 1)))
def zf_rs (L : Nat → Int64) (n p : Nat) : Nat → Int64
  | 0 => L p &&& (zf_b p ^^^ -1)
  | q + 1 => if lb (zf_rs L n p q) q = true then zf_rs L n p q &&& (zf_sp L n (zf_b p ||| zf_b q) ^^^ -1) else zf_rs L n p q
def zf_gd (L : Nat → Int64) (n p q : Nat) : Bool := lb (zf_rs L n p q) q && decide (zf_sp L n (zf_b p ||| zf_b q) &&& -(zf_sp L n (zf_b p ||| zf_b q)) = zf_b p)
def zf_gl (L : Nat → Int64) (n t : Nat) : Bool := zf_gd L n (t / n) (t % n)
def zf_lm (L : Nat → Int64) (n l : Nat) : Int64 := zf_sp L n (zf_b (zX (zf_gl L n) (n * n) l / n) ||| zf_b (zX (zf_gl L n) (n * n) l % n))
def zf_nl (L : Nat → Int64) (n : Nat) : Nat := zC (zf_gl L n) (n * n)
def zf_r2 (L : Nat → Int64) (n : Nat) (x : Int64) : Nat → Int64
  | 0 => zf_all L x n &&& (x ^^^ -1)
  | r + 1 => if lb (zf_r2 L n x r) r = true then zf_r2 L n x r &&& (zf_sp L n (x ||| zf_b r) ^^^ -1) else zf_r2 L n x r
def zf_gp (L : Nat → Int64) (n : Nat) (x : Int64) (r : Nat) : Bool := lb (zf_r2 L n x r) r && decide (zf_l2 (zf_sp L n (x ||| zf_b r)) = zf_l2 x)
def zf_gq (L : Nat → Int64) (n s : Nat) : Bool := zf_gp L n (zf_lm L n (s / n)) (s % n)
def zf_pm (L : Nat → Int64) (n l : Nat) : Int64 := zf_sp L n (zf_lm L n (zX (zf_gq L n) (n * zf_nl L n) l / n) ||| zf_b (zX (zf_gq L n) (n * zf_nl L n) l % n))
def zf_np (L : Nat → Int64) (n : Nat) : Nat := zC (zf_gq L n) (n * zf_nl L n)
theorem zf_rs_y {L : Nat → Int64} {n p q : Nat} (h : lb (zf_rs L n p q) q = true) : zf_rs L n p (q + 1) = zf_rs L n p q &&& (zf_sp L n (zf_b p ||| zf_b q) ^^^ -1) := if_pos h
theorem zf_rs_n {L : Nat → Int64} {n p q : Nat} (h : lb (zf_rs L n p q) q = false) : zf_rs L n p (q + 1) = zf_rs L n p q := if_neg (by rw [h]; decide)
theorem zf_r2_y {L : Nat → Int64} {n : Nat} {x : Int64} {q : Nat} (h : lb (zf_r2 L n x q) q = true) : zf_r2 L n x (q + 1) = zf_r2 L n x q &&& (zf_sp L n (x ||| zf_b q) ^^^ -1) := if_pos h
theorem zf_r2_n {L : Nat → Int64} {n : Nat} {x : Int64} {q : Nat} (h : lb (zf_r2 L n x q) q = false) : zf_r2 L n x (q + 1) = zf_r2 L n x q := if_neg (by rw [h]; decide)
theorem zb_c0 {b : Bool} (h : lg_cmp (nL b.toNat) 0 = 0) : b = false := (lb_n0 b).mp ((zcmp0 _).mp h)
theorem zb_c1 {b : Bool} (h : ¬ lg_cmp (nL b.toNat) 0 = 0) : b = true := by
  cases b
  · exact absurd ((zcmp0 _).mpr ((lb_n0 false).mpr rfl)) h
  · rfl
theorem zs_C_lwa (g : Nat → Int32) (gl : Nat → Int64) (a : Nat → Nat → Int32) (al : Nat → Nat → Int64) (n : Nat) (hn : g 20 = nI n) (hn64 : n ≤ 64) (L : Nat → Int64) (hL : ∀ k, k < n → al 21 k = L k) (x : Int64) : zm_Ev zt_get 1 5 [.ref 5, .long x] (zw_C g gl a al) (fun v w => v = some (.long (zf_all L x n)) ∧ w = (zw_C g gl a al)) := by
  refine zr_ev zt_F_linkedWithAll rfl rfl ?_
  show zm_Run zt_get 0 zt_F_linkedWithAll (0, [some (.ref 5), some (.long x), none, none, none, none], [], (zw_C g gl a al)) _
  refine zr_go (t := (7, [some (.ref 5), some (.long x), none, some (.long (-1)), none, some (.int 0)], [], (zw_C g gl a al))) 4 rfl ?_
  refine zr_loop (fun zq : Nat × Int64 => (7, [some (.ref 5), some (.long x), none, some (.long zq.2), none, some (.int (nI zq.1))], [], (zw_C g gl a al))) (fun zq => zq.1 ≤ n ∧ zq.2 = zf_all L x zq.1) (fun zq => n - zq.1) ?_ (0, -1) ⟨by omega, rfl⟩
  rintro ⟨i, y⟩ ⟨hi, hy⟩ ih
  try dsimp only at *
  refine zr_go (t := (13, [some (.ref 5), some (.long x), none, some (.long y), none, some (.int (nI i))], [.int (g 20), .int (nI i)], (zw_C g gl a al))) 3 rfl ?_
  refine zr_ige (x := nI i) (y := g 20) i n rfl hn (by omega) (by omega) (t := (43, [some (.ref 5), some (.long x), none, some (.long y), none, some (.int (nI i))], [], (zw_C g gl a al))) (f := (16, [some (.ref 5), some (.long x), none, some (.long y), none, some (.int (nI i))], [], (zw_C g gl a al))) rfl (fun h1 => ?_) (fun h1 => ?_)
  · skip
    refine zr_go (t := (44, [some (.ref 5), some (.long x), none, some (.long y), none, some (.int (nI i))], [.long y], (zw_C g gl a al))) 1 rfl ?_
    exact zr_ret rfl trivial ⟨by rw [hy, show i = n by omega], rfl⟩
  · skip
    refine zr_go (t := (22, [some (.ref 5), some (.long x), none, some (.long y), none, some (.int (nI i))], [.long (((x.toUInt64 >>> ((nI i).toInt64.toUInt64 &&& Int64.toUInt64 63)).toInt64) &&& 1)], (zw_C g gl a al))) 5 rfl ?_
    rw [lb_ush (x := x) (k := i) (by omega)]
    refine zr_go (t := (24, [some (.ref 5), some (.long x), none, some (.long y), none, some (.int (nI i))], [.int (lg_cmp (nL (lb x i).toNat) 0)], (zw_C g gl a al))) 2 rfl ?_
    refine zr_if (c := (lg_cmp (nL (lb x i).toNat) 0) = 0) (t := (37, [some (.ref 5), some (.long x), none, some (.long y), none, some (.int (nI i))], [], (zw_C g gl a al))) (f := (27, [some (.ref 5), some (.long x), none, some (.long y), none, some (.int (nI i))], [], (zw_C g gl a al))) rfl (fun hbit => ?_) (fun hbit => ?_)
    · skip
      have hb := zb_c0 hbit
      refine zr_go (t := (7, [some (.ref 5), some (.long x), none, some (.long y), none, some (.int ((nI i) + 1))], [], (zw_C g gl a al))) 2 rfl ?_
      rw [show (nI i) + 1 = nI (i + 1) from (zn_add rfl rfl)]
      exact ih (i + 1, y) ⟨by omega, by rw [hy]; show _ = if lb x i = true then _ else _; rw [if_neg (by rw [hb]; decide)]⟩ (by omega)
    · skip
      have hb := zb_c1 hbit
      refine zr_go (t := (34, [some (.ref 5), some (.long x), none, some (.long y), none, some (.int (nI i))], [.int (nI i), .ref 21, .long y], (zw_C g gl a al))) 4 rfl ?_
      refine zr_cd (t := (35, [some (.ref 5), some (.long x), none, some (.long y), none, some (.int (nI i))], [.long ((al 21) (nI i).toNatClampNeg), .long y], (zw_C g gl a al))) rfl (pk_in i 64 (by omega) rfl (by omega)) ?_
      rw [pk_cl (x := (nI i)) i rfl (by omega)]
      rw [hL i h1]
      refine zr_go (t := (7, [some (.ref 5), some (.long x), none, some (.long (y &&& (L i))), none, some (.int ((nI i) + 1))], [], (zw_C g gl a al))) 4 rfl ?_
      rw [show (nI i) + 1 = nI (i + 1) from (zn_add rfl rfl)]
      exact ih (i + 1, y &&& L i) ⟨by omega, by rw [hy]; show _ = if lb x i = true then _ else _; rw [if_pos hb]⟩ (by omega)
theorem zs_C_span (g : Nat → Int32) (gl : Nat → Int64) (a : Nat → Nat → Int32) (al : Nat → Nat → Int64) (n : Nat) (hn : g 20 = nI n) (hn64 : n ≤ 64) (L : Nat → Int64) (hL : ∀ k, k < n → al 21 k = L k) (x : Int64) : zm_Ev zt_get 2 4 [.ref 5, .long x] (zw_C g gl a al) (fun v w => v = some (.long (zf_sp L n x)) ∧ w = (zw_C g gl a al)) := by
  refine zr_ev zt_F_spanned rfl rfl ?_
  show zm_Run zt_get 1 zt_F_spanned (0, [some (.ref 5), some (.long x), none], [], (zw_C g gl a al)) _
  refine zr_go (t := (3, [some (.ref 5), some (.long x), none], [.long x, .ref 5, .ref 5], (zw_C g gl a al))) 3 rfl ?_
  refine zr_call (t := (6, [some (.ref 5), some (.long x), none], [.ref 5], (zw_C g gl a al))) rfl (Nat.le_of_ble_eq_true rfl : 1 ≤ 1) (zs_C_lwa g gl a al n hn hn64 L hL x) ?_
  rintro _ _ ⟨rfl, rfl⟩
  show zm_Run zt_get 1 zt_F_spanned (6, [some (.ref 5), some (.long x), none], [.long (zf_all L x n), .ref 5], (zw_C g gl a al)) _
  refine zr_call (t := (9, [some (.ref 5), some (.long x), none], [], (zw_C g gl a al))) rfl (Nat.le_of_ble_eq_true rfl : 1 ≤ 1) (zs_C_lwa g gl a al n hn hn64 L hL (zf_all L x n)) ?_
  rintro _ _ ⟨rfl, rfl⟩
  show zm_Run zt_get 1 zt_F_spanned (9, [some (.ref 5), some (.long x), none], [.long (zf_sp L n x)], (zw_C g gl a al)) _
  exact zr_ret rfl trivial ⟨rfl, rfl⟩
theorem zs_C_low2 (g : Nat → Int32) (gl : Nat → Int64) (a : Nat → Nat → Int32) (al : Nat → Nat → Int64) (x : Int64) : zm_Ev zt_get 1 6 [.long x] (zw_C g gl a al) (fun v w => v = some (.long (zf_l2 x)) ∧ w = (zw_C g gl a al)) := by
  refine zr_ev zt_F_lowestTwo rfl rfl ?_
  show zm_Run zt_get 0 zt_F_lowestTwo (0, [some (.long x), none, none, none], [], (zw_C g gl a al)) _
  refine zr_go (t := (15, [some (.long x), none, some (.long (x &&& (x - 1))), none], [.long ((x &&& (-x)) ||| ((x &&& (x - 1)) &&& (-(x &&& (x - 1)))))], (zw_C g gl a al))) 15 rfl ?_
  exact zr_ret rfl trivial ⟨rfl, rfl⟩
theorem zs_C_totalOf (g : Nat → Int32) (gl : Nat → Int64) (a : Nat → Nat → Int32) (al : Nat → Nat → Int64) (d : Nat) (hd1 : 1 ≤ d) (hd3 : d ≤ 3) : zm_Ev zt_get 1 7 [.ref 5, .int (nI d)] (zw_C g gl a al) (fun v w => v = some (.int (if d = 1 then g 20 else if d = 2 then g 21 else g 22)) ∧ w = (zw_C g gl a al)) := by
  refine zr_ev zt_F_totalOf rfl rfl ?_
  show zm_Run zt_get 0 zt_F_totalOf (0, [some (.ref 5), some (.int (nI d))], [], (zw_C g gl a al)) _
  refine zr_go (t := (1, [some (.ref 5), some (.int (nI d))], [.int (nI d)], (zw_C g gl a al))) 1 rfl ?_
  rcases (show d = 1 ∨ d = 2 ∨ d = 3 by omega) with rfl | rfl | rfl
  · skip
    refine zr_step (c := none) (t := ((zm_sw 1 42 1 3 #[27, 32, 37] (nI 1)), [some (.ref 5), some (.int (nI 1))], [], (zw_C g gl a al))) rfl trivial ?_
    rw [show zm_sw 1 42 1 3 #[27, 32, 37] (nI 1) = 28 from by decide]
    refine zr_go (t := (32, [some (.ref 5), some (.int (nI 1))], [.int (g 20)], (zw_C g gl a al))) 2 rfl ?_
    exact zr_ret rfl trivial ⟨rfl, rfl⟩
  · skip
    refine zr_step (c := none) (t := ((zm_sw 1 42 1 3 #[27, 32, 37] (nI 2)), [some (.ref 5), some (.int (nI 2))], [], (zw_C g gl a al))) rfl trivial ?_
    rw [show zm_sw 1 42 1 3 #[27, 32, 37] (nI 2) = 33 from by decide]
    refine zr_go (t := (37, [some (.ref 5), some (.int (nI 2))], [.int (g 21)], (zw_C g gl a al))) 2 rfl ?_
    exact zr_ret rfl trivial ⟨rfl, rfl⟩
  · skip
    refine zr_step (c := none) (t := ((zm_sw 1 42 1 3 #[27, 32, 37] (nI 3)), [some (.ref 5), some (.int (nI 3))], [], (zw_C g gl a al))) rfl trivial ?_
    rw [show zm_sw 1 42 1 3 #[27, 32, 37] (nI 3) = 38 from by decide]
    refine zr_go (t := (42, [some (.ref 5), some (.int (nI 3))], [.int (g 22)], (zw_C g gl a al))) 2 rfl ?_
    exact zr_ret rfl trivial ⟨rfl, rfl⟩
theorem zs_C_maskOf (g : Nat → Int32) (gl : Nat → Int64) (a : Nat → Nat → Int32) (al : Nat → Nat → Int64) (d f : Nat) (hd1 : 1 ≤ d) (hd3 : d ≤ 3) (hf1 : d = 2 → f < 105) (hf2 : d = 3 → f < 30) : zm_Ev zt_get 1 8 [.ref 5, .int (nI d), .int (nI f)] (zw_C g gl a al) (fun v w => v = some (.long (if d = 1 then zf_b f else if d = 2 then al 22 f else al 23 f)) ∧ w = (zw_C g gl a al)) := by
  refine zr_ev zt_F_maskOf rfl rfl ?_
  show zm_Run zt_get 0 zt_F_maskOf (0, [some (.ref 5), some (.int (nI d)), some (.int (nI f))], [], (zw_C g gl a al)) _
  refine zr_go (t := (1, [some (.ref 5), some (.int (nI d)), some (.int (nI f))], [.int (nI d)], (zw_C g gl a al))) 1 rfl ?_
  rcases (show d = 1 ∨ d = 2 ∨ d = 3 by omega) with rfl | rfl | rfl
  · skip
    refine zr_step (c := none) (t := ((zm_sw 1 45 1 3 #[27, 31, 38] (nI 1)), [some (.ref 5), some (.int (nI 1)), some (.int (nI f))], [], (zw_C g gl a al))) rfl trivial ?_
    rw [show zm_sw 1 45 1 3 #[27, 31, 38] (nI 1) = 28 from by decide]
    refine zr_go (t := (31, [some (.ref 5), some (.int (nI 1)), some (.int (nI f))], [.long (1 <<< ((nI f).toInt64 &&& 63))], (zw_C g gl a al))) 3 rfl ?_
    exact zr_ret rfl trivial ⟨rfl, rfl⟩
  · skip
    refine zr_step (c := none) (t := ((zm_sw 1 45 1 3 #[27, 31, 38] (nI 2)), [some (.ref 5), some (.int (nI 2)), some (.int (nI f))], [], (zw_C g gl a al))) rfl trivial ?_
    rw [show zm_sw 1 45 1 3 #[27, 31, 38] (nI 2) = 32 from by decide]
    have hf := hf1 rfl
    refine zr_go (t := (37, [some (.ref 5), some (.int (nI 2)), some (.int (nI f))], [.int (nI f), .ref 22], (zw_C g gl a al))) 3 rfl ?_
    refine zr_cd (t := (38, [some (.ref 5), some (.int (nI 2)), some (.int (nI f))], [.long ((al 22) (nI f).toNatClampNeg)], (zw_C g gl a al))) rfl (pk_in f 105 (by omega) rfl (by omega)) ?_
    rw [pk_cl (x := (nI f)) f rfl (by omega)]
    exact zr_ret rfl trivial ⟨rfl, rfl⟩
  · skip
    refine zr_step (c := none) (t := ((zm_sw 1 45 1 3 #[27, 31, 38] (nI 3)), [some (.ref 5), some (.int (nI 3)), some (.int (nI f))], [], (zw_C g gl a al))) rfl trivial ?_
    rw [show zm_sw 1 45 1 3 #[27, 31, 38] (nI 3) = 39 from by decide]
    have hf := hf2 rfl
    refine zr_go (t := (44, [some (.ref 5), some (.int (nI 3)), some (.int (nI f))], [.int (nI f), .ref 23], (zw_C g gl a al))) 3 rfl ?_
    refine zr_cd (t := (45, [some (.ref 5), some (.int (nI 3)), some (.int (nI f))], [.long ((al 23) (nI f).toNatClampNeg)], (zw_C g gl a al))) rfl (pk_in f 30 (by omega) rfl (by omega)) ?_
    rw [pk_cl (x := (nI f)) f rfl (by omega)]
    exact zr_ret rfl trivial ⟨rfl, rfl⟩
theorem zs_C_addLines (g : Nat → Int32) (gl : Nat → Int64) (a : Nat → Nat → Int32) (al : Nat → Nat → Int64) (n : Nat) (hn : g 20 = nI n) (hn64 : n ≤ 64) (L : Nat → Int64) (hL : ∀ k, k < n → al 21 k = L k) (hB : zf_nl L n ≤ 105) (p : Nat) (hp : p < n) (hF : ∀ k, k < zC (zf_gl L n) (n * p) → al 22 k = zf_lm L n k) : zm_Ev zt_get 3 2 [.ref 5, .int (nI p)] (zw_C (upd g 21 (nI (zC (zf_gl L n) (n * p)))) gl a al) (fun v w => v = none ∧ ∃ F, w = (zw_C (upd g 21 (nI (zC (zf_gl L n) (n * (p + 1))))) gl a (va_up al 22 F)) ∧ ∀ k, k < zC (zf_gl L n) (n * (p + 1)) → F k = zf_lm L n k) := by
  have hmul : n * p + n ≤ n * n := by rw [← Nat.mul_succ]; exact Nat.mul_le_mul_left n hp
  refine zr_ev zt_F_addLines rfl rfl ?_
  show zm_Run zt_get 2 zt_F_addLines (0, [some (.ref 5), some (.int (nI p)), none, none, none, none, none], [], (zw_C (upd g 21 (nI (zC (zf_gl L n) (n * p)))) gl a al)) _
  refine zr_go (t := (5, [some (.ref 5), some (.int (nI p)), none, none, none, none, none], [.int (nI p), .ref 21], (zw_C (upd g 21 (nI (zC (zf_gl L n) (n * p)))) gl a al))) 3 rfl ?_
  refine zr_cd (t := (6, [some (.ref 5), some (.int (nI p)), none, none, none, none, none], [.long ((al 21) (nI p).toNatClampNeg)], (zw_C (upd g 21 (nI (zC (zf_gl L n) (n * p)))) gl a al))) rfl (pk_in p 64 (by omega) rfl (by omega)) ?_
  rw [pk_cl (x := (nI p)) p rfl (by omega)]
  rw [hL p hp]
  refine zr_go (t := (18, [some (.ref 5), some (.int (nI p)), some (.long ((L p) &&& ((1 <<< ((nI p).toInt64 &&& 63)) ^^^ (-1)))), none, some (.int 0), none, none], [], (zw_C (upd g 21 (nI (zC (zf_gl L n) (n * p)))) gl a al))) 9 rfl ?_
  refine zr_loop (fun zq : Nat × Int64 × Nat × (Nat → Int64) => (18, [some (.ref 5), some (.int (nI p)), some (.long zq.2.1), none, some (.int (nI zq.1)), none, none], [], (zw_C (upd g 21 (nI zq.2.2.1)) gl a (va_up al 22 zq.2.2.2)))) (fun zq => zq.1 ≤ n ∧ zq.2.1 = zf_rs L n p zq.1 ∧ zq.2.2.1 = zC (zf_gl L n) (n * p + zq.1) ∧ ∀ k, k < zq.2.2.1 → zq.2.2.2 k = zf_lm L n k) (fun zq => n - zq.1) ?_ (0, zf_rs L n p 0, zC (zf_gl L n) (n * p), al 22) ⟨by omega, rfl, rfl, hF⟩
  rintro ⟨q, r, m, F⟩ ⟨hq, hr, hm, hF2⟩ ih
  try dsimp only at *
  subst hr
  have hm1 : m ≤ 105 := by rw [hm]; exact Nat.le_trans (zC_mono _ (by omega)) hB
  refine zr_go (t := (24, [some (.ref 5), some (.int (nI p)), some (.long (zf_rs L n p q)), none, some (.int (nI q)), none, none], [.int (g 20), .int (nI q)], (zw_C (upd g 21 (nI m)) gl a (va_up al 22 F)))) 3 rfl ?_
  refine zr_ige (x := nI q) (y := g 20) q n rfl hn (by omega) (by omega) (t := (110, [some (.ref 5), some (.int (nI p)), some (.long (zf_rs L n p q)), none, some (.int (nI q)), none, none], [], (zw_C (upd g 21 (nI m)) gl a (va_up al 22 F)))) (f := (27, [some (.ref 5), some (.int (nI p)), some (.long (zf_rs L n p q)), none, some (.int (nI q)), none, none], [], (zw_C (upd g 21 (nI m)) gl a (va_up al 22 F)))) rfl (fun h1 => ?_) (fun h1 => ?_)
  · skip
    have e : q = n := by omega
    subst e
    exact zr_ret rfl trivial ⟨rfl, F, by rw [hm, Nat.mul_succ], fun k hk => hF2 k (by rw [hm, ← Nat.mul_succ]; exact hk)⟩
  · skip
    have hdm : (n * p + q) / n = p ∧ (n * p + q) % n = q := zv_dm h1
    have hgl : (zf_gl L n) (n * p + q) = zf_gd L n p q := by unfold zf_gl; rw [hdm.1, hdm.2]
    refine zr_go (t := (33, [some (.ref 5), some (.int (nI p)), some (.long (zf_rs L n p q)), none, some (.int (nI q)), none, none], [.long ((((zf_rs L n p q).toUInt64 >>> ((nI q).toInt64.toUInt64 &&& Int64.toUInt64 63)).toInt64) &&& 1)], (zw_C (upd g 21 (nI m)) gl a (va_up al 22 F)))) 5 rfl ?_
    rw [lb_ush (x := (zf_rs L n p q)) (k := q) (by omega)]
    refine zr_go (t := (35, [some (.ref 5), some (.int (nI p)), some (.long (zf_rs L n p q)), none, some (.int (nI q)), none, none], [.int (lg_cmp (nL (lb (zf_rs L n p q) q).toNat) 0)], (zw_C (upd g 21 (nI m)) gl a (va_up al 22 F)))) 2 rfl ?_
    refine zr_if (c := (lg_cmp (nL (lb (zf_rs L n p q) q).toNat) 0) = 0) (t := (104, [some (.ref 5), some (.int (nI p)), some (.long (zf_rs L n p q)), none, some (.int (nI q)), none, none], [], (zw_C (upd g 21 (nI m)) gl a (va_up al 22 F)))) (f := (38, [some (.ref 5), some (.int (nI p)), some (.long (zf_rs L n p q)), none, some (.int (nI q)), none, none], [], (zw_C (upd g 21 (nI m)) gl a (va_up al 22 F)))) rfl (fun hbit => ?_) (fun hbit => ?_)
    · skip
      have hb := zb_c0 hbit
      have hgd : zf_gd L n p q = false := by unfold zf_gd; rw [hb]; rfl
      refine zr_go (t := (18, [some (.ref 5), some (.int (nI p)), some (.long (zf_rs L n p q)), none, some (.int ((nI q) + 1)), none, none], [], (zw_C (upd g 21 (nI m)) gl a (va_up al 22 F)))) 2 rfl ?_
      rw [show (nI q) + 1 = nI (q + 1) from (zn_add rfl rfl)]
      exact ih (q + 1, (zf_rs L n p q), m, F) ⟨by omega, (zf_rs_n hb).symm, (by rw [hm]; show _ = zC (zf_gl L n) (n * p + q) + ((zf_gl L n) (n * p + q)).toNat; rw [hgl, hgd]; rfl), hF2⟩ (by omega)
    · skip
      have hb := zb_c1 hbit
      refine zr_go (t := (47, [some (.ref 5), some (.int (nI p)), some (.long (zf_rs L n p q)), none, some (.int (nI q)), none, none], [.long ((1 <<< ((nI p).toInt64 &&& 63)) ||| (1 <<< ((nI q).toInt64 &&& 63))), .ref 5], (zw_C (upd g 21 (nI m)) gl a (va_up al 22 F)))) 8 rfl ?_
      refine zr_call (t := (50, [some (.ref 5), some (.int (nI p)), some (.long (zf_rs L n p q)), none, some (.int (nI q)), none, none], [], (zw_C (upd g 21 (nI m)) gl a (va_up al 22 F)))) rfl (Nat.le_of_ble_eq_true rfl : 2 ≤ 2) (zs_C_span (upd g 21 (nI m)) gl a (va_up al 22 F) n hn hn64 L hL (zf_b p ||| zf_b q)) ?_
      rintro _ _ ⟨rfl, rfl⟩
      show zm_Run zt_get 2 zt_F_addLines (50, [some (.ref 5), some (.int (nI p)), some (.long (zf_rs L n p q)), none, some (.int (nI q)), none, none], [.long (zf_sp L n (zf_b p ||| zf_b q))], (zw_C (upd g 21 (nI m)) gl a (va_up al 22 F))) _
      have hrs := zf_rs_y hb
      generalize hS : zf_sp L n (zf_b p ||| zf_b q) = S at hrs
      refine zr_go (t := (71, [some (.ref 5), some (.int (nI p)), some (.long ((zf_rs L n p q) &&& (S ^^^ (-1)))), none, some (.int (nI q)), some (.long S), none], [.int (lg_cmp (S &&& (-S)) (1 <<< ((nI p).toInt64 &&& 63)))], (zw_C (upd g 21 (nI m)) gl a (va_up al 22 F)))) 15 rfl ?_
      refine zr_if (c := lg_cmp (S &&& (-S)) (1 <<< ((nI p).toInt64 &&& 63)) = 0) (t := (74, [some (.ref 5), some (.int (nI p)), some (.long ((zf_rs L n p q) &&& (S ^^^ (-1)))), none, some (.int (nI q)), some (.long S), none], [], (zw_C (upd g 21 (nI m)) gl a (va_up al 22 F)))) (f := (104, [some (.ref 5), some (.int (nI p)), some (.long ((zf_rs L n p q) &&& (S ^^^ (-1)))), none, some (.int (nI q)), some (.long S), none], [], (zw_C (upd g 21 (nI m)) gl a (va_up al 22 F)))) rfl (fun hcm => ?_) (fun hcm => ?_)
      · skip
        have hlow : S &&& -S = zf_b p := (lg_cmp_eq _ _).mp hcm
        have hgd : zf_gd L n p q = true := by unfold zf_gd; rw [hb, hS, decide_eq_true hlow]; rfl
        have hm2 : m + 1 = zC (zf_gl L n) (n * p + (q + 1)) := by rw [hm]; show _ = zC (zf_gl L n) (n * p + q) + ((zf_gl L n) (n * p + q)).toNat; rw [hgl, hgd]; rfl
        have hm3 : m + 1 ≤ 105 := by rw [hm2]; exact Nat.le_trans (zC_mono _ (by omega)) hB
        have hzX : zX (zf_gl L n) (n * n) m = n * p + q := by rw [hm]; exact zX_at (by rw [hgl, hgd]) (by omega)
        refine zr_go (t := (80, [some (.ref 5), some (.int (nI p)), some (.long ((zf_rs L n p q) &&& (S ^^^ (-1)))), none, some (.int (nI q)), some (.long S), none], [.int 105, .int (nI m)], (zw_C (upd g 21 (nI m)) gl a (va_up al 22 F)))) 3 rfl ?_
        refine zr_ige (x := nI m) (y := 105) m 105 rfl rfl (by omega) (by omega) (t := (104, [some (.ref 5), some (.int (nI p)), some (.long ((zf_rs L n p q) &&& (S ^^^ (-1)))), none, some (.int (nI q)), some (.long S), none], [], (zw_C (upd g 21 (nI m)) gl a (va_up al 22 F)))) (f := (83, [some (.ref 5), some (.int (nI p)), some (.long ((zf_rs L n p q) &&& (S ^^^ (-1)))), none, some (.int (nI q)), some (.long S), none], [], (zw_C (upd g 21 (nI m)) gl a (va_up al 22 F)))) rfl (fun h3 => ?_) (fun h3 => ?_)
        · skip
          exfalso; omega
        · skip
          refine zr_go (t := (93, [some (.ref 5), some (.int (nI p)), some (.long ((zf_rs L n p q) &&& (S ^^^ (-1)))), none, some (.int (nI q)), some (.long S), none], [.long S, .int (nI m), .ref 22], (zw_C (upd g 21 (nI m)) gl a (va_up al 22 F)))) 5 rfl ?_
          refine zr_cd (t := (94, [some (.ref 5), some (.int (nI p)), some (.long ((zf_rs L n p q) &&& (S ^^^ (-1)))), none, some (.int (nI q)), some (.long S), none], [], (zw_C (upd g 21 (nI m)) gl a (va_up al 22 (vp_updL F ((nI m).toNatClampNeg) S))))) rfl (pk_in m 105 (by omega) rfl (by omega)) ?_
          rw [pk_cl (x := (nI m)) m rfl (by omega)]
          refine zr_go (t := (18, [some (.ref 5), some (.int (nI p)), some (.long ((zf_rs L n p q) &&& (S ^^^ (-1)))), none, some (.int ((nI q) + 1)), some (.long S), none], [], (zw_C (upd g 21 ((nI m) + 1)) gl a (va_up al 22 (vp_updL F m S))))) 8 rfl ?_
          rw [show zf_rs L n p q &&& (S ^^^ -1) = zf_rs L n p (q + 1) from hrs.symm]
          rw [show (nI q) + 1 = nI (q + 1) from (zn_add rfl rfl)]
          rw [show (nI m) + 1 = nI (m + 1) from (zn_add rfl rfl)]
          refine zr_forget [some (.ref 5), some (.int (nI p)), some (.long (zf_rs L n p (q + 1))), none, some (.int (nI (q + 1))), none, none] ⟨Or.inr rfl, Or.inr rfl, Or.inr rfl, Or.inr rfl, Or.inr rfl, Or.inl rfl, Or.inr rfl, trivial⟩ ?_
          exact ih (q + 1, zf_rs L n p (q + 1), m + 1, (vp_updL F m S)) ⟨by omega, rfl, hm2, lt_s (fun k hk => (pk_uLn (by omega)).trans (hF2 k hk)) (pk_uLs.trans (by unfold zf_lm; rw [hzX, hdm.1, hdm.2, hS]))⟩ (by omega)
      · skip
        have hgd : zf_gd L n p q = false := by unfold zf_gd; rw [hS, decide_eq_false (p := S &&& -S = zf_b p) (fun e => hcm ((lg_cmp_eq _ _).mpr e)), Bool.and_false]
        refine zr_go (t := (18, [some (.ref 5), some (.int (nI p)), some (.long ((zf_rs L n p q) &&& (S ^^^ (-1)))), none, some (.int ((nI q) + 1)), some (.long S), none], [], (zw_C (upd g 21 (nI m)) gl a (va_up al 22 F)))) 2 rfl ?_
        rw [show zf_rs L n p q &&& (S ^^^ -1) = zf_rs L n p (q + 1) from hrs.symm]
        rw [show (nI q) + 1 = nI (q + 1) from (zn_add rfl rfl)]
        refine zr_forget [some (.ref 5), some (.int (nI p)), some (.long (zf_rs L n p (q + 1))), none, some (.int (nI (q + 1))), none, none] ⟨Or.inr rfl, Or.inr rfl, Or.inr rfl, Or.inr rfl, Or.inr rfl, Or.inl rfl, Or.inr rfl, trivial⟩ ?_
        exact ih (q + 1, zf_rs L n p (q + 1), m, F) ⟨by omega, rfl, (by rw [hm]; show _ = zC (zf_gl L n) (n * p + q) + ((zf_gl L n) (n * p + q)).toNat; rw [hgl, hgd]; rfl), hF2⟩ (by omega)
theorem zs_C_addPlanes (g : Nat → Int32) (gl : Nat → Int64) (a : Nat → Nat → Int32) (al : Nat → Nat → Int64) (n : Nat) (hn : g 20 = nI n) (hn64 : n ≤ 64) (L : Nat → Int64) (hL : ∀ k, k < n → al 21 k = L k) (hB : zf_np L n ≤ 30) (l : Nat) (hl : l < zf_nl L n) (x : Int64) (hx : x = zf_lm L n l) (hF : ∀ k, k < zC (zf_gq L n) (n * l) → al 23 k = zf_pm L n k) : zm_Ev zt_get 3 3 [.ref 5, .long x] (zw_C (upd g 22 (nI (zC (zf_gq L n) (n * l)))) gl a al) (fun v w => v = none ∧ ∃ F, w = (zw_C (upd g 22 (nI (zC (zf_gq L n) (n * (l + 1))))) gl a (va_up al 23 F)) ∧ ∀ k, k < zC (zf_gq L n) (n * (l + 1)) → F k = zf_pm L n k) := by
  have hmul : n * l + n ≤ n * zf_nl L n := by rw [← Nat.mul_succ]; exact Nat.mul_le_mul_left n hl
  refine zr_ev zt_F_addPlanes rfl rfl ?_
  show zm_Run zt_get 2 zt_F_addPlanes (0, [some (.ref 5), some (.long x), none, none, none, none, none, none], [], (zw_C (upd g 22 (nI (zC (zf_gq L n) (n * l)))) gl a al)) _
  refine zr_go (t := (2, [some (.ref 5), some (.long x), none, none, none, none, none, none], [.long x, .ref 5], (zw_C (upd g 22 (nI (zC (zf_gq L n) (n * l)))) gl a al))) 2 rfl ?_
  refine zr_call (t := (5, [some (.ref 5), some (.long x), none, none, none, none, none, none], [], (zw_C (upd g 22 (nI (zC (zf_gq L n) (n * l)))) gl a al))) rfl (Nat.le_of_ble_eq_true rfl : 1 ≤ 2) (zs_C_lwa (upd g 22 (nI (zC (zf_gq L n) (n * l)))) gl a al n hn hn64 L hL x) ?_
  rintro _ _ ⟨rfl, rfl⟩
  show zm_Run zt_get 2 zt_F_addPlanes (5, [some (.ref 5), some (.long x), none, none, none, none, none, none], [.long (zf_all L x n)], (zw_C (upd g 22 (nI (zC (zf_gq L n) (n * l)))) gl a al)) _
  refine zr_go (t := (15, [some (.ref 5), some (.long x), none, some (.long ((zf_all L x n) &&& (x ^^^ (-1)))), none, some (.int 0), none, none], [], (zw_C (upd g 22 (nI (zC (zf_gq L n) (n * l)))) gl a al))) 7 rfl ?_
  refine zr_loop (fun zq : Nat × Int64 × Nat × (Nat → Int64) => (15, [some (.ref 5), some (.long x), none, some (.long zq.2.1), none, some (.int (nI zq.1)), none, none], [], (zw_C (upd g 22 (nI zq.2.2.1)) gl a (va_up al 23 zq.2.2.2)))) (fun zq => zq.1 ≤ n ∧ zq.2.1 = zf_r2 L n x zq.1 ∧ zq.2.2.1 = zC (zf_gq L n) (n * l + zq.1) ∧ ∀ k, k < zq.2.2.1 → zq.2.2.2 k = zf_pm L n k) (fun zq => n - zq.1) ?_ (0, zf_r2 L n x 0, zC (zf_gq L n) (n * l), al 23) ⟨by omega, rfl, rfl, hF⟩
  rintro ⟨q, r, m, F⟩ ⟨hq, hr, hm, hF2⟩ ih
  try dsimp only at *
  subst hr
  have hm1 : m ≤ 30 := by rw [hm]; exact Nat.le_trans (zC_mono _ (by omega)) hB
  refine zr_go (t := (21, [some (.ref 5), some (.long x), none, some (.long (zf_r2 L n x q)), none, some (.int (nI q)), none, none], [.int (g 20), .int (nI q)], (zw_C (upd g 22 (nI m)) gl a (va_up al 23 F)))) 3 rfl ?_
  refine zr_ige (x := nI q) (y := g 20) q n rfl hn (by omega) (by omega) (t := (105, [some (.ref 5), some (.long x), none, some (.long (zf_r2 L n x q)), none, some (.int (nI q)), none, none], [], (zw_C (upd g 22 (nI m)) gl a (va_up al 23 F)))) (f := (24, [some (.ref 5), some (.long x), none, some (.long (zf_r2 L n x q)), none, some (.int (nI q)), none, none], [], (zw_C (upd g 22 (nI m)) gl a (va_up al 23 F)))) rfl (fun h1 => ?_) (fun h1 => ?_)
  · skip
    have e : q = n := by omega
    subst e
    exact zr_ret rfl trivial ⟨rfl, F, by rw [hm, Nat.mul_succ], fun k hk => hF2 k (by rw [hm, ← Nat.mul_succ]; exact hk)⟩
  · skip
    have hdm : (n * l + q) / n = l ∧ (n * l + q) % n = q := zv_dm h1
    have hgl : (zf_gq L n) (n * l + q) = zf_gp L n x q := by unfold zf_gq; rw [hdm.1, hdm.2, hx]
    refine zr_go (t := (30, [some (.ref 5), some (.long x), none, some (.long (zf_r2 L n x q)), none, some (.int (nI q)), none, none], [.long ((((zf_r2 L n x q).toUInt64 >>> ((nI q).toInt64.toUInt64 &&& Int64.toUInt64 63)).toInt64) &&& 1)], (zw_C (upd g 22 (nI m)) gl a (va_up al 23 F)))) 5 rfl ?_
    rw [lb_ush (x := (zf_r2 L n x q)) (k := q) (by omega)]
    refine zr_go (t := (32, [some (.ref 5), some (.long x), none, some (.long (zf_r2 L n x q)), none, some (.int (nI q)), none, none], [.int (lg_cmp (nL (lb (zf_r2 L n x q) q).toNat) 0)], (zw_C (upd g 22 (nI m)) gl a (va_up al 23 F)))) 2 rfl ?_
    refine zr_if (c := (lg_cmp (nL (lb (zf_r2 L n x q) q).toNat) 0) = 0) (t := (99, [some (.ref 5), some (.long x), none, some (.long (zf_r2 L n x q)), none, some (.int (nI q)), none, none], [], (zw_C (upd g 22 (nI m)) gl a (va_up al 23 F)))) (f := (35, [some (.ref 5), some (.long x), none, some (.long (zf_r2 L n x q)), none, some (.int (nI q)), none, none], [], (zw_C (upd g 22 (nI m)) gl a (va_up al 23 F)))) rfl (fun hbit => ?_) (fun hbit => ?_)
    · skip
      have hb := zb_c0 hbit
      have hgd : zf_gp L n x q = false := by unfold zf_gp; rw [hb]; rfl
      refine zr_go (t := (15, [some (.ref 5), some (.long x), none, some (.long (zf_r2 L n x q)), none, some (.int ((nI q) + 1)), none, none], [], (zw_C (upd g 22 (nI m)) gl a (va_up al 23 F)))) 2 rfl ?_
      rw [show (nI q) + 1 = nI (q + 1) from (zn_add rfl rfl)]
      exact ih (q + 1, (zf_r2 L n x q), m, F) ⟨by omega, (zf_r2_n hb).symm, (by rw [hm]; show _ = zC (zf_gq L n) (n * l + q) + ((zf_gq L n) (n * l + q)).toNat; rw [hgl, hgd]; rfl), hF2⟩ (by omega)
    · skip
      have hb := zb_c1 hbit
      refine zr_go (t := (42, [some (.ref 5), some (.long x), none, some (.long (zf_r2 L n x q)), none, some (.int (nI q)), none, none], [.long (x ||| (1 <<< ((nI q).toInt64 &&& 63))), .ref 5], (zw_C (upd g 22 (nI m)) gl a (va_up al 23 F)))) 6 rfl ?_
      refine zr_call (t := (45, [some (.ref 5), some (.long x), none, some (.long (zf_r2 L n x q)), none, some (.int (nI q)), none, none], [], (zw_C (upd g 22 (nI m)) gl a (va_up al 23 F)))) rfl (Nat.le_of_ble_eq_true rfl : 2 ≤ 2) (zs_C_span (upd g 22 (nI m)) gl a (va_up al 23 F) n hn hn64 L hL (x ||| zf_b q)) ?_
      rintro _ _ ⟨rfl, rfl⟩
      show zm_Run zt_get 2 zt_F_addPlanes (45, [some (.ref 5), some (.long x), none, some (.long (zf_r2 L n x q)), none, some (.int (nI q)), none, none], [.long (zf_sp L n (x ||| zf_b q))], (zw_C (upd g 22 (nI m)) gl a (va_up al 23 F))) _
      have hrs := zf_r2_y hb
      generalize hS : zf_sp L n (x ||| zf_b q) = S at hrs
      refine zr_go (t := (58, [some (.ref 5), some (.long x), none, some (.long ((zf_r2 L n x q) &&& (S ^^^ (-1)))), none, some (.int (nI q)), some (.long S), none], [.long S], (zw_C (upd g 22 (nI m)) gl a (va_up al 23 F)))) 8 rfl ?_
      refine zr_call (t := (61, [some (.ref 5), some (.long x), none, some (.long ((zf_r2 L n x q) &&& (S ^^^ (-1)))), none, some (.int (nI q)), some (.long S), none], [], (zw_C (upd g 22 (nI m)) gl a (va_up al 23 F)))) rfl (Nat.le_of_ble_eq_true rfl : 1 ≤ 2) (zs_C_low2 (upd g 22 (nI m)) gl a (va_up al 23 F) S) ?_
      rintro _ _ ⟨rfl, rfl⟩
      show zm_Run zt_get 2 zt_F_addPlanes (61, [some (.ref 5), some (.long x), none, some (.long ((zf_r2 L n x q) &&& (S ^^^ (-1)))), none, some (.int (nI q)), some (.long S), none], [.long (zf_l2 S)], (zw_C (upd g 22 (nI m)) gl a (va_up al 23 F))) _
      refine zr_go (t := (62, [some (.ref 5), some (.long x), none, some (.long ((zf_r2 L n x q) &&& (S ^^^ (-1)))), none, some (.int (nI q)), some (.long S), none], [.long x, .long (zf_l2 S)], (zw_C (upd g 22 (nI m)) gl a (va_up al 23 F)))) 1 rfl ?_
      refine zr_call (t := (65, [some (.ref 5), some (.long x), none, some (.long ((zf_r2 L n x q) &&& (S ^^^ (-1)))), none, some (.int (nI q)), some (.long S), none], [.long (zf_l2 S)], (zw_C (upd g 22 (nI m)) gl a (va_up al 23 F)))) rfl (Nat.le_of_ble_eq_true rfl : 1 ≤ 2) (zs_C_low2 (upd g 22 (nI m)) gl a (va_up al 23 F) x) ?_
      rintro _ _ ⟨rfl, rfl⟩
      show zm_Run zt_get 2 zt_F_addPlanes (65, [some (.ref 5), some (.long x), none, some (.long ((zf_r2 L n x q) &&& (S ^^^ (-1)))), none, some (.int (nI q)), some (.long S), none], [.long (zf_l2 x), .long (zf_l2 S)], (zw_C (upd g 22 (nI m)) gl a (va_up al 23 F))) _
      refine zr_go (t := (66, [some (.ref 5), some (.long x), none, some (.long ((zf_r2 L n x q) &&& (S ^^^ (-1)))), none, some (.int (nI q)), some (.long S), none], [.int (lg_cmp (zf_l2 S) (zf_l2 x))], (zw_C (upd g 22 (nI m)) gl a (va_up al 23 F)))) 1 rfl ?_
      refine zr_if (c := lg_cmp (zf_l2 S) (zf_l2 x) = 0) (t := (69, [some (.ref 5), some (.long x), none, some (.long ((zf_r2 L n x q) &&& (S ^^^ (-1)))), none, some (.int (nI q)), some (.long S), none], [], (zw_C (upd g 22 (nI m)) gl a (va_up al 23 F)))) (f := (99, [some (.ref 5), some (.long x), none, some (.long ((zf_r2 L n x q) &&& (S ^^^ (-1)))), none, some (.int (nI q)), some (.long S), none], [], (zw_C (upd g 22 (nI m)) gl a (va_up al 23 F)))) rfl (fun hcm => ?_) (fun hcm => ?_)
      · skip
        have hlow := (lg_cmp_eq _ _).mp hcm
        have hgd : zf_gp L n x q = true := by unfold zf_gp; rw [hb, hS, decide_eq_true hlow]; rfl
        have hm2 : m + 1 = zC (zf_gq L n) (n * l + (q + 1)) := by rw [hm]; show _ = zC (zf_gq L n) (n * l + q) + ((zf_gq L n) (n * l + q)).toNat; rw [hgl, hgd]; rfl
        have hm3 : m + 1 ≤ 30 := by rw [hm2]; exact Nat.le_trans (zC_mono _ (by omega)) hB
        have hzX : zX (zf_gq L n) (n * zf_nl L n) m = n * l + q := by rw [hm]; exact zX_at (by rw [hgl, hgd]) (by omega)
        refine zr_go (t := (75, [some (.ref 5), some (.long x), none, some (.long ((zf_r2 L n x q) &&& (S ^^^ (-1)))), none, some (.int (nI q)), some (.long S), none], [.int 30, .int (nI m)], (zw_C (upd g 22 (nI m)) gl a (va_up al 23 F)))) 3 rfl ?_
        refine zr_ige (x := nI m) (y := 30) m 30 rfl rfl (by omega) (by omega) (t := (99, [some (.ref 5), some (.long x), none, some (.long ((zf_r2 L n x q) &&& (S ^^^ (-1)))), none, some (.int (nI q)), some (.long S), none], [], (zw_C (upd g 22 (nI m)) gl a (va_up al 23 F)))) (f := (78, [some (.ref 5), some (.long x), none, some (.long ((zf_r2 L n x q) &&& (S ^^^ (-1)))), none, some (.int (nI q)), some (.long S), none], [], (zw_C (upd g 22 (nI m)) gl a (va_up al 23 F)))) rfl (fun h3 => ?_) (fun h3 => ?_)
        · skip
          exfalso; omega
        · skip
          refine zr_go (t := (88, [some (.ref 5), some (.long x), none, some (.long ((zf_r2 L n x q) &&& (S ^^^ (-1)))), none, some (.int (nI q)), some (.long S), none], [.long S, .int (nI m), .ref 23], (zw_C (upd g 22 (nI m)) gl a (va_up al 23 F)))) 5 rfl ?_
          refine zr_cd (t := (89, [some (.ref 5), some (.long x), none, some (.long ((zf_r2 L n x q) &&& (S ^^^ (-1)))), none, some (.int (nI q)), some (.long S), none], [], (zw_C (upd g 22 (nI m)) gl a (va_up al 23 (vp_updL F ((nI m).toNatClampNeg) S))))) rfl (pk_in m 30 (by omega) rfl (by omega)) ?_
          rw [pk_cl (x := (nI m)) m rfl (by omega)]
          refine zr_go (t := (15, [some (.ref 5), some (.long x), none, some (.long ((zf_r2 L n x q) &&& (S ^^^ (-1)))), none, some (.int ((nI q) + 1)), some (.long S), none], [], (zw_C (upd g 22 ((nI m) + 1)) gl a (va_up al 23 (vp_updL F m S))))) 8 rfl ?_
          rw [show zf_r2 L n x q &&& (S ^^^ -1) = zf_r2 L n x (q + 1) from hrs.symm]
          rw [show (nI q) + 1 = nI (q + 1) from (zn_add rfl rfl)]
          rw [show (nI m) + 1 = nI (m + 1) from (zn_add rfl rfl)]
          refine zr_forget [some (.ref 5), some (.long x), none, some (.long (zf_r2 L n x (q + 1))), none, some (.int (nI (q + 1))), none, none] ⟨Or.inr rfl, Or.inr rfl, Or.inr rfl, Or.inr rfl, Or.inr rfl, Or.inr rfl, Or.inl rfl, Or.inr rfl, trivial⟩ ?_
          exact ih (q + 1, zf_r2 L n x (q + 1), m + 1, (vp_updL F m S)) ⟨by omega, rfl, hm2, lt_s (fun k hk => (pk_uLn (by omega)).trans (hF2 k hk)) (pk_uLs.trans (by unfold zf_pm; rw [hzX, hdm.1, hdm.2, ← hx, hS]))⟩ (by omega)
      · skip
        have hgd : zf_gp L n x q = false := by unfold zf_gp; rw [hS, decide_eq_false (fun e => hcm ((lg_cmp_eq _ _).mpr e)), Bool.and_false]
        refine zr_go (t := (15, [some (.ref 5), some (.long x), none, some (.long ((zf_r2 L n x q) &&& (S ^^^ (-1)))), none, some (.int ((nI q) + 1)), some (.long S), none], [], (zw_C (upd g 22 (nI m)) gl a (va_up al 23 F)))) 2 rfl ?_
        rw [show zf_r2 L n x q &&& (S ^^^ -1) = zf_r2 L n x (q + 1) from hrs.symm]
        rw [show (nI q) + 1 = nI (q + 1) from (zn_add rfl rfl)]
        refine zr_forget [some (.ref 5), some (.long x), none, some (.long (zf_r2 L n x (q + 1))), none, some (.int (nI (q + 1))), none, none] ⟨Or.inr rfl, Or.inr rfl, Or.inr rfl, Or.inr rfl, Or.inr rfl, Or.inr rfl, Or.inl rfl, Or.inr rfl, trivial⟩ ?_
        exact ih (q + 1, zf_r2 L n x (q + 1), m, F) ⟨by omega, rfl, (by rw [hm]; show _ = zC (zf_gq L n) (n * l + q) + ((zf_gq L n) (n * l + q)).toNat; rw [hgl, hgd]; rfl), hF2⟩ (by omega)
/-- the links of the members, by their order -/
def zf_R (P N : Nat) (c : Nat → Nat) (p q : Nat) : Bool := zv_dot N (zz_nm P N c (zv_y P N (zX (zw_oo P N c) (zv_np P N) p))) (zv_y P N (zX (zw_oo P N c) (zv_np P N) q)) % P == 0
def zf_k (P N : Nat) (c : Nat → Nat) (k j : Nat) : Bool := decide (k = j) || zf_R P N c (max k j) (min k j)
def zf_L (P N : Nat) (c : Nat → Nat) (k : Nat) : Int64 := zL (zf_k P N c k) (zw_on P N c)
def zf_W (p q k j : Nat) : Bool := decide ((k < p ∧ j < p) ∨ (k < p ∧ j = p ∧ k < q) ∨ (k = p ∧ (j < q ∨ j = p)))
theorem zf_b_lb {k j : Nat} (h : k < 64) : lb (zf_b k) j = decide (k = j) := lb_bit h
theorem zf_i0 {P N : Nat} {c : Nat → Nat} {p k j : Nat} {F : Nat → Int64} (hp : p < 64) (hF : ∀ k j, k < p → lb (F k) j = (decide (j < p) && zf_k P N c k j)) (hk : k ≤ p) : lb (vp_updL F p (zf_b p) k) j = (zf_W p 0 k j && zf_k P N c k j) := by
  by_cases e : k = p
  · subst e
    rw [pk_uLs, zf_b_lb hp]
    unfold zf_W zf_k
    by_cases e2 : k = j
    · rw [decide_eq_true e2, decide_eq_true (by omega)]; rfl
    · rw [decide_eq_false e2, decide_eq_false (by omega)]; rfl
  · rw [pk_uLn e, hF k j (by omega)]
    congr 1
    unfold zf_W
    by_cases e3 : j < p
    · rw [decide_eq_true e3, decide_eq_true (by omega)]
    · rw [decide_eq_false e3, decide_eq_false (by omega)]
theorem zf_ie {P N : Nat} {c : Nat → Nat} {p q k j : Nat} {G : Nat → Int64} (h2 : p ≤ q) (hq : q ≤ p) (hG : ∀ k j, k ≤ p → lb (G k) j = (zf_W p q k j && zf_k P N c k j)) (hk : k < p + 1) : lb (G k) j = (decide (j < p + 1) && zf_k P N c k j) := by
  rw [hG k j (by omega)]
  congr 1
  unfold zf_W
  by_cases e3 : j < p + 1
  · rw [decide_eq_true e3, decide_eq_true (by omega)]
  · rw [decide_eq_false e3, decide_eq_false (by omega)]
theorem zf_st0 {P N : Nat} {c : Nat → Nat} {p q k j : Nat} {G : Nat → Int64} (hq : q < p) (hR : zf_R P N c p q = false) (h : lb (G k) j = (zf_W p q k j && zf_k P N c k j)) : lb (G k) j = (zf_W p (q + 1) k j && zf_k P N c k j) := by
  rw [h]
  by_cases e1 : k = p ∧ j = q
  · obtain ⟨rfl, rfl⟩ := e1
    have : zf_k P N c k j = false := by
      unfold zf_k; rw [decide_eq_false (by omega), Nat.max_eq_left (by omega), Nat.min_eq_right (by omega), hR]; rfl
    rw [this, Bool.and_false, Bool.and_false]
  · by_cases e2 : k = q ∧ j = p
    · obtain ⟨rfl, rfl⟩ := e2
      have : zf_k P N c k j = false := by
        unfold zf_k; rw [decide_eq_false (by omega), Nat.max_eq_right (by omega), Nat.min_eq_left (by omega), hR]; rfl
      rw [this, Bool.and_false, Bool.and_false]
    · congr 1
      unfold zf_W
      by_cases e3 : (k < p ∧ j < p) ∨ (k < p ∧ j = p ∧ k < q) ∨ (k = p ∧ (j < q ∨ j = p))
      · rw [decide_eq_true e3, decide_eq_true (by omega)]
      · rw [decide_eq_false e3, decide_eq_false (by omega)]
theorem zf_st1 {P N : Nat} {c : Nat → Nat} {p q k j : Nat} {G : Nat → Int64} (hp : p < 64) (hq : q < p) (hR : zf_R P N c p q = true) (hk : k ≤ p) (h : ∀ k j, k ≤ p → lb (G k) j = (zf_W p q k j && zf_k P N c k j)) : lb (vp_updL (vp_updL G p (G p ||| zf_b q)) q (G q ||| zf_b p) k) j = (zf_W p (q + 1) k j && zf_k P N c k j) := by
  by_cases e1 : k = q
  · subst e1
    rw [pk_uLs, lb_or, zf_b_lb hp, h k j hk]
    by_cases e2 : p = j
    · subst e2
      have : zf_k P N c k p = true := by
        unfold zf_k; rw [Nat.max_eq_right (by omega), Nat.min_eq_left (by omega), hR, Bool.or_true]
      rw [this, decide_eq_true rfl, Bool.or_true]
      unfold zf_W; rw [decide_eq_true (by omega)]; rfl
    · rw [decide_eq_false e2, Bool.or_false]
      congr 1
      unfold zf_W
      by_cases e3 : j < p
      · rw [decide_eq_true (by omega), decide_eq_true (by omega)]
      · rw [decide_eq_false (by omega), decide_eq_false (by omega)]
  · rw [pk_uLn e1]
    by_cases e2 : k = p
    · subst e2
      rw [pk_uLs, lb_or, zf_b_lb (by omega), h k j hk]
      by_cases e3 : q = j
      · subst e3
        have : zf_k P N c k q = true := by
          unfold zf_k; rw [Nat.max_eq_left (by omega), Nat.min_eq_right (by omega), hR, Bool.or_true]
        rw [this, decide_eq_true rfl, Bool.or_true]
        unfold zf_W; rw [decide_eq_true (by omega)]; rfl
      · rw [decide_eq_false e3, Bool.or_false]
        congr 1
        unfold zf_W
        by_cases e4 : j < q ∨ j = k
        · rw [decide_eq_true (by omega), decide_eq_true (by omega)]
        · rw [decide_eq_false (by omega), decide_eq_false (by omega)]
    · rw [pk_uLn e2, h k j hk]
      congr 1
      unfold zf_W
      by_cases e3 : (k < p ∧ j < p) ∨ (k < p ∧ j = p ∧ k < q)
      · rw [decide_eq_true (by omega), decide_eq_true (by omega)]
      · rw [decide_eq_false (by omega), decide_eq_false (by omega)]
theorem zs_C_findLinks (g : Nat → Int32) (gl : Nat → Int64) (a : Nat → Nat → Int32) (al : Nat → Nat → Int64) (P N : Nat) (hQ : zQ_P g a P N) (c : Nat → Nat) (hv : zQ_v g a P N c) (h20 : g 20 = nI (zw_on P N c)) (h64 : zw_on P N c ≤ 64) : zm_Ev zt_get 3 1 [.ref 5, .ref 4] (zw_C g gl a al) (fun v w => v = none ∧ ∃ F, w = (zw_C g gl a (va_up al 21 F)) ∧ ∀ k, k < zw_on P N c → F k = zf_L P N c k) := by
  obtain ⟨hok, hP, hN, hnp, hy⟩ := id hQ
  obtain ⟨hP0, hP5⟩ := zv_P5 hok.1
  have hN6 := zv_okN hok
  obtain ⟨-, hnp1, -⟩ := zv_nums hok
  obtain ⟨h18, h19, h17, h16, hrk, hmb⟩ := id hv
  refine zr_ev zt_F_findLinks rfl rfl ?_
  show zm_Run zt_get 2 zt_F_findLinks (0, [some (.ref 5), some (.ref 4), none, none], [], (zw_C g gl a al)) _
  refine zr_go (t := (2, [some (.ref 5), some (.ref 4), some (.int 0), none], [], (zw_C g gl a al))) 2 rfl ?_
  refine zr_loop (fun zq : Nat × (Nat → Int64) => (2, [some (.ref 5), some (.ref 4), some (.int (nI zq.1)), none], [], (zw_C g gl a (va_up al 21 zq.2)))) (fun zq => zq.1 ≤ zw_on P N c ∧ ∀ k j, k < zq.1 → lb (zq.2 k) j = (decide (j < zq.1) && zf_k P N c k j)) (fun zq => zw_on P N c - zq.1) ?_ (0, al 21) ⟨by omega, fun k j h => absurd h (Nat.not_lt_zero k)⟩
  rintro ⟨p, F⟩ ⟨hp, hF⟩ ih
  try dsimp only at *
  refine zr_go (t := (7, [some (.ref 5), some (.ref 4), some (.int (nI p)), none], [.int (g 20), .int (nI p)], (zw_C g gl a (va_up al 21 F)))) 3 rfl ?_
  refine zr_ige (x := nI p) (y := g 20) p (zw_on P N c) rfl h20 (by omega) (by omega) (t := (85, [some (.ref 5), some (.ref 4), some (.int (nI p)), none], [], (zw_C g gl a (va_up al 21 F)))) (f := (10, [some (.ref 5), some (.ref 4), some (.int (nI p)), none], [], (zw_C g gl a (va_up al 21 F)))) rfl (fun h1 => ?_) (fun h1 => ?_)
  · skip
    exact zr_ret rfl trivial ⟨rfl, F, rfl, fun k hk => lb_ext (fun j hj => by unfold zf_L; rw [lb_L _ h64, hF k j (by omega), show p = zw_on P N c by omega])⟩
  · skip
    have hXp := zX_ok (f := (zw_oo P N c)) (n := zv_np P N) (l := p) h1
    refine zr_go (t := (18, [some (.ref 5), some (.ref 4), some (.int (nI p)), none], [.long (1 <<< ((nI p).toInt64 &&& 63)), .int (nI p), .ref 21], (zw_C g gl a (va_up al 21 F)))) 6 rfl ?_
    refine zr_cd (t := (19, [some (.ref 5), some (.ref 4), some (.int (nI p)), none], [], (zw_C g gl a (va_up al 21 (vp_updL F ((nI p).toNatClampNeg) (1 <<< ((nI p).toInt64 &&& 63))))))) rfl (pk_in p 64 (by omega) rfl (by omega)) ?_
    rw [pk_cl (x := (nI p)) p rfl (by omega)]
    refine zr_go (t := (21, [some (.ref 5), some (.ref 4), some (.int (nI p)), some (.int 0)], [], (zw_C g gl a (va_up al 21 (vp_updL F p (1 <<< ((nI p).toInt64 &&& 63))))))) 2 rfl ?_
    refine zr_loop (fun zq : Nat × (Nat → Int64) => (21, [some (.ref 5), some (.ref 4), some (.int (nI p)), some (.int (nI zq.1))], [], (zw_C g gl a (va_up al 21 zq.2)))) (fun zq => zq.1 ≤ p ∧ ∀ k j, k ≤ p → lb (zq.2 k) j = (zf_W p zq.1 k j && zf_k P N c k j)) (fun zq => p - zq.1) ?_ (0, (vp_updL F p (1 <<< ((nI p).toInt64 &&& 63)))) ⟨by omega, fun k j hk => zf_i0 (by omega) hF hk⟩
    rintro ⟨q, G⟩ ⟨hq, hG⟩ ih2
    try dsimp only at *
    refine zr_go (t := (23, [some (.ref 5), some (.ref 4), some (.int (nI p)), some (.int (nI q))], [.int (nI p), .int (nI q)], (zw_C g gl a (va_up al 21 G)))) 2 rfl ?_
    refine zr_ige (x := nI q) (y := nI p) q p rfl rfl (by omega) (by omega) (t := (79, [some (.ref 5), some (.ref 4), some (.int (nI p)), some (.int (nI q))], [], (zw_C g gl a (va_up al 21 G)))) (f := (26, [some (.ref 5), some (.ref 4), some (.int (nI p)), some (.int (nI q))], [], (zw_C g gl a (va_up al 21 G)))) rfl (fun h2 => ?_) (fun h2 => ?_)
    · skip
      refine zr_go (t := (2, [some (.ref 5), some (.ref 4), some (.int ((nI p) + 1)), some (.int (nI q))], [], (zw_C g gl a (va_up al 21 G)))) 2 rfl ?_
      rw [show (nI p) + 1 = nI (p + 1) from (zn_add rfl rfl)]
      refine zr_forget [some (.ref 5), some (.ref 4), some (.int (nI (p + 1))), none] ⟨Or.inr rfl, Or.inr rfl, Or.inr rfl, Or.inl rfl, trivial⟩ ?_
      exact ih (p + 1, G) ⟨by omega, fun k j hk => zf_ie h2 hq hG hk⟩ (by omega)
    · skip
      have hXq := zX_ok (f := (zw_oo P N c)) (n := zv_np P N) (l := q) (show q < zC (zw_oo P N c) (zv_np P N) by unfold zw_on at h1; omega)
      have hmp : a 18 p = nI (zX (zw_oo P N c) (zv_np P N) p) := hmb p h1
      have hmq : a 18 q = nI (zX (zw_oo P N c) (zv_np P N) q) := hmb q (by omega)
      have hRR : zf_R P N c p q = (zv_dot N (zz_nm P N c (zv_y P N (zX (zw_oo P N c) (zv_np P N) p))) (zv_y P N (zX (zw_oo P N c) (zv_np P N) q)) % P == 0) := rfl
      generalize (zX (zw_oo P N c) (zv_np P N) p) = s at hXp hmp hRR
      generalize (zX (zw_oo P N c) (zv_np P N) q) = t at hXq hmq hRR
      refine zr_go (t := (36, [some (.ref 5), some (.ref 4), some (.int (nI p)), some (.int (nI q))], [.int (nI p), .ref 18, .ref 16, .ref 4], (zw_C g gl a (va_up al 21 G)))) 6 rfl ?_
      refine zr_cd (t := (37, [some (.ref 5), some (.ref 4), some (.int (nI p)), some (.int (nI q))], [.int ((a 18) (nI p).toNatClampNeg), .ref 16, .ref 4], (zw_C g gl a (va_up al 21 G)))) rfl (pk_in p 156 (by omega) rfl (by omega)) ?_
      rw [pk_cl (x := (nI p)) p rfl (by omega)]
      rw [show (a 18) p = nI s from hmp]
      refine zr_go (t := (42, [some (.ref 5), some (.ref 4), some (.int (nI p)), some (.int (nI q))], [.int (nI q), .ref 18, .int (nI s), .ref 16, .ref 4], (zw_C g gl a (va_up al 21 G)))) 3 rfl ?_
      refine zr_cd (t := (43, [some (.ref 5), some (.ref 4), some (.int (nI p)), some (.int (nI q))], [.int ((a 18) (nI q).toNatClampNeg), .int (nI s), .ref 16, .ref 4], (zw_C g gl a (va_up al 21 G)))) rfl (pk_in q 156 (by omega) rfl (by omega)) ?_
      rw [pk_cl (x := (nI q)) q rfl (by omega)]
      rw [show (a 18) q = nI t from hmq]
      refine zr_call (t := (46, [some (.ref 5), some (.ref 4), some (.int (nI p)), some (.int (nI q))], [], (zw_C g gl a (va_up al 21 G)))) rfl (Nat.le_of_ble_eq_true rfl : 2 ≤ 2) (zs_C_product_n g gl a (va_up al 21 G) P N hP hN hP0 hP5 hN6 s t (by omega) (by omega) (zz_nm P N c (zv_y P N s)) (zv_y P N t) (fun i hi => h16 s hXp.1 i hi) (fun i _ => by have := zz_nm_lt (N := N) (c := c) (x := zv_y P N s) hP0 i; omega) (fun i hi => hy t i hXq.1 hi) (fun i _ => zv_y4 hok)) ?_
      rintro _ _ ⟨rfl, rfl⟩
      show zm_Run zt_get 2 zt_F_findLinks (46, [some (.ref 5), some (.ref 4), some (.int (nI p)), some (.int (nI q))], [.int (nI (zv_dot N (zz_nm P N c (zv_y P N s)) (zv_y P N t) % P))], (zw_C g gl a (va_up al 21 G))) _
      have hdl : zv_dot N (zz_nm P N c (zv_y P N s)) (zv_y P N t) % P < P := Nat.mod_lt _ hP0
      refine zr_ine (x := nI (zv_dot N (zz_nm P N c (zv_y P N s)) (zv_y P N t) % P)) (y := 0) (zv_dot N (zz_nm P N c (zv_y P N s)) (zv_y P N t) % P) 0 rfl rfl (by omega) (by omega) (t := (73, [some (.ref 5), some (.ref 4), some (.int (nI p)), some (.int (nI q))], [], (zw_C g gl a (va_up al 21 G)))) (f := (49, [some (.ref 5), some (.ref 4), some (.int (nI p)), some (.int (nI q))], [], (zw_C g gl a (va_up al 21 G)))) rfl (fun h3 => ?_) (fun h3 => ?_)
      · skip
        have hR : zf_R P N c p q = false := by rw [hRR]; exact zb_ne0 h3
        refine zr_go (t := (21, [some (.ref 5), some (.ref 4), some (.int (nI p)), some (.int ((nI q) + 1))], [], (zw_C g gl a (va_up al 21 G)))) 2 rfl ?_
        rw [show (nI q) + 1 = nI (q + 1) from (zn_add rfl rfl)]
        exact ih2 (q + 1, G) ⟨by omega, fun k j hk => zf_st0 h2 hR (hG k j hk)⟩ (by omega)
      · skip
        have hR : zf_R P N c p q = true := by rw [hRR]; exact zb_eq0 h3
        refine zr_go (t := (55, [some (.ref 5), some (.ref 4), some (.int (nI p)), some (.int (nI q))], [.int (nI p), .ref 21, .int (nI p), .ref 21], (zw_C g gl a (va_up al 21 G)))) 4 rfl ?_
        refine zr_cd (t := (56, [some (.ref 5), some (.ref 4), some (.int (nI p)), some (.int (nI q))], [.long (G (nI p).toNatClampNeg), .int (nI p), .ref 21], (zw_C g gl a (va_up al 21 G)))) rfl (pk_in p 64 (by omega) rfl (by omega)) ?_
        rw [pk_cl (x := (nI p)) p rfl (by omega)]
        refine zr_go (t := (60, [some (.ref 5), some (.ref 4), some (.int (nI p)), some (.int (nI q))], [.long ((G p) ||| (1 <<< ((nI q).toInt64 &&& 63))), .int (nI p), .ref 21], (zw_C g gl a (va_up al 21 G)))) 4 rfl ?_
        rw [show (1 : Int64) <<< ((nI q).toInt64 &&& 63) = zf_b q from rfl]
        refine zr_cd (t := (61, [some (.ref 5), some (.ref 4), some (.int (nI p)), some (.int (nI q))], [], (zw_C g gl a (va_up al 21 (vp_updL G ((nI p).toNatClampNeg) ((G p) ||| (zf_b q))))))) rfl (pk_in p 64 (by omega) rfl (by omega)) ?_
        rw [pk_cl (x := (nI p)) p rfl (by omega)]
        obtain ⟨F1, hF1⟩ : ∃ F1, F1 = vp_updL G p (G p ||| zf_b q) := ⟨_, rfl⟩
        rw [← hF1]
        refine zr_go (t := (67, [some (.ref 5), some (.ref 4), some (.int (nI p)), some (.int (nI q))], [.int (nI q), .ref 21, .int (nI q), .ref 21], (zw_C g gl a (va_up al 21 F1)))) 4 rfl ?_
        refine zr_cd (t := (68, [some (.ref 5), some (.ref 4), some (.int (nI p)), some (.int (nI q))], [.long (F1 (nI q).toNatClampNeg), .int (nI q), .ref 21], (zw_C g gl a (va_up al 21 F1)))) rfl (pk_in q 64 (by omega) rfl (by omega)) ?_
        rw [pk_cl (x := (nI q)) q rfl (by omega)]
        rw [show F1 q = G q from by rw [hF1]; exact pk_uLn (by omega)]
        refine zr_go (t := (72, [some (.ref 5), some (.ref 4), some (.int (nI p)), some (.int (nI q))], [.long ((G q) ||| (1 <<< ((nI p).toInt64 &&& 63))), .int (nI q), .ref 21], (zw_C g gl a (va_up al 21 F1)))) 4 rfl ?_
        rw [show (1 : Int64) <<< ((nI p).toInt64 &&& 63) = zf_b p from rfl]
        refine zr_cd (t := (73, [some (.ref 5), some (.ref 4), some (.int (nI p)), some (.int (nI q))], [], (zw_C g gl a (va_up al 21 (vp_updL F1 ((nI q).toNatClampNeg) ((G q) ||| (zf_b p))))))) rfl (pk_in q 64 (by omega) rfl (by omega)) ?_
        rw [pk_cl (x := (nI q)) q rfl (by omega)]
        refine zr_go (t := (21, [some (.ref 5), some (.ref 4), some (.int (nI p)), some (.int ((nI q) + 1))], [], (zw_C g gl a (va_up al 21 (vp_updL F1 q ((G q) ||| (zf_b p))))))) 2 rfl ?_
        rw [show (nI q) + 1 = nI (q + 1) from (zn_add rfl rfl)]
        exact ih2 (q + 1, (vp_updL F1 q ((G q) ||| (zf_b p)))) ⟨by omega, fun k j hk => by rw [hF1]; exact zf_st1 (by omega) h2 hR hk hG⟩ (by omega)
theorem zs_C_build (g : Nat → Int32) (gl : Nat → Int64) (a : Nat → Nat → Int32) (al : Nat → Nat → Int64) (P N : Nat) (hQ : zQ_P g a P N) (c : Nat → Nat) (hv : zQ_v g a P N c) (h64 : (zw_on P N c) ≤ 64) (hB1 : zf_nl (zf_L P N c) (zw_on P N c) ≤ 105) (hB2 : zf_np (zf_L P N c) (zw_on P N c) ≤ 30) : zm_Ev zt_get 4 0 [.ref 5, .ref 4] (zw_C g gl a al) (fun v w => v = none ∧ ∃ F21 F22 F23, w = (zw_C (upd (upd (upd g 20 (nI (zw_on P N c))) 21 (nI (zf_nl (zf_L P N c) (zw_on P N c)))) 22 (nI (zf_np (zf_L P N c) (zw_on P N c)))) gl a (va_up (va_up (va_up al 21 F21) 22 F22) 23 F23)) ∧ (∀ k, k < (zw_on P N c) → F21 k = zf_L P N c k) ∧ (∀ k, k < zf_nl (zf_L P N c) (zw_on P N c) → F22 k = zf_lm (zf_L P N c) (zw_on P N c) k) ∧ ∀ k, k < zf_np (zf_L P N c) (zw_on P N c) → F23 k = zf_pm (zf_L P N c) (zw_on P N c) k) := by
  have h18 := hv.1
  refine zr_ev zt_F_build rfl rfl ?_
  show zm_Run zt_get 3 zt_F_build (0, [some (.ref 5), some (.ref 4), none], [], (zw_C g gl a al)) _
  refine zr_go (t := (13, [some (.ref 5), some (.ref 4), none], [], (zw_C (upd g 20 (if 64 < (g 18) then 64 else (g 18))) gl a al))) 6 rfl ?_
  rw [show (if (64 : Int32) < g 18 then (64 : Int32) else g 18) = nI (zw_on P N c) from (zn_min (a := zw_on P N c) (b := 64) h18 rfl (by omega) (by omega)).trans (congrArg nI (Nat.min_eq_left h64))]
  refine zr_go (t := (15, [some (.ref 5), some (.ref 4), none], [.ref 4, .ref 5], (zw_C (upd g 20 (nI (zw_on P N c))) gl a al))) 2 rfl ?_
  refine zr_call (t := (18, [some (.ref 5), some (.ref 4), none], [], (zw_C (upd g 20 (nI (zw_on P N c))) gl a al))) rfl (Nat.le_of_ble_eq_true rfl : 3 ≤ 3) (zs_C_findLinks (upd g 20 (nI (zw_on P N c))) gl a al P N hQ c hv rfl h64) ?_
  rintro _ _ ⟨rfl, F21, rfl, hF21⟩
  show zm_Run zt_get 3 zt_F_build (18, [some (.ref 5), some (.ref 4), none], [], (zw_C (upd g 20 (nI (zw_on P N c))) gl a (va_up al 21 F21))) _
  refine zr_go (t := (25, [some (.ref 5), some (.ref 4), some (.int 0)], [], (zw_C (upd (upd g 20 (nI (zw_on P N c))) 21 0) gl a (va_up al 21 F21)))) 5 rfl ?_
  refine zr_loop (fun zq : Nat × Nat × (Nat → Int64) => (25, [some (.ref 5), some (.ref 4), some (.int (nI zq.1))], [], (zw_C (upd (upd g 20 (nI (zw_on P N c))) 21 (nI zq.2.1)) gl a (va_up (va_up al 21 F21) 22 zq.2.2)))) (fun zq => zq.1 ≤ (zw_on P N c) ∧ zq.2.1 = zC (zf_gl (zf_L P N c) (zw_on P N c)) ((zw_on P N c) * zq.1) ∧ ∀ k, k < zq.2.1 → zq.2.2 k = zf_lm (zf_L P N c) (zw_on P N c) k) (fun zq => (zw_on P N c) - zq.1) ?_ (0, 0, al 22) ⟨by omega, rfl, fun k h => absurd h (Nat.not_lt_zero k)⟩
  rintro ⟨p, m, F⟩ ⟨hp, hm, hF⟩ ih
  try dsimp only at *
  subst hm
  refine zr_go (t := (30, [some (.ref 5), some (.ref 4), some (.int (nI p))], [.int (nI (zw_on P N c)), .int (nI p)], (zw_C (upd (upd g 20 (nI (zw_on P N c))) 21 (nI (zC (zf_gl (zf_L P N c) (zw_on P N c)) ((zw_on P N c) * p)))) gl a (va_up (va_up al 21 F21) 22 F)))) 3 rfl ?_
  refine zr_ige (x := nI p) (y := nI (zw_on P N c)) p (zw_on P N c) rfl rfl (by omega) (by omega) (t := (44, [some (.ref 5), some (.ref 4), some (.int (nI p))], [], (zw_C (upd (upd g 20 (nI (zw_on P N c))) 21 (nI (zC (zf_gl (zf_L P N c) (zw_on P N c)) ((zw_on P N c) * p)))) gl a (va_up (va_up al 21 F21) 22 F)))) (f := (33, [some (.ref 5), some (.ref 4), some (.int (nI p))], [], (zw_C (upd (upd g 20 (nI (zw_on P N c))) 21 (nI (zC (zf_gl (zf_L P N c) (zw_on P N c)) ((zw_on P N c) * p)))) gl a (va_up (va_up al 21 F21) 22 F)))) rfl (fun h1 => ?_) (fun h1 => ?_)
  · skip
    have e : p = zw_on P N c := by omega
    subst e
    have hnl : zC (zf_gl (zf_L P N c) (zw_on P N c)) ((zw_on P N c) * (zw_on P N c)) = zf_nl (zf_L P N c) (zw_on P N c) := rfl
    rw [hnl] at hF ⊢
    refine zr_go (t := (51, [some (.ref 5), some (.ref 4), some (.int 0)], [], (zw_C (upd (upd (upd g 20 (nI (zw_on P N c))) 21 (nI (zf_nl (zf_L P N c) (zw_on P N c)))) 22 0) gl a (va_up (va_up al 21 F21) 22 F)))) 5 rfl ?_
    refine zr_loop (fun zq : Nat × Nat × (Nat → Int64) => (51, [some (.ref 5), some (.ref 4), some (.int (nI zq.1))], [], (zw_C (upd (upd (upd g 20 (nI (zw_on P N c))) 21 (nI (zf_nl (zf_L P N c) (zw_on P N c)))) 22 (nI zq.2.1)) gl a (va_up (va_up (va_up al 21 F21) 22 F) 23 zq.2.2)))) (fun zq => zq.1 ≤ zf_nl (zf_L P N c) (zw_on P N c) ∧ zq.2.1 = zC (zf_gq (zf_L P N c) (zw_on P N c)) ((zw_on P N c) * zq.1) ∧ ∀ k, k < zq.2.1 → zq.2.2 k = zf_pm (zf_L P N c) (zw_on P N c) k) (fun zq => zf_nl (zf_L P N c) (zw_on P N c) - zq.1) ?_ (0, 0, al 23) ⟨by omega, rfl, fun k h => absurd h (Nat.not_lt_zero k)⟩
    rintro ⟨l, m, G⟩ ⟨hl, hm, hG⟩ ih2
    try dsimp only at *
    subst hm
    refine zr_go (t := (56, [some (.ref 5), some (.ref 4), some (.int (nI l))], [.int (nI (zf_nl (zf_L P N c) (zw_on P N c))), .int (nI l)], (zw_C (upd (upd (upd g 20 (nI (zw_on P N c))) 21 (nI (zf_nl (zf_L P N c) (zw_on P N c)))) 22 (nI (zC (zf_gq (zf_L P N c) (zw_on P N c)) ((zw_on P N c) * l)))) gl a (va_up (va_up (va_up al 21 F21) 22 F) 23 G)))) 3 rfl ?_
    refine zr_ige (x := nI l) (y := nI (zf_nl (zf_L P N c) (zw_on P N c))) l (zf_nl (zf_L P N c) (zw_on P N c)) rfl rfl (by omega) (by omega) (t := (75, [some (.ref 5), some (.ref 4), some (.int (nI l))], [], (zw_C (upd (upd (upd g 20 (nI (zw_on P N c))) 21 (nI (zf_nl (zf_L P N c) (zw_on P N c)))) 22 (nI (zC (zf_gq (zf_L P N c) (zw_on P N c)) ((zw_on P N c) * l)))) gl a (va_up (va_up (va_up al 21 F21) 22 F) 23 G)))) (f := (59, [some (.ref 5), some (.ref 4), some (.int (nI l))], [], (zw_C (upd (upd (upd g 20 (nI (zw_on P N c))) 21 (nI (zf_nl (zf_L P N c) (zw_on P N c)))) 22 (nI (zC (zf_gq (zf_L P N c) (zw_on P N c)) ((zw_on P N c) * l)))) gl a (va_up (va_up (va_up al 21 F21) 22 F) 23 G)))) rfl (fun h2 => ?_) (fun h2 => ?_)
    · skip
      have e : l = zf_nl (zf_L P N c) (zw_on P N c) := by omega
      subst e
      exact zr_ret rfl trivial ⟨rfl, F21, F, G, rfl, hF21, hF, hG⟩
    · skip
      refine zr_go (t := (65, [some (.ref 5), some (.ref 4), some (.int (nI l))], [.int (nI l), .ref 22, .ref 5], (zw_C (upd (upd (upd g 20 (nI (zw_on P N c))) 21 (nI (zf_nl (zf_L P N c) (zw_on P N c)))) 22 (nI (zC (zf_gq (zf_L P N c) (zw_on P N c)) ((zw_on P N c) * l)))) gl a (va_up (va_up (va_up al 21 F21) 22 F) 23 G)))) 4 rfl ?_
      refine zr_cd (t := (66, [some (.ref 5), some (.ref 4), some (.int (nI l))], [.long (F (nI l).toNatClampNeg), .ref 5], (zw_C (upd (upd (upd g 20 (nI (zw_on P N c))) 21 (nI (zf_nl (zf_L P N c) (zw_on P N c)))) 22 (nI (zC (zf_gq (zf_L P N c) (zw_on P N c)) ((zw_on P N c) * l)))) gl a (va_up (va_up (va_up al 21 F21) 22 F) 23 G)))) rfl (pk_in l 105 (by omega) rfl (by omega)) ?_
      rw [pk_cl (x := (nI l)) l rfl (by omega)]
      rw [hF l h2]
      refine zr_call (t := (69, [some (.ref 5), some (.ref 4), some (.int (nI l))], [], (zw_C (upd (upd (upd g 20 (nI (zw_on P N c))) 21 (nI (zf_nl (zf_L P N c) (zw_on P N c)))) 22 (nI (zC (zf_gq (zf_L P N c) (zw_on P N c)) ((zw_on P N c) * l)))) gl a (va_up (va_up (va_up al 21 F21) 22 F) 23 G)))) rfl (Nat.le_of_ble_eq_true rfl : 3 ≤ 3) (zs_C_addPlanes (upd (upd g 20 (nI (zw_on P N c))) 21 (nI (zf_nl (zf_L P N c) (zw_on P N c)))) gl a (va_up (va_up (va_up al 21 F21) 22 F) 23 G) (zw_on P N c) rfl h64 (zf_L P N c) hF21 hB2 l h2 (zf_lm (zf_L P N c) (zw_on P N c) l) rfl hG) ?_
      rintro _ _ ⟨rfl, G2, rfl, hG2⟩
      show zm_Run zt_get 3 zt_F_build (69, [some (.ref 5), some (.ref 4), some (.int (nI l))], [], (zw_C (upd (upd (upd g 20 (nI (zw_on P N c))) 21 (nI (zf_nl (zf_L P N c) (zw_on P N c)))) 22 (nI (zC (zf_gq (zf_L P N c) (zw_on P N c)) ((zw_on P N c) * (l + 1))))) gl a (va_up (va_up (va_up al 21 F21) 22 F) 23 G2))) _
      refine zr_go (t := (51, [some (.ref 5), some (.ref 4), some (.int ((nI l) + 1))], [], (zw_C (upd (upd (upd g 20 (nI (zw_on P N c))) 21 (nI (zf_nl (zf_L P N c) (zw_on P N c)))) 22 (nI (zC (zf_gq (zf_L P N c) (zw_on P N c)) ((zw_on P N c) * (l + 1))))) gl a (va_up (va_up (va_up al 21 F21) 22 F) 23 G2)))) 2 rfl ?_
      rw [show (nI l) + 1 = nI (l + 1) from (zn_add rfl rfl)]
      exact ih2 (l + 1, zC (zf_gq (zf_L P N c) (zw_on P N c)) ((zw_on P N c) * (l + 1)), G2) ⟨by omega, rfl, hG2⟩ (by omega)
  · skip
    refine zr_go (t := (35, [some (.ref 5), some (.ref 4), some (.int (nI p))], [.int (nI p), .ref 5], (zw_C (upd (upd g 20 (nI (zw_on P N c))) 21 (nI (zC (zf_gl (zf_L P N c) (zw_on P N c)) ((zw_on P N c) * p)))) gl a (va_up (va_up al 21 F21) 22 F)))) 2 rfl ?_
    refine zr_call (t := (38, [some (.ref 5), some (.ref 4), some (.int (nI p))], [], (zw_C (upd (upd g 20 (nI (zw_on P N c))) 21 (nI (zC (zf_gl (zf_L P N c) (zw_on P N c)) ((zw_on P N c) * p)))) gl a (va_up (va_up al 21 F21) 22 F)))) rfl (Nat.le_of_ble_eq_true rfl : 3 ≤ 3) (zs_C_addLines (upd g 20 (nI (zw_on P N c))) gl a (va_up (va_up al 21 F21) 22 F) (zw_on P N c) rfl h64 (zf_L P N c) hF21 hB1 p h1 hF) ?_
    rintro _ _ ⟨rfl, F2, rfl, hF2⟩
    show zm_Run zt_get 3 zt_F_build (38, [some (.ref 5), some (.ref 4), some (.int (nI p))], [], (zw_C (upd (upd g 20 (nI (zw_on P N c))) 21 (nI (zC (zf_gl (zf_L P N c) (zw_on P N c)) ((zw_on P N c) * (p + 1))))) gl a (va_up (va_up al 21 F21) 22 F2))) _
    refine zr_go (t := (25, [some (.ref 5), some (.ref 4), some (.int ((nI p) + 1))], [], (zw_C (upd (upd g 20 (nI (zw_on P N c))) 21 (nI (zC (zf_gl (zf_L P N c) (zw_on P N c)) ((zw_on P N c) * (p + 1))))) gl a (va_up (va_up al 21 F21) 22 F2)))) 2 rfl ?_
    rw [show (nI p) + 1 = nI (p + 1) from (zn_add rfl rfl)]
    exact ih (p + 1, zC (zf_gl (zf_L P N c) (zw_on P N c)) ((zw_on P N c) * (p + 1)), F2) ⟨by omega, rfl, hF2⟩ (by omega)
