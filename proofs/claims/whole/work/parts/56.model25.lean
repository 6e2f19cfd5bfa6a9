/-! the reference: left, what can be chosen (written by wip/whole/gen_m25.py) -/
/-- what the geometry owes: a nonsingular form has few points on the quadric, and few maximal flats -/
def zH : Prop := ∀ (P N : Nat) (c : Nat → Nat), zv_ok P N → zw_ns P N c = 0 → zw_on P N c ≤ 45 ∧ zw_gm P N c ≤ 45
def zw_wt (P N : Nat) (c : Nat → Nat) (q : Nat) : Nat := if q = 0 then zw_gm P N c else zw_on P N c
def zw_lf (P N : Nat) (c : Nat → Nat) (q : Nat) (f : Nat → Nat) (n : Nat) : Int32 := nI (zw_wt P N c q) - nI (zC (lb (zw_rd P N c q f n)) 64)
/-- how many can be chosen; which one -/
def zw_cn (P N : Nat) (c : Nat → Nat) (q : Nat) : Nat := if q = 0 then zw_on P N c else zw_gm P N c
def zw_cx (P N : Nat) (c : Nat → Nat) (q k : Nat) : Nat := if q = 0 then zX (zw_oo P N c) (zv_np P N) k else k
theorem zw_cx_ent {P N : Nat} {c : Nat → Nat} {q k : Nat} (h : k < zw_cn P N c q) : zw_ent P N c q (zw_cx P N c q k) := by
  unfold zw_ent zw_cx
  unfold zw_cn at h
  by_cases e : q = 0
  · rw [if_pos e] at h; rw [if_pos e, if_pos e]
    obtain ⟨h1, h2, -⟩ := zX_ok h
    exact ⟨h1, h2⟩
  · rw [if_neg e] at h; rw [if_neg e, if_neg e]; exact h
/-- the first that is missing -/
def zy_fm (x : Int64) : Nat := zM (fun k => !lb x k) 0 64
def zy_ok (can : Nat → Int64) (x : Int64) (k : Nat) : Bool := decide (can k &&& x = 0) && lb (can k) (zy_fm x)
theorem zs_M_size (g : Nat → Int32) (gl : Nat → Int64) (a : Nat → Nat → Int32) (al : Nat → Nat → Int64) (x : Int64) : zm_Ev zt_get 1 185 [.long x] (zw_M g gl a al) (fun v w => v = some (.int (nI (zC (lb x) 64))) ∧ w = (zw_M g gl a al)) := by
  refine zr_ev zt_M_size rfl rfl ?_
  show zm_Run zt_get 0 zt_M_size (0, [some (.long x), none, none, none], [], (zw_M g gl a al)) _
  refine zr_go (t := (4, [some (.long x), none, some (.int 0), some (.int 0)], [], (zw_M g gl a al))) 4 rfl ?_
  refine zr_loop (fun zq : Nat × Nat => (4, [some (.long x), none, some (.int (nI zq.2)), some (.int (nI zq.1))], [], (zw_M g gl a al))) (fun zq => zq.1 ≤ 64 ∧ zq.2 = zC (lb x) zq.1) (fun zq => 64 - zq.1) ?_ (0, 0) ⟨by omega, rfl⟩
  rintro ⟨k, A⟩ ⟨hk, hA⟩ ih
  try dsimp only at *
  have hA1 := zC_le (lb x) k
  refine zr_go (t := (7, [some (.long x), none, some (.int (nI A)), some (.int (nI k))], [.int 64, .int (nI k)], (zw_M g gl a al))) 2 rfl ?_
  refine zr_ige (x := nI k) (y := 64) k 64 rfl rfl (by omega) (by omega) (t := (25, [some (.long x), none, some (.int (nI A)), some (.int (nI k))], [], (zw_M g gl a al))) (f := (10, [some (.long x), none, some (.int (nI A)), some (.int (nI k))], [], (zw_M g gl a al))) rfl (fun h1 => ?_) (fun h1 => ?_)
  · skip
    refine zr_go (t := (26, [some (.long x), none, some (.int (nI A)), some (.int (nI k))], [.int (nI A)], (zw_M g gl a al))) 1 rfl ?_
    exact zr_ret rfl trivial ⟨by rw [hA, show k = 64 by omega], rfl⟩
  · skip
    refine zr_go (t := (16, [some (.long x), none, some (.int (nI A)), some (.int (nI k))], [.long ((x >>> ((nI k).toInt64 &&& 63)) &&& 1), .int (nI A)], (zw_M g gl a al))) 6 rfl ?_
    rw [lb_sh (by omega)]
    refine zr_go (t := (17, [some (.long x), none, some (.int (nI A)), some (.int (nI k))], [.int ((nL (lb x k).toNat).toInt32), .int (nI A)], (zw_M g gl a al))) 1 rfl ?_
    rw [lb_n32]
    refine zr_go (t := (4, [some (.long x), none, some (.int ((nI A) + (nI ((lb x k).toNat)))), some (.int ((nI k) + 1))], [], (zw_M g gl a al))) 4 rfl ?_
    rw [show (nI k) + 1 = nI (k + 1) from (zn_add rfl rfl)]
    rw [show (nI A) + (nI ((lb x k).toNat)) = nI (A + ((lb x k).toNat)) from (zn_add rfl rfl)]
    exact ih (k + 1, A + (lb x k).toNat) ⟨by omega, by rw [hA]; rfl⟩ (by omega)
theorem zs_M_wanted (g : Nat → Int32) (gl : Nat → Int64) (a : Nat → Nat → Int32) (al : Nat → Nat → Int64) (hG : zG) (P N : Nat) (c : Nat → Nat) (hf : zS_f g a P N c) (hs : zw_ns P N c = 0) (q : Nat) (hq : q < 2) : zm_Ev zt_get 3 186 [.ref 0, .int (nI q)] (zw_M g gl a al) (fun v w => v = some (.int (nI (zw_wt P N c q))) ∧ w = (zw_M g gl a al)) := by
  obtain ⟨hnl, hnpl, hnl1, hnpl1, hLL⟩ := hf.sound hG hs
  obtain ⟨hok, hFF, hRR, hnum, hOO, h10, h11, -⟩ := id hf
  obtain ⟨hP, hN, hP0, hP5, hN6, -⟩ := id hFF
  obtain ⟨hA9, hB9, -⟩ := zv_nums hok
  have hgm1 := zw_gm_le hG hf hs
  refine zr_ev zt_M_wanted rfl rfl ?_
  show zm_Run zt_get 2 zt_M_wanted (0, [some (.ref 0), some (.int (nI q))], [], (zw_M g gl a al)) _
  refine zr_go (t := (1, [some (.ref 0), some (.int (nI q))], [.int (nI q)], (zw_M g gl a al))) 1 rfl ?_
  refine zr_ine (x := nI q) (y := 0) q 0 rfl rfl (by omega) (by omega) (t := (11, [some (.ref 0), some (.int (nI q))], [], (zw_M g gl a al))) (f := (4, [some (.ref 0), some (.int (nI q))], [], (zw_M g gl a al))) rfl (fun h1 => ?_) (fun h1 => ?_)
  · skip
    refine zr_go (t := (15, [some (.ref 0), some (.int (nI q))], [.int (g 10)], (zw_M g gl a al))) 2 rfl ?_
    exact zr_ret rfl trivial ⟨by rw [h10]; unfold zw_wt; rw [if_neg h1]; rfl, rfl⟩
  · skip
    refine zr_go (t := (5, [some (.ref 0), some (.int (nI q))], [.ref 0], (zw_M g gl a al))) 1 rfl ?_
    refine zr_call (t := (8, [some (.ref 0), some (.int (nI q))], [], (zw_M g gl a al))) rfl (Nat.le_of_ble_eq_true rfl : 2 ≤ 2) (zs_M_gmW g gl a al hG P N c hf hs) ?_
    rintro _ _ ⟨rfl, rfl⟩
    show zm_Run zt_get 2 zt_M_wanted (8, [some (.ref 0), some (.int (nI q))], [.int (nI (zw_gm P N c))], (zw_M g gl a al)) _
    refine zr_go (t := (15, [some (.ref 0), some (.int (nI q))], [.int (nI (zw_gm P N c))], (zw_M g gl a al))) 1 rfl ?_
    exact zr_ret rfl trivial ⟨by unfold zw_wt; rw [if_pos h1], rfl⟩
theorem zs_M_leftNow (g : Nat → Int32) (gl : Nat → Int64) (a : Nat → Nat → Int32) (al : Nat → Nat → Int64) (hG : zG) (P N : Nat) (c : Nat → Nat) (hf : zS_f g a P N c) (hs : zw_ns P N c = 0) (nn : Nat → Nat) (ff : Nat → Nat → Nat) (hl : zS_l a nn ff) (he : ∀ q, q < 2 → ∀ k, k < nn q → zw_ent P N c q (ff q k)) (q : Nat) (hq : q < 2) : zm_Ev zt_get 6 187 [.ref 0, .int (nI q)] (zw_M g gl a al) (fun v w => v = some (.int (zw_lf P N c q (ff q) (nn q))) ∧ w = (zw_M g gl a al)) := by
  refine zr_ev zt_M_leftNow rfl rfl ?_
  show zm_Run zt_get 5 zt_M_leftNow (0, [some (.ref 0), some (.int (nI q))], [], (zw_M g gl a al)) _
  refine zr_go (t := (2, [some (.ref 0), some (.int (nI q))], [.int (nI q), .ref 0], (zw_M g gl a al))) 2 rfl ?_
  refine zr_call (t := (5, [some (.ref 0), some (.int (nI q))], [], (zw_M g gl a al))) rfl (Nat.le_of_ble_eq_true rfl : 3 ≤ 5) (zs_M_wanted g gl a al hG P N c hf hs q hq) ?_
  rintro _ _ ⟨rfl, rfl⟩
  show zm_Run zt_get 5 zt_M_leftNow (5, [some (.ref 0), some (.int (nI q))], [.int (nI (zw_wt P N c q))], (zw_M g gl a al)) _
  refine zr_go (t := (7, [some (.ref 0), some (.int (nI q))], [.int (nI q), .ref 0, .int (nI (zw_wt P N c q))], (zw_M g gl a al))) 2 rfl ?_
  refine zr_call (t := (10, [some (.ref 0), some (.int (nI q))], [.int (nI (zw_wt P N c q))], (zw_M g gl a al))) rfl (Nat.le_of_ble_eq_true rfl : 5 ≤ 5) (zs_M_reached g gl a al hG P N c hf hs nn ff hl he q hq) ?_
  rintro _ _ ⟨rfl, rfl⟩
  show zm_Run zt_get 5 zt_M_leftNow (10, [some (.ref 0), some (.int (nI q))], [.long (zw_rd P N c q (ff q) (nn q)), .int (nI (zw_wt P N c q))], (zw_M g gl a al)) _
  refine zr_call (t := (13, [some (.ref 0), some (.int (nI q))], [.int (nI (zw_wt P N c q))], (zw_M g gl a al))) rfl (Nat.le_of_ble_eq_true rfl : 1 ≤ 5) (zs_M_size g gl a al (zw_rd P N c q (ff q) (nn q))) ?_
  rintro _ _ ⟨rfl, rfl⟩
  show zm_Run zt_get 5 zt_M_leftNow (13, [some (.ref 0), some (.int (nI q))], [.int (nI (zC (lb (zw_rd P N c q (ff q) (nn q))) 64)), .int (nI (zw_wt P N c q))], (zw_M g gl a al)) _
  refine zr_go (t := (14, [some (.ref 0), some (.int (nI q))], [.int ((nI (zw_wt P N c q)) - (nI (zC (lb (zw_rd P N c q (ff q) (nn q))) 64)))], (zw_M g gl a al))) 1 rfl ?_
  exact zr_ret rfl trivial ⟨rfl, rfl⟩
def aw_left (P N : Nat) (c : Nat → Nat) (nn : Nat → Nat) (ff : Nat → Nat → Nat) (x : Int32) : Int32 := if zx_in x 2 = true then (if zw_sound P N c = true then zw_lf P N c (zx_k x) (ff (zx_k x)) (nn (zx_k x)) else -103) else -102
theorem zs_M_left (g : Nat → Int32) (gl : Nat → Int64) (a : Nat → Nat → Int32) (al : Nat → Nat → Int64) (hG : zG) (P N : Nat) (c : Nat → Nat) (hS : zS_F g a P N c) (nn : Nat → Nat) (ff : Nat → Nat → Nat) (hl : zS_l a nn ff) (he : zw_sound P N c = true → ∀ q, q < 2 → ∀ k, k < nn q → zw_ent P N c q (ff q k)) (x : Int32) : zm_Ev zt_get 7 188 [.ref 0, .int x] (zw_M g gl a al) (fun v w => v = some (.int (aw_left P N c nn ff x)) ∧ w = (zw_M g gl a al)) := by
  obtain ⟨hP, hN, hnp, hP5, hN6, hnp1⟩ := hS.nums
  obtain ⟨ns, on, nl, npl, hns, hon, hnl, hnpl, hns1, hon1, hnl1, hnpl1, hz0, hzP⟩ := hS.more hG
  have hso : zw_sound P N c = (decide (0 < P) && decide (ns = 0)) := by unfold zw_sound; by_cases q : 0 < P; rw [(hzP q).1]; rw [decide_eq_false q]; rfl
  refine zr_ev zt_M_left rfl rfl ?_
  show zm_Run zt_get 6 zt_M_left (0, [some (.ref 0), some (.int x)], [], (zw_M g gl a al)) _
  refine zr_go (t := (1, [some (.ref 0), some (.int x)], [.int x], (zw_M g gl a al))) 1 rfl ?_
  refine zr_call (t := (4, [some (.ref 0), some (.int x)], [], (zw_M g gl a al))) rfl (Nat.le_of_ble_eq_true rfl : 2 ≤ 6) (zs_M_isOf g gl a al x) ?_
  rintro _ _ ⟨rfl, rfl⟩
  show zm_Run zt_get 6 zt_M_left (4, [some (.ref 0), some (.int x)], [.int (nI ((zx_in x 2).toNat))], (zw_M g gl a al)) _
  have hb1 := zb_le (zx_in x 2)
  refine zr_ine (x := nI ((zx_in x 2).toNat)) (y := 0) ((zx_in x 2).toNat) 0 rfl rfl (by omega) (by omega) (t := (10, [some (.ref 0), some (.int x)], [], (zw_M g gl a al))) (f := (7, [some (.ref 0), some (.int x)], [], (zw_M g gl a al))) rfl (fun h1 => ?_) (fun h1 => ?_)
  · skip
    refine zr_go (t := (11, [some (.ref 0), some (.int x)], [.ref 0], (zw_M g gl a al))) 1 rfl ?_
    refine zr_call (t := (14, [some (.ref 0), some (.int x)], [], (zw_M g gl a al))) rfl (Nat.le_of_ble_eq_true rfl : 1 ≤ 6) (zs_M_isSound g gl a al P ns hP hP5 hns hns1) ?_
    rintro _ _ ⟨rfl, rfl⟩
    show zm_Run zt_get 6 zt_M_left (14, [some (.ref 0), some (.int x)], [.int (nI ((decide (0 < P) && decide (ns = 0)).toNat))], (zw_M g gl a al)) _
    have hbs := zb_le (decide (0 < P) && decide (ns = 0))
    refine zr_ieq (x := nI ((decide (0 < P) && decide (ns = 0)).toNat)) (y := 0) ((decide (0 < P) && decide (ns = 0)).toNat) 0 rfl rfl (by omega) (by omega) (t := (25, [some (.ref 0), some (.int x)], [], (zw_M g gl a al))) (f := (17, [some (.ref 0), some (.int x)], [], (zw_M g gl a al))) rfl (fun h2 => ?_) (fun h2 => ?_)
    · skip
      refine zr_go (t := (27, [some (.ref 0), some (.int x)], [.int (-103)], (zw_M g gl a al))) 1 rfl ?_
      exact zr_ret rfl trivial ⟨by unfold aw_left; rw [if_pos (zb_1 h1), hso, if_neg (by rw [zb_0 h2]; decide)], rfl⟩
    · skip
      rw [zb_1 h2] at hso
      obtain ⟨hp0, hn0⟩ := Bool.and_eq_true_iff.mp (zb_1 h2)
      have hp0 := of_decide_eq_true hp0
      have hn0 := of_decide_eq_true hn0
      obtain ⟨ens, eon, e3⟩ := hzP hp0
      obtain ⟨enl, enpl⟩ := e3 hn0
      obtain ⟨hf, enp⟩ := hS.form hp0
      obtain ⟨-, -, -, -, hLL⟩ := hf.sound hG (by rw [← ens]; exact hn0)
      subst enl
      subst enpl
      subst eon
      obtain ⟨k1, k2⟩ := zx_of (zb_1 h1)
      generalize hK : zx_k x = k at k1 k2
      subst k2
      refine zr_go (t := (19, [some (.ref 0), some (.int (nI k))], [.int (nI k), .ref 0], (zw_M g gl a al))) 2 rfl ?_
      refine zr_call (t := (22, [some (.ref 0), some (.int (nI k))], [], (zw_M g gl a al))) rfl (Nat.le_of_ble_eq_true rfl : 6 ≤ 6) (zs_M_leftNow g gl a al hG P N c hf (by rw [← ens]; exact hn0) nn ff hl (he hso) k k1) ?_
      rintro _ _ ⟨rfl, rfl⟩
      show zm_Run zt_get 6 zt_M_left (22, [some (.ref 0), some (.int (nI k))], [.int (zw_lf P N c k (ff k) (nn k))], (zw_M g gl a al)) _
      refine zr_go (t := (27, [some (.ref 0), some (.int (nI k))], [.int (zw_lf P N c k (ff k) (nn k))], (zw_M g gl a al))) 1 rfl ?_
      exact zr_ret rfl trivial ⟨by unfold aw_left; rw [if_pos (zb_1 h1), if_pos hso, hK], rfl⟩
  · skip
    refine zr_go (t := (9, [some (.ref 0), some (.int x)], [.int (-102)], (zw_M g gl a al))) 1 rfl ?_
    exact zr_ret rfl trivial ⟨by unfold aw_left; rw [if_neg (by rw [zb_0 h1]; decide)], rfl⟩
theorem zs_M_layCan (g : Nat → Int32) (gl : Nat → Int64) (a : Nat → Nat → Int32) (al : Nat → Nat → Int64) (hG : zG) (P N : Nat) (c : Nat → Nat) (hf : zS_f g a P N c) (hs : zw_ns P N c = 0) (hH : zH) (q : Nat) (hq : q < 2) : zm_Ev zt_get 5 189 [.ref 0, .int (nI q)] (zw_M g gl a al) (fun v w => v = none ∧ ∃ (F : Nat → Int64) (f : Nat → Int32), w = (zw_M (upd g 31 (nI (zw_cn P N c q))) gl (va_up a 19 f) (va_up al 18 F)) ∧ (∀ k, k < zw_cn P N c q → F k = zw_rc P N c q (zw_cx P N c q k)) ∧ ∀ k, k < zw_cn P N c q → f k = nI (zw_cx P N c q k)) := by
  obtain ⟨hnl, hnpl, hnl1, hnpl1, hLL⟩ := hf.sound hG hs
  obtain ⟨hok, hFF, hRR, hnum, hOO, h10, h11, -⟩ := id hf
  obtain ⟨hP, hN, hP0, hP5, hN6, -⟩ := id hFF
  obtain ⟨hA9, hB9, -⟩ := zv_nums hok
  have hgm1 := zw_gm_le hG hf hs
  obtain ⟨hon4, hgm4⟩ := hH P N c hok hs
  refine zr_ev zt_M_layCan rfl rfl ?_
  show zm_Run zt_get 4 zt_M_layCan (0, [some (.ref 0), some (.int (nI q)), none], [], (zw_M g gl a al)) _
  refine zr_go (t := (2, [some (.ref 0), some (.int (nI q)), none], [.int (nI q), .ref 0], (zw_M g gl a al))) 2 rfl ?_
  refine zr_ine (x := nI q) (y := 0) q 0 rfl rfl (by omega) (by omega) (t := (12, [some (.ref 0), some (.int (nI q)), none], [.ref 0], (zw_M g gl a al))) (f := (5, [some (.ref 0), some (.int (nI q)), none], [.ref 0], (zw_M g gl a al))) rfl (fun h1 => ?_) (fun h1 => ?_)
  · skip
    have hcn : zw_cn P N c q = zw_gm P N c := by unfold zw_cn; rw [if_neg h1]
    refine zr_go (t := (13, [some (.ref 0), some (.int (nI q)), none], [.ref 0, .ref 0], (zw_M g gl a al))) 1 rfl ?_
    refine zr_call (t := (16, [some (.ref 0), some (.int (nI q)), none], [.ref 0], (zw_M g gl a al))) rfl (Nat.le_of_ble_eq_true rfl : 2 ≤ 4) (zs_M_gmW g gl a al hG P N c hf hs) ?_
    rintro _ _ ⟨rfl, rfl⟩
    show zm_Run zt_get 4 zt_M_layCan (16, [some (.ref 0), some (.int (nI q)), none], [.int (nI (zw_gm P N c)), .ref 0], (zw_M g gl a al)) _
    rw [show nI (zw_gm P N c) = nI (zw_cn P N c q) from by rw [hcn]]
    refine zr_go (t := (21, [some (.ref 0), some (.int (nI q)), some (.int 0)], [], (zw_M (upd g 31 (nI (zw_cn P N c q))) gl a al))) 3 rfl ?_
    refine zr_loop (fun zq : Nat × (Nat → Int64) × (Nat → Int32) => (21, [some (.ref 0), some (.int (nI q)), some (.int (nI zq.1))], [], (zw_M (upd g 31 (nI (zw_cn P N c q))) gl (va_up a 19 zq.2.2) (va_up al 18 zq.2.1)))) (fun zq => zq.1 ≤ zw_cn P N c q ∧ (∀ t, t < zq.1 → zq.2.1 t = zw_rc P N c q (zw_cx P N c q t)) ∧ ∀ t, t < zq.1 → zq.2.2 t = nI (zw_cx P N c q t)) (fun zq => zw_cn P N c q - zq.1) ?_ (0, al 18, a 19) ⟨by omega, fun t h => absurd h (Nat.not_lt_zero t), fun t h => absurd h (Nat.not_lt_zero t)⟩
    rintro ⟨k, F, f⟩ ⟨hk, hF, hf2⟩ ih
    try dsimp only at *
    refine zr_go (t := (26, [some (.ref 0), some (.int (nI q)), some (.int (nI k))], [.int (nI (zw_cn P N c q)), .int (nI k)], (zw_M (upd g 31 (nI (zw_cn P N c q))) gl (va_up a 19 f) (va_up al 18 F)))) 3 rfl ?_
    refine zr_ige (x := nI k) (y := nI (zw_cn P N c q)) k (zw_cn P N c q) rfl rfl (by omega) (by omega) (t := (71, [some (.ref 0), some (.int (nI q)), some (.int (nI k))], [], (zw_M (upd g 31 (nI (zw_cn P N c q))) gl (va_up a 19 f) (va_up al 18 F)))) (f := (29, [some (.ref 0), some (.int (nI q)), some (.int (nI k))], [], (zw_M (upd g 31 (nI (zw_cn P N c q))) gl (va_up a 19 f) (va_up al 18 F)))) rfl (fun h2 => ?_) (fun h2 => ?_)
    · skip
      exact zr_ret rfl trivial ⟨rfl, F, f, rfl, fun t h => hF t (by omega), fun t h => hf2 t (by omega)⟩
    · skip
      have hxb : zw_cx P N c q k < 1000 := by have := zw_cx_ent h2; unfold zw_ent at this; split at this <;> omega
      refine zr_go (t := (35, [some (.ref 0), some (.int (nI q)), some (.int (nI k))], [.int (nI q), .int (nI k), .ref 19], (zw_M (upd g 31 (nI (zw_cn P N c q))) gl (va_up a 19 f) (va_up al 18 F)))) 4 rfl ?_
      refine zr_ine (x := nI q) (y := 0) q 0 rfl rfl (by omega) (by omega) (t := (46, [some (.ref 0), some (.int (nI q)), some (.int (nI k))], [.int (nI k), .ref 19], (zw_M (upd g 31 (nI (zw_cn P N c q))) gl (va_up a 19 f) (va_up al 18 F)))) (f := (38, [some (.ref 0), some (.int (nI q)), some (.int (nI k))], [.int (nI k), .ref 19], (zw_M (upd g 31 (nI (zw_cn P N c q))) gl (va_up a 19 f) (va_up al 18 F)))) rfl (fun h3 => ?_) (fun h3 => ?_)
      · skip
        refine zr_go (t := (47, [some (.ref 0), some (.int (nI q)), some (.int (nI k))], [.int (nI k), .int (nI k), .ref 19], (zw_M (upd g 31 (nI (zw_cn P N c q))) gl (va_up a 19 f) (va_up al 18 F)))) 1 rfl ?_
        have hcx : zw_cx P N c q k = k := by unfold zw_cx; rw [if_neg h1]
        refine zr_cd (t := (48, [some (.ref 0), some (.int (nI q)), some (.int (nI k))], [], (zw_M (upd g 31 (nI (zw_cn P N c q))) gl (va_up a 19 (upd f ((nI k).toNatClampNeg) (nI k))) (va_up al 18 F)))) rfl (pk_in k 64 (by omega) rfl (by omega)) ?_
        rw [pk_cl (x := (nI k)) k rfl (by omega)]
        refine zr_go (t := (60, [some (.ref 0), some (.int (nI q)), some (.int (nI k))], [.int (nI k), .ref 19, .int (nI q), .ref 0, .int (nI k), .ref 18], (zw_M (upd g 31 (nI (zw_cn P N c q))) gl (va_up a 19 (upd f k (nI k))) (va_up al 18 F)))) 8 rfl ?_
        refine zr_cd (t := (61, [some (.ref 0), some (.int (nI q)), some (.int (nI k))], [.int ((upd f k (nI k)) (nI k).toNatClampNeg), .int (nI q), .ref 0, .int (nI k), .ref 18], (zw_M (upd g 31 (nI (zw_cn P N c q))) gl (va_up a 19 (upd f k (nI k))) (va_up al 18 F)))) rfl (pk_in k 64 (by omega) rfl (by omega)) ?_
        rw [pk_cl (x := (nI k)) k rfl (by omega)]
        rw [show (upd f k (nI k)) k = nI k from pk_us]
        refine zr_call (t := (64, [some (.ref 0), some (.int (nI q)), some (.int (nI k))], [.int (nI k), .ref 18], (zw_M (upd g 31 (nI (zw_cn P N c q))) gl (va_up a 19 (upd f k (nI k))) (va_up al 18 F)))) rfl (Nat.le_of_ble_eq_true rfl : 4 ≤ 4) (zs_M_reach (upd g 31 (nI (zw_cn P N c q))) gl (va_up a 19 (upd f k (nI k))) (va_up al 18 F) hG P N c hf hs q k hq (hcx ▸ zw_cx_ent h2)) ?_
        rintro _ _ ⟨rfl, rfl⟩
        show zm_Run zt_get 4 zt_M_layCan (64, [some (.ref 0), some (.int (nI q)), some (.int (nI k))], [.long (zw_rc P N c q k), .int (nI k), .ref 18], (zw_M (upd g 31 (nI (zw_cn P N c q))) gl (va_up a 19 (upd f k (nI k))) (va_up al 18 F))) _
        refine zr_cd (t := (65, [some (.ref 0), some (.int (nI q)), some (.int (nI k))], [], (zw_M (upd g 31 (nI (zw_cn P N c q))) gl (va_up a 19 (upd f k (nI k))) (va_up al 18 (vp_updL F ((nI k).toNatClampNeg) (zw_rc P N c q k)))))) rfl (pk_in k 64 (by omega) rfl (by omega)) ?_
        rw [pk_cl (x := (nI k)) k rfl (by omega)]
        refine zr_go (t := (21, [some (.ref 0), some (.int (nI q)), some (.int ((nI k) + 1))], [], (zw_M (upd g 31 (nI (zw_cn P N c q))) gl (va_up a 19 (upd f k (nI k))) (va_up al 18 (vp_updL F k (zw_rc P N c q k)))))) 2 rfl ?_
        rw [show (nI k) + 1 = nI (k + 1) from (zn_add rfl rfl)]
        exact ih (k + 1, (vp_updL F k (zw_rc P N c q k)), (upd f k (nI k))) ⟨by omega, lt_s (fun t ht => (pk_uLn (Nat.ne_of_lt ht)).trans (hF t ht)) (pk_uLs.trans (by rw [hcx])), lt_s (fun t ht => (pk_un (Nat.ne_of_lt ht)).trans (hf2 t ht)) (pk_us.trans (by rw [hcx]))⟩ (by omega)
      · skip
        exact absurd h3 h1
  · skip
    have hcn : zw_cn P N c q = zw_on P N c := by unfold zw_cn; rw [if_pos h1]
    refine zr_go (t := (16, [some (.ref 0), some (.int (nI q)), none], [.int (g 10), .ref 0], (zw_M g gl a al))) 3 rfl ?_
    rw [show g 10 = nI (zw_cn P N c q) from by rw [hcn]; exact h10]
    refine zr_go (t := (21, [some (.ref 0), some (.int (nI q)), some (.int 0)], [], (zw_M (upd g 31 (nI (zw_cn P N c q))) gl a al))) 3 rfl ?_
    refine zr_loop (fun zq : Nat × (Nat → Int64) × (Nat → Int32) => (21, [some (.ref 0), some (.int (nI q)), some (.int (nI zq.1))], [], (zw_M (upd g 31 (nI (zw_cn P N c q))) gl (va_up a 19 zq.2.2) (va_up al 18 zq.2.1)))) (fun zq => zq.1 ≤ zw_cn P N c q ∧ (∀ t, t < zq.1 → zq.2.1 t = zw_rc P N c q (zw_cx P N c q t)) ∧ ∀ t, t < zq.1 → zq.2.2 t = nI (zw_cx P N c q t)) (fun zq => zw_cn P N c q - zq.1) ?_ (0, al 18, a 19) ⟨by omega, fun t h => absurd h (Nat.not_lt_zero t), fun t h => absurd h (Nat.not_lt_zero t)⟩
    rintro ⟨k, F, f⟩ ⟨hk, hF, hf2⟩ ih
    try dsimp only at *
    refine zr_go (t := (26, [some (.ref 0), some (.int (nI q)), some (.int (nI k))], [.int (nI (zw_cn P N c q)), .int (nI k)], (zw_M (upd g 31 (nI (zw_cn P N c q))) gl (va_up a 19 f) (va_up al 18 F)))) 3 rfl ?_
    refine zr_ige (x := nI k) (y := nI (zw_cn P N c q)) k (zw_cn P N c q) rfl rfl (by omega) (by omega) (t := (71, [some (.ref 0), some (.int (nI q)), some (.int (nI k))], [], (zw_M (upd g 31 (nI (zw_cn P N c q))) gl (va_up a 19 f) (va_up al 18 F)))) (f := (29, [some (.ref 0), some (.int (nI q)), some (.int (nI k))], [], (zw_M (upd g 31 (nI (zw_cn P N c q))) gl (va_up a 19 f) (va_up al 18 F)))) rfl (fun h2 => ?_) (fun h2 => ?_)
    · skip
      exact zr_ret rfl trivial ⟨rfl, F, f, rfl, fun t h => hF t (by omega), fun t h => hf2 t (by omega)⟩
    · skip
      have hxb : zw_cx P N c q k < 1000 := by have := zw_cx_ent h2; unfold zw_ent at this; split at this <;> omega
      refine zr_go (t := (35, [some (.ref 0), some (.int (nI q)), some (.int (nI k))], [.int (nI q), .int (nI k), .ref 19], (zw_M (upd g 31 (nI (zw_cn P N c q))) gl (va_up a 19 f) (va_up al 18 F)))) 4 rfl ?_
      refine zr_ine (x := nI q) (y := 0) q 0 rfl rfl (by omega) (by omega) (t := (46, [some (.ref 0), some (.int (nI q)), some (.int (nI k))], [.int (nI k), .ref 19], (zw_M (upd g 31 (nI (zw_cn P N c q))) gl (va_up a 19 f) (va_up al 18 F)))) (f := (38, [some (.ref 0), some (.int (nI q)), some (.int (nI k))], [.int (nI k), .ref 19], (zw_M (upd g 31 (nI (zw_cn P N c q))) gl (va_up a 19 f) (va_up al 18 F)))) rfl (fun h3 => ?_) (fun h3 => ?_)
      · skip
        exact absurd h1 h3
      · skip
        refine zr_go (t := (40, [some (.ref 0), some (.int (nI q)), some (.int (nI k))], [.int (nI k), .ref 0, .int (nI k), .ref 19], (zw_M (upd g 31 (nI (zw_cn P N c q))) gl (va_up a 19 f) (va_up al 18 F)))) 2 rfl ?_
        refine zr_call (t := (43, [some (.ref 0), some (.int (nI q)), some (.int (nI k))], [.int (nI k), .ref 19], (zw_M (upd g 31 (nI (zw_cn P N c q))) gl (va_up a 19 f) (va_up al 18 F)))) rfl (Nat.le_of_ble_eq_true rfl : 1 ≤ 4) (zs_M_onAt (upd g 31 (nI (zw_cn P N c q))) gl (va_up a 19 f) (va_up al 18 F) (zv_np P N) hB9 (zw_oo P N c) hOO k (by rw [hcn] at h2; exact h2)) ?_
        rintro _ _ ⟨rfl, rfl⟩
        show zm_Run zt_get 4 zt_M_layCan (43, [some (.ref 0), some (.int (nI q)), some (.int (nI k))], [.int (nI (zX (zw_oo P N c) (zv_np P N) k)), .int (nI k), .ref 19], (zw_M (upd g 31 (nI (zw_cn P N c q))) gl (va_up a 19 f) (va_up al 18 F))) _
        refine zr_go (t := (47, [some (.ref 0), some (.int (nI q)), some (.int (nI k))], [.int (nI (zX (zw_oo P N c) (zv_np P N) k)), .int (nI k), .ref 19], (zw_M (upd g 31 (nI (zw_cn P N c q))) gl (va_up a 19 f) (va_up al 18 F)))) 1 rfl ?_
        rw [show nI (zX (zw_oo P N c) (zv_np P N) k) = nI (zw_cx P N c q k) from by unfold zw_cx; rw [if_pos h1]]
        refine zr_cd (t := (48, [some (.ref 0), some (.int (nI q)), some (.int (nI k))], [], (zw_M (upd g 31 (nI (zw_cn P N c q))) gl (va_up a 19 (upd f ((nI k).toNatClampNeg) (nI (zw_cx P N c q k)))) (va_up al 18 F)))) rfl (pk_in k 64 (by omega) rfl (by omega)) ?_
        rw [pk_cl (x := (nI k)) k rfl (by omega)]
        refine zr_go (t := (60, [some (.ref 0), some (.int (nI q)), some (.int (nI k))], [.int (nI k), .ref 19, .int (nI q), .ref 0, .int (nI k), .ref 18], (zw_M (upd g 31 (nI (zw_cn P N c q))) gl (va_up a 19 (upd f k (nI (zw_cx P N c q k)))) (va_up al 18 F)))) 8 rfl ?_
        refine zr_cd (t := (61, [some (.ref 0), some (.int (nI q)), some (.int (nI k))], [.int ((upd f k (nI (zw_cx P N c q k))) (nI k).toNatClampNeg), .int (nI q), .ref 0, .int (nI k), .ref 18], (zw_M (upd g 31 (nI (zw_cn P N c q))) gl (va_up a 19 (upd f k (nI (zw_cx P N c q k)))) (va_up al 18 F)))) rfl (pk_in k 64 (by omega) rfl (by omega)) ?_
        rw [pk_cl (x := (nI k)) k rfl (by omega)]
        rw [show (upd f k (nI (zw_cx P N c q k))) k = nI (zw_cx P N c q k) from pk_us]
        refine zr_call (t := (64, [some (.ref 0), some (.int (nI q)), some (.int (nI k))], [.int (nI k), .ref 18], (zw_M (upd g 31 (nI (zw_cn P N c q))) gl (va_up a 19 (upd f k (nI (zw_cx P N c q k)))) (va_up al 18 F)))) rfl (Nat.le_of_ble_eq_true rfl : 4 ≤ 4) (zs_M_reach (upd g 31 (nI (zw_cn P N c q))) gl (va_up a 19 (upd f k (nI (zw_cx P N c q k)))) (va_up al 18 F) hG P N c hf hs q (zw_cx P N c q k) hq (zw_cx_ent h2)) ?_
        rintro _ _ ⟨rfl, rfl⟩
        show zm_Run zt_get 4 zt_M_layCan (64, [some (.ref 0), some (.int (nI q)), some (.int (nI k))], [.long (zw_rc P N c q (zw_cx P N c q k)), .int (nI k), .ref 18], (zw_M (upd g 31 (nI (zw_cn P N c q))) gl (va_up a 19 (upd f k (nI (zw_cx P N c q k)))) (va_up al 18 F))) _
        refine zr_cd (t := (65, [some (.ref 0), some (.int (nI q)), some (.int (nI k))], [], (zw_M (upd g 31 (nI (zw_cn P N c q))) gl (va_up a 19 (upd f k (nI (zw_cx P N c q k)))) (va_up al 18 (vp_updL F ((nI k).toNatClampNeg) (zw_rc P N c q (zw_cx P N c q k))))))) rfl (pk_in k 64 (by omega) rfl (by omega)) ?_
        rw [pk_cl (x := (nI k)) k rfl (by omega)]
        refine zr_go (t := (21, [some (.ref 0), some (.int (nI q)), some (.int ((nI k) + 1))], [], (zw_M (upd g 31 (nI (zw_cn P N c q))) gl (va_up a 19 (upd f k (nI (zw_cx P N c q k)))) (va_up al 18 (vp_updL F k (zw_rc P N c q (zw_cx P N c q k))))))) 2 rfl ?_
        rw [show (nI k) + 1 = nI (k + 1) from (zn_add rfl rfl)]
        exact ih (k + 1, (vp_updL F k (zw_rc P N c q (zw_cx P N c q k))), (upd f k (nI (zw_cx P N c q k)))) ⟨by omega, lt_s (fun t ht => (pk_uLn (Nat.ne_of_lt ht)).trans (hF t ht)) pk_uLs, lt_s (fun t ht => (pk_un (Nat.ne_of_lt ht)).trans (hf2 t ht)) pk_us⟩ (by omega)
theorem zs_M_firstMissing (g : Nat → Int32) (gl : Nat → Int64) (a : Nat → Nat → Int32) (al : Nat → Nat → Int64) (x : Int64) (j : Nat) (hj : j < 64) (hjx : lb x j = false) : zm_Ev zt_get 1 190 [.long x] (zw_M g gl a al) (fun v w => v = some (.int (nI (zy_fm x))) ∧ w = (zw_M g gl a al)) := by
  refine zr_ev zt_M_firstMissing rfl rfl ?_
  show zm_Run zt_get 0 zt_M_firstMissing (0, [some (.long x), none, none], [], (zw_M g gl a al)) _
  refine zr_go (t := (2, [some (.long x), none, some (.int 0)], [], (zw_M g gl a al))) 2 rfl ?_
  refine zr_loop (fun zq : Nat => (2, [some (.long x), none, some (.int (nI zq))], [], (zw_M g gl a al))) (fun zq => zq ≤ j ∧ zM (fun t => !lb x t) zq (64 - zq) = zy_fm x) (fun zq => j - zq) ?_ 0 ⟨by omega, rfl⟩
  rintro k ⟨hk, hz⟩ ih
  try dsimp only at *
  have h64 : 64 - k = (64 - (k + 1)) + 1 := by omega
  refine zr_go (t := (7, [some (.long x), none, some (.int (nI k))], [.long ((x >>> ((nI k).toInt64 &&& 63)) &&& 1)], (zw_M g gl a al))) 5 rfl ?_
  rw [lb_sh (by omega)]
  refine zr_go (t := (9, [some (.long x), none, some (.int (nI k))], [.int (lg_cmp (nL (lb x k).toNat) 1)], (zw_M g gl a al))) 2 rfl ?_
  refine zr_if (c := lg_cmp (nL (lb x k).toNat) 1 = 0) (t := (12, [some (.long x), none, some (.int (nI k))], [], (zw_M g gl a al))) (f := (18, [some (.long x), none, some (.int (nI k))], [], (zw_M g gl a al))) rfl (fun h1 => ?_) (fun h1 => ?_)
  · skip
    have hb := (lb_n1 _).mp ((lg_cmp_eq _ _).mp h1)
    have hkj : k ≠ j := fun e => by rw [e, hjx] at hb; cases hb
    refine zr_go (t := (2, [some (.long x), none, some (.int ((nI k) + 1))], [], (zw_M g gl a al))) 2 rfl ?_
    rw [show (nI k) + 1 = nI (k + 1) from (zn_add rfl rfl)]
    exact ih (k + 1) ⟨by omega, by rw [← hz, h64, zM_none (f := fun t => !lb x t) (by show (!lb x k) = false; rw [hb]; rfl)]⟩ (by omega)
  · skip
    have hb : lb x k = false := by cases q : lb x k; rfl; exact absurd ((lg_cmp_eq _ _).mpr ((lb_n1 _).mpr q)) h1
    refine zr_go (t := (19, [some (.long x), none, some (.int (nI k))], [.int (nI k)], (zw_M g gl a al))) 1 rfl ?_
    exact zr_ret rfl trivial ⟨by rw [← hz, h64, zM_here (f := fun t => !lb x t) (by show (!lb x k) = true; rw [hb]; rfl)], rfl⟩
theorem zM_le {f : Nat → Bool} {j : Nat} (hf : f j = true) : ∀ n k, k ≤ j → j < k + n → zM f k n ≤ j
  | 0, k, h1, h2 => by omega
  | n + 1, k, h1, h2 => by
    show (if f k = true then k else zM f (k + 1) n) ≤ j
    split
    · exact h1
    · rename_i q
      exact zM_le hf n (k + 1) (by rcases Nat.lt_or_eq_of_le h1 with e | e; exact e; exact absurd (e ▸ hf) q) (by omega)
theorem zy_fm_le {x : Int64} {j : Nat} (hj : j < 64) (hx : lb x j = false) : zy_fm x ≤ j := zM_le (f := fun k => !lb x k) (by show (!lb x j) = true; rw [hx]; rfl) 64 0 (by omega) (by omega)
theorem zs_M_nextCan (g : Nat → Int32) (gl : Nat → Int64) (a : Nat → Nat → Int32) (al : Nat → Nat → Int64) (m : Nat) (hm : g 31 = nI m) (hm1 : m ≤ 64) (n : Nat) (hn : n ≤ m) (x : Int64) (j : Nat) (hj : j < 64) (hjx : lb x j = false) : zm_Ev zt_get 2 191 [.ref 0, .int (nI n), .long x] (zw_M g gl a al) (fun v w => v = some (.int (nI (zM (zy_ok (al 18) x) n (m - n)))) ∧ w = (zw_M g gl a al)) := by
  have hfm : zy_fm x ≤ 63 := by have := zy_fm_le hj hjx; omega
  refine zr_ev zt_M_nextCan rfl rfl ?_
  show zm_Run zt_get 1 zt_M_nextCan (0, [some (.ref 0), some (.int (nI n)), some (.long x), none, none, none], [], (zw_M g gl a al)) _
  refine zr_go (t := (1, [some (.ref 0), some (.int (nI n)), some (.long x), none, none, none], [.long x], (zw_M g gl a al))) 1 rfl ?_
  refine zr_call (t := (4, [some (.ref 0), some (.int (nI n)), some (.long x), none, none, none], [], (zw_M g gl a al))) rfl (Nat.le_of_ble_eq_true rfl : 1 ≤ 1) (zs_M_firstMissing g gl a al x j hj hjx) ?_
  rintro _ _ ⟨rfl, rfl⟩
  show zm_Run zt_get 1 zt_M_nextCan (4, [some (.ref 0), some (.int (nI n)), some (.long x), none, none, none], [.int (nI (zy_fm x))], (zw_M g gl a al)) _
  refine zr_go (t := (9, [some (.ref 0), some (.int (nI n)), some (.long x), none, some (.int (nI (zy_fm x))), some (.int (nI n))], [], (zw_M g gl a al))) 3 rfl ?_
  refine zr_loop (fun zq : Nat => (9, [some (.ref 0), some (.int (nI n)), some (.long x), none, some (.int (nI (zy_fm x))), some (.int (nI zq))], [], (zw_M g gl a al))) (fun zq => n ≤ zq ∧ zq ≤ m ∧ zM (zy_ok (al 18) x) zq (m - zq) = zM (zy_ok (al 18) x) n (m - n)) (fun zq => m - zq) ?_ n ⟨Nat.le_refl _, hn, rfl⟩
  rintro k ⟨hk1, hk, hz⟩ ih
  try dsimp only at *
  refine zr_go (t := (15, [some (.ref 0), some (.int (nI n)), some (.long x), none, some (.int (nI (zy_fm x))), some (.int (nI k))], [.int (g 31), .int (nI k)], (zw_M g gl a al))) 3 rfl ?_
  refine zr_ige (x := nI k) (y := g 31) k m rfl hm (by omega) (by omega) (t := (55, [some (.ref 0), some (.int (nI n)), some (.long x), none, some (.int (nI (zy_fm x))), some (.int (nI k))], [], (zw_M g gl a al))) (f := (18, [some (.ref 0), some (.int (nI n)), some (.long x), none, some (.int (nI (zy_fm x))), some (.int (nI k))], [], (zw_M g gl a al))) rfl (fun h1 => ?_) (fun h1 => ?_)
  · skip
    refine zr_go (t := (57, [some (.ref 0), some (.int (nI n)), some (.long x), none, some (.int (nI (zy_fm x))), some (.int (nI k))], [.int (nI k)], (zw_M g gl a al))) 1 rfl ?_
    exact zr_ret rfl trivial ⟨by rw [← hz, show m - k = 0 by omega, show k = m by omega]; rfl, rfl⟩
  · skip
    have h64 : m - k = (m - (k + 1)) + 1 := by omega
    refine zr_go (t := (24, [some (.ref 0), some (.int (nI n)), some (.long x), none, some (.int (nI (zy_fm x))), some (.int (nI k))], [.int (nI k), .ref 18], (zw_M g gl a al))) 3 rfl ?_
    refine zr_cd (t := (25, [some (.ref 0), some (.int (nI n)), some (.long x), none, some (.int (nI (zy_fm x))), some (.int (nI k))], [.long ((al 18) (nI k).toNatClampNeg)], (zw_M g gl a al))) rfl (pk_in k 64 (by omega) rfl (by omega)) ?_
    rw [pk_cl (x := (nI k)) k rfl (by omega)]
    refine zr_go (t := (29, [some (.ref 0), some (.int (nI n)), some (.long x), none, some (.int (nI (zy_fm x))), some (.int (nI k))], [.int (lg_cmp (((al 18) k) &&& x) 0)], (zw_M g gl a al))) 4 rfl ?_
    refine zr_if (c := lg_cmp (((al 18) k) &&& x) 0 = 0) (t := (32, [some (.ref 0), some (.int (nI n)), some (.long x), none, some (.int (nI (zy_fm x))), some (.int (nI k))], [], (zw_M g gl a al))) (f := (49, [some (.ref 0), some (.int (nI n)), some (.long x), none, some (.int (nI (zy_fm x))), some (.int (nI k))], [], (zw_M g gl a al))) rfl (fun h2 => ?_) (fun h2 => ?_)
    · skip
      have hA := (lg_cmp_eq _ _).mp h2
      refine zr_go (t := (38, [some (.ref 0), some (.int (nI n)), some (.long x), none, some (.int (nI (zy_fm x))), some (.int (nI k))], [.int (nI k), .ref 18], (zw_M g gl a al))) 3 rfl ?_
      refine zr_cd (t := (39, [some (.ref 0), some (.int (nI n)), some (.long x), none, some (.int (nI (zy_fm x))), some (.int (nI k))], [.long ((al 18) (nI k).toNatClampNeg)], (zw_M g gl a al))) rfl (pk_in k 64 (by omega) rfl (by omega)) ?_
      rw [pk_cl (x := (nI k)) k rfl (by omega)]
      refine zr_go (t := (44, [some (.ref 0), some (.int (nI n)), some (.long x), none, some (.int (nI (zy_fm x))), some (.int (nI k))], [.long ((((al 18) k) >>> ((nI (zy_fm x)).toInt64 &&& 63)) &&& 1)], (zw_M g gl a al))) 4 rfl ?_
      rw [lb_sh (by omega)]
      refine zr_go (t := (46, [some (.ref 0), some (.int (nI n)), some (.long x), none, some (.int (nI (zy_fm x))), some (.int (nI k))], [.int (lg_cmp (nL (lb (al 18 k) (zy_fm x)).toNat) 0)], (zw_M g gl a al))) 2 rfl ?_
      refine zr_if (c := lg_cmp (nL (lb (al 18 k) (zy_fm x)).toNat) 0 = 0) (t := (49, [some (.ref 0), some (.int (nI n)), some (.long x), none, some (.int (nI (zy_fm x))), some (.int (nI k))], [], (zw_M g gl a al))) (f := (55, [some (.ref 0), some (.int (nI n)), some (.long x), none, some (.int (nI (zy_fm x))), some (.int (nI k))], [], (zw_M g gl a al))) rfl (fun h3 => ?_) (fun h3 => ?_)
      · skip
        have hb := (lb_n0 _).mp ((lg_cmp_eq _ _).mp h3)
        refine zr_go (t := (9, [some (.ref 0), some (.int (nI n)), some (.long x), none, some (.int (nI (zy_fm x))), some (.int ((nI k) + 1))], [], (zw_M g gl a al))) 2 rfl ?_
        rw [show (nI k) + 1 = nI (k + 1) from (zn_add rfl rfl)]
        exact ih (k + 1) ⟨by omega, by omega, by rw [← hz, h64, zM_none (f := (zy_ok (al 18) x)) (by unfold zy_ok; rw [hb, Bool.and_false])]⟩ (by omega)
      · skip
        have hb : lb (al 18 k) (zy_fm x) = true := by cases q : lb (al 18 k) (zy_fm x); exact absurd ((lg_cmp_eq _ _).mpr ((lb_n0 _).mpr q)) h3; rfl
        refine zr_go (t := (57, [some (.ref 0), some (.int (nI n)), some (.long x), none, some (.int (nI (zy_fm x))), some (.int (nI k))], [.int (nI k)], (zw_M g gl a al))) 1 rfl ?_
        exact zr_ret rfl trivial ⟨by rw [← hz, h64, zM_here (f := (zy_ok (al 18) x)) (by unfold zy_ok; rw [hb, decide_eq_true hA]; rfl)], rfl⟩
    · skip
      refine zr_go (t := (9, [some (.ref 0), some (.int (nI n)), some (.long x), none, some (.int (nI (zy_fm x))), some (.int ((nI k) + 1))], [], (zw_M g gl a al))) 2 rfl ?_
      rw [show (nI k) + 1 = nI (k + 1) from (zn_add rfl rfl)]
      exact ih (k + 1) ⟨by omega, by omega, by rw [← hz, h64, zM_none (f := (zy_ok (al 18) x)) (by unfold zy_ok; rw [decide_eq_false (fun e => h2 ((lg_cmp_eq _ _).mpr e)), Bool.false_and])]⟩ (by omega)
