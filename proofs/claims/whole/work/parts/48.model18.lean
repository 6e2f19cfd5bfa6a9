/-! the reference: flats, flat, near (written by wip/whole/gen_m18.py) -/
def zx_13 (x : Int32) : Bool := decide (1 ≤ x.toInt ∧ x.toInt ≤ 3)
theorem zx_13of {x : Int32} (h : zx_13 x = true) : 1 ≤ zx_k x ∧ zx_k x ≤ 3 ∧ x = nI (zx_k x) := by
  have h1 := of_decide_eq_true h
  refine ⟨by unfold zx_k; omega, by unfold zx_k; omega, ?_⟩
  apply Int32.toInt_inj.mp
  rw [nI_toInt (by unfold zx_k; omega)]
  unfold zx_k; omega
theorem zs_M_within13 (g : Nat → Int32) (gl : Nat → Int64) (a : Nat → Nat → Int32) (al : Nat → Nat → Int64) (x : Int32) : zm_Ev zt_get 1 107 [.int x, .int 1, .int 3] (zw_M g gl a al) (fun v w => v = some (.int (nI (zx_13 x).toNat)) ∧ w = zw_M g gl a al) := by
  refine zr_evp (zs_M_within g gl a al x 1 3) ?_
  rintro v w ⟨h, rfl⟩
  refine ⟨?_, rfl⟩
  rw [Int32.le_iff_toInt_le, Int32.le_iff_toInt_le, show (1 : Int32).toInt = 1 from rfl, show (3 : Int32).toInt = 3 from rfl] at h
  unfold zx_13
  rcases h with ⟨h, rfl⟩ | ⟨h, rfl⟩
  · rw [decide_eq_true h]; rfl
  · rw [decide_eq_false h]; rfl
/-- short words for what follows from a form -/
def zw_oo (P N : Nat) (c : Nat → Nat) : Nat → Bool := zv_oo P N c (zv_y P N)
def zw_on (P N : Nat) (c : Nat → Nat) : Nat := zC (zw_oo P N c) (zv_np P N)
def zw_ns (P N : Nat) (c : Nat → Nat) : Nat := zv_ns P N c (zv_np P N) (zv_y P N)
def zw_nl (P N : Nat) (c : Nat → Nat) : Nat := zv_nl P N c (zv_np P N) (zv_y P N)
def zw_npl (P N : Nat) (c : Nat → Nat) : Nat := zv_npl P N c (zv_np P N) (zv_y P N)
def zw_ln (P N : Nat) (c : Nat → Nat) : Nat → Nat → Nat := zv_line P N c (zv_np P N) (zv_y P N)
def zw_pl (P N : Nat) (c : Nat → Nat) : Nat → Nat → Nat := zv_plane P N c (zv_np P N) (zv_y P N)
def zw_ix (P N : Nat) (c : Nat → Nat) : Nat := zq_ix (zw_nl P N c) (zw_npl P N c)
def zw_fl (P N : Nat) (c : Nat → Nat) (d : Nat) : Nat := zq_fl (zw_on P N c) (zw_nl P N c) (zw_npl P N c) d
def zw_pin (P N : Nat) (c : Nat → Nat) (d f k : Nat) : Nat := zq_pin (zv_np P N) (zw_oo P N c) (zw_ln P N c) (zw_pl P N c) d f k
/-- how many maximal flats -/
def zw_gm (P N : Nat) (c : Nat → Nat) : Nat := zw_fl P N c (zw_ix P N c)
def zw_sound (P N : Nat) (c : Nat → Nat) : Bool := decide (0 < P) && decide (zw_ns P N c = 0)
theorem zS_f.sound {g : Nat → Int32} {a : Nat → Nat → Int32} {P N : Nat} {c : Nat → Nat} (hG : zG) (h : zS_f g a P N c) (hs : zw_ns P N c = 0) : g 12 = nI (zw_nl P N c) ∧ g 14 = nI (zw_npl P N c) ∧ zw_nl P N c ≤ 128 ∧ zw_npl P N c ≤ 40 ∧ zc_L a P (zw_nl P N c) (zw_npl P N c) (zw_ln P N c) (zw_pl P N c) := by
  obtain ⟨hok, -, -, -, -, -, -, nl, npl, h1, h2, -, h4⟩ := h
  obtain ⟨e1, e2, h5⟩ := h4 hs
  have hb := hG P N c hok hs
  subst e1; subst e2
  exact ⟨h1, h2, hb.1, Nat.le_trans hb.2 (by omega), h5⟩
/-- of any form, or none: the numbers that the reference holds -/
theorem zS_F.more {g : Nat → Int32} {a : Nat → Nat → Int32} {P N : Nat} {c : Nat → Nat} (hG : zG) (h : zS_F g a P N c) : ∃ ns on nl npl, g 11 = nI ns ∧ g 10 = nI on ∧ g 12 = nI nl ∧ g 14 = nI npl ∧ ns ≤ 156 ∧ on ≤ 156 ∧ nl ≤ 128 ∧ npl ≤ 40 ∧ (P = 0 → ns = 0 ∧ on = 0 ∧ nl = 0 ∧ npl = 0) ∧ (0 < P → ns = zw_ns P N c ∧ on = zw_on P N c ∧ (ns = 0 → nl = zw_nl P N c ∧ npl = zw_npl P N c)) := by
  rcases h with ⟨rfl, rfl, h0, h1, h6, h10, h11, h12, h14⟩ | h
  · exact ⟨0, 0, 0, 0, h11, h10, h12, h14, by omega, by omega, by omega, by omega, fun _ => ⟨rfl, rfl, rfl, rfl⟩, fun q => by omega⟩
  · obtain ⟨hP0, -⟩ := zv_P5 h.1.1
    have hnp := (zv_nums h.1).2.1
    have hs1 : zw_ns P N c ≤ 156 := Nat.le_trans (zC_le _ _) hnp
    have ho1 : zw_on P N c ≤ 156 := Nat.le_trans (zC_le _ _) hnp
    by_cases hs : zw_ns P N c = 0
    · obtain ⟨e1, e2, e3, e4, -⟩ := h.sound hG hs
      exact ⟨zw_ns P N c, zw_on P N c, zw_nl P N c, zw_npl P N c, h.2.2.2.2.2.2.1, h.2.2.2.2.2.1, e1, e2, hs1, ho1, e3, e4, fun q => by omega, fun _ => ⟨rfl, rfl, fun _ => ⟨rfl, rfl⟩⟩⟩
    · obtain ⟨-, -, -, -, -, h10, h11, nl, npl, e1, e2, e3, -⟩ := h
      obtain ⟨rfl, rfl⟩ := e3 hs
      exact ⟨zw_ns P N c, zw_on P N c, 0, 0, h11, h10, e1, e2, hs1, ho1, by omega, by omega, fun q => by omega, fun _ => ⟨rfl, rfl, fun q => absurd q hs⟩⟩
/-- the points of flats are points -/
theorem zw_ln_lt {P N : Nat} {c : Nat → Nat} (hok : zv_ok P N) {l k : Nat} (hl : l < zw_nl P N c) (hk : k < P + 1) : zw_ln P N c l k < zv_np P N := by
  obtain ⟨-, -, h3, h4, h5, -⟩ := zv_line_ok (zv_nums hok).2.2 hl
  exact zv_lnf_lt h3 P (fun b hb => (zv_hv hok _ _ b h3 h4 h5 hb).2) k hk
theorem zw_pl_lt {P N : Nat} {c : Nat → Nat} (hok : zv_ok P N) {l k : Nat} (hl : l < zw_npl P N c) (hk : k < 7) : zw_pl P N c l k < zv_np P N := by
  obtain ⟨h1, h2, -⟩ := zX_ok hl
  have hnp0 := (zv_nums hok).2.2
  have hs1 : zX (zv_gq P N (zv_np P N) (zv_y P N) (zv_oo P N c (zv_y P N)) (zv_lp0 P N c (zv_np P N) (zv_y P N)) (zv_lq0 P N c (zv_np P N) (zv_y P N))) (zv_np P N * zv_nl P N c (zv_np P N) (zv_y P N)) l / zv_np P N < zv_nl P N c (zv_np P N) (zv_y P N) := Nat.div_lt_of_lt_mul h1
  have hs2 : zX (zv_gq P N (zv_np P N) (zv_y P N) (zv_oo P N c (zv_y P N)) (zv_lp0 P N c (zv_np P N) (zv_y P N)) (zv_lq0 P N c (zv_np P N) (zv_y P N))) (zv_np P N * zv_nl P N c (zv_np P N) (zv_y P N)) l % zv_np P N < zv_np P N := Nat.mod_lt _ hnp0
  unfold zw_pl zv_plane
  generalize zX (zv_gq P N (zv_np P N) (zv_y P N) (zv_oo P N c (zv_y P N)) (zv_lp0 P N c (zv_np P N) (zv_y P N)) (zv_lq0 P N c (zv_np P N) (zv_y P N))) (zv_np P N * zv_nl P N c (zv_np P N) (zv_y P N)) l = s at h1 h2 hs1 hs2 ⊢
  have hln : ∀ k, k < P + 1 → zv_line P N c (zv_np P N) (zv_y P N) (s / zv_np P N) k < zv_np P N := fun k hk => zw_ln_lt hok hs1 hk
  have h3 : zv_gp P N (zv_y P N) (zv_oo P N c (zv_y P N)) (zv_lp0 P N c (zv_np P N) (zv_y P N) (s / zv_np P N)) (zv_lq0 P N c (zv_np P N) (zv_y P N) (s / zv_np P N)) (s % zv_np P N) = true := (Bool.and_eq_true_iff.mp h2).2
  have h4 : zE (fun k => zv_line P N c (zv_np P N) (zv_y P N) (s / zv_np P N) k == s % zv_np P N) (P + 1) = false := by
    unfold zv_gp at h3
    have h5 := (Bool.and_eq_true_iff.mp h3).1
    exact (Bool.not_eq_true' _).mp h5
  refine zv_wf_lt hln hs2 ((P + 1) * (P - 1)) (fun t ht => ?_) k (Nat.lt_of_lt_of_le hk (zv_nn7 hok.1))
  obtain ⟨b1, b2⟩ := zv_sb hok.1 ht
  exact (zv_hv hok _ _ _ (hln _ b2) hs2 (fun q => by have := zE_no h4 b2; simp [q] at this) b1).2
theorem zw_pin_lt {P N : Nat} {c : Nat → Nat} (hok : zv_ok P N) {d f k : Nat} (hf : f < zw_fl P N c d) (hk : k < zq_sz P d) : zw_pin P N c d f k < zv_np P N := by
  unfold zw_pin zq_pin
  unfold zw_fl zq_fl at hf
  unfold zq_sz at hk
  by_cases h1 : d = 1
  · rw [if_pos h1] at hf ⊢
    exact (zX_ok hf).1
  · rw [if_neg h1] at hf hk ⊢
    by_cases h2 : d = 2
    · rw [if_pos h2] at hf hk ⊢
      exact zw_ln_lt hok hf hk
    · rw [if_neg h2] at hf hk ⊢
      exact zw_pl_lt hok hf hk
def aw_flats (P N : Nat) (c : Nat → Nat) (x : Int32) : Int32 := if zx_13 x = true then (if zw_sound P N c = true then nI (zw_fl P N c (zx_k x)) else -103) else -102
def aw_flat (P N : Nat) (c : Nat → Nat) (x y z : Int32) : Int32 := if zx_13 x = true then (if zw_sound P N c = true then (if zx_in y (zw_fl P N c (zx_k x)) = true ∧ zx_in z (zq_sz P (zx_k x)) = true then nI (zw_pin P N c (zx_k x) (zx_k y) (zx_k z)) else -101) else -103) else -102
/-- what near looks at -/
def zw_nr (P N : Nat) (c : Nat → Nat) (p f k : Nat) : Bool := zw_pin P N c (zw_ix P N c) f k == p || zv_jn P N (zv_y P N) (zw_oo P N c) (zw_pin P N c (zw_ix P N c) f k) p
def aw_near (P N : Nat) (c : Nat → Nat) (x y z : Int32) : Int32 := if zw_sound P N c = true then (if (zx_in x (zv_np P N) = true ∧ zw_oo P N c (zx_k x) = true) ∧ zx_in y (zw_gm P N c) = true then (if zx_in z 2 = true then (if z = 0 then nI (zC (zw_nr P N c (zx_k x) (zx_k y)) (zq_sz P (zw_ix P N c))) else (if zM (zw_nr P N c (zx_k x) (zx_k y)) 0 (zq_sz P (zw_ix P N c)) < zq_sz P (zw_ix P N c) then nI (zw_pin P N c (zw_ix P N c) (zx_k y) (zM (zw_nr P N c (zx_k x) (zx_k y)) 0 (zq_sz P (zw_ix P N c)))) else -1)) else -102) else -101) else -103
theorem zs_M_flats (g : Nat → Int32) (gl : Nat → Int64) (a : Nat → Nat → Int32) (al : Nat → Nat → Int64) (hG : zG) (P N : Nat) (c : Nat → Nat) (hS : zS_F g a P N c) (x : Int32) : zm_Ev zt_get 2 171 [.ref 0, .int x] (zw_M g gl a al) (fun v w => v = some (.int (aw_flats P N c x)) ∧ w = (zw_M g gl a al)) := by
  obtain ⟨hP, hN, hnp, hP5, hN6, hnp1⟩ := hS.nums
  obtain ⟨ns, on, nl, npl, hns, hon, hnl, hnpl, hns1, hon1, hnl1, hnpl1, hz0, hzP⟩ := hS.more hG
  have hso : zw_sound P N c = (decide (0 < P) && decide (ns = 0)) := by unfold zw_sound; by_cases q : 0 < P; rw [(hzP q).1]; rw [decide_eq_false q]; rfl
  refine zr_ev zt_M_flats rfl rfl ?_
  show zm_Run zt_get 1 zt_M_flats (0, [some (.ref 0), some (.int x)], [], (zw_M g gl a al)) _
  refine zr_go (t := (3, [some (.ref 0), some (.int x)], [.int 3, .int 1, .int x], (zw_M g gl a al))) 3 rfl ?_
  refine zr_call (t := (6, [some (.ref 0), some (.int x)], [], (zw_M g gl a al))) rfl (Nat.le_of_ble_eq_true rfl : 1 ≤ 1) (zs_M_within13 g gl a al x) ?_
  rintro _ _ ⟨rfl, rfl⟩
  show zm_Run zt_get 1 zt_M_flats (6, [some (.ref 0), some (.int x)], [.int (nI ((zx_13 x).toNat))], (zw_M g gl a al)) _
  have hb1 := zb_le (zx_13 x)
  refine zr_ine (x := nI ((zx_13 x).toNat)) (y := 0) ((zx_13 x).toNat) 0 rfl rfl (by omega) (by omega) (t := (12, [some (.ref 0), some (.int x)], [], (zw_M g gl a al))) (f := (9, [some (.ref 0), some (.int x)], [], (zw_M g gl a al))) rfl (fun h1 => ?_) (fun h1 => ?_)
  · skip
    refine zr_go (t := (13, [some (.ref 0), some (.int x)], [.ref 0], (zw_M g gl a al))) 1 rfl ?_
    refine zr_call (t := (16, [some (.ref 0), some (.int x)], [], (zw_M g gl a al))) rfl (Nat.le_of_ble_eq_true rfl : 1 ≤ 1) (zs_M_isSound g gl a al P ns hP hP5 hns hns1) ?_
    rintro _ _ ⟨rfl, rfl⟩
    show zm_Run zt_get 1 zt_M_flats (16, [some (.ref 0), some (.int x)], [.int (nI ((decide (0 < P) && decide (ns = 0)).toNat))], (zw_M g gl a al)) _
    have hbs := zb_le (decide (0 < P) && decide (ns = 0))
    refine zr_ieq (x := nI ((decide (0 < P) && decide (ns = 0)).toNat)) (y := 0) ((decide (0 < P) && decide (ns = 0)).toNat) 0 rfl rfl (by omega) (by omega) (t := (27, [some (.ref 0), some (.int x)], [], (zw_M g gl a al))) (f := (19, [some (.ref 0), some (.int x)], [], (zw_M g gl a al))) rfl (fun h2 => ?_) (fun h2 => ?_)
    · skip
      refine zr_go (t := (29, [some (.ref 0), some (.int x)], [.int (-103)], (zw_M g gl a al))) 1 rfl ?_
      exact zr_ret rfl trivial ⟨by unfold aw_flats; rw [if_pos (zb_1 h1), hso, if_neg (by rw [zb_0 h2]; decide)], rfl⟩
    · skip
      rw [zb_1 h2] at hso
      obtain ⟨hp0, hn0⟩ := Bool.and_eq_true_iff.mp (zb_1 h2)
      have hp0 := of_decide_eq_true hp0
      have hn0 := of_decide_eq_true hn0
      obtain ⟨ens, eon, e3⟩ := hzP hp0
      obtain ⟨enl, enpl⟩ := e3 hn0
      obtain ⟨hf, enp⟩ := hS.form hp0
      obtain ⟨-, -, -, -, hLL⟩ := hf.sound hG (by rw [← ens]; exact hn0)
      subst enl
      subst enpl
      subst eon
      obtain ⟨k1, k2, k3⟩ := zx_13of (zb_1 h1)
      generalize hK : zx_k x = k at k1 k2 k3
      subst k3
      refine zr_go (t := (21, [some (.ref 0), some (.int (nI k))], [.int (nI k), .ref 0], (zw_M g gl a al))) 2 rfl ?_
      refine zr_call (t := (24, [some (.ref 0), some (.int (nI k))], [], (zw_M g gl a al))) rfl (Nat.le_of_ble_eq_true rfl : 1 ≤ 1) (zs_M_flatsOf g gl a al (zw_nl P N c) (zw_npl P N c) hnl hnpl hnl1 hnpl1 (zw_on P N c) hon k k2) ?_
      rintro _ _ ⟨rfl, rfl⟩
      show zm_Run zt_get 1 zt_M_flats (24, [some (.ref 0), some (.int (nI k))], [.int (nI (zw_fl P N c k))], (zw_M g gl a al)) _
      refine zr_go (t := (29, [some (.ref 0), some (.int (nI k))], [.int (nI (zw_fl P N c k))], (zw_M g gl a al))) 1 rfl ?_
      exact zr_ret rfl trivial ⟨by unfold aw_flats; rw [if_pos (zb_1 h1), if_pos hso, hK], rfl⟩
  · skip
    refine zr_go (t := (11, [some (.ref 0), some (.int x)], [.int (-102)], (zw_M g gl a al))) 1 rfl ?_
    exact zr_ret rfl trivial ⟨by unfold aw_flats; rw [if_neg (by rw [zb_0 h1]; decide)], rfl⟩
theorem zs_M_flat (g : Nat → Int32) (gl : Nat → Int64) (a : Nat → Nat → Int32) (al : Nat → Nat → Int64) (hG : zG) (P N : Nat) (c : Nat → Nat) (hS : zS_F g a P N c) (x y z : Int32) : zm_Ev zt_get 3 172 [.ref 0, .int x, .int y, .int z] (zw_M g gl a al) (fun v w => v = some (.int (aw_flat P N c x y z)) ∧ w = (zw_M g gl a al)) := by
  obtain ⟨hP, hN, hnp, hP5, hN6, hnp1⟩ := hS.nums
  obtain ⟨ns, on, nl, npl, hns, hon, hnl, hnpl, hns1, hon1, hnl1, hnpl1, hz0, hzP⟩ := hS.more hG
  have hso : zw_sound P N c = (decide (0 < P) && decide (ns = 0)) := by unfold zw_sound; by_cases q : 0 < P; rw [(hzP q).1]; rw [decide_eq_false q]; rfl
  refine zr_ev zt_M_flat rfl rfl ?_
  show zm_Run zt_get 2 zt_M_flat (0, [some (.ref 0), some (.int x), some (.int y), some (.int z), none], [], (zw_M g gl a al)) _
  refine zr_go (t := (3, [some (.ref 0), some (.int x), some (.int y), some (.int z), none], [.int 3, .int 1, .int x], (zw_M g gl a al))) 3 rfl ?_
  refine zr_call (t := (6, [some (.ref 0), some (.int x), some (.int y), some (.int z), none], [], (zw_M g gl a al))) rfl (Nat.le_of_ble_eq_true rfl : 1 ≤ 2) (zs_M_within13 g gl a al x) ?_
  rintro _ _ ⟨rfl, rfl⟩
  show zm_Run zt_get 2 zt_M_flat (6, [some (.ref 0), some (.int x), some (.int y), some (.int z), none], [.int (nI ((zx_13 x).toNat))], (zw_M g gl a al)) _
  have hb1 := zb_le (zx_13 x)
  refine zr_ine (x := nI ((zx_13 x).toNat)) (y := 0) ((zx_13 x).toNat) 0 rfl rfl (by omega) (by omega) (t := (12, [some (.ref 0), some (.int x), some (.int y), some (.int z), none], [], (zw_M g gl a al))) (f := (9, [some (.ref 0), some (.int x), some (.int y), some (.int z), none], [], (zw_M g gl a al))) rfl (fun h1 => ?_) (fun h1 => ?_)
  · skip
    refine zr_go (t := (13, [some (.ref 0), some (.int x), some (.int y), some (.int z), none], [.ref 0], (zw_M g gl a al))) 1 rfl ?_
    refine zr_call (t := (16, [some (.ref 0), some (.int x), some (.int y), some (.int z), none], [], (zw_M g gl a al))) rfl (Nat.le_of_ble_eq_true rfl : 1 ≤ 2) (zs_M_isSound g gl a al P ns hP hP5 hns hns1) ?_
    rintro _ _ ⟨rfl, rfl⟩
    show zm_Run zt_get 2 zt_M_flat (16, [some (.ref 0), some (.int x), some (.int y), some (.int z), none], [.int (nI ((decide (0 < P) && decide (ns = 0)).toNat))], (zw_M g gl a al)) _
    have hbs := zb_le (decide (0 < P) && decide (ns = 0))
    refine zr_ine (x := nI ((decide (0 < P) && decide (ns = 0)).toNat)) (y := 0) ((decide (0 < P) && decide (ns = 0)).toNat) 0 rfl rfl (by omega) (by omega) (t := (22, [some (.ref 0), some (.int x), some (.int y), some (.int z), none], [], (zw_M g gl a al))) (f := (19, [some (.ref 0), some (.int x), some (.int y), some (.int z), none], [], (zw_M g gl a al))) rfl (fun h2 => ?_) (fun h2 => ?_)
    · skip
      rw [zb_1 h2] at hso
      obtain ⟨hp0, hn0⟩ := Bool.and_eq_true_iff.mp (zb_1 h2)
      have hp0 := of_decide_eq_true hp0
      have hn0 := of_decide_eq_true hn0
      obtain ⟨ens, eon, e3⟩ := hzP hp0
      obtain ⟨enl, enpl⟩ := e3 hn0
      obtain ⟨hf, enp⟩ := hS.form hp0
      obtain ⟨-, -, -, -, hLL⟩ := hf.sound hG (by rw [← ens]; exact hn0)
      subst enl
      subst enpl
      subst eon
      obtain ⟨k1, k2, k3⟩ := zx_13of (zb_1 h1)
      generalize hK : zx_k x = k at k1 k2 k3
      subst k3
      have hfl : zw_fl P N c k ≤ 156 := by unfold zw_fl zq_fl; split; exact hon1; split <;> omega
      have hsz := zq_sz_le (d := k) hP5
      refine zr_go (t := (26, [some (.ref 0), some (.int (nI k)), some (.int y), some (.int z), none], [.int (nI k), .ref 0, .int 0, .int y], (zw_M g gl a al))) 4 rfl ?_
      refine zr_call (t := (29, [some (.ref 0), some (.int (nI k)), some (.int y), some (.int z), none], [.int 0, .int y], (zw_M g gl a al))) rfl (Nat.le_of_ble_eq_true rfl : 1 ≤ 2) (zs_M_flatsOf g gl a al (zw_nl P N c) (zw_npl P N c) hnl hnpl hnl1 hnpl1 (zw_on P N c) hon k k2) ?_
      rintro _ _ ⟨rfl, rfl⟩
      show zm_Run zt_get 2 zt_M_flat (29, [some (.ref 0), some (.int (nI k)), some (.int y), some (.int z), none], [.int (nI (zw_fl P N c k)), .int 0, .int y], (zw_M g gl a al)) _
      refine zr_go (t := (31, [some (.ref 0), some (.int (nI k)), some (.int y), some (.int z), none], [.int ((nI (zw_fl P N c k)) - 1), .int 0, .int y], (zw_M g gl a al))) 2 rfl ?_
      refine zr_call (t := (34, [some (.ref 0), some (.int (nI k)), some (.int y), some (.int z), none], [], (zw_M g gl a al))) rfl (Nat.le_of_ble_eq_true rfl : 1 ≤ 2) (zs_M_withinI g gl a al y (nI (zw_fl P N c k)) (zw_fl P N c k) rfl (by omega)) ?_
      rintro _ _ ⟨rfl, rfl⟩
      show zm_Run zt_get 2 zt_M_flat (34, [some (.ref 0), some (.int (nI k)), some (.int y), some (.int z), none], [.int (nI ((zx_in y (zw_fl P N c k)).toNat))], (zw_M g gl a al)) _
      have hb3 := zb_le (zx_in y (zw_fl P N c k))
      refine zr_ieq (x := nI ((zx_in y (zw_fl P N c k)).toNat)) (y := 0) ((zx_in y (zw_fl P N c k)).toNat) 0 rfl rfl (by omega) (by omega) (t := (56, [some (.ref 0), some (.int (nI k)), some (.int y), some (.int z), none], [], (zw_M g gl a al))) (f := (37, [some (.ref 0), some (.int (nI k)), some (.int y), some (.int z), none], [], (zw_M g gl a al))) rfl (fun h3 => ?_) (fun h3 => ?_)
      · skip
        refine zr_go (t := (61, [some (.ref 0), some (.int (nI k)), some (.int y), some (.int z), some (.int 0)], [.int 0], (zw_M g gl a al))) 3 rfl ?_
        refine zr_ieq (x := 0) (y := 0) 0 0 rfl rfl (by omega) (by omega) (t := (74, [some (.ref 0), some (.int (nI k)), some (.int y), some (.int z), some (.int 0)], [], (zw_M g gl a al))) (f := (64, [some (.ref 0), some (.int (nI k)), some (.int y), some (.int z), some (.int 0)], [], (zw_M g gl a al))) rfl (fun h9 => ?_) (fun h9 => ?_)
        · skip
          refine zr_go (t := (76, [some (.ref 0), some (.int (nI k)), some (.int y), some (.int z), some (.int 0)], [.int (-101)], (zw_M g gl a al))) 1 rfl ?_
          exact zr_ret rfl trivial ⟨by unfold aw_flat; rw [if_pos (zb_1 h1), if_pos hso, hK, if_neg (fun q => by rw [zb_0 h3] at q; exact absurd q.1 (by decide))], rfl⟩
        · skip
          exact absurd rfl h9
      · skip
        refine zr_go (t := (41, [some (.ref 0), some (.int (nI k)), some (.int y), some (.int z), none], [.int (nI k), .ref 0, .int 0, .int z], (zw_M g gl a al))) 4 rfl ?_
        refine zr_call (t := (44, [some (.ref 0), some (.int (nI k)), some (.int y), some (.int z), none], [.int 0, .int z], (zw_M g gl a al))) rfl (Nat.le_of_ble_eq_true rfl : 1 ≤ 2) (zs_M_sizeOf g gl a al P hP k k2) ?_
        rintro _ _ ⟨rfl, rfl⟩
        show zm_Run zt_get 2 zt_M_flat (44, [some (.ref 0), some (.int (nI k)), some (.int y), some (.int z), none], [.int (nI (zq_sz P k)), .int 0, .int z], (zw_M g gl a al)) _
        refine zr_go (t := (46, [some (.ref 0), some (.int (nI k)), some (.int y), some (.int z), none], [.int ((nI (zq_sz P k)) - 1), .int 0, .int z], (zw_M g gl a al))) 2 rfl ?_
        refine zr_call (t := (49, [some (.ref 0), some (.int (nI k)), some (.int y), some (.int z), none], [], (zw_M g gl a al))) rfl (Nat.le_of_ble_eq_true rfl : 1 ≤ 2) (zs_M_withinI g gl a al z (nI (zq_sz P k)) (zq_sz P k) rfl (by omega)) ?_
        rintro _ _ ⟨rfl, rfl⟩
        show zm_Run zt_get 2 zt_M_flat (49, [some (.ref 0), some (.int (nI k)), some (.int y), some (.int z), none], [.int (nI ((zx_in z (zq_sz P k)).toNat))], (zw_M g gl a al)) _
        have hb4 := zb_le (zx_in z (zq_sz P k))
        refine zr_ieq (x := nI ((zx_in z (zq_sz P k)).toNat)) (y := 0) ((zx_in z (zq_sz P k)).toNat) 0 rfl rfl (by omega) (by omega) (t := (56, [some (.ref 0), some (.int (nI k)), some (.int y), some (.int z), none], [], (zw_M g gl a al))) (f := (52, [some (.ref 0), some (.int (nI k)), some (.int y), some (.int z), none], [], (zw_M g gl a al))) rfl (fun h4 => ?_) (fun h4 => ?_)
        · skip
          refine zr_go (t := (61, [some (.ref 0), some (.int (nI k)), some (.int y), some (.int z), some (.int 0)], [.int 0], (zw_M g gl a al))) 3 rfl ?_
          refine zr_ieq (x := 0) (y := 0) 0 0 rfl rfl (by omega) (by omega) (t := (74, [some (.ref 0), some (.int (nI k)), some (.int y), some (.int z), some (.int 0)], [], (zw_M g gl a al))) (f := (64, [some (.ref 0), some (.int (nI k)), some (.int y), some (.int z), some (.int 0)], [], (zw_M g gl a al))) rfl (fun h9 => ?_) (fun h9 => ?_)
          · skip
            refine zr_go (t := (76, [some (.ref 0), some (.int (nI k)), some (.int y), some (.int z), some (.int 0)], [.int (-101)], (zw_M g gl a al))) 1 rfl ?_
            exact zr_ret rfl trivial ⟨by unfold aw_flat; rw [if_pos (zb_1 h1), if_pos hso, hK, if_neg (fun q => by rw [zb_0 h4] at q; exact absurd q.2 (by decide))], rfl⟩
          · skip
            exact absurd rfl h9
        · skip
          refine zr_go (t := (61, [some (.ref 0), some (.int (nI k)), some (.int y), some (.int z), some (.int 1)], [.int 1], (zw_M g gl a al))) 4 rfl ?_
          refine zr_ieq (x := 1) (y := 0) 1 0 rfl rfl (by omega) (by omega) (t := (74, [some (.ref 0), some (.int (nI k)), some (.int y), some (.int z), some (.int 1)], [], (zw_M g gl a al))) (f := (64, [some (.ref 0), some (.int (nI k)), some (.int y), some (.int z), some (.int 1)], [], (zw_M g gl a al))) rfl (fun h9 => ?_) (fun h9 => ?_)
          · skip
            exact absurd h9 (by decide)
          · skip
            obtain ⟨m1, m2⟩ := zx_of (zb_1 h3)
            obtain ⟨n1, n2⟩ := zx_of (zb_1 h4)
            have hq := And.intro (zb_1 h3) (zb_1 h4)
            generalize hF : zx_k y = fl at m1 m2
            generalize hZ : zx_k z = pl at n1 n2
            subst m2
            subst n2
            refine zr_go (t := (68, [some (.ref 0), some (.int (nI k)), some (.int (nI fl)), some (.int (nI pl)), some (.int 1)], [.int (nI pl), .int (nI fl), .int (nI k), .ref 0], (zw_M g gl a al))) 4 rfl ?_
            refine zr_call (t := (71, [some (.ref 0), some (.int (nI k)), some (.int (nI fl)), some (.int (nI pl)), some (.int 1)], [], (zw_M g gl a al))) rfl (Nat.le_of_ble_eq_true rfl : 2 ≤ 2) (zs_M_pointIn g gl a al (zw_nl P N c) (zw_npl P N c) hnl hnpl hnl1 hnpl1 (zv_np P N) (zv_nums hf.1).2.1 (zw_oo P N c) hf.2.2.2.2.1 P hP5 (zw_ln P N c) (zw_pl P N c) hLL k fl pl k2 m1 n1) ?_
            rintro _ _ ⟨rfl, rfl⟩
            show zm_Run zt_get 2 zt_M_flat (71, [some (.ref 0), some (.int (nI k)), some (.int (nI fl)), some (.int (nI pl)), some (.int 1)], [.int (nI (zw_pin P N c k fl pl))], (zw_M g gl a al)) _
            refine zr_go (t := (76, [some (.ref 0), some (.int (nI k)), some (.int (nI fl)), some (.int (nI pl)), some (.int 1)], [.int (nI (zw_pin P N c k fl pl))], (zw_M g gl a al))) 1 rfl ?_
            exact zr_ret rfl trivial ⟨by unfold aw_flat; rw [if_pos (zb_1 h1), if_pos hso, hK, if_pos hq, hF, hZ], rfl⟩
    · skip
      refine zr_go (t := (21, [some (.ref 0), some (.int x), some (.int y), some (.int z), none], [.int (-103)], (zw_M g gl a al))) 1 rfl ?_
      exact zr_ret rfl trivial ⟨by unfold aw_flat; rw [if_pos (zb_1 h1), hso, if_neg (by rw [zb_0 h2]; decide)], rfl⟩
  · skip
    refine zr_go (t := (11, [some (.ref 0), some (.int x), some (.int y), some (.int z), none], [.int (-102)], (zw_M g gl a al))) 1 rfl ?_
    exact zr_ret rfl trivial ⟨by unfold aw_flat; rw [if_neg (by rw [zb_0 h1]; decide)], rfl⟩
