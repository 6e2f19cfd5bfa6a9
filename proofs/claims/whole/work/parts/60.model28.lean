/-! the reference: digest (written by wip/whole/gen_m28.py) -/
/-- a checksum goes on over a row of numbers -/
def zh_f (h : Int64) (f : Nat → Int64) : Nat → Int64
  | 0 => h
  | n + 1 => 31 * zh_f h f n + f n
def zh_tab (h : Int64) (c : Nat → Nat) (N : Nat) : Nat → Int64
  | 0 => h
  | i + 1 => zh_f (zh_tab h c N i) (fun t => (nI (c (6 * i + (i + t)))).toInt64) (N - i)
/-- over the flats; over the form; over all -/
def zh_flats (P N : Nat) (c : Nat → Nat) (nn : Nat → Nat) (ff : Nat → Nat → Nat) (h : Int64) : Int64 := 31 * (31 * zh_f (zh_f h (fun d => (nI (zw_fl P N c (d + 1))).toInt64) 3) (fun k => (nI (zw_pin P N c (zw_ix P N c) (k / zq_sz P (zw_ix P N c)) (k % zq_sz P (zw_ix P N c)))).toInt64) (zw_gm P N c * zq_sz P (zw_ix P N c)) + (zw_lf P N c 0 (ff 0) (nn 0)).toInt64) + (zw_lf P N c 1 (ff 1) (nn 1)).toInt64
def zh_form (P N : Nat) (c : Nat → Nat) (nn : Nat → Nat) (ff : Nat → Nat → Nat) (h : Int64) : Int64 := if zw_ns P N c = 0 then zh_flats P N c nn ff (zh_f (zh_tab (zh_f h (fun k => (aw_ab P N c k).toInt64) 8) c N N) (fun k => (nI (zv_val P N c (zv_y P N k))).toInt64) (zv_np P N)) else zh_f (zh_tab (zh_f h (fun k => (aw_ab P N c k).toInt64) 8) c N N) (fun k => (nI (zv_val P N c (zv_y P N k))).toInt64) (zv_np P N)
def zh_lists (nn : Nat → Nat) (ff : Nat → Nat → Nat) (h : Int64) : Nat → Int64
  | 0 => h
  | q + 1 => zh_f (zh_lists nn ff h q) (fun k => (nI (ff q k)).toInt64) (nn q)
def aw_digest (P N : Nat) (c : Nat → Nat) (nn : Nat → Nat) (ff : Nat → Nat → Nat) (n : Nat) (cd : Nat → Nat) (x4 x3 x36 x37 : Int32) : Int64 := zh_f (zh_f (zh_lists nn ff (if 0 < P then zh_form P N c nn ff 1499 else 1499) 2) (fun k => (nI (cd k)).toInt64) n) (fun k => (aw_count P N c nn x4 x3 x36 x37 (nI k)).toInt64) 9
theorem zs_M_mixIn (g : Nat → Int32) (gl : Nat → Int64) (a : Nat → Nat → Int32) (al : Nat → Nat → Int64) (h v : Int64) : zm_Ev zt_get 1 212 [.ref 0, .long v] (zw_M g (vp_updL gl 46 h) a al) (fun u w => u = none ∧ w = (zw_M g (vp_updL gl 46 (31 * h + v)) a al)) := by
  refine zr_ev zt_M_mixIn rfl rfl ?_
  show zm_Run zt_get 0 zt_M_mixIn (0, [some (.ref 0), some (.long v), none], [], (zw_M g (vp_updL gl 46 h) a al)) _
  refine zr_go (t := (14, [some (.ref 0), some (.long v), none], [], (zw_M g (vp_updL gl 46 ((31 * h) + v)) a al))) 8 rfl ?_
  exact zr_ret rfl trivial ⟨rfl, rfl⟩
theorem zs_M_mixFlats (g : Nat → Int32) (gl : Nat → Int64) (a : Nat → Nat → Int32) (al : Nat → Nat → Int64) (hG : zG) (P N : Nat) (c : Nat → Nat) (hf : zS_f g a P N c) (hs : zw_ns P N c = 0) (nn : Nat → Nat) (ff : Nat → Nat → Nat) (hl : zS_l a nn ff) (he : ∀ q, q < 2 → ∀ k, k < nn q → zw_ent P N c q (ff q k)) (h : Int64) : zm_Ev zt_get 7 213 [.ref 0] (zw_M g (vp_updL gl 46 h) a al) (fun u w => u = none ∧ w = (zw_M g (vp_updL gl 46 (zh_flats P N c nn ff h)) a al)) := by
  obtain ⟨hnl, hnpl, hnl1, hnpl1, hLL⟩ := hf.sound hG hs
  obtain ⟨hok, hFF, hRR, hnum, hOO, h10, h11, -⟩ := id hf
  obtain ⟨hP, hN, hP0, hP5, hN6, -⟩ := id hFF
  obtain ⟨hA9, hB9, -⟩ := zv_nums hok
  have hgm1 := zw_gm_le hG hf hs
  have hix : zw_ix P N c ≤ 3 := by unfold zw_ix zq_ix; split; omega; split <;> omega
  have hsz : zq_sz P (zw_ix P N c) ≤ 7 := by unfold zq_sz; split; omega; split <;> omega
  have hsz0 : 0 < zq_sz P (zw_ix P N c) := by unfold zq_sz; split; omega; split <;> omega
  have hgsz : zw_gm P N c * zq_sz P (zw_ix P N c) ≤ 156 * 7 := Nat.mul_le_mul hgm1 hsz
  have hon1 : zw_on P N c ≤ 156 := Nat.le_trans (zC_le _ _) hB9
  refine zr_ev zt_M_mixFlats rfl rfl ?_
  show zm_Run zt_get 6 zt_M_mixFlats (0, [some (.ref 0), none, none], [], (zw_M g (vp_updL gl 46 h) a al)) _
  refine zr_go (t := (2, [some (.ref 0), some (.int 1), none], [], (zw_M g (vp_updL gl 46 h) a al))) 2 rfl ?_
  refine zr_loop (fun zq : Nat × Int64 => (2, [some (.ref 0), some (.int (nI zq.1)), none], [], (zw_M g (vp_updL gl 46 zq.2) a al))) (fun zq => 1 ≤ zq.1 ∧ zq.1 ≤ 4 ∧ zq.2 = zh_f h (fun t => (nI (zw_fl P N c (t + 1))).toInt64) (zq.1 - 1)) (fun zq => 4 - zq.1) ?_ (1, h) ⟨by omega, by omega, rfl⟩
  rintro ⟨d, H⟩ ⟨hd0, hd, hH⟩ ih
  try dsimp only at *
  refine zr_go (t := (4, [some (.ref 0), some (.int (nI d)), none], [.int 4, .int (nI d)], (zw_M g (vp_updL gl 46 H) a al))) 2 rfl ?_
  refine zr_ige (x := nI d) (y := 4) d 4 rfl rfl (by omega) (by omega) (t := (23, [some (.ref 0), some (.int (nI d)), none], [], (zw_M g (vp_updL gl 46 H) a al))) (f := (7, [some (.ref 0), some (.int (nI d)), none], [], (zw_M g (vp_updL gl 46 H) a al))) rfl (fun h1 => ?_) (fun h1 => ?_)
  · skip
    have ed : d = 4 := by omega
    subst ed
    refine zr_go (t := (25, [some (.ref 0), some (.int (nI 4)), none], [.ref 0, .ref 0], (zw_M g (vp_updL gl 46 H) a al))) 2 rfl ?_
    refine zr_call (t := (28, [some (.ref 0), some (.int (nI 4)), none], [.ref 0], (zw_M g (vp_updL gl 46 H) a al))) rfl (Nat.le_of_ble_eq_true rfl : 1 ≤ 6) (zs_M_index g (vp_updL gl 46 H) a al (zw_nl P N c) (zw_npl P N c) hnl hnpl hnl1 hnpl1) ?_
    rintro _ _ ⟨rfl, rfl⟩
    show zm_Run zt_get 6 zt_M_mixFlats (28, [some (.ref 0), some (.int (nI 4)), none], [.int (nI (zw_ix P N c)), .ref 0], (zw_M g (vp_updL gl 46 H) a al)) _
    refine zr_call (t := (31, [some (.ref 0), some (.int (nI 4)), none], [], (zw_M g (vp_updL gl 46 H) a al))) rfl (Nat.le_of_ble_eq_true rfl : 1 ≤ 6) (zs_M_sizeOf g (vp_updL gl 46 H) a al P hP (zw_ix P N c) hix) ?_
    rintro _ _ ⟨rfl, rfl⟩
    show zm_Run zt_get 6 zt_M_mixFlats (31, [some (.ref 0), some (.int (nI 4)), none], [.int (nI (zq_sz P (zw_ix P N c)))], (zw_M g (vp_updL gl 46 H) a al)) _
    refine zr_go (t := (34, [some (.ref 0), some (.int (nI (zq_sz P (zw_ix P N c)))), some (.int 0)], [], (zw_M g (vp_updL gl 46 H) a al))) 3 rfl ?_
    refine zr_loop (fun zq : Nat × Int64 => (34, [some (.ref 0), some (.int (nI (zq_sz P (zw_ix P N c)))), some (.int (nI zq.1))], [], (zw_M g (vp_updL gl 46 zq.2) a al))) (fun zq => zq.1 ≤ zw_gm P N c * (zq_sz P (zw_ix P N c)) ∧ zq.2 = zh_f (zh_f h (fun z1 => (nI (zw_fl P N c (z1 + 1))).toInt64) 3) (fun t => (nI (zw_pin P N c (zw_ix P N c) (t / (zq_sz P (zw_ix P N c))) (t % (zq_sz P (zw_ix P N c))))).toInt64) zq.1) (fun zq => zw_gm P N c * (zq_sz P (zw_ix P N c)) - zq.1) ?_ (0, H) ⟨by omega, hH⟩
    rintro ⟨k, J⟩ ⟨hk, hJ⟩ ih2
    try dsimp only at *
    refine zr_go (t := (36, [some (.ref 0), some (.int (nI (zq_sz P (zw_ix P N c)))), some (.int (nI k))], [.ref 0, .int (nI k)], (zw_M g (vp_updL gl 46 J) a al))) 2 rfl ?_
    refine zr_call (t := (39, [some (.ref 0), some (.int (nI (zq_sz P (zw_ix P N c)))), some (.int (nI k))], [.int (nI k)], (zw_M g (vp_updL gl 46 J) a al))) rfl (Nat.le_of_ble_eq_true rfl : 2 ≤ 6) (zs_M_gmW g (vp_updL gl 46 J) a al hG P N c hf hs) ?_
    rintro _ _ ⟨rfl, rfl⟩
    show zm_Run zt_get 6 zt_M_mixFlats (39, [some (.ref 0), some (.int (nI (zq_sz P (zw_ix P N c)))), some (.int (nI k))], [.int (nI (zw_gm P N c)), .int (nI k)], (zw_M g (vp_updL gl 46 J) a al)) _
    refine zr_go (t := (41, [some (.ref 0), some (.int (nI (zq_sz P (zw_ix P N c)))), some (.int (nI k))], [.int ((nI (zw_gm P N c)) * (nI (zq_sz P (zw_ix P N c)))), .int (nI k)], (zw_M g (vp_updL gl 46 J) a al))) 2 rfl ?_
    refine zr_ige (x := nI k) (y := (nI (zw_gm P N c)) * (nI (zq_sz P (zw_ix P N c)))) k ((zw_gm P N c) * (zq_sz P (zw_ix P N c))) rfl (zn_mul rfl rfl) (by omega) (by omega) (t := (69, [some (.ref 0), some (.int (nI (zq_sz P (zw_ix P N c)))), some (.int (nI k))], [], (zw_M g (vp_updL gl 46 J) a al))) (f := (44, [some (.ref 0), some (.int (nI (zq_sz P (zw_ix P N c)))), some (.int (nI k))], [], (zw_M g (vp_updL gl 46 J) a al))) rfl (fun h2 => ?_) (fun h2 => ?_)
    · skip
      have ek : k = zw_gm P N c * (zq_sz P (zw_ix P N c)) := by omega
      refine zr_go (t := (72, [some (.ref 0), some (.int (nI (zq_sz P (zw_ix P N c)))), some (.int (nI k))], [.int 0, .ref 0, .ref 0], (zw_M g (vp_updL gl 46 J) a al))) 3 rfl ?_
      refine zr_call (t := (75, [some (.ref 0), some (.int (nI (zq_sz P (zw_ix P N c)))), some (.int (nI k))], [.ref 0], (zw_M g (vp_updL gl 46 J) a al))) rfl (Nat.le_of_ble_eq_true rfl : 6 ≤ 6) (zs_M_leftNow g (vp_updL gl 46 J) a al hG P N c hf hs nn ff hl he 0 (by decide)) ?_
      rintro _ _ ⟨rfl, rfl⟩
      show zm_Run zt_get 6 zt_M_mixFlats (75, [some (.ref 0), some (.int (nI (zq_sz P (zw_ix P N c)))), some (.int (nI k))], [.int (zw_lf P N c 0 (ff 0) (nn 0)), .ref 0], (zw_M g (vp_updL gl 46 J) a al)) _
      refine zr_go (t := (76, [some (.ref 0), some (.int (nI (zq_sz P (zw_ix P N c)))), some (.int (nI k))], [.long ((zw_lf P N c 0 (ff 0) (nn 0)).toInt64), .ref 0], (zw_M g (vp_updL gl 46 J) a al))) 1 rfl ?_
      refine zr_call (t := (79, [some (.ref 0), some (.int (nI (zq_sz P (zw_ix P N c)))), some (.int (nI k))], [], (zw_M g (vp_updL gl 46 J) a al))) rfl (Nat.le_of_ble_eq_true rfl : 1 ≤ 6) (zs_M_mixIn g gl a al J ((zw_lf P N c 0 (ff 0) (nn 0)).toInt64)) ?_
      rintro _ _ ⟨rfl, rfl⟩
      show zm_Run zt_get 6 zt_M_mixFlats (79, [some (.ref 0), some (.int (nI (zq_sz P (zw_ix P N c)))), some (.int (nI k))], [], (zw_M g (vp_updL gl 46 (31 * J + ((zw_lf P N c 0 (ff 0) (nn 0)).toInt64))) a al)) _
      refine zr_go (t := (82, [some (.ref 0), some (.int (nI (zq_sz P (zw_ix P N c)))), some (.int (nI k))], [.int 1, .ref 0, .ref 0], (zw_M g (vp_updL gl 46 (31 * J + ((zw_lf P N c 0 (ff 0) (nn 0)).toInt64))) a al))) 3 rfl ?_
      refine zr_call (t := (85, [some (.ref 0), some (.int (nI (zq_sz P (zw_ix P N c)))), some (.int (nI k))], [.ref 0], (zw_M g (vp_updL gl 46 (31 * J + ((zw_lf P N c 0 (ff 0) (nn 0)).toInt64))) a al))) rfl (Nat.le_of_ble_eq_true rfl : 6 ≤ 6) (zs_M_leftNow g (vp_updL gl 46 (31 * J + ((zw_lf P N c 0 (ff 0) (nn 0)).toInt64))) a al hG P N c hf hs nn ff hl he 1 (by decide)) ?_
      rintro _ _ ⟨rfl, rfl⟩
      show zm_Run zt_get 6 zt_M_mixFlats (85, [some (.ref 0), some (.int (nI (zq_sz P (zw_ix P N c)))), some (.int (nI k))], [.int (zw_lf P N c 1 (ff 1) (nn 1)), .ref 0], (zw_M g (vp_updL gl 46 (31 * J + ((zw_lf P N c 0 (ff 0) (nn 0)).toInt64))) a al)) _
      refine zr_go (t := (86, [some (.ref 0), some (.int (nI (zq_sz P (zw_ix P N c)))), some (.int (nI k))], [.long ((zw_lf P N c 1 (ff 1) (nn 1)).toInt64), .ref 0], (zw_M g (vp_updL gl 46 (31 * J + ((zw_lf P N c 0 (ff 0) (nn 0)).toInt64))) a al))) 1 rfl ?_
      refine zr_call (t := (89, [some (.ref 0), some (.int (nI (zq_sz P (zw_ix P N c)))), some (.int (nI k))], [], (zw_M g (vp_updL gl 46 (31 * J + ((zw_lf P N c 0 (ff 0) (nn 0)).toInt64))) a al))) rfl (Nat.le_of_ble_eq_true rfl : 1 ≤ 6) (zs_M_mixIn g gl a al (31 * J + ((zw_lf P N c 0 (ff 0) (nn 0)).toInt64)) ((zw_lf P N c 1 (ff 1) (nn 1)).toInt64)) ?_
      rintro _ _ ⟨rfl, rfl⟩
      show zm_Run zt_get 6 zt_M_mixFlats (89, [some (.ref 0), some (.int (nI (zq_sz P (zw_ix P N c)))), some (.int (nI k))], [], (zw_M g (vp_updL gl 46 (31 * (31 * J + ((zw_lf P N c 0 (ff 0) (nn 0)).toInt64)) + ((zw_lf P N c 1 (ff 1) (nn 1)).toInt64))) a al)) _
      subst hJ ek
      exact zr_ret rfl trivial ⟨rfl, rfl⟩
    · skip
      refine zr_go (t := (47, [some (.ref 0), some (.int (nI (zq_sz P (zw_ix P N c)))), some (.int (nI k))], [.ref 0, .ref 0, .ref 0], (zw_M g (vp_updL gl 46 J) a al))) 3 rfl ?_
      refine zr_call (t := (50, [some (.ref 0), some (.int (nI (zq_sz P (zw_ix P N c)))), some (.int (nI k))], [.ref 0, .ref 0], (zw_M g (vp_updL gl 46 J) a al))) rfl (Nat.le_of_ble_eq_true rfl : 1 ≤ 6) (zs_M_index g (vp_updL gl 46 J) a al (zw_nl P N c) (zw_npl P N c) hnl hnpl hnl1 hnpl1) ?_
      rintro _ _ ⟨rfl, rfl⟩
      show zm_Run zt_get 6 zt_M_mixFlats (50, [some (.ref 0), some (.int (nI (zq_sz P (zw_ix P N c)))), some (.int (nI k))], [.int (nI (zw_ix P N c)), .ref 0, .ref 0], (zw_M g (vp_updL gl 46 J) a al)) _
      refine zr_go (t := (52, [some (.ref 0), some (.int (nI (zq_sz P (zw_ix P N c)))), some (.int (nI k))], [.int (nI (zq_sz P (zw_ix P N c))), .int (nI k), .int (nI (zw_ix P N c)), .ref 0, .ref 0], (zw_M g (vp_updL gl 46 J) a al))) 2 rfl ?_
      refine zr_cd (t := (53, [some (.ref 0), some (.int (nI (zq_sz P (zw_ix P N c)))), some (.int (nI k))], [.int ((nI k) / (nI (zq_sz P (zw_ix P N c)))), .int (nI (zw_ix P N c)), .ref 0, .ref 0], (zw_M g (vp_updL gl 46 J) a al))) rfl (zn_ne0 rfl (by omega) (by omega)) ?_
      rw [show (nI k) / (nI (zq_sz P (zw_ix P N c))) = nI (k / (zq_sz P (zw_ix P N c))) from (zn_div rfl rfl (by omega) (by omega) (by omega))]
      refine zr_go (t := (55, [some (.ref 0), some (.int (nI (zq_sz P (zw_ix P N c)))), some (.int (nI k))], [.int (nI (zq_sz P (zw_ix P N c))), .int (nI k), .int (nI (k / (zq_sz P (zw_ix P N c)))), .int (nI (zw_ix P N c)), .ref 0, .ref 0], (zw_M g (vp_updL gl 46 J) a al))) 2 rfl ?_
      refine zr_cd (t := (56, [some (.ref 0), some (.int (nI (zq_sz P (zw_ix P N c)))), some (.int (nI k))], [.int ((nI k) - (nI k) / (nI (zq_sz P (zw_ix P N c))) * (nI (zq_sz P (zw_ix P N c)))), .int (nI (k / (zq_sz P (zw_ix P N c)))), .int (nI (zw_ix P N c)), .ref 0, .ref 0], (zw_M g (vp_updL gl 46 J) a al))) rfl (zn_ne0 rfl (by omega) (by omega)) ?_
      rw [show (nI k) - (nI k) / (nI (zq_sz P (zw_ix P N c))) * (nI (zq_sz P (zw_ix P N c))) = nI (k % (zq_sz P (zw_ix P N c))) from (zn_rem rfl rfl (by omega) (by omega) (by omega))]
      have hkq : k / (zq_sz P (zw_ix P N c)) < zw_gm P N c := Nat.div_lt_of_lt_mul (by rw [Nat.mul_comm]; exact h2)
      have hkr : k % (zq_sz P (zw_ix P N c)) < (zq_sz P (zw_ix P N c)) := Nat.mod_lt _ hsz0
      refine zr_call (t := (59, [some (.ref 0), some (.int (nI (zq_sz P (zw_ix P N c)))), some (.int (nI k))], [.ref 0], (zw_M g (vp_updL gl 46 J) a al))) rfl (Nat.le_of_ble_eq_true rfl : 2 ≤ 6) (zs_M_pointIn g (vp_updL gl 46 J) a al (zw_nl P N c) (zw_npl P N c) hnl hnpl hnl1 hnpl1 (zv_np P N) hB9 (zw_oo P N c) hOO P hP5 (zw_ln P N c) (zw_pl P N c) hLL (zw_ix P N c) (k / (zq_sz P (zw_ix P N c))) (k % (zq_sz P (zw_ix P N c))) hix hkq hkr) ?_
      rintro _ _ ⟨rfl, rfl⟩
      show zm_Run zt_get 6 zt_M_mixFlats (59, [some (.ref 0), some (.int (nI (zq_sz P (zw_ix P N c)))), some (.int (nI k))], [.int (nI (zw_pin P N c (zw_ix P N c) (k / (zq_sz P (zw_ix P N c))) (k % (zq_sz P (zw_ix P N c))))), .ref 0], (zw_M g (vp_updL gl 46 J) a al)) _
      refine zr_go (t := (60, [some (.ref 0), some (.int (nI (zq_sz P (zw_ix P N c)))), some (.int (nI k))], [.long ((nI (zw_pin P N c (zw_ix P N c) (k / (zq_sz P (zw_ix P N c))) (k % (zq_sz P (zw_ix P N c))))).toInt64), .ref 0], (zw_M g (vp_updL gl 46 J) a al))) 1 rfl ?_
      refine zr_call (t := (63, [some (.ref 0), some (.int (nI (zq_sz P (zw_ix P N c)))), some (.int (nI k))], [], (zw_M g (vp_updL gl 46 J) a al))) rfl (Nat.le_of_ble_eq_true rfl : 1 ≤ 6) (zs_M_mixIn g gl a al J ((nI (zw_pin P N c (zw_ix P N c) (k / (zq_sz P (zw_ix P N c))) (k % (zq_sz P (zw_ix P N c))))).toInt64)) ?_
      rintro _ _ ⟨rfl, rfl⟩
      show zm_Run zt_get 6 zt_M_mixFlats (63, [some (.ref 0), some (.int (nI (zq_sz P (zw_ix P N c)))), some (.int (nI k))], [], (zw_M g (vp_updL gl 46 (31 * J + ((nI (zw_pin P N c (zw_ix P N c) (k / (zq_sz P (zw_ix P N c))) (k % (zq_sz P (zw_ix P N c))))).toInt64))) a al)) _
      refine zr_go (t := (34, [some (.ref 0), some (.int (nI (zq_sz P (zw_ix P N c)))), some (.int ((nI k) + 1))], [], (zw_M g (vp_updL gl 46 (31 * J + ((nI (zw_pin P N c (zw_ix P N c) (k / (zq_sz P (zw_ix P N c))) (k % (zq_sz P (zw_ix P N c))))).toInt64))) a al))) 2 rfl ?_
      rw [show (nI k) + 1 = nI (k + 1) from (zn_add rfl rfl)]
      exact ih2 (k + 1, 31 * J + ((nI (zw_pin P N c (zw_ix P N c) (k / (zq_sz P (zw_ix P N c))) (k % (zq_sz P (zw_ix P N c))))).toInt64)) ⟨by omega, by rw [hJ]; rfl⟩ (by omega)
  · skip
    refine zr_go (t := (10, [some (.ref 0), some (.int (nI d)), none], [.int (nI d), .ref 0, .ref 0], (zw_M g (vp_updL gl 46 H) a al))) 3 rfl ?_
    refine zr_call (t := (13, [some (.ref 0), some (.int (nI d)), none], [.ref 0], (zw_M g (vp_updL gl 46 H) a al))) rfl (Nat.le_of_ble_eq_true rfl : 1 ≤ 6) (zs_M_flatsOf g (vp_updL gl 46 H) a al (zw_nl P N c) (zw_npl P N c) hnl hnpl hnl1 hnpl1 (zw_on P N c) h10 d (by omega)) ?_
    rintro _ _ ⟨rfl, rfl⟩
    show zm_Run zt_get 6 zt_M_mixFlats (13, [some (.ref 0), some (.int (nI d)), none], [.int (nI (zw_fl P N c d)), .ref 0], (zw_M g (vp_updL gl 46 H) a al)) _
    refine zr_go (t := (14, [some (.ref 0), some (.int (nI d)), none], [.long ((nI (zw_fl P N c d)).toInt64), .ref 0], (zw_M g (vp_updL gl 46 H) a al))) 1 rfl ?_
    refine zr_call (t := (17, [some (.ref 0), some (.int (nI d)), none], [], (zw_M g (vp_updL gl 46 H) a al))) rfl (Nat.le_of_ble_eq_true rfl : 1 ≤ 6) (zs_M_mixIn g gl a al H ((nI (zw_fl P N c d)).toInt64)) ?_
    rintro _ _ ⟨rfl, rfl⟩
    show zm_Run zt_get 6 zt_M_mixFlats (17, [some (.ref 0), some (.int (nI d)), none], [], (zw_M g (vp_updL gl 46 (31 * H + ((nI (zw_fl P N c d)).toInt64))) a al)) _
    refine zr_go (t := (2, [some (.ref 0), some (.int ((nI d) + 1)), none], [], (zw_M g (vp_updL gl 46 (31 * H + ((nI (zw_fl P N c d)).toInt64))) a al))) 2 rfl ?_
    rw [show (nI d) + 1 = nI (d + 1) from (zn_add rfl rfl)]
    exact ih (d + 1, 31 * H + ((nI (zw_fl P N c d)).toInt64)) ⟨by omega, by omega, by rw [hH]; obtain ⟨e, rfl⟩ : ∃ e, d = e + 1 := ⟨d - 1, by omega⟩; rfl⟩ (by omega)
theorem zs_M_mixForm (g : Nat → Int32) (gl : Nat → Int64) (a : Nat → Nat → Int32) (al : Nat → Nat → Int64) (hG : zG) (P N : Nat) (c : Nat → Nat) (hf : zS_f g a P N c) (nn : Nat → Nat) (ff : Nat → Nat → Nat) (hl : zS_l a nn ff) (he : zw_ns P N c = 0 → ∀ q, q < 2 → ∀ k, k < nn q → zw_ent P N c q (ff q k)) (h : Int64) : zm_Ev zt_get 8 214 [.ref 0] (zw_M g (vp_updL gl 46 h) a al) (fun u w => u = none ∧ ∃ f9 f15 : Nat → Int32, w = (zw_M g (vp_updL gl 46 (zh_form P N c nn ff h)) (va_up (va_up a 9 f9) 15 f15) al)) := by
  obtain ⟨hok, hFF, hRR, hnum, hOO, h10, h11, -⟩ := id hf
  obtain ⟨hP, hN, hP0, hP5, hN6, hcc, hc4⟩ := id hFF
  obtain ⟨hA9, hB9, -⟩ := zv_nums hok
  have hns1 : zw_ns P N c ≤ 156 := Nat.le_trans (zC_le _ _) hB9
  refine zr_ev zt_M_mixForm rfl rfl ?_
  show zm_Run zt_get 7 zt_M_mixForm (0, [some (.ref 0), none, none], [], (zw_M g (vp_updL gl 46 h) a al)) _
  refine zr_go (t := (2, [some (.ref 0), some (.int 0), none], [], (zw_M g (vp_updL gl 46 h) a al))) 2 rfl ?_
  refine zr_loop (fun zq : Nat × Int64 × (Nat → Int32) => (2, [some (.ref 0), some (.int (nI zq.1)), none], [], (zw_M g (vp_updL gl 46 zq.2.1) (va_up a 15 zq.2.2) al))) (fun zq => zq.1 ≤ 8 ∧ zq.2.1 = zh_f h (fun t => (aw_ab P N c t).toInt64) zq.1) (fun zq => 8 - zq.1) ?_ (0, h, a 15) ⟨by omega, rfl⟩
  rintro ⟨k, H, f15⟩ ⟨hk, hH⟩ ih
  try dsimp only at *
  refine zr_go (t := (5, [some (.ref 0), some (.int (nI k)), none], [.int 8, .int (nI k)], (zw_M g (vp_updL gl 46 H) (va_up a 15 f15) al))) 2 rfl ?_
  refine zr_ige (x := nI k) (y := 8) k 8 rfl rfl (by omega) (by omega) (t := (24, [some (.ref 0), some (.int (nI k)), none], [], (zw_M g (vp_updL gl 46 H) (va_up a 15 f15) al))) (f := (8, [some (.ref 0), some (.int (nI k)), none], [], (zw_M g (vp_updL gl 46 H) (va_up a 15 f15) al))) rfl (fun h1 => ?_) (fun h1 => ?_)
  · skip
    have ek : k = 8 := by omega
    subst ek
    refine zr_go (t := (26, [some (.ref 0), some (.int 0), none], [], (zw_M g (vp_updL gl 46 H) (va_up a 15 f15) al))) 2 rfl ?_
    refine zr_loop (fun zq : Nat × Int64 => (26, [some (.ref 0), some (.int (nI zq.1)), none], [], (zw_M g (vp_updL gl 46 zq.2) (va_up a 15 f15) al))) (fun zq => zq.1 ≤ N ∧ zq.2 = zh_tab (zh_f h (fun z1 => (aw_ab P N c z1).toInt64) 8) c N zq.1) (fun zq => N - zq.1) ?_ (0, H) ⟨by omega, hH⟩
    rintro ⟨i, J⟩ ⟨hi, hJ⟩ ih2
    try dsimp only at *
    refine zr_go (t := (31, [some (.ref 0), some (.int (nI i)), none], [.int (g 1), .int (nI i)], (zw_M g (vp_updL gl 46 J) (va_up a 15 f15) al))) 3 rfl ?_
    refine zr_ige (x := nI i) (y := g 1) i N rfl hN (by omega) (by omega) (t := (72, [some (.ref 0), some (.int (nI i)), none], [], (zw_M g (vp_updL gl 46 J) (va_up a 15 f15) al))) (f := (34, [some (.ref 0), some (.int (nI i)), none], [], (zw_M g (vp_updL gl 46 J) (va_up a 15 f15) al))) rfl (fun h2 => ?_) (fun h2 => ?_)
    · skip
      have ei : i = N := by omega
      rw [ei] at hJ
      refine zr_go (t := (74, [some (.ref 0), some (.int 0), none], [], (zw_M g (vp_updL gl 46 J) (va_up a 15 f15) al))) 2 rfl ?_
      refine zr_loop (fun zq : Nat × Int64 × (Nat → Int32) => (74, [some (.ref 0), some (.int (nI zq.1)), none], [], (zw_M g (vp_updL gl 46 zq.2.1) (va_up (va_up a 9 zq.2.2) 15 f15) al))) (fun zq => zq.1 ≤ zv_np P N ∧ zq.2.1 = zh_f (zh_tab (zh_f h (fun z1 => (aw_ab P N c z1).toInt64) 8) c N N) (fun t => (nI (zv_val P N c (zv_y P N t))).toInt64) zq.1) (fun zq => zv_np P N - zq.1) ?_ (0, J, a 9) ⟨by omega, hJ⟩
      rintro ⟨k, L, f9⟩ ⟨hk3, hL⟩ ih3
      try dsimp only at *
      refine zr_go (t := (79, [some (.ref 0), some (.int (nI k)), none], [.int (g 6), .int (nI k)], (zw_M g (vp_updL gl 46 L) (va_up (va_up a 9 f9) 15 f15) al))) 3 rfl ?_
      refine zr_ige (x := nI k) (y := g 6) k (zv_np P N) rfl hRR.1 (by omega) (by omega) (t := (98, [some (.ref 0), some (.int (nI k)), none], [], (zw_M g (vp_updL gl 46 L) (va_up (va_up a 9 f9) 15 f15) al))) (f := (82, [some (.ref 0), some (.int (nI k)), none], [], (zw_M g (vp_updL gl 46 L) (va_up (va_up a 9 f9) 15 f15) al))) rfl (fun h3 => ?_) (fun h3 => ?_)
      · skip
        have ek : k = zv_np P N := by omega
        rw [ek] at hL
        refine zr_go (t := (99, [some (.ref 0), some (.int (nI k)), none], [.ref 0], (zw_M g (vp_updL gl 46 L) (va_up (va_up a 9 f9) 15 f15) al))) 1 rfl ?_
        refine zr_call (t := (102, [some (.ref 0), some (.int (nI k)), none], [], (zw_M g (vp_updL gl 46 L) (va_up (va_up a 9 f9) 15 f15) al))) rfl (Nat.le_of_ble_eq_true rfl : 1 ≤ 7) (zs_M_isSound g (vp_updL gl 46 L) (va_up (va_up a 9 f9) 15 f15) al P (zw_ns P N c) hP hP5 h11 hns1) ?_
        rintro _ _ ⟨rfl, rfl⟩
        show zm_Run zt_get 7 zt_M_mixForm (102, [some (.ref 0), some (.int (nI k)), none], [.int (nI ((decide (0 < P) && decide (zw_ns P N c = 0)).toNat))], (zw_M g (vp_updL gl 46 L) (va_up (va_up a 9 f9) 15 f15) al)) _
        have hbs := zb_le (decide (0 < P) && decide (zw_ns P N c = 0))
        refine zr_ieq (x := nI ((decide (0 < P) && decide (zw_ns P N c = 0)).toNat)) (y := 0) ((decide (0 < P) && decide (zw_ns P N c = 0)).toNat) 0 rfl rfl (by omega) (by omega) (t := (109, [some (.ref 0), some (.int (nI k)), none], [], (zw_M g (vp_updL gl 46 L) (va_up (va_up a 9 f9) 15 f15) al))) (f := (105, [some (.ref 0), some (.int (nI k)), none], [], (zw_M g (vp_updL gl 46 L) (va_up (va_up a 9 f9) 15 f15) al))) rfl (fun h4 => ?_) (fun h4 => ?_)
        · skip
          have hno : zw_ns P N c ≠ 0 := by have q := zb_0 h4; rw [decide_eq_true hP0, Bool.true_and] at q; exact of_decide_eq_false q
          have hfo : zh_form P N c nn ff h = L := by unfold zh_form; rw [if_neg hno, hL]
          rw [hfo]
          exact zr_ret rfl trivial ⟨rfl, f9, f15, rfl⟩
        · skip
          have hs : zw_ns P N c = 0 := of_decide_eq_true (Bool.and_eq_true_iff.mp (zb_1 h4)).2
          have hfo : zh_form P N c nn ff h = zh_flats P N c nn ff L := by unfold zh_form; rw [if_pos hs, hL]
          rw [hfo]
          refine zr_go (t := (106, [some (.ref 0), some (.int (nI k)), none], [.ref 0], (zw_M g (vp_updL gl 46 L) (va_up (va_up a 9 f9) 15 f15) al))) 1 rfl ?_
          refine zr_call (t := (109, [some (.ref 0), some (.int (nI k)), none], [], (zw_M g (vp_updL gl 46 L) (va_up (va_up a 9 f9) 15 f15) al))) rfl (Nat.le_of_ble_eq_true rfl : 7 ≤ 7) (zs_M_mixFlats g gl (va_up (va_up a 9 f9) 15 f15) al hG P N c hf hs nn ff hl (he hs) L) ?_
          rintro _ _ ⟨rfl, rfl⟩
          show zm_Run zt_get 7 zt_M_mixForm (109, [some (.ref 0), some (.int (nI k)), none], [], (zw_M g (vp_updL gl 46 (zh_flats P N c nn ff L)) (va_up (va_up a 9 f9) 15 f15) al)) _
          exact zr_ret rfl trivial ⟨rfl, f9, f15, rfl⟩
      · skip
        refine zr_go (t := (85, [some (.ref 0), some (.int (nI k)), none], [.int (nI k), .ref 0, .ref 0], (zw_M g (vp_updL gl 46 L) (va_up (va_up a 9 f9) 15 f15) al))) 3 rfl ?_
        refine zr_call (t := (88, [some (.ref 0), some (.int (nI k)), none], [.ref 0], (zw_M g (vp_updL gl 46 L) (va_up (va_up a 9 f9) 15 f15) al))) rfl (Nat.le_of_ble_eq_true rfl : 2 ≤ 7) (zs_M_valueAt g (vp_updL gl 46 L) (va_up (va_up a 9 f9) 15 f15) al P N c hFF k (by omega) (zv_y P N k) (fun i hi => hRR.2.2.1 k i h3 hi) (fun i hi => hRR.2.2.2 k i h3 hi)) ?_
        rintro _ _ ⟨rfl, e9, rfl⟩
        show zm_Run zt_get 7 zt_M_mixForm (88, [some (.ref 0), some (.int (nI k)), none], [.int (nI (zv_val P N c (zv_y P N k))), .ref 0], (zw_M g (vp_updL gl 46 L) (va_up (va_up a 9 e9) 15 f15) al)) _
        refine zr_go (t := (89, [some (.ref 0), some (.int (nI k)), none], [.long ((nI (zv_val P N c (zv_y P N k))).toInt64), .ref 0], (zw_M g (vp_updL gl 46 L) (va_up (va_up a 9 e9) 15 f15) al))) 1 rfl ?_
        refine zr_call (t := (92, [some (.ref 0), some (.int (nI k)), none], [], (zw_M g (vp_updL gl 46 L) (va_up (va_up a 9 e9) 15 f15) al))) rfl (Nat.le_of_ble_eq_true rfl : 1 ≤ 7) (zs_M_mixIn g gl (va_up (va_up a 9 e9) 15 f15) al L ((nI (zv_val P N c (zv_y P N k))).toInt64)) ?_
        rintro _ _ ⟨rfl, rfl⟩
        show zm_Run zt_get 7 zt_M_mixForm (92, [some (.ref 0), some (.int (nI k)), none], [], (zw_M g (vp_updL gl 46 (31 * L + ((nI (zv_val P N c (zv_y P N k))).toInt64))) (va_up (va_up a 9 e9) 15 f15) al)) _
        refine zr_go (t := (74, [some (.ref 0), some (.int ((nI k) + 1)), none], [], (zw_M g (vp_updL gl 46 (31 * L + ((nI (zv_val P N c (zv_y P N k))).toInt64))) (va_up (va_up a 9 e9) 15 f15) al))) 2 rfl ?_
        rw [show (nI k) + 1 = nI (k + 1) from (zn_add rfl rfl)]
        exact ih3 (k + 1, 31 * L + ((nI (zv_val P N c (zv_y P N k))).toInt64), e9) ⟨by omega, by rw [hL]; rfl⟩ (by omega)
    · skip
      refine zr_go (t := (36, [some (.ref 0), some (.int (nI i)), some (.int (nI i))], [], (zw_M g (vp_updL gl 46 J) (va_up a 15 f15) al))) 2 rfl ?_
      refine zr_loop (fun zq : Nat × Int64 => (36, [some (.ref 0), some (.int (nI i)), some (.int (nI zq.1))], [], (zw_M g (vp_updL gl 46 zq.2) (va_up a 15 f15) al))) (fun zq => i ≤ zq.1 ∧ zq.1 ≤ N ∧ zq.2 = zh_f (zh_tab (zh_f h (fun z1 => (aw_ab P N c z1).toInt64) 8) c N i) (fun t => (nI (c (6 * i + (i + t)))).toInt64) (zq.1 - i)) (fun zq => N - zq.1) ?_ (i, J) ⟨Nat.le_refl _, by omega, by rw [Nat.sub_self]; exact hJ⟩
      rintro ⟨j, U⟩ ⟨hij, hj, hU⟩ ih4
      try dsimp only at *
      refine zr_go (t := (41, [some (.ref 0), some (.int (nI i)), some (.int (nI j))], [.int (g 1), .int (nI j)], (zw_M g (vp_updL gl 46 U) (va_up a 15 f15) al))) 3 rfl ?_
      refine zr_ige (x := nI j) (y := g 1) j N rfl hN (by omega) (by omega) (t := (66, [some (.ref 0), some (.int (nI i)), some (.int (nI j))], [], (zw_M g (vp_updL gl 46 U) (va_up a 15 f15) al))) (f := (44, [some (.ref 0), some (.int (nI i)), some (.int (nI j))], [], (zw_M g (vp_updL gl 46 U) (va_up a 15 f15) al))) rfl (fun h3 => ?_) (fun h3 => ?_)
      · skip
        have ej : j = N := by omega
        refine zr_go (t := (26, [some (.ref 0), some (.int ((nI i) + 1)), some (.int (nI j))], [], (zw_M g (vp_updL gl 46 U) (va_up a 15 f15) al))) 2 rfl ?_
        rw [show (nI i) + 1 = nI (i + 1) from (zn_add rfl rfl)]
        refine zr_forget [some (.ref 0), some (.int (nI (i + 1))), none] ⟨Or.inr rfl, Or.inr rfl, Or.inl rfl, trivial⟩ ?_
        exact ih2 (i + 1, U) ⟨by omega, by rw [hU, ej]; rfl⟩ (by omega)
      · skip
        refine zr_go (t := (55, [some (.ref 0), some (.int (nI i)), some (.int (nI j))], [.int ((6 * (nI i)) + (nI j)), .ref 1, .ref 0], (zw_M g (vp_updL gl 46 U) (va_up a 15 f15) al))) 8 rfl ?_
        refine zr_cd (t := (56, [some (.ref 0), some (.int (nI i)), some (.int (nI j))], [.int ((a 1) ((6 * (nI i)) + (nI j)).toNatClampNeg), .ref 0], (zw_M g (vp_updL gl 46 U) (va_up a 15 f15) al))) rfl (pk_in ((6 * i) + j) 36 (by omega) (zn_add (zn_mul rfl rfl) rfl) (by omega)) ?_
        rw [pk_cl (x := ((6 * (nI i)) + (nI j))) ((6 * i) + j) (zn_add (zn_mul rfl rfl) rfl) (by omega)]
        rw [show (a 1) ((6 * i) + j) = nI (c ((6 * i) + j)) from hcc ((6 * i) + j) (by omega)]
        refine zr_go (t := (57, [some (.ref 0), some (.int (nI i)), some (.int (nI j))], [.long ((nI (c ((6 * i) + j))).toInt64), .ref 0], (zw_M g (vp_updL gl 46 U) (va_up a 15 f15) al))) 1 rfl ?_
        refine zr_call (t := (60, [some (.ref 0), some (.int (nI i)), some (.int (nI j))], [], (zw_M g (vp_updL gl 46 U) (va_up a 15 f15) al))) rfl (Nat.le_of_ble_eq_true rfl : 1 ≤ 7) (zs_M_mixIn g gl (va_up a 15 f15) al U ((nI (c (6 * i + j))).toInt64)) ?_
        rintro _ _ ⟨rfl, rfl⟩
        show zm_Run zt_get 7 zt_M_mixForm (60, [some (.ref 0), some (.int (nI i)), some (.int (nI j))], [], (zw_M g (vp_updL gl 46 (31 * U + ((nI (c (6 * i + j))).toInt64))) (va_up a 15 f15) al)) _
        refine zr_go (t := (36, [some (.ref 0), some (.int (nI i)), some (.int ((nI j) + 1))], [], (zw_M g (vp_updL gl 46 (31 * U + ((nI (c (6 * i + j))).toInt64))) (va_up a 15 f15) al))) 2 rfl ?_
        rw [show (nI j) + 1 = nI (j + 1) from (zn_add rfl rfl)]
        exact ih4 (j + 1, 31 * U + ((nI (c (6 * i + j))).toInt64)) ⟨by omega, by omega, by rw [hU, show j + 1 - i = (j - i) + 1 by omega]; show _ = 31 * _ + (nI (c (6 * i + (i + (j - i))))).toInt64; rw [show i + (j - i) = j by omega]⟩ (by omega)
  · skip
    refine zr_go (t := (11, [some (.ref 0), some (.int (nI k)), none], [.int (nI k), .ref 0, .ref 0], (zw_M g (vp_updL gl 46 H) (va_up a 15 f15) al))) 3 rfl ?_
    refine zr_call (t := (14, [some (.ref 0), some (.int (nI k)), none], [.ref 0], (zw_M g (vp_updL gl 46 H) (va_up a 15 f15) al))) rfl (Nat.le_of_ble_eq_true rfl : 5 ≤ 7) (zs_M_aboutNow g (vp_updL gl 46 H) (va_up a 15 f15) al hG P N c hf k (by omega)) ?_
    rintro _ _ ⟨rfl, e15, rfl⟩
    show zm_Run zt_get 7 zt_M_mixForm (14, [some (.ref 0), some (.int (nI k)), none], [.int (aw_ab P N c k), .ref 0], (zw_M g (vp_updL gl 46 H) (va_up a 15 e15) al)) _
    refine zr_go (t := (15, [some (.ref 0), some (.int (nI k)), none], [.long ((aw_ab P N c k).toInt64), .ref 0], (zw_M g (vp_updL gl 46 H) (va_up a 15 e15) al))) 1 rfl ?_
    refine zr_call (t := (18, [some (.ref 0), some (.int (nI k)), none], [], (zw_M g (vp_updL gl 46 H) (va_up a 15 e15) al))) rfl (Nat.le_of_ble_eq_true rfl : 1 ≤ 7) (zs_M_mixIn g gl (va_up a 15 e15) al H ((aw_ab P N c k).toInt64)) ?_
    rintro _ _ ⟨rfl, rfl⟩
    show zm_Run zt_get 7 zt_M_mixForm (18, [some (.ref 0), some (.int (nI k)), none], [], (zw_M g (vp_updL gl 46 (31 * H + ((aw_ab P N c k).toInt64))) (va_up a 15 e15) al)) _
    refine zr_go (t := (2, [some (.ref 0), some (.int ((nI k) + 1)), none], [], (zw_M g (vp_updL gl 46 (31 * H + ((aw_ab P N c k).toInt64))) (va_up a 15 e15) al))) 2 rfl ?_
    rw [show (nI k) + 1 = nI (k + 1) from (zn_add rfl rfl)]
    exact ih (k + 1, 31 * H + ((aw_ab P N c k).toInt64), e15) ⟨by omega, by rw [hH]; rfl⟩ (by omega)
theorem zs_M_digest (g : Nat → Int32) (gl : Nat → Int64) (a : Nat → Nat → Int32) (al : Nat → Nat → Int64) (hG : zG) (P N : Nat) (c : Nat → Nat) (hS : zS_F g a P N c) (nn : Nat → Nat) (ff : Nat → Nat → Nat) (hl : zS_l a nn ff) (he : zw_sound P N c = true → ∀ q, q < 2 → ∀ k, k < nn q → zw_ent P N c q (ff q k)) (n : Nat) (cd : Nat → Nat) (hp : zS_p g a n cd) : zm_Ev zt_get 9 215 [.ref 0] (zw_M g gl a al) (fun u w => u = some (.long (aw_digest P N c nn ff n cd (g 4) (g 3) (g 36) (g 37))) ∧ ∃ (h : Int64) (f9 f15 : Nat → Int32), w = (zw_M g (vp_updL gl 46 h) (va_up (va_up a 9 f9) 15 f15) al)) := by
  obtain ⟨hP, hN, hnp, hP5, hN6, hnp1⟩ := hS.nums
  obtain ⟨ns, on, nl, npl, hns, hon, hnl, hnpl, hns1, hon1, hnl1, hnpl1, hz0, hzP⟩ := hS.more hG
  obtain ⟨-, hn28, hcd, -⟩ := id hp
  refine zr_ev zt_M_digest rfl rfl ?_
  show zm_Run zt_get 8 zt_M_digest (0, [some (.ref 0), none, none], [], (zw_M g gl a al)) _
  refine zr_go (t := (8, [some (.ref 0), none, none], [.ref 0], (zw_M g (vp_updL gl 46 1499) a al))) 4 rfl ?_
  refine zr_call (t := (11, [some (.ref 0), none, none], [], (zw_M g (vp_updL gl 46 1499) a al))) rfl (Nat.le_of_ble_eq_true rfl : 1 ≤ 8) (zs_M_isForm g (vp_updL gl 46 1499) a al P hP hP5) ?_
  rintro _ _ ⟨rfl, rfl⟩
  show zm_Run zt_get 8 zt_M_digest (11, [some (.ref 0), none, none], [.int (nI ((decide (0 < P)).toNat))], (zw_M g (vp_updL gl 46 1499) a al)) _
  have hb1 := zb_le (decide (0 < P))
  refine zr_ieq (x := nI ((decide (0 < P)).toNat)) (y := 0) ((decide (0 < P)).toNat) 0 rfl rfl (by omega) (by omega) (t := (18, [some (.ref 0), none, none], [], (zw_M g (vp_updL gl 46 1499) a al))) (f := (14, [some (.ref 0), none, none], [], (zw_M g (vp_updL gl 46 1499) a al))) rfl (fun h1 => ?_) (fun h1 => ?_)
  · skip
    refine zr_go (t := (20, [some (.ref 0), some (.int 0), none], [], (zw_M g (vp_updL gl 46 1499) a al))) 2 rfl ?_
    refine zr_loop (fun zq : Nat × Int64 => (20, [some (.ref 0), some (.int (nI zq.1)), none], [], (zw_M g (vp_updL gl 46 zq.2) a al))) (fun zq => zq.1 ≤ 2 ∧ zq.2 = zh_lists nn ff (if 0 < P then zh_form P N c nn ff 1499 else 1499) zq.1) (fun zq => 2 - zq.1) ?_ (0, 1499) ⟨by omega, by rw [if_neg (of_decide_eq_false (zb_0 h1))]; rfl⟩
    rintro ⟨q, H⟩ ⟨hq, hH⟩ ih
    try dsimp only at *
    refine zr_go (t := (22, [some (.ref 0), some (.int (nI q)), none], [.int 2, .int (nI q)], (zw_M g (vp_updL gl 46 H) a al))) 2 rfl ?_
    refine zr_ige (x := nI q) (y := 2) q 2 rfl rfl (by omega) (by omega) (t := (65, [some (.ref 0), some (.int (nI q)), none], [], (zw_M g (vp_updL gl 46 H) a al))) (f := (25, [some (.ref 0), some (.int (nI q)), none], [], (zw_M g (vp_updL gl 46 H) a al))) rfl (fun h2 => ?_) (fun h2 => ?_)
    · skip
      have eq : q = 2 := by omega
      subst eq
      refine zr_go (t := (67, [some (.ref 0), some (.int 0), none], [], (zw_M g (vp_updL gl 46 H) a al))) 2 rfl ?_
      refine zr_loop (fun zq : Nat × Int64 => (67, [some (.ref 0), some (.int (nI zq.1)), none], [], (zw_M g (vp_updL gl 46 zq.2) a al))) (fun zq => zq.1 ≤ n ∧ zq.2 = zh_f (zh_lists nn ff (if 0 < P then zh_form P N c nn ff 1499 else 1499) 2) (fun t => (nI (cd t)).toInt64) zq.1) (fun zq => n - zq.1) ?_ (0, H) ⟨by omega, hH⟩
      rintro ⟨k, J⟩ ⟨hk, hJ⟩ ih2
      try dsimp only at *
      refine zr_go (t := (72, [some (.ref 0), some (.int (nI k)), none], [.int (g 4), .int (nI k)], (zw_M g (vp_updL gl 46 J) a al))) 3 rfl ?_
      refine zr_ige (x := nI k) (y := g 4) k n rfl hp.1 (by omega) (by omega) (t := (92, [some (.ref 0), some (.int (nI k)), none], [], (zw_M g (vp_updL gl 46 J) a al))) (f := (75, [some (.ref 0), some (.int (nI k)), none], [], (zw_M g (vp_updL gl 46 J) a al))) rfl (fun h3 => ?_) (fun h3 => ?_)
      · skip
        have ek : k = n := by omega
        rw [ek] at hJ
        refine zr_go (t := (94, [some (.ref 0), some (.int 0), none], [], (zw_M g (vp_updL gl 46 J) a al))) 2 rfl ?_
        refine zr_loop (fun zq : Nat × Int64 => (94, [some (.ref 0), some (.int (nI zq.1)), none], [], (zw_M g (vp_updL gl 46 zq.2) a al))) (fun zq => zq.1 ≤ 9 ∧ zq.2 = zh_f (zh_f (zh_lists nn ff (if 0 < P then zh_form P N c nn ff 1499 else 1499) 2) (fun z1 => (nI (cd z1)).toInt64) n) (fun z2 => (aw_count P N c nn (g 4) (g 3) (g 36) (g 37) (nI z2)).toInt64) zq.1) (fun zq => 9 - zq.1) ?_ (0, J) ⟨by omega, hJ⟩
        rintro ⟨k, L⟩ ⟨hk3, hL⟩ ih3
        try dsimp only at *
        refine zr_go (t := (97, [some (.ref 0), some (.int (nI k)), none], [.int 9, .int (nI k)], (zw_M g (vp_updL gl 46 L) a al))) 2 rfl ?_
        refine zr_ige (x := nI k) (y := 9) k 9 rfl rfl (by omega) (by omega) (t := (116, [some (.ref 0), some (.int (nI k)), none], [], (zw_M g (vp_updL gl 46 L) a al))) (f := (100, [some (.ref 0), some (.int (nI k)), none], [], (zw_M g (vp_updL gl 46 L) a al))) rfl (fun h4 => ?_) (fun h4 => ?_)
        · skip
          have ek : k = 9 := by omega
          rw [ek] at hL
          refine zr_go (t := (120, [some (.ref 0), some (.int (nI k)), none], [.long L], (zw_M g (vp_updL gl 46 L) a al))) 2 rfl ?_
          exact zr_ret rfl trivial ⟨by unfold aw_digest; rw [hL], L, a 9, a 15, rfl⟩
        · skip
          refine zr_go (t := (103, [some (.ref 0), some (.int (nI k)), none], [.int (nI k), .ref 0, .ref 0], (zw_M g (vp_updL gl 46 L) a al))) 3 rfl ?_
          refine zr_call (t := (106, [some (.ref 0), some (.int (nI k)), none], [.ref 0], (zw_M g (vp_updL gl 46 L) a al))) rfl (Nat.le_of_ble_eq_true rfl : 3 ≤ 8) (zs_M_howMany g (vp_updL gl 46 L) a al hG P N c hS nn ff hl (nI k)) ?_
          rintro _ _ ⟨rfl, rfl⟩
          show zm_Run zt_get 8 zt_M_digest (106, [some (.ref 0), some (.int (nI k)), none], [.int (aw_count P N c nn (g 4) (g 3) (g 36) (g 37) (nI k)), .ref 0], (zw_M g (vp_updL gl 46 L) a al)) _
          refine zr_go (t := (107, [some (.ref 0), some (.int (nI k)), none], [.long ((aw_count P N c nn (g 4) (g 3) (g 36) (g 37) (nI k)).toInt64), .ref 0], (zw_M g (vp_updL gl 46 L) a al))) 1 rfl ?_
          refine zr_call (t := (110, [some (.ref 0), some (.int (nI k)), none], [], (zw_M g (vp_updL gl 46 L) a al))) rfl (Nat.le_of_ble_eq_true rfl : 1 ≤ 8) (zs_M_mixIn g gl a al L ((aw_count P N c nn (g 4) (g 3) (g 36) (g 37) (nI k)).toInt64)) ?_
          rintro _ _ ⟨rfl, rfl⟩
          show zm_Run zt_get 8 zt_M_digest (110, [some (.ref 0), some (.int (nI k)), none], [], (zw_M g (vp_updL gl 46 (31 * L + ((aw_count P N c nn (g 4) (g 3) (g 36) (g 37) (nI k)).toInt64))) a al)) _
          refine zr_go (t := (94, [some (.ref 0), some (.int ((nI k) + 1)), none], [], (zw_M g (vp_updL gl 46 (31 * L + ((aw_count P N c nn (g 4) (g 3) (g 36) (g 37) (nI k)).toInt64))) a al))) 2 rfl ?_
          rw [show (nI k) + 1 = nI (k + 1) from (zn_add rfl rfl)]
          exact ih3 (k + 1, 31 * L + ((aw_count P N c nn (g 4) (g 3) (g 36) (g 37) (nI k)).toInt64)) ⟨by omega, by rw [hL]; rfl⟩ (by omega)
      · skip
        refine zr_go (t := (81, [some (.ref 0), some (.int (nI k)), none], [.int (nI k), .ref 2, .ref 0], (zw_M g (vp_updL gl 46 J) a al))) 4 rfl ?_
        refine zr_cd (t := (82, [some (.ref 0), some (.int (nI k)), none], [.int ((a 2) (nI k).toNatClampNeg), .ref 0], (zw_M g (vp_updL gl 46 J) a al))) rfl (pk_in k 28 (by omega) rfl (by omega)) ?_
        rw [pk_cl (x := (nI k)) k rfl (by omega)]
        rw [show (a 2) k = nI (cd k) from hcd k (by omega)]
        refine zr_go (t := (83, [some (.ref 0), some (.int (nI k)), none], [.long ((nI (cd k)).toInt64), .ref 0], (zw_M g (vp_updL gl 46 J) a al))) 1 rfl ?_
        refine zr_call (t := (86, [some (.ref 0), some (.int (nI k)), none], [], (zw_M g (vp_updL gl 46 J) a al))) rfl (Nat.le_of_ble_eq_true rfl : 1 ≤ 8) (zs_M_mixIn g gl a al J ((nI (cd k)).toInt64)) ?_
        rintro _ _ ⟨rfl, rfl⟩
        show zm_Run zt_get 8 zt_M_digest (86, [some (.ref 0), some (.int (nI k)), none], [], (zw_M g (vp_updL gl 46 (31 * J + ((nI (cd k)).toInt64))) a al)) _
        refine zr_go (t := (67, [some (.ref 0), some (.int ((nI k) + 1)), none], [], (zw_M g (vp_updL gl 46 (31 * J + ((nI (cd k)).toInt64))) a al))) 2 rfl ?_
        rw [show (nI k) + 1 = nI (k + 1) from (zn_add rfl rfl)]
        exact ih2 (k + 1, 31 * J + ((nI (cd k)).toInt64)) ⟨by omega, by rw [hJ]; rfl⟩ (by omega)
    · skip
      obtain ⟨hl1, hl2, hl3⟩ := hl q h2
      refine zr_go (t := (27, [some (.ref 0), some (.int (nI q)), some (.int 0)], [], (zw_M g (vp_updL gl 46 H) a al))) 2 rfl ?_
      refine zr_loop (fun zq : Nat × Int64 => (27, [some (.ref 0), some (.int (nI q)), some (.int (nI zq.1))], [], (zw_M g (vp_updL gl 46 zq.2) a al))) (fun zq => zq.1 ≤ nn q ∧ zq.2 = zh_f (zh_lists nn ff (if 0 < P then zh_form P N c nn ff 1499 else 1499) q) (fun t => (nI (ff q t)).toInt64) zq.1) (fun zq => nn q - zq.1) ?_ (0, H) ⟨by omega, hH⟩
      rintro ⟨k, U⟩ ⟨hk, hU⟩ ih4
      try dsimp only at *
      refine zr_go (t := (33, [some (.ref 0), some (.int (nI q)), some (.int (nI k))], [.int (nI q), .ref 16, .int (nI k)], (zw_M g (vp_updL gl 46 U) a al))) 4 rfl ?_
      refine zr_cd (t := (34, [some (.ref 0), some (.int (nI q)), some (.int (nI k))], [.int ((a 16) (nI q).toNatClampNeg), .int (nI k)], (zw_M g (vp_updL gl 46 U) a al))) rfl (pk_in q 2 (by omega) rfl (by omega)) ?_
      rw [pk_cl (x := (nI q)) q rfl (by omega)]
      rw [show (a 16) q = nI (nn q) from hl1]
      refine zr_ige (x := nI k) (y := nI (nn q)) k (nn q) rfl rfl (by omega) (by omega) (t := (59, [some (.ref 0), some (.int (nI q)), some (.int (nI k))], [], (zw_M g (vp_updL gl 46 U) a al))) (f := (37, [some (.ref 0), some (.int (nI q)), some (.int (nI k))], [], (zw_M g (vp_updL gl 46 U) a al))) rfl (fun h3 => ?_) (fun h3 => ?_)
      · skip
        have ek : k = nn q := by omega
        refine zr_go (t := (20, [some (.ref 0), some (.int ((nI q) + 1)), some (.int (nI k))], [], (zw_M g (vp_updL gl 46 U) a al))) 2 rfl ?_
        rw [show (nI q) + 1 = nI (q + 1) from (zn_add rfl rfl)]
        refine zr_forget [some (.ref 0), some (.int (nI (q + 1))), none] ⟨Or.inr rfl, Or.inr rfl, Or.inl rfl, trivial⟩ ?_
        exact ih (q + 1, U) ⟨by omega, by rw [hU, ek]; rfl⟩ (by omega)
      · skip
        refine zr_go (t := (48, [some (.ref 0), some (.int (nI q)), some (.int (nI k))], [.int ((64 * (nI q)) + (nI k)), .ref 17, .ref 0], (zw_M g (vp_updL gl 46 U) a al))) 8 rfl ?_
        refine zr_cd (t := (49, [some (.ref 0), some (.int (nI q)), some (.int (nI k))], [.int ((a 17) ((64 * (nI q)) + (nI k)).toNatClampNeg), .ref 0], (zw_M g (vp_updL gl 46 U) a al))) rfl (pk_in ((64 * q) + k) 128 (by omega) (zn_add (zn_mul rfl rfl) rfl) (by omega)) ?_
        rw [pk_cl (x := ((64 * (nI q)) + (nI k))) ((64 * q) + k) (zn_add (zn_mul rfl rfl) rfl) (by omega)]
        rw [show (a 17) ((64 * q) + k) = nI (ff q k) from hl3 k (by omega)]
        refine zr_go (t := (50, [some (.ref 0), some (.int (nI q)), some (.int (nI k))], [.long ((nI (ff q k)).toInt64), .ref 0], (zw_M g (vp_updL gl 46 U) a al))) 1 rfl ?_
        refine zr_call (t := (53, [some (.ref 0), some (.int (nI q)), some (.int (nI k))], [], (zw_M g (vp_updL gl 46 U) a al))) rfl (Nat.le_of_ble_eq_true rfl : 1 ≤ 8) (zs_M_mixIn g gl a al U ((nI (ff q k)).toInt64)) ?_
        rintro _ _ ⟨rfl, rfl⟩
        show zm_Run zt_get 8 zt_M_digest (53, [some (.ref 0), some (.int (nI q)), some (.int (nI k))], [], (zw_M g (vp_updL gl 46 (31 * U + ((nI (ff q k)).toInt64))) a al)) _
        refine zr_go (t := (27, [some (.ref 0), some (.int (nI q)), some (.int ((nI k) + 1))], [], (zw_M g (vp_updL gl 46 (31 * U + ((nI (ff q k)).toInt64))) a al))) 2 rfl ?_
        rw [show (nI k) + 1 = nI (k + 1) from (zn_add rfl rfl)]
        exact ih4 (k + 1, 31 * U + ((nI (ff q k)).toInt64)) ⟨by omega, by rw [hU]; rfl⟩ (by omega)
  · skip
    have hp0 := of_decide_eq_true (zb_1 h1)
    obtain ⟨hf, enp⟩ := hS.form hp0
    refine zr_go (t := (15, [some (.ref 0), none, none], [.ref 0], (zw_M g (vp_updL gl 46 1499) a al))) 1 rfl ?_
    refine zr_call (t := (18, [some (.ref 0), none, none], [], (zw_M g (vp_updL gl 46 1499) a al))) rfl (Nat.le_of_ble_eq_true rfl : 8 ≤ 8) (zs_M_mixForm g gl a al hG P N c hf nn ff hl (fun z => he (by unfold zw_sound; rw [decide_eq_true hp0, decide_eq_true z]; rfl)) 1499) ?_
    rintro _ _ ⟨rfl, f9, f15, rfl⟩
    show zm_Run zt_get 8 zt_M_digest (18, [some (.ref 0), none, none], [], (zw_M g (vp_updL gl 46 (zh_form P N c nn ff 1499)) (va_up (va_up a 9 f9) 15 f15) al)) _
    refine zr_go (t := (20, [some (.ref 0), some (.int 0), none], [], (zw_M g (vp_updL gl 46 (zh_form P N c nn ff 1499)) (va_up (va_up a 9 f9) 15 f15) al))) 2 rfl ?_
    refine zr_loop (fun zq : Nat × Int64 => (20, [some (.ref 0), some (.int (nI zq.1)), none], [], (zw_M g (vp_updL gl 46 zq.2) (va_up (va_up a 9 f9) 15 f15) al))) (fun zq => zq.1 ≤ 2 ∧ zq.2 = zh_lists nn ff (if 0 < P then zh_form P N c nn ff 1499 else 1499) zq.1) (fun zq => 2 - zq.1) ?_ (0, zh_form P N c nn ff 1499) ⟨by omega, by rw [if_pos hp0]; rfl⟩
    rintro ⟨q, H⟩ ⟨hq, hH⟩ ih
    try dsimp only at *
    refine zr_go (t := (22, [some (.ref 0), some (.int (nI q)), none], [.int 2, .int (nI q)], (zw_M g (vp_updL gl 46 H) (va_up (va_up a 9 f9) 15 f15) al))) 2 rfl ?_
    refine zr_ige (x := nI q) (y := 2) q 2 rfl rfl (by omega) (by omega) (t := (65, [some (.ref 0), some (.int (nI q)), none], [], (zw_M g (vp_updL gl 46 H) (va_up (va_up a 9 f9) 15 f15) al))) (f := (25, [some (.ref 0), some (.int (nI q)), none], [], (zw_M g (vp_updL gl 46 H) (va_up (va_up a 9 f9) 15 f15) al))) rfl (fun h2 => ?_) (fun h2 => ?_)
    · skip
      have eq : q = 2 := by omega
      subst eq
      refine zr_go (t := (67, [some (.ref 0), some (.int 0), none], [], (zw_M g (vp_updL gl 46 H) (va_up (va_up a 9 f9) 15 f15) al))) 2 rfl ?_
      refine zr_loop (fun zq : Nat × Int64 => (67, [some (.ref 0), some (.int (nI zq.1)), none], [], (zw_M g (vp_updL gl 46 zq.2) (va_up (va_up a 9 f9) 15 f15) al))) (fun zq => zq.1 ≤ n ∧ zq.2 = zh_f (zh_lists nn ff (if 0 < P then zh_form P N c nn ff 1499 else 1499) 2) (fun t => (nI (cd t)).toInt64) zq.1) (fun zq => n - zq.1) ?_ (0, H) ⟨by omega, hH⟩
      rintro ⟨k, J⟩ ⟨hk, hJ⟩ ih2
      try dsimp only at *
      refine zr_go (t := (72, [some (.ref 0), some (.int (nI k)), none], [.int (g 4), .int (nI k)], (zw_M g (vp_updL gl 46 J) (va_up (va_up a 9 f9) 15 f15) al))) 3 rfl ?_
      refine zr_ige (x := nI k) (y := g 4) k n rfl hp.1 (by omega) (by omega) (t := (92, [some (.ref 0), some (.int (nI k)), none], [], (zw_M g (vp_updL gl 46 J) (va_up (va_up a 9 f9) 15 f15) al))) (f := (75, [some (.ref 0), some (.int (nI k)), none], [], (zw_M g (vp_updL gl 46 J) (va_up (va_up a 9 f9) 15 f15) al))) rfl (fun h3 => ?_) (fun h3 => ?_)
      · skip
        have ek : k = n := by omega
        rw [ek] at hJ
        refine zr_go (t := (94, [some (.ref 0), some (.int 0), none], [], (zw_M g (vp_updL gl 46 J) (va_up (va_up a 9 f9) 15 f15) al))) 2 rfl ?_
        refine zr_loop (fun zq : Nat × Int64 => (94, [some (.ref 0), some (.int (nI zq.1)), none], [], (zw_M g (vp_updL gl 46 zq.2) (va_up (va_up a 9 f9) 15 f15) al))) (fun zq => zq.1 ≤ 9 ∧ zq.2 = zh_f (zh_f (zh_lists nn ff (if 0 < P then zh_form P N c nn ff 1499 else 1499) 2) (fun z1 => (nI (cd z1)).toInt64) n) (fun z2 => (aw_count P N c nn (g 4) (g 3) (g 36) (g 37) (nI z2)).toInt64) zq.1) (fun zq => 9 - zq.1) ?_ (0, J) ⟨by omega, hJ⟩
        rintro ⟨k, L⟩ ⟨hk3, hL⟩ ih3
        try dsimp only at *
        refine zr_go (t := (97, [some (.ref 0), some (.int (nI k)), none], [.int 9, .int (nI k)], (zw_M g (vp_updL gl 46 L) (va_up (va_up a 9 f9) 15 f15) al))) 2 rfl ?_
        refine zr_ige (x := nI k) (y := 9) k 9 rfl rfl (by omega) (by omega) (t := (116, [some (.ref 0), some (.int (nI k)), none], [], (zw_M g (vp_updL gl 46 L) (va_up (va_up a 9 f9) 15 f15) al))) (f := (100, [some (.ref 0), some (.int (nI k)), none], [], (zw_M g (vp_updL gl 46 L) (va_up (va_up a 9 f9) 15 f15) al))) rfl (fun h4 => ?_) (fun h4 => ?_)
        · skip
          have ek : k = 9 := by omega
          rw [ek] at hL
          refine zr_go (t := (120, [some (.ref 0), some (.int (nI k)), none], [.long L], (zw_M g (vp_updL gl 46 L) (va_up (va_up a 9 f9) 15 f15) al))) 2 rfl ?_
          exact zr_ret rfl trivial ⟨by unfold aw_digest; rw [hL], L, f9, f15, rfl⟩
        · skip
          refine zr_go (t := (103, [some (.ref 0), some (.int (nI k)), none], [.int (nI k), .ref 0, .ref 0], (zw_M g (vp_updL gl 46 L) (va_up (va_up a 9 f9) 15 f15) al))) 3 rfl ?_
          refine zr_call (t := (106, [some (.ref 0), some (.int (nI k)), none], [.ref 0], (zw_M g (vp_updL gl 46 L) (va_up (va_up a 9 f9) 15 f15) al))) rfl (Nat.le_of_ble_eq_true rfl : 3 ≤ 8) (zs_M_howMany g (vp_updL gl 46 L) (va_up (va_up a 9 f9) 15 f15) al hG P N c hS nn ff hl (nI k)) ?_
          rintro _ _ ⟨rfl, rfl⟩
          show zm_Run zt_get 8 zt_M_digest (106, [some (.ref 0), some (.int (nI k)), none], [.int (aw_count P N c nn (g 4) (g 3) (g 36) (g 37) (nI k)), .ref 0], (zw_M g (vp_updL gl 46 L) (va_up (va_up a 9 f9) 15 f15) al)) _
          refine zr_go (t := (107, [some (.ref 0), some (.int (nI k)), none], [.long ((aw_count P N c nn (g 4) (g 3) (g 36) (g 37) (nI k)).toInt64), .ref 0], (zw_M g (vp_updL gl 46 L) (va_up (va_up a 9 f9) 15 f15) al))) 1 rfl ?_
          refine zr_call (t := (110, [some (.ref 0), some (.int (nI k)), none], [], (zw_M g (vp_updL gl 46 L) (va_up (va_up a 9 f9) 15 f15) al))) rfl (Nat.le_of_ble_eq_true rfl : 1 ≤ 8) (zs_M_mixIn g gl (va_up (va_up a 9 f9) 15 f15) al L ((aw_count P N c nn (g 4) (g 3) (g 36) (g 37) (nI k)).toInt64)) ?_
          rintro _ _ ⟨rfl, rfl⟩
          show zm_Run zt_get 8 zt_M_digest (110, [some (.ref 0), some (.int (nI k)), none], [], (zw_M g (vp_updL gl 46 (31 * L + ((aw_count P N c nn (g 4) (g 3) (g 36) (g 37) (nI k)).toInt64))) (va_up (va_up a 9 f9) 15 f15) al)) _
          refine zr_go (t := (94, [some (.ref 0), some (.int ((nI k) + 1)), none], [], (zw_M g (vp_updL gl 46 (31 * L + ((aw_count P N c nn (g 4) (g 3) (g 36) (g 37) (nI k)).toInt64))) (va_up (va_up a 9 f9) 15 f15) al))) 2 rfl ?_
          rw [show (nI k) + 1 = nI (k + 1) from (zn_add rfl rfl)]
          exact ih3 (k + 1, 31 * L + ((aw_count P N c nn (g 4) (g 3) (g 36) (g 37) (nI k)).toInt64)) ⟨by omega, by rw [hL]; rfl⟩ (by omega)
      · skip
        refine zr_go (t := (81, [some (.ref 0), some (.int (nI k)), none], [.int (nI k), .ref 2, .ref 0], (zw_M g (vp_updL gl 46 J) (va_up (va_up a 9 f9) 15 f15) al))) 4 rfl ?_
        refine zr_cd (t := (82, [some (.ref 0), some (.int (nI k)), none], [.int ((a 2) (nI k).toNatClampNeg), .ref 0], (zw_M g (vp_updL gl 46 J) (va_up (va_up a 9 f9) 15 f15) al))) rfl (pk_in k 28 (by omega) rfl (by omega)) ?_
        rw [pk_cl (x := (nI k)) k rfl (by omega)]
        rw [show (a 2) k = nI (cd k) from hcd k (by omega)]
        refine zr_go (t := (83, [some (.ref 0), some (.int (nI k)), none], [.long ((nI (cd k)).toInt64), .ref 0], (zw_M g (vp_updL gl 46 J) (va_up (va_up a 9 f9) 15 f15) al))) 1 rfl ?_
        refine zr_call (t := (86, [some (.ref 0), some (.int (nI k)), none], [], (zw_M g (vp_updL gl 46 J) (va_up (va_up a 9 f9) 15 f15) al))) rfl (Nat.le_of_ble_eq_true rfl : 1 ≤ 8) (zs_M_mixIn g gl (va_up (va_up a 9 f9) 15 f15) al J ((nI (cd k)).toInt64)) ?_
        rintro _ _ ⟨rfl, rfl⟩
        show zm_Run zt_get 8 zt_M_digest (86, [some (.ref 0), some (.int (nI k)), none], [], (zw_M g (vp_updL gl 46 (31 * J + ((nI (cd k)).toInt64))) (va_up (va_up a 9 f9) 15 f15) al)) _
        refine zr_go (t := (67, [some (.ref 0), some (.int ((nI k) + 1)), none], [], (zw_M g (vp_updL gl 46 (31 * J + ((nI (cd k)).toInt64))) (va_up (va_up a 9 f9) 15 f15) al))) 2 rfl ?_
        rw [show (nI k) + 1 = nI (k + 1) from (zn_add rfl rfl)]
        exact ih2 (k + 1, 31 * J + ((nI (cd k)).toInt64)) ⟨by omega, by rw [hJ]; rfl⟩ (by omega)
    · skip
      obtain ⟨hl1, hl2, hl3⟩ := hl q h2
      refine zr_go (t := (27, [some (.ref 0), some (.int (nI q)), some (.int 0)], [], (zw_M g (vp_updL gl 46 H) (va_up (va_up a 9 f9) 15 f15) al))) 2 rfl ?_
      refine zr_loop (fun zq : Nat × Int64 => (27, [some (.ref 0), some (.int (nI q)), some (.int (nI zq.1))], [], (zw_M g (vp_updL gl 46 zq.2) (va_up (va_up a 9 f9) 15 f15) al))) (fun zq => zq.1 ≤ nn q ∧ zq.2 = zh_f (zh_lists nn ff (if 0 < P then zh_form P N c nn ff 1499 else 1499) q) (fun t => (nI (ff q t)).toInt64) zq.1) (fun zq => nn q - zq.1) ?_ (0, H) ⟨by omega, hH⟩
      rintro ⟨k, U⟩ ⟨hk, hU⟩ ih4
      try dsimp only at *
      refine zr_go (t := (33, [some (.ref 0), some (.int (nI q)), some (.int (nI k))], [.int (nI q), .ref 16, .int (nI k)], (zw_M g (vp_updL gl 46 U) (va_up (va_up a 9 f9) 15 f15) al))) 4 rfl ?_
      refine zr_cd (t := (34, [some (.ref 0), some (.int (nI q)), some (.int (nI k))], [.int ((a 16) (nI q).toNatClampNeg), .int (nI k)], (zw_M g (vp_updL gl 46 U) (va_up (va_up a 9 f9) 15 f15) al))) rfl (pk_in q 2 (by omega) rfl (by omega)) ?_
      rw [pk_cl (x := (nI q)) q rfl (by omega)]
      rw [show (a 16) q = nI (nn q) from hl1]
      refine zr_ige (x := nI k) (y := nI (nn q)) k (nn q) rfl rfl (by omega) (by omega) (t := (59, [some (.ref 0), some (.int (nI q)), some (.int (nI k))], [], (zw_M g (vp_updL gl 46 U) (va_up (va_up a 9 f9) 15 f15) al))) (f := (37, [some (.ref 0), some (.int (nI q)), some (.int (nI k))], [], (zw_M g (vp_updL gl 46 U) (va_up (va_up a 9 f9) 15 f15) al))) rfl (fun h3 => ?_) (fun h3 => ?_)
      · skip
        have ek : k = nn q := by omega
        refine zr_go (t := (20, [some (.ref 0), some (.int ((nI q) + 1)), some (.int (nI k))], [], (zw_M g (vp_updL gl 46 U) (va_up (va_up a 9 f9) 15 f15) al))) 2 rfl ?_
        rw [show (nI q) + 1 = nI (q + 1) from (zn_add rfl rfl)]
        refine zr_forget [some (.ref 0), some (.int (nI (q + 1))), none] ⟨Or.inr rfl, Or.inr rfl, Or.inl rfl, trivial⟩ ?_
        exact ih (q + 1, U) ⟨by omega, by rw [hU, ek]; rfl⟩ (by omega)
      · skip
        refine zr_go (t := (48, [some (.ref 0), some (.int (nI q)), some (.int (nI k))], [.int ((64 * (nI q)) + (nI k)), .ref 17, .ref 0], (zw_M g (vp_updL gl 46 U) (va_up (va_up a 9 f9) 15 f15) al))) 8 rfl ?_
        refine zr_cd (t := (49, [some (.ref 0), some (.int (nI q)), some (.int (nI k))], [.int ((a 17) ((64 * (nI q)) + (nI k)).toNatClampNeg), .ref 0], (zw_M g (vp_updL gl 46 U) (va_up (va_up a 9 f9) 15 f15) al))) rfl (pk_in ((64 * q) + k) 128 (by omega) (zn_add (zn_mul rfl rfl) rfl) (by omega)) ?_
        rw [pk_cl (x := ((64 * (nI q)) + (nI k))) ((64 * q) + k) (zn_add (zn_mul rfl rfl) rfl) (by omega)]
        rw [show (a 17) ((64 * q) + k) = nI (ff q k) from hl3 k (by omega)]
        refine zr_go (t := (50, [some (.ref 0), some (.int (nI q)), some (.int (nI k))], [.long ((nI (ff q k)).toInt64), .ref 0], (zw_M g (vp_updL gl 46 U) (va_up (va_up a 9 f9) 15 f15) al))) 1 rfl ?_
        refine zr_call (t := (53, [some (.ref 0), some (.int (nI q)), some (.int (nI k))], [], (zw_M g (vp_updL gl 46 U) (va_up (va_up a 9 f9) 15 f15) al))) rfl (Nat.le_of_ble_eq_true rfl : 1 ≤ 8) (zs_M_mixIn g gl (va_up (va_up a 9 f9) 15 f15) al U ((nI (ff q k)).toInt64)) ?_
        rintro _ _ ⟨rfl, rfl⟩
        show zm_Run zt_get 8 zt_M_digest (53, [some (.ref 0), some (.int (nI q)), some (.int (nI k))], [], (zw_M g (vp_updL gl 46 (31 * U + ((nI (ff q k)).toInt64))) (va_up (va_up a 9 f9) 15 f15) al)) _
        refine zr_go (t := (27, [some (.ref 0), some (.int (nI q)), some (.int ((nI k) + 1))], [], (zw_M g (vp_updL gl 46 (31 * U + ((nI (ff q k)).toInt64))) (va_up (va_up a 9 f9) 15 f15) al))) 2 rfl ?_
        rw [show (nI k) + 1 = nI (k + 1) from (zn_add rfl rfl)]
        exact ih4 (k + 1, 31 * U + ((nI (ff q k)).toInt64)) ⟨by omega, by rw [hU]; rfl⟩ (by omega)
