/-! the class: the sides filled (written by wip/whole/gen_c11.py) -/
/-- flats of a degree: how many, which points; the degree, the number and the points of maximal flats; the flats of a point; what clashes -/
def zf_tot (L : Nat → Int64) (n d : Nat) : Nat := if d = 1 then n else if d = 2 then zf_nl L n else zf_np L n
def zf_mk (L : Nat → Int64) (n d k : Nat) : Int64 := if d = 1 then zf_b k else if d = 2 then zf_lm L n k else zf_pm L n k
def zj_d (P N : Nat) (c : Nat → Nat) : Nat := zz_ix P N (zw_on P N c) (zv_np P N)
def zj_gm (P N : Nat) (c : Nat → Nat) : Nat := zf_tot (zf_L P N c) (zw_on P N c) (zj_d P N c)
def zj_m (P N : Nat) (c : Nat → Nat) (k : Nat) : Int64 := zf_mk (zf_L P N c) (zw_on P N c) (zj_d P N c) k
def zj_p (P N : Nat) (c : Nat → Nat) (r : Nat) : Int64 := zL (fun k => lb (zj_m P N c k) r) (zj_gm P N c)
def zj_kp (P N : Nat) (c : Nat → Nat) (r : Nat) : Int64 := zg_cl (zj_p P N c) (zj_m P N c) r (zj_gm P N c)
def zj_km (P N : Nat) (c : Nat → Nat) (k : Nat) : Int64 := zg_cl (zj_m P N c) (zj_p P N c) k (zw_on P N c)
def zj_ns (P N : Nat) (c : Nat → Nat) : Nat := zC (zz_sg P N c) (zv_np P N)
/-- what the geometry owes the class -/
def zJ : Prop := ∀ (P N : Nat) (c : Nat → Nat), zv_ok P N → zj_ns P N c = 0 → zw_on P N c ≤ 45 ∧ zf_nl (zf_L P N c) (zw_on P N c) ≤ 105 ∧ zf_np (zf_L P N c) (zw_on P N c) ≤ 30 ∧ zj_gm P N c ≤ 45
/-- the flats stand; the sides stand -/
def zK_t (g : Nat → Int32) (al : Nat → Nat → Int64) (P N : Nat) (c : Nat → Nat) : Prop := g 20 = nI (zw_on P N c) ∧ g 21 = nI (zf_nl (zf_L P N c) (zw_on P N c)) ∧ g 22 = nI (zf_np (zf_L P N c) (zw_on P N c)) ∧ (∀ k, k < zw_on P N c → al 21 k = zf_L P N c k) ∧ (∀ k, k < zf_nl (zf_L P N c) (zw_on P N c) → al 22 k = zf_lm (zf_L P N c) (zw_on P N c) k) ∧ ∀ k, k < zf_np (zf_L P N c) (zw_on P N c) → al 23 k = zf_pm (zf_L P N c) (zw_on P N c) k
def zK_s (g : Nat → Int32) (al : Nat → Nat → Int64) (P N : Nat) (c : Nat → Nat) : Prop := g 23 = nI (zw_on P N c) ∧ g 25 = nI (zj_gm P N c) ∧ (∀ k, k < zw_on P N c → al 24 k = zj_p P N c k) ∧ (∀ k, k < zw_on P N c → al 25 k = zj_kp P N c k) ∧ (∀ k, k < zj_gm P N c → al 27 k = zj_m P N c k) ∧ ∀ k, k < zj_gm P N c → al 28 k = zj_km P N c k
theorem zn_if3 (d a b e : Nat) : (if d = 1 then nI a else if d = 2 then nI b else nI e) = nI (if d = 1 then a else if d = 2 then b else e) := by
  by_cases h : d = 1
  · rw [if_pos h, if_pos h]
  · rw [if_neg h, if_neg h]
    by_cases h2 : d = 2
    · rw [if_pos h2, if_pos h2]
    · rw [if_neg h2, if_neg h2]
theorem zL_y {h : Nat → Bool} {n : Nat} (q : h n = true) : zL h (n + 1) = zL h n ||| zf_b n := by
  show zL h n ||| (if h n = true then _ else _) = _
  rw [if_pos q]; rfl
theorem zL_n {h : Nat → Bool} {n : Nat} (q : h n = false) : zL h (n + 1) = zL h n := by
  show zL h n ||| (if h n = true then _ else _) = _
  rw [if_neg (by rw [q]; decide)]
  exact lb_ext (fun k _ => by rw [lb_or, lb_0, Bool.or_false])
theorem zj_d13 {P N : Nat} {c : Nat → Nat} (h : zv_ok P N) : 1 ≤ zj_d P N c ∧ zj_d P N c ≤ 3 := by
  have h1 := zv_okN h
  have h2 := h.2.1
  unfold zj_d zz_ix
  split
  · omega
  · next q =>
    have : N % 2 = 0 := by
      rcases Nat.mod_two_eq_zero_or_one N with e | e
      · exact e
      · exact absurd (Or.inl (by omega)) q
    omega
theorem zj_nums {P N : Nat} {c : Nat → Nat} (h : zv_ok P N) : zw_on P N c ≤ 156 ∧ zj_ns P N c ≤ 156 := by
  have h1 := (zv_nums h).2.1
  have h2 := zC_le (zw_oo P N c) (zv_np P N)
  have h3 := zC_le (zz_sg P N c) (zv_np P N)
  unfold zw_on zj_ns
  omega
theorem zs_C_kindJ (g : Nat → Int32) (gl : Nat → Int64) (a : Nat → Nat → Int32) (al : Nat → Nat → Int64) (P N : Nat) (hQ : zQ_P g a P N) (c : Nat → Nat) (hv : zQ_v g a P N c) : zm_Ev zt_get 2 41 [.ref 4] (zw_C g gl a al) (fun v w => v = some (.int (nI (zz_kd P N (zw_on P N c) (zj_ns P N c) (zv_np P N)))) ∧ w = zw_C g gl a al) := by
  obtain ⟨hok, hP, hN, hnp, hy⟩ := id hQ
  obtain ⟨h18, h19, -⟩ := id hv
  exact zs_C_kind g gl a al P N _ _ _ hP hN hnp h18 h19 (zv_P5 hok.1).2 (zv_okN hok) hok.2.1 (zv_nums hok).2.1 (zv_nums hok).2.2 (zj_nums hok).1 (zj_nums hok).2
theorem zs_C_indexJ (g : Nat → Int32) (gl : Nat → Int64) (a : Nat → Nat → Int32) (al : Nat → Nat → Int64) (P N : Nat) (hQ : zQ_P g a P N) (c : Nat → Nat) (hv : zQ_v g a P N c) (hns : zj_ns P N c = 0) : zm_Ev zt_get 2 42 [.ref 4] (zw_C g gl a al) (fun v w => v = some (.int (nI (zj_d P N c))) ∧ w = zw_C g gl a al) := by
  obtain ⟨hok, hP, hN, hnp, hy⟩ := id hQ
  obtain ⟨h18, h19, -⟩ := id hv
  have h := zs_C_index g gl a al P N _ _ _ hP hN hnp h18 (show g 19 = nI (zj_ns P N c) from h19) (zv_P5 hok.1).2 (zv_okN hok) hok.2.1 (zv_nums hok).2.1 (zv_nums hok).2.2 (zj_nums hok).1 (zj_nums hok).2
  rw [hns] at h
  exact h
theorem zs_C_fillSides (g : Nat → Int32) (gl : Nat → Int64) (a : Nat → Nat → Int32) (al : Nat → Nat → Int64) (P N : Nat) (hQ : zQ_P g a P N) (c : Nat → Nat) (hv : zQ_v g a P N c) (hns : zj_ns P N c = 0) (hJ : zJ) (ht : zK_t g al P N c) : zm_Ev zt_get 3 92 [.ref 0] (zw_C g gl a al) (fun v w => v = none ∧ ∃ x23 x25 F24 F25 F27 F28, w = (zw_C (upd (upd g 23 x23) 25 x25) gl a (va_up (va_up (va_up (va_up al 24 F24) 25 F25) 27 F27) 28 F28)) ∧ zK_s (upd (upd g 23 x23) 25 x25) (va_up (va_up (va_up (va_up al 24 F24) 25 F25) 27 F27) 28 F28) P N c) := by
  obtain ⟨h20, h21, h22, hL, hl, hp⟩ := ht
  obtain ⟨hn45, hnl105, hnp30, hgm⟩ := hJ P N c hQ.1 hns
  obtain ⟨hd1, hd3⟩ := zj_d13 (c := c) hQ.1
  have hix := zs_C_indexJ g gl a al P N hQ c hv hns
  unfold zK_s zj_kp zj_km zj_p zj_m zj_gm at *
  generalize zj_d P N c = d at *
  generalize zw_on P N c = n at *
  generalize zf_L P N c = L at *
  obtain ⟨nl, hnl⟩ : ∃ nl, nl = zf_nl L n := ⟨_, rfl⟩
  obtain ⟨np, hnp⟩ : ∃ np, np = zf_np L n := ⟨_, rfl⟩
  rw [← hnl] at h21 hl hnl105
  rw [← hnp] at h22 hp hnp30
  have htot : (if d = 1 then g 20 else if d = 2 then g 21 else g 22) = nI (zf_tot L n d) := by rw [h20, h21, h22, zn_if3, hnl, hnp]; rfl
  have hm1 : d = 2 → zf_tot L n d = nl := fun q => by unfold zf_tot; rw [if_neg (by omega), if_pos q, hnl]
  have hm2 : d = 3 → zf_tot L n d = np := fun q => by unfold zf_tot; rw [if_neg (by omega), if_neg (by omega), hnp]
  have hmk : ∀ k, k < zf_tot L n d → (if d = 1 then zf_b k else if d = 2 then al 22 k else al 23 k) = zf_mk L n d k := fun k hk => by
    unfold zf_mk
    by_cases q : d = 1
    · rw [if_pos q, if_pos q]
    · rw [if_neg q, if_neg q]
      by_cases q2 : d = 2
      · rw [if_pos q2, if_pos q2, hl k (by have := hm1 q2; omega)]
      · rw [if_neg q2, if_neg q2, hp k (by have := hm2 (by omega); omega)]
  generalize zf_tot L n d = m at *
  refine zr_ev zt_X_fillSides rfl rfl ?_
  show zm_Run zt_get 2 zt_X_fillSides (0, [some (.ref 0), none, none, none, none, none], [], (zw_C g gl a al)) _
  refine zr_go (t := (4, [some (.ref 0), none, none, none, none, none], [.ref 4], (zw_C g gl a al))) 2 rfl ?_
  refine zr_call (t := (7, [some (.ref 0), none, none, none, none, none], [], (zw_C g gl a al))) rfl (Nat.le_of_ble_eq_true rfl : 2 ≤ 2) hix ?_
  rintro _ _ ⟨rfl, rfl⟩
  show zm_Run zt_get 2 zt_X_fillSides (7, [some (.ref 0), none, none, none, none, none], [.int (nI d)], (zw_C g gl a al)) _
  refine zr_go (t := (27, [some (.ref 0), some (.int (nI d)), none, none, none, none], [], (zw_C (upd g 23 (if 64 < (g 20) then 64 else (g 20))) gl a al))) 9 rfl ?_
  rw [show (if (64 : Int32) < g 20 then (64 : Int32) else g 20) = nI n from (zn_min (a := n) (b := 64) h20 rfl (by omega) (by omega)).trans (congrArg nI (Nat.min_eq_left (by omega)))]
  refine zr_go (t := (36, [some (.ref 0), some (.int (nI d)), none, none, none, none], [.int (nI d), .ref 5, .ref 7], (zw_C (upd g 23 (nI n)) gl a al))) 5 rfl ?_
  refine zr_call (t := (39, [some (.ref 0), some (.int (nI d)), none, none, none, none], [.ref 7], (zw_C (upd g 23 (nI n)) gl a al))) rfl (Nat.le_of_ble_eq_true rfl : 1 ≤ 2) (zs_C_totalOf (upd g 23 (nI n)) gl a al d hd1 hd3) ?_
  rintro _ _ ⟨rfl, rfl⟩
  show zm_Run zt_get 2 zt_X_fillSides (39, [some (.ref 0), some (.int (nI d)), none, none, none, none], [.int (if d = 1 then g 20 else if d = 2 then g 21 else g 22), .ref 7], (zw_C (upd g 23 (nI n)) gl a al)) _
  rw [htot]
  refine zr_go (t := (47, [some (.ref 0), some (.int (nI d)), none, none, none, none], [], (zw_C (upd (upd g 23 (nI n)) 25 (if 64 < (nI m) then 64 else (nI m))) gl a al))) 3 rfl ?_
  rw [show (if (64 : Int32) < nI m then (64 : Int32) else nI m) = nI m from (zn_min (a := m) (b := 64) rfl rfl (by omega) (by omega)).trans (congrArg nI (Nat.min_eq_left (by omega)))]
  refine zr_go (t := (49, [some (.ref 0), some (.int (nI d)), some (.int 0), none, none, none], [], (zw_C (upd (upd g 23 (nI n)) 25 (nI m)) gl a al))) 2 rfl ?_
  refine zr_loop (fun zq : Nat × (Nat → Int64) => (49, [some (.ref 0), some (.int (nI d)), some (.int (nI zq.1)), none, none, none], [], (zw_C (upd (upd g 23 (nI n)) 25 (nI m)) gl a (va_up al 24 zq.2)))) (fun zq => zq.1 ≤ n ∧ ∀ k, k < zq.1 → zq.2 k = 0) (fun zq => n - zq.1) ?_ (0, al 24) ⟨by omega, fun k h => absurd h (Nat.not_lt_zero k)⟩
  rintro ⟨r, F⟩ ⟨hr, hF⟩ ih
  try dsimp only at *
  refine zr_go (t := (57, [some (.ref 0), some (.int (nI d)), some (.int (nI r)), none, none, none], [.int (nI n), .int (nI r)], (zw_C (upd (upd g 23 (nI n)) 25 (nI m)) gl a (va_up al 24 F)))) 4 rfl ?_
  refine zr_ige (x := nI r) (y := nI n) r n rfl rfl (by omega) (by omega) (t := (76, [some (.ref 0), some (.int (nI d)), some (.int (nI r)), none, none, none], [], (zw_C (upd (upd g 23 (nI n)) 25 (nI m)) gl a (va_up al 24 F)))) (f := (60, [some (.ref 0), some (.int (nI d)), some (.int (nI r)), none, none, none], [], (zw_C (upd (upd g 23 (nI n)) 25 (nI m)) gl a (va_up al 24 F)))) rfl (fun h1 => ?_) (fun h1 => ?_)
  · skip
    refine zr_go (t := (78, [some (.ref 0), some (.int (nI d)), some (.int 0), none, none, none], [], (zw_C (upd (upd g 23 (nI n)) 25 (nI m)) gl a (va_up al 24 F)))) 2 rfl ?_
    refine zr_loop (fun zq : Nat × (Nat → Int64) × (Nat → Int64) => (78, [some (.ref 0), some (.int (nI d)), some (.int (nI zq.1)), none, none, none], [], (zw_C (upd (upd g 23 (nI n)) 25 (nI m)) gl a (va_up (va_up al 24 zq.2.1) 27 zq.2.2)))) (fun zq => zq.1 ≤ m ∧ (∀ j, j < zq.1 → zq.2.2 j = zf_mk L n d j) ∧ ∀ s, s < n → zq.2.1 s = zL (fun j => lb (zf_mk L n d j) s) zq.1) (fun zq => m - zq.1) ?_ (0, F, al 27) ⟨by omega, fun j h => absurd h (Nat.not_lt_zero j), fun s hs => hF s (by omega)⟩
    rintro ⟨k, F2, G⟩ ⟨hk, hG, hF2⟩ ih2
    try dsimp only at *
    refine zr_go (t := (86, [some (.ref 0), some (.int (nI d)), some (.int (nI k)), none, none, none], [.int (nI m), .int (nI k)], (zw_C (upd (upd g 23 (nI n)) 25 (nI m)) gl a (va_up (va_up al 24 F2) 27 G)))) 4 rfl ?_
    refine zr_ige (x := nI k) (y := nI m) k m rfl rfl (by omega) (by omega) (t := (163, [some (.ref 0), some (.int (nI d)), some (.int (nI k)), none, none, none], [], (zw_C (upd (upd g 23 (nI n)) 25 (nI m)) gl a (va_up (va_up al 24 F2) 27 G)))) (f := (89, [some (.ref 0), some (.int (nI d)), some (.int (nI k)), none, none, none], [], (zw_C (upd (upd g 23 (nI n)) 25 (nI m)) gl a (va_up (va_up al 24 F2) 27 G)))) rfl (fun h2 => ?_) (fun h2 => ?_)
    · skip
      have ek : k = m := by omega
      subst ek
      refine zr_go (t := (171, [some (.ref 0), some (.int (nI d)), some (.int (nI k)), none, none, none], [.ref 7, .ref 6], (zw_C (upd (upd g 23 (nI n)) 25 (nI k)) gl a (va_up (va_up al 24 F2) 27 G)))) 4 rfl ?_
      refine zr_call (t := (174, [some (.ref 0), some (.int (nI d)), some (.int (nI k)), none, none, none], [], (zw_C (upd (upd g 23 (nI n)) 25 (nI k)) gl a (va_up (va_up al 24 F2) 27 G)))) rfl (Nat.le_of_ble_eq_true rfl : 1 ≤ 2) (zs_C_findClashes_6 (upd (upd g 23 (nI n)) 25 (nI k)) gl a (va_up (va_up al 24 F2) 27 G) n rfl (by omega) k rfl (by omega) (fun s => zL (fun j => lb (zf_mk L n d j) s) k) hF2 (fun j => zf_mk L n d j) hG) ?_
      rintro _ _ ⟨rfl, F25, rfl, hF25⟩
      show zm_Run zt_get 2 zt_X_fillSides (174, [some (.ref 0), some (.int (nI d)), some (.int (nI k)), none, none, none], [], (zw_C (upd (upd g 23 (nI n)) 25 (nI k)) gl a (va_up (va_up (va_up al 24 F2) 25 F25) 27 G))) _
      refine zr_go (t := (182, [some (.ref 0), some (.int (nI d)), some (.int (nI k)), none, none, none], [.ref 6, .ref 7], (zw_C (upd (upd g 23 (nI n)) 25 (nI k)) gl a (va_up (va_up (va_up al 24 F2) 25 F25) 27 G)))) 4 rfl ?_
      refine zr_call (t := (185, [some (.ref 0), some (.int (nI d)), some (.int (nI k)), none, none, none], [], (zw_C (upd (upd g 23 (nI n)) 25 (nI k)) gl a (va_up (va_up (va_up al 24 F2) 25 F25) 27 G)))) rfl (Nat.le_of_ble_eq_true rfl : 1 ≤ 2) (zs_C_findClashes_7 (upd (upd g 23 (nI n)) 25 (nI k)) gl a (va_up (va_up (va_up al 24 F2) 25 F25) 27 G) k rfl (by omega) n rfl (by omega) (fun j => zf_mk L n d j) hG (fun s => zL (fun j => lb (zf_mk L n d j) s) k) hF2) ?_
      rintro _ _ ⟨rfl, F28, rfl, hF28⟩
      show zm_Run zt_get 2 zt_X_fillSides (185, [some (.ref 0), some (.int (nI d)), some (.int (nI k)), none, none, none], [], (zw_C (upd (upd g 23 (nI n)) 25 (nI k)) gl a (va_up (va_up (va_up (va_up al 24 F2) 25 F25) 27 G) 28 F28))) _
      exact zr_ret rfl trivial ⟨rfl, _, _, F2, F25, G, F28, rfl, rfl, rfl, hF2, hF25, hG, hF28⟩
    · skip
      refine zr_go (t := (95, [some (.ref 0), some (.int (nI d)), some (.int (nI k)), none, none, none], [.int (nI k), .int (nI d), .ref 5], (zw_C (upd (upd g 23 (nI n)) 25 (nI m)) gl a (va_up (va_up al 24 F2) 27 G)))) 4 rfl ?_
      refine zr_call (t := (98, [some (.ref 0), some (.int (nI d)), some (.int (nI k)), none, none, none], [], (zw_C (upd (upd g 23 (nI n)) 25 (nI m)) gl a (va_up (va_up al 24 F2) 27 G)))) rfl (Nat.le_of_ble_eq_true rfl : 1 ≤ 2) (zs_C_maskOf (upd (upd g 23 (nI n)) 25 (nI m)) gl a (va_up (va_up al 24 F2) 27 G) d k hd1 hd3 (fun q => by have := hm1 q; omega) (fun q => by have := hm2 q; omega)) ?_
      rintro _ _ ⟨rfl, rfl⟩
      show zm_Run zt_get 2 zt_X_fillSides (98, [some (.ref 0), some (.int (nI d)), some (.int (nI k)), none, none, none], [.long (if d = 1 then zf_b k else if d = 2 then al 22 k else al 23 k)], (zw_C (upd (upd g 23 (nI n)) 25 (nI m)) gl a (va_up (va_up al 24 F2) 27 G))) _
      rw [hmk k h2]
      obtain ⟨M, hM⟩ : ∃ M, M = zf_mk L n d k := ⟨_, rfl⟩
      rw [← hM]
      refine zr_go (t := (108, [some (.ref 0), some (.int (nI d)), some (.int (nI k)), some (.long M), none, none], [.long M, .int (nI k), .ref 27], (zw_C (upd (upd g 23 (nI n)) 25 (nI m)) gl a (va_up (va_up al 24 F2) 27 G)))) 6 rfl ?_
      refine zr_cd (t := (109, [some (.ref 0), some (.int (nI d)), some (.int (nI k)), some (.long M), none, none], [], (zw_C (upd (upd g 23 (nI n)) 25 (nI m)) gl a (va_up (va_up al 24 F2) 27 (vp_updL G ((nI k).toNatClampNeg) M))))) rfl (pk_in k 64 (by omega) rfl (by omega)) ?_
      rw [pk_cl (x := (nI k)) k rfl (by omega)]
      refine zr_go (t := (112, [some (.ref 0), some (.int (nI d)), some (.int (nI k)), some (.long M), none, some (.int 0)], [], (zw_C (upd (upd g 23 (nI n)) 25 (nI m)) gl a (va_up (va_up al 24 F2) 27 (vp_updL G k M))))) 2 rfl ?_
      refine zr_loop (fun zq : Nat × (Nat → Int64) => (112, [some (.ref 0), some (.int (nI d)), some (.int (nI k)), some (.long M), none, some (.int (nI zq.1))], [], (zw_C (upd (upd g 23 (nI n)) 25 (nI m)) gl a (va_up (va_up al 24 zq.2) 27 (vp_updL G k M))))) (fun zq => zq.1 ≤ n ∧ (∀ s, s < zq.1 → zq.2 s = zL (fun j => lb (zf_mk L n d j) s) (k + 1)) ∧ ∀ s, zq.1 ≤ s → s < n → zq.2 s = zL (fun j => lb (zf_mk L n d j) s) k) (fun zq => n - zq.1) ?_ (0, F2) ⟨by omega, fun s h => absurd h (Nat.not_lt_zero s), fun s _ hs => hF2 s hs⟩
      rintro ⟨r2, H⟩ ⟨hr2, hH, hH2⟩ ih3
      try dsimp only at *
      refine zr_go (t := (121, [some (.ref 0), some (.int (nI d)), some (.int (nI k)), some (.long M), none, some (.int (nI r2))], [.int (nI n), .int (nI r2)], (zw_C (upd (upd g 23 (nI n)) 25 (nI m)) gl a (va_up (va_up al 24 H) 27 (vp_updL G k M))))) 4 rfl ?_
      refine zr_ige (x := nI r2) (y := nI n) r2 n rfl rfl (by omega) (by omega) (t := (157, [some (.ref 0), some (.int (nI d)), some (.int (nI k)), some (.long M), none, some (.int (nI r2))], [], (zw_C (upd (upd g 23 (nI n)) 25 (nI m)) gl a (va_up (va_up al 24 H) 27 (vp_updL G k M))))) (f := (124, [some (.ref 0), some (.int (nI d)), some (.int (nI k)), some (.long M), none, some (.int (nI r2))], [], (zw_C (upd (upd g 23 (nI n)) 25 (nI m)) gl a (va_up (va_up al 24 H) 27 (vp_updL G k M))))) rfl (fun h3 => ?_) (fun h3 => ?_)
      · skip
        refine zr_go (t := (78, [some (.ref 0), some (.int (nI d)), some (.int ((nI k) + 1)), some (.long M), none, some (.int (nI r2))], [], (zw_C (upd (upd g 23 (nI n)) 25 (nI m)) gl a (va_up (va_up al 24 H) 27 (vp_updL G k M))))) 2 rfl ?_
        rw [show (nI k) + 1 = nI (k + 1) from (zn_add rfl rfl)]
        refine zr_forget [some (.ref 0), some (.int (nI d)), some (.int (nI (k + 1))), none, none, none] ⟨Or.inr rfl, Or.inr rfl, Or.inr rfl, Or.inl rfl, Or.inr rfl, Or.inl rfl, trivial⟩ ?_
        exact ih2 (k + 1, H, (vp_updL G k M)) ⟨by omega, lt_s (fun j hj => (pk_uLn (by omega)).trans (hG j hj)) (pk_uLs.trans hM), fun s hs => hH s (by omega)⟩ (by omega)
      · skip
        have hHr := hH2 r2 (Nat.le_refl _) h3
        refine zr_go (t := (130, [some (.ref 0), some (.int (nI d)), some (.int (nI k)), some (.long M), none, some (.int (nI r2))], [.long (((M.toUInt64 >>> ((nI r2).toInt64.toUInt64 &&& Int64.toUInt64 63)).toInt64) &&& 1)], (zw_C (upd (upd g 23 (nI n)) 25 (nI m)) gl a (va_up (va_up al 24 H) 27 (vp_updL G k M))))) 5 rfl ?_
        rw [lb_ush (x := M) (k := r2) (by omega)]
        refine zr_go (t := (132, [some (.ref 0), some (.int (nI d)), some (.int (nI k)), some (.long M), none, some (.int (nI r2))], [.int (lg_cmp (nL (lb M r2).toNat) 0)], (zw_C (upd (upd g 23 (nI n)) 25 (nI m)) gl a (va_up (va_up al 24 H) 27 (vp_updL G k M))))) 2 rfl ?_
        refine zr_if (c := (lg_cmp (nL (lb M r2).toNat) 0) = 0) (t := (151, [some (.ref 0), some (.int (nI d)), some (.int (nI k)), some (.long M), none, some (.int (nI r2))], [], (zw_C (upd (upd g 23 (nI n)) 25 (nI m)) gl a (va_up (va_up al 24 H) 27 (vp_updL G k M))))) (f := (135, [some (.ref 0), some (.int (nI d)), some (.int (nI k)), some (.long M), none, some (.int (nI r2))], [], (zw_C (upd (upd g 23 (nI n)) 25 (nI m)) gl a (va_up (va_up al 24 H) 27 (vp_updL G k M))))) rfl (fun hbit => ?_) (fun hbit => ?_)
        · skip
          have hb := zb_c0 hbit
          refine zr_go (t := (112, [some (.ref 0), some (.int (nI d)), some (.int (nI k)), some (.long M), none, some (.int ((nI r2) + 1))], [], (zw_C (upd (upd g 23 (nI n)) 25 (nI m)) gl a (va_up (va_up al 24 H) 27 (vp_updL G k M))))) 2 rfl ?_
          rw [show (nI r2) + 1 = nI (r2 + 1) from (zn_add rfl rfl)]
          exact ih3 (r2 + 1, H) ⟨by omega, lt_s hH (hHr.trans (zL_n (h := fun j => lb (zf_mk L n d j) r2) (by rw [← hM]; exact hb)).symm), fun s h1 h2 => hH2 s (by omega) h2⟩ (by omega)
        · skip
          have hb := zb_c1 hbit
          refine zr_go (t := (145, [some (.ref 0), some (.int (nI d)), some (.int (nI k)), some (.long M), none, some (.int (nI r2))], [.int (nI r2), .ref 24, .int (nI r2), .ref 24], (zw_C (upd (upd g 23 (nI n)) 25 (nI m)) gl a (va_up (va_up al 24 H) 27 (vp_updL G k M))))) 5 rfl ?_
          refine zr_cd (t := (146, [some (.ref 0), some (.int (nI d)), some (.int (nI k)), some (.long M), none, some (.int (nI r2))], [.long (H (nI r2).toNatClampNeg), .int (nI r2), .ref 24], (zw_C (upd (upd g 23 (nI n)) 25 (nI m)) gl a (va_up (va_up al 24 H) 27 (vp_updL G k M))))) rfl (pk_in r2 64 (by omega) rfl (by omega)) ?_
          rw [pk_cl (x := (nI r2)) r2 rfl (by omega)]
          refine zr_go (t := (150, [some (.ref 0), some (.int (nI d)), some (.int (nI k)), some (.long M), none, some (.int (nI r2))], [.long ((H r2) ||| (1 <<< ((nI k).toInt64 &&& 63))), .int (nI r2), .ref 24], (zw_C (upd (upd g 23 (nI n)) 25 (nI m)) gl a (va_up (va_up al 24 H) 27 (vp_updL G k M))))) 4 rfl ?_
          refine zr_cd (t := (151, [some (.ref 0), some (.int (nI d)), some (.int (nI k)), some (.long M), none, some (.int (nI r2))], [], (zw_C (upd (upd g 23 (nI n)) 25 (nI m)) gl a (va_up (va_up al 24 (vp_updL H ((nI r2).toNatClampNeg) ((H r2) ||| (1 <<< ((nI k).toInt64 &&& 63))))) 27 (vp_updL G k M))))) rfl (pk_in r2 64 (by omega) rfl (by omega)) ?_
          rw [pk_cl (x := (nI r2)) r2 rfl (by omega)]
          refine zr_go (t := (112, [some (.ref 0), some (.int (nI d)), some (.int (nI k)), some (.long M), none, some (.int ((nI r2) + 1))], [], (zw_C (upd (upd g 23 (nI n)) 25 (nI m)) gl a (va_up (va_up al 24 (vp_updL H r2 ((H r2) ||| (1 <<< ((nI k).toInt64 &&& 63))))) 27 (vp_updL G k M))))) 2 rfl ?_
          rw [show (nI r2) + 1 = nI (r2 + 1) from (zn_add rfl rfl)]
          exact ih3 (r2 + 1, (vp_updL H r2 ((H r2) ||| (1 <<< ((nI k).toInt64 &&& 63))))) ⟨by omega, lt_s (fun s hs => (pk_uLn (by omega)).trans (hH s hs)) (pk_uLs.trans (by rw [hHr, zL_y (h := fun j => lb (zf_mk L n d j) r2) (by rw [← hM]; exact hb)]; rfl)), fun s h1 h2 => (pk_uLn (by omega)).trans (hH2 s (by omega) h2)⟩ (by omega)
  · skip
    refine zr_go (t := (69, [some (.ref 0), some (.int (nI d)), some (.int (nI r)), none, none, none], [.long 0, .int (nI r), .ref 24], (zw_C (upd (upd g 23 (nI n)) 25 (nI m)) gl a (va_up al 24 F)))) 5 rfl ?_
    refine zr_cd (t := (70, [some (.ref 0), some (.int (nI d)), some (.int (nI r)), none, none, none], [], (zw_C (upd (upd g 23 (nI n)) 25 (nI m)) gl a (va_up al 24 (vp_updL F ((nI r).toNatClampNeg) 0))))) rfl (pk_in r 64 (by omega) rfl (by omega)) ?_
    rw [pk_cl (x := (nI r)) r rfl (by omega)]
    refine zr_go (t := (49, [some (.ref 0), some (.int (nI d)), some (.int ((nI r) + 1)), none, none, none], [], (zw_C (upd (upd g 23 (nI n)) 25 (nI m)) gl a (va_up al 24 (vp_updL F r 0))))) 2 rfl ?_
    rw [show (nI r) + 1 = nI (r + 1) from (zn_add rfl rfl)]
    exact ih (r + 1, (vp_updL F r 0)) ⟨by omega, lt_s (fun k hk => (pk_uLn (by omega)).trans (hF k hk)) pk_uLs⟩ (by omega)
