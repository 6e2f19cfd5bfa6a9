/-! the reference: the form is changed (written by wip/whole/gen_m21.py) -/
theorem zs_M_layNewW (g : Nat → Int32) (gl : Nat → Int64) (a : Nat → Nat → Int32) (al : Nat → Nat → Int64) (hG : zG) (P N : Nat) (c : Nat → Nat) (hok : zv_ok P N) (hF : zc_F g a P N c) (hR : zc_R g a (zv_np P N) (zv_y P N)) (hnum : ∀ t, 1 ≤ t → t < P ^ N → a 4 t = if zv_l1 P N t then nI (zv_cnt P N t) else -1) : zm_Ev zt_get 8 140 [.ref 0] (zw_M g gl a al) (fun v w => v = none ∧ ∃ (x10 x11 x12 x14 x25 : Int32) (f5 f6 f7 f9 f10 f11 f12 f13 f14 f16 : Nat → Int32), w = (zw_M (upd (upd (upd (upd (upd g 10 x10) 11 x11) 12 x12) 14 x14) 25 x25) gl (va_up (va_up (va_up (va_up (va_up (va_up (va_up (va_up (va_up (va_up a 5 f5) 6 f6) 7 f7) 9 f9) 10 f10) 11 f11) 12 f12) 13 f13) 14 f14) 16 f16) al) ∧ zS_f (upd (upd (upd (upd (upd g 10 x10) 11 x11) 12 x12) 14 x14) 25 x25) (va_up (va_up (va_up (va_up (va_up (va_up (va_up (va_up (va_up (va_up a 5 f5) 6 f6) 7 f7) 9 f9) 10 f10) 11 f11) 12 f12) 13 f13) 14 f14) 16 f16) P N c ∧ f16 0 = 0 ∧ f16 1 = 0 ∧ x10 = nI (zw_on P N c)) := by
  obtain ⟨hA, hB, hnp0⟩ := zv_nums hok
  obtain ⟨hP, hN, hP0, hP5, hN6, hc, hc4⟩ := id hF
  refine zr_evp (zs_M_layNew g gl a al P N c hF hok.1 hA hnum (zv_np P N) (zv_y P N) hR (zv_hv hok) hnp0 (fun z => (hG P N _ hok z).1) (fun z => (hG P N _ hok z).2)) ?_
  rintro _ _ ⟨rfl, y25, fo, b6, b7, b9, b10, b11, b12, b13, b14, b16, nl, npl, rfl, hch, hfo, hs1, hs2⟩
  exact ⟨rfl, _, _, _, _, y25, fo, b6, b7, b9, b10, b11, b12, b13, b14, b16, rfl, ⟨hok, hF, hR, hnum, hfo, rfl, rfl, nl, npl, rfl, rfl, hs1, fun z => ⟨(hs2 z).1, (hs2 z).2.1, (hs2 z).2.2.1, (hs2 z).2.2.2⟩⟩, hch.1, hch.2, rfl⟩
def zu_c (c : Nat → Nat) (k v : Nat) : Nat → Nat := fun t => if t = k then v else c t
def zq_pl (i j : Nat) : Nat := if i < j then 6 * i + j else 6 * j + i
theorem zs_M_put (g : Nat → Int32) (gl : Nat → Int64) (a : Nat → Nat → Int32) (al : Nat → Nat → Int64) (hG : zG) (P N : Nat) (c : Nat → Nat) (hS : zS_F g a P N c) (x y z : Int32) : zm_Ev zt_get 9 196 [.ref 0, .int x, .int y, .int z] (zw_M g gl a al) (fun v w => (¬ (0 < P ∧ zx_in x N = true ∧ zx_in y N = true) ∧ v = some (.int (-101)) ∧ w = (zw_M g gl a al)) ∨ ((0 < P ∧ zx_in x N = true ∧ zx_in y N = true) ∧ zx_in z P = false ∧ v = some (.int (-102)) ∧ w = (zw_M g gl a al)) ∨ ((0 < P ∧ zx_in x N = true ∧ zx_in y N = true) ∧ zx_in z P = true ∧ v = some (.int (nI (c (zq_pl (zx_k x) (zx_k y))))) ∧ ∃ (f1 : Nat → Int32) (x10 x11 x12 x14 x25 : Int32) (f5 f6 f7 f9 f10 f11 f12 f13 f14 f16 : Nat → Int32), w = (zw_M (upd (upd (upd (upd (upd g 10 x10) 11 x11) 12 x12) 14 x14) 25 x25) gl (va_up (va_up (va_up (va_up (va_up (va_up (va_up (va_up (va_up (va_up (va_up a 1 f1) 5 f5) 6 f6) 7 f7) 9 f9) 10 f10) 11 f11) 12 f12) 13 f13) 14 f14) 16 f16) al) ∧ zS_f (upd (upd (upd (upd (upd g 10 x10) 11 x11) 12 x12) 14 x14) 25 x25) (va_up (va_up (va_up (va_up (va_up (va_up (va_up (va_up (va_up (va_up (va_up a 1 f1) 5 f5) 6 f6) 7 f7) 9 f9) 10 f10) 11 f11) 12 f12) 13 f13) 14 f14) 16 f16) P N (zu_c c (zq_pl (zx_k x) (zx_k y)) (zx_k z)) ∧ f16 0 = 0 ∧ f16 1 = 0)) := by
  obtain ⟨hP, hN, hnp, hP5, hN6, hnp1⟩ := hS.nums
  refine zr_ev zt_M_put rfl rfl ?_
  show zm_Run zt_get 8 zt_M_put (0, [some (.ref 0), some (.int x), some (.int y), some (.int z), none], [], (zw_M g gl a al)) _
  refine zr_go (t := (2, [some (.ref 0), some (.int x), some (.int y), some (.int z), none], [.int x, .ref 0], (zw_M g gl a al))) 2 rfl ?_
  refine zr_call (t := (5, [some (.ref 0), some (.int x), some (.int y), some (.int z), none], [], (zw_M g gl a al))) rfl (Nat.le_of_ble_eq_true rfl : 2 ≤ 8) (zs_M_isVariable g gl a al P N hP hP5 hN hN6 x) ?_
  rintro _ _ ⟨rfl, rfl⟩
  show zm_Run zt_get 8 zt_M_put (5, [some (.ref 0), some (.int x), some (.int y), some (.int z), none], [.int (nI ((decide (0 < P) && zx_in x N).toNat))], (zw_M g gl a al)) _
  have hb_x := zb_le (decide (0 < P) && zx_in x N)
  refine zr_ieq (x := nI ((decide (0 < P) && zx_in x N).toNat)) (y := 0) ((decide (0 < P) && zx_in x N).toNat) 0 rfl rfl (by omega) (by omega) (t := (16, [some (.ref 0), some (.int x), some (.int y), some (.int z), none], [], (zw_M g gl a al))) (f := (8, [some (.ref 0), some (.int x), some (.int y), some (.int z), none], [], (zw_M g gl a al))) rfl (fun h1 => ?_) (fun h1 => ?_)
  · skip
    refine zr_go (t := (18, [some (.ref 0), some (.int x), some (.int y), some (.int z), none], [.int (-101)], (zw_M g gl a al))) 1 rfl ?_
    exact zr_ret rfl trivial (Or.inl ⟨fun q => (by have := zb_0 h1; rw [decide_eq_true q.1, q.2.1] at this; cases this), rfl, rfl⟩)
  · skip
    refine zr_go (t := (10, [some (.ref 0), some (.int x), some (.int y), some (.int z), none], [.int y, .ref 0], (zw_M g gl a al))) 2 rfl ?_
    refine zr_call (t := (13, [some (.ref 0), some (.int x), some (.int y), some (.int z), none], [], (zw_M g gl a al))) rfl (Nat.le_of_ble_eq_true rfl : 2 ≤ 8) (zs_M_isVariable g gl a al P N hP hP5 hN hN6 y) ?_
    rintro _ _ ⟨rfl, rfl⟩
    show zm_Run zt_get 8 zt_M_put (13, [some (.ref 0), some (.int x), some (.int y), some (.int z), none], [.int (nI ((decide (0 < P) && zx_in y N).toNat))], (zw_M g gl a al)) _
    have hb_y := zb_le (decide (0 < P) && zx_in y N)
    refine zr_ine (x := nI ((decide (0 < P) && zx_in y N).toNat)) (y := 0) ((decide (0 < P) && zx_in y N).toNat) 0 rfl rfl (by omega) (by omega) (t := (19, [some (.ref 0), some (.int x), some (.int y), some (.int z), none], [], (zw_M g gl a al))) (f := (16, [some (.ref 0), some (.int x), some (.int y), some (.int z), none], [], (zw_M g gl a al))) rfl (fun h2 => ?_) (fun h2 => ?_)
    · skip
      obtain ⟨hp0, hv_x⟩ := Bool.and_eq_true_iff.mp (zb_1 h1)
      have hp0 := of_decide_eq_true hp0
      obtain ⟨hi, ei⟩ := zx_of hv_x
      obtain ⟨hp0, hv_y⟩ := Bool.and_eq_true_iff.mp (zb_1 h2)
      have hp0 := of_decide_eq_true hp0
      obtain ⟨hj, ej⟩ := zx_of hv_y
      have hq : (0 < P ∧ zx_in x N = true ∧ zx_in y N = true) := ⟨hp0, hv_x, hv_y⟩
      refine zr_go (t := (27, [some (.ref 0), some (.int x), some (.int y), some (.int z), none], [.int ((g 0) - 1), .int 0, .int z], (zw_M g gl a al))) 6 rfl ?_
      refine zr_call (t := (30, [some (.ref 0), some (.int x), some (.int y), some (.int z), none], [], (zw_M g gl a al))) rfl (Nat.le_of_ble_eq_true rfl : 1 ≤ 8) (zs_M_withinI g gl a al z (g 0) P hP (by omega)) ?_
      rintro _ _ ⟨rfl, rfl⟩
      show zm_Run zt_get 8 zt_M_put (30, [some (.ref 0), some (.int x), some (.int y), some (.int z), none], [.int (nI ((zx_in z P).toNat))], (zw_M g gl a al)) _
      have hb3 := zb_le (zx_in z P)
      refine zr_ine (x := nI ((zx_in z P).toNat)) (y := 0) ((zx_in z P).toNat) 0 rfl rfl (by omega) (by omega) (t := (36, [some (.ref 0), some (.int x), some (.int y), some (.int z), none], [], (zw_M g gl a al))) (f := (33, [some (.ref 0), some (.int x), some (.int y), some (.int z), none], [], (zw_M g gl a al))) rfl (fun h3 => ?_) (fun h3 => ?_)
      · skip
        have hz := zb_1 h3
        obtain ⟨hv, ev⟩ := zx_of hz
        obtain ⟨hf, -⟩ := hS.form hp0
        obtain ⟨hok, hFF, hRR, hnum, -⟩ := id hf
        obtain ⟨-, -, hP0, -, -, hcc, hc4⟩ := id hFF
        generalize hk_i : zx_k x = i at hi ei
        subst ei
        generalize hk_j : zx_k y = j at hj ej
        subst ej
        generalize hk_v : zx_k z = v at hv ev
        subst ev
        have hpl : zq_pl i j < 36 := by unfold zq_pl; split <;> omega
        refine zr_go (t := (42, [some (.ref 0), some (.int (nI i)), some (.int (nI j)), some (.int (nI v)), none], [.int (nI j), .int (nI i), .ref 1], (zw_M g gl a al))) 4 rfl ?_
        refine zr_call (t := (45, [some (.ref 0), some (.int (nI i)), some (.int (nI j)), some (.int (nI v)), none], [.ref 1], (zw_M g gl a al))) rfl (Nat.le_of_ble_eq_true rfl : 1 ≤ 8) (zs_M_placeOf g gl a al i j (by omega) (by omega)) ?_
        rintro _ _ ⟨rfl, rfl⟩
        show zm_Run zt_get 8 zt_M_put (45, [some (.ref 0), some (.int (nI i)), some (.int (nI j)), some (.int (nI v)), none], [.int (nI (zq_pl i j)), .ref 1], (zw_M g gl a al)) _
        refine zr_cd (t := (46, [some (.ref 0), some (.int (nI i)), some (.int (nI j)), some (.int (nI v)), none], [.int ((a 1) (nI (zq_pl i j)).toNatClampNeg)], (zw_M g gl a al))) rfl (pk_in (zq_pl i j) 36 (by omega) rfl (by omega)) ?_
        rw [pk_cl (x := (nI (zq_pl i j))) (zq_pl i j) rfl (by omega)]
        rw [show (a 1) (zq_pl i j) = nI (c (zq_pl i j)) from hcc (zq_pl i j) (by omega)]
        refine zr_go (t := (54, [some (.ref 0), some (.int (nI i)), some (.int (nI j)), some (.int (nI v)), some (.int (nI (c (zq_pl i j))))], [.int (nI j), .int (nI i), .ref 1], (zw_M g gl a al))) 5 rfl ?_
        refine zr_call (t := (57, [some (.ref 0), some (.int (nI i)), some (.int (nI j)), some (.int (nI v)), some (.int (nI (c (zq_pl i j))))], [.ref 1], (zw_M g gl a al))) rfl (Nat.le_of_ble_eq_true rfl : 1 ≤ 8) (zs_M_placeOf g gl a al i j (by omega) (by omega)) ?_
        rintro _ _ ⟨rfl, rfl⟩
        show zm_Run zt_get 8 zt_M_put (57, [some (.ref 0), some (.int (nI i)), some (.int (nI j)), some (.int (nI v)), some (.int (nI (c (zq_pl i j))))], [.int (nI (zq_pl i j)), .ref 1], (zw_M g gl a al)) _
        refine zr_go (t := (58, [some (.ref 0), some (.int (nI i)), some (.int (nI j)), some (.int (nI v)), some (.int (nI (c (zq_pl i j))))], [.int (nI v), .int (nI (zq_pl i j)), .ref 1], (zw_M g gl a al))) 1 rfl ?_
        refine zr_cd (t := (59, [some (.ref 0), some (.int (nI i)), some (.int (nI j)), some (.int (nI v)), some (.int (nI (c (zq_pl i j))))], [], (zw_M g gl (va_up a 1 (upd (a 1) ((nI (zq_pl i j)).toNatClampNeg) (nI v))) al))) rfl (pk_in (zq_pl i j) 36 (by omega) rfl (by omega)) ?_
        rw [pk_cl (x := (nI (zq_pl i j))) (zq_pl i j) rfl (by omega)]
        refine zr_go (t := (60, [some (.ref 0), some (.int (nI i)), some (.int (nI j)), some (.int (nI v)), some (.int (nI (c (zq_pl i j))))], [.ref 0], (zw_M g gl (va_up a 1 (upd (a 1) (zq_pl i j) (nI v))) al))) 1 rfl ?_
        refine zr_call (t := (63, [some (.ref 0), some (.int (nI i)), some (.int (nI j)), some (.int (nI v)), some (.int (nI (c (zq_pl i j))))], [], (zw_M g gl (va_up a 1 (upd (a 1) (zq_pl i j) (nI v))) al))) rfl (Nat.le_of_ble_eq_true rfl : 8 ≤ 8) (zs_M_layNewW g gl (va_up a 1 (upd (a 1) (zq_pl i j) (nI v))) al hG P N (zu_c c (zq_pl i j) v) hok ⟨hP, hN, hP0, hP5, hN6, fun k hk => by by_cases e : k = zq_pl i j; subst e; exact pk_us.trans (by unfold zu_c; rw [if_pos rfl]); exact (pk_un e).trans ((hcc k hk).trans (by unfold zu_c; rw [if_neg e])), fun k hk => by unfold zu_c; split; omega; exact hc4 k hk⟩ hRR hnum) ?_
        rintro _ _ ⟨rfl, x10, x11, x12, x14, x25, f5, f6, f7, f9, f10, f11, f12, f13, f14, f16, rfl, hnew, hch0, hch1, -⟩
        show zm_Run zt_get 8 zt_M_put (63, [some (.ref 0), some (.int (nI i)), some (.int (nI j)), some (.int (nI v)), some (.int (nI (c (zq_pl i j))))], [], (zw_M (upd (upd (upd (upd (upd g 10 x10) 11 x11) 12 x12) 14 x14) 25 x25) gl (va_up (va_up (va_up (va_up (va_up (va_up (va_up (va_up (va_up (va_up (va_up a 1 (upd (a 1) (zq_pl i j) (nI v))) 5 f5) 6 f6) 7 f7) 9 f9) 10 f10) 11 f11) 12 f12) 13 f13) 14 f14) 16 f16) al)) _
        refine zr_go (t := (65, [some (.ref 0), some (.int (nI i)), some (.int (nI j)), some (.int (nI v)), some (.int (nI (c (zq_pl i j))))], [.int (nI (c (zq_pl i j)))], (zw_M (upd (upd (upd (upd (upd g 10 x10) 11 x11) 12 x12) 14 x14) 25 x25) gl (va_up (va_up (va_up (va_up (va_up (va_up (va_up (va_up (va_up (va_up (va_up a 1 (upd (a 1) (zq_pl i j) (nI v))) 5 f5) 6 f6) 7 f7) 9 f9) 10 f10) 11 f11) 12 f12) 13 f13) 14 f14) 16 f16) al))) 1 rfl ?_
        exact zr_ret rfl trivial (Or.inr (Or.inr ⟨hq, hz, rfl, _, x10, x11, x12, x14, x25, f5, f6, f7, f9, f10, f11, f12, f13, f14, f16, rfl, hnew, hch0, hch1⟩))
      · skip
        refine zr_go (t := (35, [some (.ref 0), some (.int x), some (.int y), some (.int z), none], [.int (-102)], (zw_M g gl a al))) 1 rfl ?_
        exact zr_ret rfl trivial (Or.inr (Or.inl ⟨hq, zb_0 h3, rfl, rfl⟩))
    · skip
      refine zr_go (t := (18, [some (.ref 0), some (.int x), some (.int y), some (.int z), none], [.int (-101)], (zw_M g gl a al))) 1 rfl ?_
      exact zr_ret rfl trivial (Or.inl ⟨fun q => (by have := zb_0 h2; rw [decide_eq_true q.1, q.2.2] at this; cases this), rfl, rfl⟩)
theorem zs_M_beginImages (g : Nat → Int32) (gl : Nat → Int64) (a : Nat → Nat → Int32) (al : Nat → Nat → Int64) : zm_Ev zt_get 1 197 [.ref 0] (zw_M g gl a al) (fun v w => v = none ∧ ∃ f, w = (zw_M g gl (va_up a 22 f) al) ∧ ∀ k, k < 36 → f k = nI (if k % 7 = 0 then 1 else 0)) := by
  refine zr_ev zt_M_beginImages rfl rfl ?_
  show zm_Run zt_get 0 zt_M_beginImages (0, [some (.ref 0), none], [], (zw_M g gl a al)) _
  refine zr_go (t := (2, [some (.ref 0), some (.int 0)], [], (zw_M g gl a al))) 2 rfl ?_
  refine zr_loop (fun zq : Nat × (Nat → Int32) => (2, [some (.ref 0), some (.int (nI zq.1))], [], (zw_M g gl (va_up a 22 zq.2) al))) (fun zq => zq.1 ≤ 36 ∧ ∀ t, t < zq.1 → zq.2 t = nI (if t % 7 = 0 then 1 else 0)) (fun zq => 36 - zq.1) ?_ (0, a 22) ⟨by omega, fun t h => absurd h (Nat.not_lt_zero t)⟩
  rintro ⟨k, f⟩ ⟨hk, hf⟩ ih
  try dsimp only at *
  refine zr_go (t := (5, [some (.ref 0), some (.int (nI k))], [.int 36, .int (nI k)], (zw_M g gl (va_up a 22 f) al))) 2 rfl ?_
  refine zr_ige (x := nI k) (y := 36) k 36 rfl rfl (by omega) (by omega) (t := (32, [some (.ref 0), some (.int (nI k))], [], (zw_M g gl (va_up a 22 f) al))) (f := (8, [some (.ref 0), some (.int (nI k))], [], (zw_M g gl (va_up a 22 f) al))) rfl (fun h1 => ?_) (fun h1 => ?_)
  · skip
    exact zr_ret rfl trivial ⟨rfl, f, rfl, fun t h => hf t (by omega)⟩
  · skip
    refine zr_go (t := (16, [some (.ref 0), some (.int (nI k))], [.int 7, .int (nI k), .int (nI k), .ref 22], (zw_M g gl (va_up a 22 f) al))) 5 rfl ?_
    refine zr_cd (t := (17, [some (.ref 0), some (.int (nI k))], [.int ((nI k) - (nI k) / 7 * 7), .int (nI k), .ref 22], (zw_M g gl (va_up a 22 f) al))) rfl (zn_ne0 (b := 7) rfl (by decide) (by decide)) ?_
    rw [show (nI k) - (nI k) / 7 * 7 = nI (k % 7) from (zn_rem rfl rfl (by omega) (by omega) (by omega))]
    refine zr_ine (x := nI (k % 7)) (y := 0) (k % 7) 0 rfl rfl (by omega) (by omega) (t := (24, [some (.ref 0), some (.int (nI k))], [.int (nI k), .ref 22], (zw_M g gl (va_up a 22 f) al))) (f := (20, [some (.ref 0), some (.int (nI k))], [.int (nI k), .ref 22], (zw_M g gl (va_up a 22 f) al))) rfl (fun h2 => ?_) (fun h2 => ?_)
    · skip
      refine zr_go (t := (25, [some (.ref 0), some (.int (nI k))], [.int 0, .int (nI k), .ref 22], (zw_M g gl (va_up a 22 f) al))) 1 rfl ?_
      refine zr_cd (t := (26, [some (.ref 0), some (.int (nI k))], [], (zw_M g gl (va_up a 22 (upd f ((nI k).toNatClampNeg) 0)) al))) rfl (pk_in k 36 (by omega) rfl (by omega)) ?_
      rw [pk_cl (x := (nI k)) k rfl (by omega)]
      refine zr_go (t := (2, [some (.ref 0), some (.int ((nI k) + 1))], [], (zw_M g gl (va_up a 22 (upd f k 0)) al))) 2 rfl ?_
      rw [show (nI k) + 1 = nI (k + 1) from (zn_add rfl rfl)]
      exact ih (k + 1, (upd f k 0)) ⟨by omega, lt_s (fun t ht => (pk_un (Nat.ne_of_lt ht)).trans (hf t ht)) (pk_us.trans (by rw [if_neg h2]; rfl))⟩ (by omega)
    · skip
      refine zr_go (t := (25, [some (.ref 0), some (.int (nI k))], [.int 1, .int (nI k), .ref 22], (zw_M g gl (va_up a 22 f) al))) 2 rfl ?_
      refine zr_cd (t := (26, [some (.ref 0), some (.int (nI k))], [], (zw_M g gl (va_up a 22 (upd f ((nI k).toNatClampNeg) 1)) al))) rfl (pk_in k 36 (by omega) rfl (by omega)) ?_
      rw [pk_cl (x := (nI k)) k rfl (by omega)]
      refine zr_go (t := (2, [some (.ref 0), some (.int ((nI k) + 1))], [], (zw_M g gl (va_up a 22 (upd f k 1)) al))) 2 rfl ?_
      rw [show (nI k) + 1 = nI (k + 1) from (zn_add rfl rfl)]
      exact ih (k + 1, (upd f k 1)) ⟨by omega, lt_s (fun t ht => (pk_un (Nat.ne_of_lt ht)).trans (hf t ht)) (pk_us.trans (by rw [if_pos h2]; rfl))⟩ (by omega)
theorem zs_M_takeImage_9 (g : Nat → Int32) (gl : Nat → Int64) (a : Nat → Nat → Int32) (al : Nat → Nat → Int64) (p : Nat) (hp : p < 6) : zm_Ev zt_get 1 198 [.ref 0, .int (nI p), .ref 9] (zw_M g gl a al) (fun v w => v = none ∧ ∃ f, w = (zw_M g gl (va_up a 9 f) al) ∧ ∀ i, i < 6 → f i = a 22 (6 * p + i)) := by
  refine zr_ev zt_M_takeImage rfl rfl ?_
  show zm_Run zt_get 0 zt_M_takeImage (0, [some (.ref 0), some (.int (nI p)), some (.ref 9), none], [], (zw_M g gl a al)) _
  refine zr_go (t := (2, [some (.ref 0), some (.int (nI p)), some (.ref 9), some (.int 0)], [], (zw_M g gl a al))) 2 rfl ?_
  refine zr_loop (fun zq : Nat × (Nat → Int32) => (2, [some (.ref 0), some (.int (nI p)), some (.ref 9), some (.int (nI zq.1))], [], (zw_M g gl (va_up a 9 zq.2) al))) (fun zq => zq.1 ≤ 6 ∧ ∀ k, k < zq.1 → zq.2 k = a 22 (6 * p + k)) (fun zq => 6 - zq.1) ?_ (0, a 9) ⟨by omega, fun k h => absurd h (Nat.not_lt_zero k)⟩
  rintro ⟨i, f⟩ ⟨hi, hf⟩ ih
  try dsimp only at *
  refine zr_go (t := (5, [some (.ref 0), some (.int (nI p)), some (.ref 9), some (.int (nI i))], [.int 6, .int (nI i)], (zw_M g gl (va_up a 9 f) al))) 2 rfl ?_
  refine zr_ige (x := nI i) (y := 6) i 6 rfl rfl (by omega) (by omega) (t := (28, [some (.ref 0), some (.int (nI p)), some (.ref 9), some (.int (nI i))], [], (zw_M g gl (va_up a 9 f) al))) (f := (8, [some (.ref 0), some (.int (nI p)), some (.ref 9), some (.int (nI i))], [], (zw_M g gl (va_up a 9 f) al))) rfl (fun h1 => ?_) (fun h1 => ?_)
  · skip
    exact zr_ret rfl trivial ⟨rfl, f, rfl, fun i hi => hf i (by omega)⟩
  · skip
    refine zr_go (t := (20, [some (.ref 0), some (.int (nI p)), some (.ref 9), some (.int (nI i))], [.int ((6 * (nI p)) + (nI i)), .ref 22, .int (nI i), .ref 9], (zw_M g gl (va_up a 9 f) al))) 9 rfl ?_
    refine zr_cd (t := (21, [some (.ref 0), some (.int (nI p)), some (.ref 9), some (.int (nI i))], [.int ((a 22) ((6 * (nI p)) + (nI i)).toNatClampNeg), .int (nI i), .ref 9], (zw_M g gl (va_up a 9 f) al))) rfl (pk_in ((6 * p) + i) 36 (by omega) (zn_add (zn_mul rfl rfl) rfl) (by omega)) ?_
    rw [pk_cl (x := ((6 * (nI p)) + (nI i))) ((6 * p) + i) (zn_add (zn_mul rfl rfl) rfl) (by omega)]
    refine zr_cd (t := (22, [some (.ref 0), some (.int (nI p)), some (.ref 9), some (.int (nI i))], [], (zw_M g gl (va_up a 9 (upd f ((nI i).toNatClampNeg) ((a 22) ((6 * p) + i)))) al))) rfl (pk_in i 6 (by omega) rfl (by omega)) ?_
    rw [pk_cl (x := (nI i)) i rfl (by omega)]
    refine zr_go (t := (2, [some (.ref 0), some (.int (nI p)), some (.ref 9), some (.int ((nI i) + 1))], [], (zw_M g gl (va_up a 9 (upd f i ((a 22) ((6 * p) + i)))) al))) 2 rfl ?_
    rw [show (nI i) + 1 = nI (i + 1) from (zn_add rfl rfl)]
    exact ih (i + 1, (upd f i ((a 22) ((6 * p) + i)))) ⟨by omega, lt_s (fun k hk => (pk_un (Nat.ne_of_lt hk)).trans (hf k hk)) pk_us⟩ (by omega)
theorem zs_M_takeImage_10 (g : Nat → Int32) (gl : Nat → Int64) (a : Nat → Nat → Int32) (al : Nat → Nat → Int64) (p : Nat) (hp : p < 6) : zm_Ev zt_get 1 198 [.ref 0, .int (nI p), .ref 10] (zw_M g gl a al) (fun v w => v = none ∧ ∃ f, w = (zw_M g gl (va_up a 10 f) al) ∧ ∀ i, i < 6 → f i = a 22 (6 * p + i)) := by
  refine zr_ev zt_M_takeImage rfl rfl ?_
  show zm_Run zt_get 0 zt_M_takeImage (0, [some (.ref 0), some (.int (nI p)), some (.ref 10), none], [], (zw_M g gl a al)) _
  refine zr_go (t := (2, [some (.ref 0), some (.int (nI p)), some (.ref 10), some (.int 0)], [], (zw_M g gl a al))) 2 rfl ?_
  refine zr_loop (fun zq : Nat × (Nat → Int32) => (2, [some (.ref 0), some (.int (nI p)), some (.ref 10), some (.int (nI zq.1))], [], (zw_M g gl (va_up a 10 zq.2) al))) (fun zq => zq.1 ≤ 6 ∧ ∀ k, k < zq.1 → zq.2 k = a 22 (6 * p + k)) (fun zq => 6 - zq.1) ?_ (0, a 10) ⟨by omega, fun k h => absurd h (Nat.not_lt_zero k)⟩
  rintro ⟨i, f⟩ ⟨hi, hf⟩ ih
  try dsimp only at *
  refine zr_go (t := (5, [some (.ref 0), some (.int (nI p)), some (.ref 10), some (.int (nI i))], [.int 6, .int (nI i)], (zw_M g gl (va_up a 10 f) al))) 2 rfl ?_
  refine zr_ige (x := nI i) (y := 6) i 6 rfl rfl (by omega) (by omega) (t := (28, [some (.ref 0), some (.int (nI p)), some (.ref 10), some (.int (nI i))], [], (zw_M g gl (va_up a 10 f) al))) (f := (8, [some (.ref 0), some (.int (nI p)), some (.ref 10), some (.int (nI i))], [], (zw_M g gl (va_up a 10 f) al))) rfl (fun h1 => ?_) (fun h1 => ?_)
  · skip
    exact zr_ret rfl trivial ⟨rfl, f, rfl, fun i hi => hf i (by omega)⟩
  · skip
    refine zr_go (t := (20, [some (.ref 0), some (.int (nI p)), some (.ref 10), some (.int (nI i))], [.int ((6 * (nI p)) + (nI i)), .ref 22, .int (nI i), .ref 10], (zw_M g gl (va_up a 10 f) al))) 9 rfl ?_
    refine zr_cd (t := (21, [some (.ref 0), some (.int (nI p)), some (.ref 10), some (.int (nI i))], [.int ((a 22) ((6 * (nI p)) + (nI i)).toNatClampNeg), .int (nI i), .ref 10], (zw_M g gl (va_up a 10 f) al))) rfl (pk_in ((6 * p) + i) 36 (by omega) (zn_add (zn_mul rfl rfl) rfl) (by omega)) ?_
    rw [pk_cl (x := ((6 * (nI p)) + (nI i))) ((6 * p) + i) (zn_add (zn_mul rfl rfl) rfl) (by omega)]
    refine zr_cd (t := (22, [some (.ref 0), some (.int (nI p)), some (.ref 10), some (.int (nI i))], [], (zw_M g gl (va_up a 10 (upd f ((nI i).toNatClampNeg) ((a 22) ((6 * p) + i)))) al))) rfl (pk_in i 6 (by omega) rfl (by omega)) ?_
    rw [pk_cl (x := (nI i)) i rfl (by omega)]
    refine zr_go (t := (2, [some (.ref 0), some (.int (nI p)), some (.ref 10), some (.int ((nI i) + 1))], [], (zw_M g gl (va_up a 10 (upd f i ((a 22) ((6 * p) + i)))) al))) 2 rfl ?_
    rw [show (nI i) + 1 = nI (i + 1) from (zn_add rfl rfl)]
    exact ih (i + 1, (upd f i ((a 22) ((6 * p) + i)))) ⟨by omega, lt_s (fun k hk => (pk_un (Nat.ne_of_lt hk)).trans (hf k hk)) pk_us⟩ (by omega)
/-- the coefficients by the images of the variables -/
def zi_row (im : Nat → Nat) (i : Nat) : Nat → Nat := fun t => im (6 * i + t)
def zi_c (P N : Nat) (c im m0 : Nat → Nat) (k : Nat) : Nat := if k / 6 ≤ k % 6 ∧ k % 6 < N then (if k / 6 = k % 6 then zv_val P N c (zi_row im (k / 6)) else zv_pol P N c (zi_row im (k / 6)) (zi_row im (k % 6))) else m0 k
theorem zs_M_change (g : Nat → Int32) (gl : Nat → Int64) (a : Nat → Nat → Int32) (al : Nat → Nat → Int64) (hG : zG) (P N : Nat) (c : Nat → Nat) (hok : zv_ok P N) (hFF : zc_F g a P N c) (hRR : zc_R g a (zv_np P N) (zv_y P N)) (hnum : ∀ t, 1 ≤ t → t < P ^ N → a 4 t = if zv_l1 P N t then nI (zv_cnt P N t) else -1) (im m0 : Nat → Nat) (him : ∀ k, k < 36 → a 22 k = nI (im k)) (him4 : ∀ k, k < 36 → im k ≤ 4) (hm0 : ∀ k, k < 36 → a 23 k = nI (m0 k)) (hm04 : ∀ k, k < 36 → m0 k ≤ 4) : zm_Ev zt_get 9 199 [.ref 0] (zw_M g gl a al) (fun v w => v = some (.int (nI (zw_on P N (zi_c P N c im m0)))) ∧ ∃ (f1 f23 : Nat → Int32) (x10 x11 x12 x14 x25 : Int32) (f5 f6 f7 f9 f10 f11 f12 f13 f14 f16 : Nat → Int32), w = (zw_M (upd (upd (upd (upd (upd g 10 x10) 11 x11) 12 x12) 14 x14) 25 x25) gl (va_up (va_up (va_up (va_up (va_up (va_up (va_up (va_up (va_up (va_up (va_up (va_up a 1 f1) 5 f5) 6 f6) 7 f7) 9 f9) 10 f10) 11 f11) 12 f12) 13 f13) 14 f14) 16 f16) 23 f23) al) ∧ zS_f (upd (upd (upd (upd (upd g 10 x10) 11 x11) 12 x12) 14 x14) 25 x25) (va_up (va_up (va_up (va_up (va_up (va_up (va_up (va_up (va_up (va_up (va_up (va_up a 1 f1) 5 f5) 6 f6) 7 f7) 9 f9) 10 f10) 11 f11) 12 f12) 13 f13) 14 f14) 16 f16) 23 f23) P N (zi_c P N c im m0) ∧ f16 0 = 0 ∧ f16 1 = 0 ∧ (∀ k, k < 36 → f23 k = nI (zi_c P N c im m0 k)) ∧ ∀ k, k < 36 → zi_c P N c im m0 k ≤ 4) := by
  obtain ⟨hP, hN, hP0, hP5, hN6, hc, hc4⟩ := id hFF
  have h4 : ∀ k, k < 36 → zi_c P N c im m0 k ≤ 4 := fun k hk => by unfold zi_c; split; split; exact Nat.le_of_lt_succ (Nat.lt_of_lt_of_le (zv_val_lt hP0) hP5); exact Nat.le_of_lt_succ (Nat.lt_of_lt_of_le (zv_pol_lt hP0) hP5); exact hm04 k hk
  refine zr_ev zt_M_change rfl rfl ?_
  show zm_Run zt_get 8 zt_M_change (0, [some (.ref 0), none, none], [], (zw_M g gl a al)) _
  refine zr_go (t := (2, [some (.ref 0), some (.int 0), none], [], (zw_M g gl a al))) 2 rfl ?_
  refine zr_loop (fun zq : Nat × (Nat → Int32) × (Nat → Int32) × (Nat → Int32) × (Nat → Int32) => (2, [some (.ref 0), some (.int (nI zq.1)), none], [], (zw_M g gl (va_up (va_up (va_up (va_up a 9 zq.2.1) 10 zq.2.2.1) 11 zq.2.2.2.1) 23 zq.2.2.2.2) al))) (fun zq => zq.1 ≤ N ∧ ∀ t, t < 36 → zq.2.2.2.2 t = nI (if t / 6 < zq.1 then zi_c P N c im m0 t else m0 t)) (fun zq => N - zq.1) ?_ (0, a 9, a 10, a 11, a 23) ⟨by omega, fun t z => by rw [if_neg (Nat.not_lt_zero _)]; exact hm0 t z⟩
  rintro ⟨i, f9, f10, f11, fm⟩ ⟨hi, hfm⟩ ih
  try dsimp only at *
  refine zr_go (t := (7, [some (.ref 0), some (.int (nI i)), none], [.int (g 1), .int (nI i)], (zw_M g gl (va_up (va_up (va_up (va_up a 9 f9) 10 f10) 11 f11) 23 fm) al))) 3 rfl ?_
  refine zr_ige (x := nI i) (y := g 1) i N rfl hN (by omega) (by omega) (t := (89, [some (.ref 0), some (.int (nI i)), none], [], (zw_M g gl (va_up (va_up (va_up (va_up a 9 f9) 10 f10) 11 f11) 23 fm) al))) (f := (10, [some (.ref 0), some (.int (nI i)), none], [], (zw_M g gl (va_up (va_up (va_up (va_up a 9 f9) 10 f10) 11 f11) 23 fm) al))) rfl (fun h5 => ?_) (fun h5 => ?_)
  · skip
    have hfm2 : ∀ k, k < 36 → fm k = nI (zi_c P N c im m0 k) := fun k hk => (hfm k hk).trans (congrArg nI (by split; rfl; rename_i z; unfold zi_c; rw [if_neg (by omega)]))
    refine zr_go (t := (91, [some (.ref 0), some (.int 0), none], [], (zw_M g gl (va_up (va_up (va_up (va_up a 9 f9) 10 f10) 11 f11) 23 fm) al))) 2 rfl ?_
    refine zr_loop (fun zq : Nat × (Nat → Int32) => (91, [some (.ref 0), some (.int (nI zq.1)), none], [], (zw_M g gl (va_up (va_up (va_up (va_up (va_up a 1 zq.2) 9 f9) 10 f10) 11 f11) 23 fm) al))) (fun zq => zq.1 ≤ 36 ∧ ∀ t, t < zq.1 → zq.2 t = nI (zi_c P N c im m0 t)) (fun zq => 36 - zq.1) ?_ (0, a 1) ⟨by omega, fun t h => absurd h (Nat.not_lt_zero t)⟩
    rintro ⟨k, fT⟩ ⟨hk, hfT⟩ ih3
    try dsimp only at *
    refine zr_go (t := (94, [some (.ref 0), some (.int (nI k)), none], [.int 36, .int (nI k)], (zw_M g gl (va_up (va_up (va_up (va_up (va_up a 1 fT) 9 f9) 10 f10) 11 f11) 23 fm) al))) 2 rfl ?_
    refine zr_ige (x := nI k) (y := 36) k 36 rfl rfl (by omega) (by omega) (t := (115, [some (.ref 0), some (.int (nI k)), none], [], (zw_M g gl (va_up (va_up (va_up (va_up (va_up a 1 fT) 9 f9) 10 f10) 11 f11) 23 fm) al))) (f := (97, [some (.ref 0), some (.int (nI k)), none], [], (zw_M g gl (va_up (va_up (va_up (va_up (va_up a 1 fT) 9 f9) 10 f10) 11 f11) 23 fm) al))) rfl (fun h6 => ?_) (fun h6 => ?_)
    · skip
      have e1 : k = 36 := by omega
      subst e1
      refine zr_go (t := (116, [some (.ref 0), some (.int (nI 36)), none], [.ref 0], (zw_M g gl (va_up (va_up (va_up (va_up (va_up a 1 fT) 9 f9) 10 f10) 11 f11) 23 fm) al))) 1 rfl ?_
      refine zr_call (t := (119, [some (.ref 0), some (.int (nI 36)), none], [], (zw_M g gl (va_up (va_up (va_up (va_up (va_up a 1 fT) 9 f9) 10 f10) 11 f11) 23 fm) al))) rfl (Nat.le_of_ble_eq_true rfl : 8 ≤ 8) (zs_M_layNewW g gl (va_up (va_up (va_up (va_up (va_up a 1 fT) 9 f9) 10 f10) 11 f11) 23 fm) al hG P N (zi_c P N c im m0) hok ⟨hP, hN, hP0, hP5, hN6, hfT, h4⟩ hRR hnum) ?_
      rintro _ _ ⟨rfl, x10, x11, x12, x14, x25, f5, f6, f7, b9, b10, b11, f12, f13, f14, f16, rfl, hnew, hch0, hch1, hx10⟩
      show zm_Run zt_get 8 zt_M_change (119, [some (.ref 0), some (.int (nI 36)), none], [], (zw_M (upd (upd (upd (upd (upd g 10 x10) 11 x11) 12 x12) 14 x14) 25 x25) gl (va_up (va_up (va_up (va_up (va_up (va_up (va_up (va_up (va_up (va_up (va_up (va_up a 1 fT) 5 f5) 6 f6) 7 f7) 9 b9) 10 b10) 11 b11) 12 f12) 13 f13) 14 f14) 16 f16) 23 fm) al)) _
      refine zr_go (t := (123, [some (.ref 0), some (.int (nI 36)), none], [.int x10], (zw_M (upd (upd (upd (upd (upd g 10 x10) 11 x11) 12 x12) 14 x14) 25 x25) gl (va_up (va_up (va_up (va_up (va_up (va_up (va_up (va_up (va_up (va_up (va_up (va_up a 1 fT) 5 f5) 6 f6) 7 f7) 9 b9) 10 b10) 11 b11) 12 f12) 13 f13) 14 f14) 16 f16) 23 fm) al))) 2 rfl ?_
      exact zr_ret rfl trivial ⟨by rw [hx10], fT, fm, x10, x11, x12, x14, x25, f5, f6, f7, b9, b10, b11, f12, f13, f14, f16, rfl, hnew, hch0, hch1, hfm2, h4⟩
    · skip
      refine zr_go (t := (107, [some (.ref 0), some (.int (nI k)), none], [.int (nI k), .ref 23, .int (nI k), .ref 1], (zw_M g gl (va_up (va_up (va_up (va_up (va_up a 1 fT) 9 f9) 10 f10) 11 f11) 23 fm) al))) 6 rfl ?_
      refine zr_cd (t := (108, [some (.ref 0), some (.int (nI k)), none], [.int (fm (nI k).toNatClampNeg), .int (nI k), .ref 1], (zw_M g gl (va_up (va_up (va_up (va_up (va_up a 1 fT) 9 f9) 10 f10) 11 f11) 23 fm) al))) rfl (pk_in k 36 (by omega) rfl (by omega)) ?_
      rw [pk_cl (x := (nI k)) k rfl (by omega)]
      rw [show fm k = nI (zi_c P N c im m0 k) from hfm2 k (by omega)]
      refine zr_cd (t := (109, [some (.ref 0), some (.int (nI k)), none], [], (zw_M g gl (va_up (va_up (va_up (va_up (va_up a 1 (upd fT ((nI k).toNatClampNeg) (nI (zi_c P N c im m0 k)))) 9 f9) 10 f10) 11 f11) 23 fm) al))) rfl (pk_in k 36 (by omega) rfl (by omega)) ?_
      rw [pk_cl (x := (nI k)) k rfl (by omega)]
      refine zr_go (t := (91, [some (.ref 0), some (.int ((nI k) + 1)), none], [], (zw_M g gl (va_up (va_up (va_up (va_up (va_up a 1 (upd fT k (nI (zi_c P N c im m0 k)))) 9 f9) 10 f10) 11 f11) 23 fm) al))) 2 rfl ?_
      rw [show (nI k) + 1 = nI (k + 1) from (zn_add rfl rfl)]
      exact ih3 (k + 1, (upd fT k (nI (zi_c P N c im m0 k)))) ⟨by omega, lt_s (fun t ht => (pk_un (Nat.ne_of_lt ht)).trans (hfT t ht)) pk_us⟩ (by omega)
  · skip
    refine zr_go (t := (12, [some (.ref 0), some (.int (nI i)), some (.int (nI i))], [], (zw_M g gl (va_up (va_up (va_up (va_up a 9 f9) 10 f10) 11 f11) 23 fm) al))) 2 rfl ?_
    refine zr_loop (fun zq : Nat × (Nat → Int32) × (Nat → Int32) × (Nat → Int32) × (Nat → Int32) => (12, [some (.ref 0), some (.int (nI i)), some (.int (nI zq.1))], [], (zw_M g gl (va_up (va_up (va_up (va_up a 9 zq.2.1) 10 zq.2.2.1) 11 zq.2.2.2.1) 23 zq.2.2.2.2) al))) (fun zq => i ≤ zq.1 ∧ zq.1 ≤ N ∧ ∀ t, t < 36 → zq.2.2.2.2 t = nI (if t / 6 < i ∨ (t / 6 = i ∧ t % 6 < zq.1) then zi_c P N c im m0 t else m0 t)) (fun zq => N - zq.1) ?_ (i, f9, f10, f11, fm) ⟨Nat.le_refl _, by omega, fun t z => (hfm t z).trans (congrArg nI (by by_cases q : t / 6 < i; rw [if_pos q, if_pos (Or.inl q)]; rw [if_neg q]; split; unfold zi_c; rw [if_neg (by omega)]; rfl))⟩
    rintro ⟨j, d9, d10, d11, fU⟩ ⟨hij, hj, hfU⟩ ih2
    try dsimp only at *
    refine zr_go (t := (17, [some (.ref 0), some (.int (nI i)), some (.int (nI j))], [.int (g 1), .int (nI j)], (zw_M g gl (va_up (va_up (va_up (va_up a 9 d9) 10 d10) 11 d11) 23 fU) al))) 3 rfl ?_
    refine zr_ige (x := nI j) (y := g 1) j N rfl hN (by omega) (by omega) (t := (83, [some (.ref 0), some (.int (nI i)), some (.int (nI j))], [], (zw_M g gl (va_up (va_up (va_up (va_up a 9 d9) 10 d10) 11 d11) 23 fU) al))) (f := (20, [some (.ref 0), some (.int (nI i)), some (.int (nI j))], [], (zw_M g gl (va_up (va_up (va_up (va_up a 9 d9) 10 d10) 11 d11) 23 fU) al))) rfl (fun h6 => ?_) (fun h6 => ?_)
    · skip
      refine zr_go (t := (2, [some (.ref 0), some (.int ((nI i) + 1)), some (.int (nI j))], [], (zw_M g gl (va_up (va_up (va_up (va_up a 9 d9) 10 d10) 11 d11) 23 fU) al))) 2 rfl ?_
      rw [show (nI i) + 1 = nI (i + 1) from (zn_add rfl rfl)]
      refine zr_forget [some (.ref 0), some (.int (nI (i + 1))), none] ⟨Or.inr rfl, Or.inr rfl, Or.inl rfl, trivial⟩ ?_
      exact ih (i + 1, d9, d10, d11, fU) ⟨by omega, fun t z => (hfU t z).trans (congrArg nI (by by_cases q : t / 6 < i + 1; rw [if_pos q]; split; rfl; unfold zi_c; rw [if_neg (by omega)]; rw [if_neg q, if_neg (by omega)]))⟩ (by omega)
    · skip
      refine zr_go (t := (26, [some (.ref 0), some (.int (nI i)), some (.int (nI j))], [.ref 9, .int (nI i), .ref 0], (zw_M g gl (va_up (va_up (va_up (va_up a 9 d9) 10 d10) 11 d11) 23 fU) al))) 4 rfl ?_
      refine zr_call (t := (29, [some (.ref 0), some (.int (nI i)), some (.int (nI j))], [], (zw_M g gl (va_up (va_up (va_up (va_up a 9 d9) 10 d10) 11 d11) 23 fU) al))) rfl (Nat.le_of_ble_eq_true rfl : 1 ≤ 8) (zs_M_takeImage_9 g gl (va_up (va_up (va_up (va_up a 9 d9) 10 d10) 11 d11) 23 fU) al i (by omega)) ?_
      rintro _ _ ⟨rfl, e9, rfl, he9⟩
      show zm_Run zt_get 8 zt_M_change (29, [some (.ref 0), some (.int (nI i)), some (.int (nI j))], [], (zw_M g gl (va_up (va_up (va_up (va_up a 9 e9) 10 d10) 11 d11) 23 fU) al)) _
      refine zr_go (t := (35, [some (.ref 0), some (.int (nI i)), some (.int (nI j))], [.ref 10, .int (nI j), .ref 0], (zw_M g gl (va_up (va_up (va_up (va_up a 9 e9) 10 d10) 11 d11) 23 fU) al))) 4 rfl ?_
      refine zr_call (t := (38, [some (.ref 0), some (.int (nI i)), some (.int (nI j))], [], (zw_M g gl (va_up (va_up (va_up (va_up a 9 e9) 10 d10) 11 d11) 23 fU) al))) rfl (Nat.le_of_ble_eq_true rfl : 1 ≤ 8) (zs_M_takeImage_10 g gl (va_up (va_up (va_up (va_up a 9 e9) 10 d10) 11 d11) 23 fU) al j (by omega)) ?_
      rintro _ _ ⟨rfl, e10, rfl, he10⟩
      show zm_Run zt_get 8 zt_M_change (38, [some (.ref 0), some (.int (nI i)), some (.int (nI j))], [], (zw_M g gl (va_up (va_up (va_up (va_up a 9 e9) 10 e10) 11 d11) 23 fU) al)) _
      have hr1 : ∀ t, t < 6 → e9 t = nI (zi_row im i t) := fun t ht => (he9 t ht).trans (him _ (by omega))
      have hr2 : ∀ t, t < 6 → e10 t = nI (zi_row im j t) := fun t ht => (he10 t ht).trans (him _ (by omega))
      have hr3 : ∀ t, t < 6 → zi_row im i t ≤ 4 := fun t ht => him4 _ (by omega)
      have hr4 : ∀ t, t < 6 → zi_row im j t ≤ 4 := fun t ht => him4 _ (by omega)
      refine zr_go (t := (50, [some (.ref 0), some (.int (nI i)), some (.int (nI j))], [.int (nI j), .int (nI i), .int ((6 * (nI i)) + (nI j)), .ref 23], (zw_M g gl (va_up (va_up (va_up (va_up a 9 e9) 10 e10) 11 d11) 23 fU) al))) 9 rfl ?_
      refine zr_ine (x := nI i) (y := nI j) i j rfl rfl (by omega) (by omega) (t := (64, [some (.ref 0), some (.int (nI i)), some (.int (nI j))], [.int ((6 * (nI i)) + (nI j)), .ref 23], (zw_M g gl (va_up (va_up (va_up (va_up a 9 e9) 10 e10) 11 d11) 23 fU) al))) (f := (53, [some (.ref 0), some (.int (nI i)), some (.int (nI j))], [.int ((6 * (nI i)) + (nI j)), .ref 23], (zw_M g gl (va_up (va_up (va_up (va_up a 9 e9) 10 e10) 11 d11) 23 fU) al))) rfl (fun h7 => ?_) (fun h7 => ?_)
      · skip
        refine zr_go (t := (73, [some (.ref 0), some (.int (nI i)), some (.int (nI j))], [.ref 10, .ref 9, .ref 0, .int ((6 * (nI i)) + (nI j)), .ref 23], (zw_M g gl (va_up (va_up (va_up (va_up a 9 e9) 10 e10) 11 d11) 23 fU) al))) 5 rfl ?_
        refine zr_call (t := (76, [some (.ref 0), some (.int (nI i)), some (.int (nI j))], [.int ((6 * (nI i)) + (nI j)), .ref 23], (zw_M g gl (va_up (va_up (va_up (va_up a 9 e9) 10 e10) 11 d11) 23 fU) al))) rfl (Nat.le_of_ble_eq_true rfl : 2 ≤ 8) (zs_M_polarOf g gl (va_up (va_up (va_up (va_up a 9 e9) 10 e10) 11 d11) 23 fU) al P N c hFF (zi_row im i) (zi_row im j) hr1 hr3 hr2 hr4) ?_
        rintro _ _ ⟨rfl, e11, rfl⟩
        show zm_Run zt_get 8 zt_M_change (76, [some (.ref 0), some (.int (nI i)), some (.int (nI j))], [.int (nI (zv_pol P N c (zi_row im i) (zi_row im j))), .int ((6 * (nI i)) + (nI j)), .ref 23], (zw_M g gl (va_up (va_up (va_up (va_up a 9 e9) 10 e10) 11 e11) 23 fU) al)) _
        refine zr_cd (t := (77, [some (.ref 0), some (.int (nI i)), some (.int (nI j))], [], (zw_M g gl (va_up (va_up (va_up (va_up a 9 e9) 10 e10) 11 e11) 23 (upd fU (((6 * (nI i)) + (nI j)).toNatClampNeg) (nI (zv_pol P N c (zi_row im i) (zi_row im j))))) al))) rfl (pk_in ((6 * i) + j) 36 (by omega) (zn_add (zn_mul rfl rfl) rfl) (by omega)) ?_
        rw [pk_cl (x := ((6 * (nI i)) + (nI j))) ((6 * i) + j) (zn_add (zn_mul rfl rfl) rfl) (by omega)]
        refine zr_go (t := (12, [some (.ref 0), some (.int (nI i)), some (.int ((nI j) + 1))], [], (zw_M g gl (va_up (va_up (va_up (va_up a 9 e9) 10 e10) 11 e11) 23 (upd fU ((6 * i) + j) (nI (zv_pol P N c (zi_row im i) (zi_row im j))))) al))) 2 rfl ?_
        rw [show (nI j) + 1 = nI (j + 1) from (zn_add rfl rfl)]
        exact ih2 (j + 1, e9, e10, e11, (upd fU ((6 * i) + j) (nI (zv_pol P N c (zi_row im i) (zi_row im j))))) ⟨by omega, by omega, fun t z => if e : t = 6 * i + j then by subst e; exact pk_us.trans (congrArg nI (by rw [if_pos (by omega)]; unfold zi_c; rw [if_pos (by omega), show (6 * i + j) / 6 = i by omega, show (6 * i + j) % 6 = j by omega, if_neg h7])) else (pk_un e).trans ((hfU t z).trans (congrArg nI (by by_cases q : t / 6 < i ∨ (t / 6 = i ∧ t % 6 < j); rw [if_pos q, if_pos (by omega)]; rw [if_neg q, if_neg (by omega)])))⟩ (by omega)
      · skip
        refine zr_go (t := (58, [some (.ref 0), some (.int (nI i)), some (.int (nI j))], [.ref 9, .ref 0, .int ((6 * (nI i)) + (nI j)), .ref 23], (zw_M g gl (va_up (va_up (va_up (va_up a 9 e9) 10 e10) 11 d11) 23 fU) al))) 3 rfl ?_
        refine zr_call (t := (61, [some (.ref 0), some (.int (nI i)), some (.int (nI j))], [.int ((6 * (nI i)) + (nI j)), .ref 23], (zw_M g gl (va_up (va_up (va_up (va_up a 9 e9) 10 e10) 11 d11) 23 fU) al))) rfl (Nat.le_of_ble_eq_true rfl : 1 ≤ 8) (zs_M_valueOf_9 g gl (va_up (va_up (va_up (va_up a 9 e9) 10 e10) 11 d11) 23 fU) al P N c (zi_row im i) hP hN hP0 hP5 hN6 hc hr1 hc4 hr3) ?_
        rintro _ _ ⟨rfl, rfl⟩
        show zm_Run zt_get 8 zt_M_change (61, [some (.ref 0), some (.int (nI i)), some (.int (nI j))], [.int (nI (zv_val P N c (zi_row im i))), .int ((6 * (nI i)) + (nI j)), .ref 23], (zw_M g gl (va_up (va_up (va_up (va_up a 9 e9) 10 e10) 11 d11) 23 fU) al)) _
        refine zr_go (t := (76, [some (.ref 0), some (.int (nI i)), some (.int (nI j))], [.int (nI (zv_val P N c (zi_row im i))), .int ((6 * (nI i)) + (nI j)), .ref 23], (zw_M g gl (va_up (va_up (va_up (va_up a 9 e9) 10 e10) 11 d11) 23 fU) al))) 1 rfl ?_
        refine zr_cd (t := (77, [some (.ref 0), some (.int (nI i)), some (.int (nI j))], [], (zw_M g gl (va_up (va_up (va_up (va_up a 9 e9) 10 e10) 11 d11) 23 (upd fU (((6 * (nI i)) + (nI j)).toNatClampNeg) (nI (zv_val P N c (zi_row im i))))) al))) rfl (pk_in ((6 * i) + j) 36 (by omega) (zn_add (zn_mul rfl rfl) rfl) (by omega)) ?_
        rw [pk_cl (x := ((6 * (nI i)) + (nI j))) ((6 * i) + j) (zn_add (zn_mul rfl rfl) rfl) (by omega)]
        refine zr_go (t := (12, [some (.ref 0), some (.int (nI i)), some (.int ((nI j) + 1))], [], (zw_M g gl (va_up (va_up (va_up (va_up a 9 e9) 10 e10) 11 d11) 23 (upd fU ((6 * i) + j) (nI (zv_val P N c (zi_row im i))))) al))) 2 rfl ?_
        rw [show (nI j) + 1 = nI (j + 1) from (zn_add rfl rfl)]
        exact ih2 (j + 1, e9, e10, d11, (upd fU ((6 * i) + j) (nI (zv_val P N c (zi_row im i))))) ⟨by omega, by omega, fun t z => if e : t = 6 * i + j then by subst e; exact pk_us.trans (congrArg nI (by rw [if_pos (by omega)]; unfold zi_c; rw [if_pos (by omega), show (6 * i + j) / 6 = i by omega, show (6 * i + j) % 6 = j by omega, if_pos h7])) else (pk_un e).trans ((hfU t z).trans (congrArg nI (by by_cases q : t / 6 < i ∨ (t / 6 = i ∧ t % 6 < j); rw [if_pos q, if_pos (by omega)]; rw [if_neg q, if_neg (by omega)])))⟩ (by omega)
