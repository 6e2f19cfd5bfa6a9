/-! the reference: near, about (written by wip/whole/gen_m19.py) -/
theorem zs_M_isGreatest (g : Nat → Int32) (gl : Nat → Int64) (a : Nat → Nat → Int32) (al : Nat → Nat → Int64) (nl npl : Nat) (hnl : g 12 = nI nl) (hnpl : g 14 = nI npl) (hnl1 : nl ≤ 128) (hnpl1 : npl ≤ 40) (P ns on : Nat) (hP : g 0 = nI P) (hP5 : P ≤ 5) (hns : g 11 = nI ns) (hns1 : ns ≤ 156) (hon : g 10 = nI on) (hon1 : on ≤ 156) (x : Int32) : zm_Ev zt_get 3 173 [.ref 0, .int x] (zw_M g gl a al) (fun v w => v = some (.int (nI (zx_in x (zq_gm P ns on nl npl)).toNat)) ∧ w = (zw_M g gl a al)) := by
  have hgm : zq_gm P ns on nl npl ≤ 156 := by unfold zq_gm zq_fl; split; split; exact hon1; split <;> omega; omega
  refine zr_ev zt_M_isGreatest rfl rfl ?_
  show zm_Run zt_get 2 zt_M_isGreatest (0, [some (.ref 0), some (.int x)], [], (zw_M g gl a al)) _
  refine zr_go (t := (3, [some (.ref 0), some (.int x)], [.ref 0, .int 0, .int x], (zw_M g gl a al))) 3 rfl ?_
  refine zr_call (t := (6, [some (.ref 0), some (.int x)], [.int 0, .int x], (zw_M g gl a al))) rfl (Nat.le_of_ble_eq_true rfl : 2 ≤ 2) (zs_M_greatestMany g gl a al nl npl hnl hnpl hnl1 hnpl1 P ns on hP hP5 hns hns1 hon) ?_
  rintro _ _ ⟨rfl, rfl⟩
  show zm_Run zt_get 2 zt_M_isGreatest (6, [some (.ref 0), some (.int x)], [.int (nI (zq_gm P ns on nl npl)), .int 0, .int x], (zw_M g gl a al)) _
  refine zr_go (t := (8, [some (.ref 0), some (.int x)], [.int ((nI (zq_gm P ns on nl npl)) - 1), .int 0, .int x], (zw_M g gl a al))) 2 rfl ?_
  refine zr_call (t := (11, [some (.ref 0), some (.int x)], [], (zw_M g gl a al))) rfl (Nat.le_of_ble_eq_true rfl : 1 ≤ 2) (zs_M_withinI g gl a al x (nI (zq_gm P ns on nl npl)) (zq_gm P ns on nl npl) rfl (by omega)) ?_
  rintro _ _ ⟨rfl, rfl⟩
  show zm_Run zt_get 2 zt_M_isGreatest (11, [some (.ref 0), some (.int x)], [.int (nI ((zx_in x (zq_gm P ns on nl npl)).toNat))], (zw_M g gl a al)) _
  exact zr_ret rfl (zb_ok _) ⟨rfl, rfl⟩
theorem zs_M_isOnPoint (g : Nat → Int32) (gl : Nat → Int64) (a : Nat → Nat → Int32) (al : Nat → Nat → Int64) (P np : Nat) (hP : g 0 = nI P) (hP5 : P ≤ 5) (hnp : g 6 = nI np) (hnp1 : np ≤ 156) (o : Nat → Bool) (hO : zc_O a np o) (x : Int32) : zm_Ev zt_get 3 174 [.ref 0, .int x] (zw_M g gl a al) (fun v w => v = some (.int (nI (decide (0 < P) && zx_in x np && o (zx_k x)).toNat)) ∧ w = (zw_M g gl a al)) := by
  refine zr_ev zt_M_isOnPoint rfl rfl ?_
  show zm_Run zt_get 2 zt_M_isOnPoint (0, [some (.ref 0), some (.int x)], [], (zw_M g gl a al)) _
  refine zr_go (t := (2, [some (.ref 0), some (.int x)], [.int x, .ref 0], (zw_M g gl a al))) 2 rfl ?_
  refine zr_call (t := (5, [some (.ref 0), some (.int x)], [], (zw_M g gl a al))) rfl (Nat.le_of_ble_eq_true rfl : 2 ≤ 2) (zs_M_isPoint g gl a al P np hP hP5 hnp hnp1 x) ?_
  rintro _ _ ⟨rfl, rfl⟩
  show zm_Run zt_get 2 zt_M_isOnPoint (5, [some (.ref 0), some (.int x)], [.int (nI ((decide (0 < P) && zx_in x np).toNat))], (zw_M g gl a al)) _
  have hb1 := zb_le (decide (0 < P) && zx_in x np)
  refine zr_ieq (x := nI ((decide (0 < P) && zx_in x np).toNat)) (y := 0) ((decide (0 < P) && zx_in x np).toNat) 0 rfl rfl (by omega) (by omega) (t := (21, [some (.ref 0), some (.int x)], [], (zw_M g gl a al))) (f := (8, [some (.ref 0), some (.int x)], [], (zw_M g gl a al))) rfl (fun h1 => ?_) (fun h1 => ?_)
  · skip
    refine zr_go (t := (22, [some (.ref 0), some (.int x)], [.int 0], (zw_M g gl a al))) 1 rfl ?_
    exact zr_ret rfl (Or.inl rfl) ⟨by rw [zb_0 h1]; rfl, rfl⟩
  · skip
    obtain ⟨k1, k2⟩ := zx_of (Bool.and_eq_true_iff.mp (zb_1 h1)).2
    have hq := zb_1 h1
    generalize hK : zx_k x = k at k1 k2
    subst k2
    refine zr_go (t := (13, [some (.ref 0), some (.int (nI k))], [.int (nI k), .ref 5], (zw_M g gl a al))) 3 rfl ?_
    refine zr_cd (t := (14, [some (.ref 0), some (.int (nI k))], [.int ((a 5) (nI k).toNatClampNeg)], (zw_M g gl a al))) rfl (pk_in k 156 (by omega) rfl (by omega)) ?_
    rw [pk_cl (x := (nI k)) k rfl (by omega)]
    rw [show (a 5) k = nI ((o k).toNat) from hO k (by omega)]
    have hb2 := zb_le (o k)
    refine zr_ieq (x := nI ((o k).toNat)) (y := 0) ((o k).toNat) 0 rfl rfl (by omega) (by omega) (t := (21, [some (.ref 0), some (.int (nI k))], [], (zw_M g gl a al))) (f := (17, [some (.ref 0), some (.int (nI k))], [], (zw_M g gl a al))) rfl (fun h2 => ?_) (fun h2 => ?_)
    · skip
      refine zr_go (t := (22, [some (.ref 0), some (.int (nI k))], [.int 0], (zw_M g gl a al))) 1 rfl ?_
      exact zr_ret rfl (Or.inl rfl) ⟨by rw [hq, zb_0 h2]; rfl, rfl⟩
    · skip
      refine zr_go (t := (22, [some (.ref 0), some (.int (nI k))], [.int 1], (zw_M g gl a al))) 2 rfl ?_
      exact zr_ret rfl (Or.inr rfl) ⟨by rw [hq, zb_1 h2]; rfl, rfl⟩
theorem zM_none {f : Nat → Bool} {k n : Nat} (h : f k = false) : zM f k (n + 1) = zM f (k + 1) n := by
  show (if f k = true then k else zM f (k + 1) n) = _
  rw [if_neg (by rw [h]; decide)]
theorem zM_here {f : Nat → Bool} {k n : Nat} (h : f k = true) : zM f k (n + 1) = k := by
  show (if f k = true then k else zM f (k + 1) n) = _
  rw [if_pos h]
theorem zs_M_nearNow (g : Nat → Int32) (gl : Nat → Int64) (a : Nat → Nat → Int32) (al : Nat → Nat → Int64) (P N : Nat) (c : Nat → Nat) (hf : zS_f g a P N c) (hG : zG) (hs : zw_ns P N c = 0) (p f : Nat) (hp : p < zv_np P N) (hfl : f < zw_gm P N c) (z : Int32) : zm_Ev zt_get 5 175 [.ref 0, .int (nI p), .int (nI f), .int z] (zw_M g gl a al) (fun v w => v = some (.int (if z = 0 then nI (zC (zw_nr P N c p f) (zq_sz P (zw_ix P N c))) else (if zM (zw_nr P N c p f) 0 ((zq_sz P (zw_ix P N c)) - 0) < (zq_sz P (zw_ix P N c)) then nI (zw_pin P N c (zw_ix P N c) f (zM (zw_nr P N c p f) 0 ((zq_sz P (zw_ix P N c)) - 0))) else -1))) ∧ ∃ f12, w = (zw_M g gl (va_up a 12 f12) al)) := by
  obtain ⟨hok, hFF, hRR, hnum, hOO, -⟩ := id hf
  obtain ⟨hP, hN, hP0, hP5, hN6, -⟩ := id hFF
  obtain ⟨hnl, hnpl, hnl1, hnpl1, hLL⟩ := hf.sound hG hs
  obtain ⟨hA, hB, -⟩ := zv_nums hok
  have h3 : zw_ix P N c ≤ 3 := by rcases zq_ix3 (zw_nl P N c) (zw_npl P N c) with h | h | h <;> (unfold zw_ix; omega)
  have hsz := zq_sz_le (d := zw_ix P N c) hP5
  have hsz1 : 1 ≤ zq_sz P (zw_ix P N c) := by unfold zq_sz; split; omega; split <;> omega
  refine zr_ev zt_M_nearNow rfl rfl ?_
  show zm_Run zt_get 4 zt_M_nearNow (0, [some (.ref 0), some (.int (nI p)), some (.int (nI f)), some (.int z), none, none, none, none], [], (zw_M g gl a al)) _
  refine zr_go (t := (8, [some (.ref 0), some (.int (nI p)), some (.int (nI f)), some (.int z), some (.int 0), some (.int (-1)), none, none], [.ref 0, .ref 0], (zw_M g gl a al))) 6 rfl ?_
  refine zr_call (t := (11, [some (.ref 0), some (.int (nI p)), some (.int (nI f)), some (.int z), some (.int 0), some (.int (-1)), none, none], [.ref 0], (zw_M g gl a al))) rfl (Nat.le_of_ble_eq_true rfl : 1 ≤ 4) (zs_M_index g gl a al (zw_nl P N c) (zw_npl P N c) hnl hnpl hnl1 hnpl1) ?_
  rintro _ _ ⟨rfl, rfl⟩
  show zm_Run zt_get 4 zt_M_nearNow (11, [some (.ref 0), some (.int (nI p)), some (.int (nI f)), some (.int z), some (.int 0), some (.int (-1)), none, none], [.int (nI (zw_ix P N c)), .ref 0], (zw_M g gl a al)) _
  refine zr_call (t := (14, [some (.ref 0), some (.int (nI p)), some (.int (nI f)), some (.int z), some (.int 0), some (.int (-1)), none, none], [], (zw_M g gl a al))) rfl (Nat.le_of_ble_eq_true rfl : 1 ≤ 4) (zs_M_sizeOf g gl a al P hP (zw_ix P N c) h3) ?_
  rintro _ _ ⟨rfl, rfl⟩
  show zm_Run zt_get 4 zt_M_nearNow (14, [some (.ref 0), some (.int (nI p)), some (.int (nI f)), some (.int z), some (.int 0), some (.int (-1)), none, none], [.int (nI (zq_sz P (zw_ix P N c)))], (zw_M g gl a al)) _
  refine zr_go (t := (18, [some (.ref 0), some (.int (nI p)), some (.int (nI f)), some (.int z), some (.int 0), some (.int (-1)), some (.int ((nI (zq_sz P (zw_ix P N c))) - 1)), none], [], (zw_M g gl a al))) 3 rfl ?_
  rw [show nI (zq_sz P (zw_ix P N c)) - 1 = nI (zq_sz P (zw_ix P N c)) + (-1) from by rw [Int32.sub_eq_add_neg]]
  refine zr_loop (fun zq : Nat × Nat × Int32 × (Nat → Int32) => (18, [some (.ref 0), some (.int (nI p)), some (.int (nI f)), some (.int z), some (.int (nI zq.2.1)), some (.int zq.2.2.1), some (.int (nI zq.1 + (-1))), none], [], (zw_M g gl (va_up a 12 zq.2.2.2) al))) (fun zq => zq.1 ≤ (zq_sz P (zw_ix P N c)) ∧ zq.2.1 + zC (zw_nr P N c p f) zq.1 = zC (zw_nr P N c p f) (zq_sz P (zw_ix P N c)) ∧ zq.2.2.1 = (if zM (zw_nr P N c p f) zq.1 ((zq_sz P (zw_ix P N c)) - zq.1) < (zq_sz P (zw_ix P N c)) then nI (zw_pin P N c (zw_ix P N c) f (zM (zw_nr P N c p f) zq.1 ((zq_sz P (zw_ix P N c)) - zq.1))) else -1)) (fun zq => zq.1) ?_ (zq_sz P (zw_ix P N c), 0, -1, a 12) ⟨Nat.le_refl _, Nat.zero_add _, by rw [Nat.sub_self]; show _ = (if (zq_sz P (zw_ix P N c)) < (zq_sz P (zw_ix P N c)) then _ else _); rw [if_neg (Nat.lt_irrefl _)]⟩
  rintro ⟨j, A, L, f12⟩ ⟨hj, hA1, hL1⟩ ih
  try dsimp only at *
  rcases j with _ | j
  · skip
    refine zr_go (t := (20, [some (.ref 0), some (.int (nI p)), some (.int (nI f)), some (.int z), some (.int (nI A)), some (.int L), some (.int (nI 0 + (-1))), none], [.int (nI 0 + (-1))], (zw_M g gl (va_up a 12 f12) al))) 1 rfl ?_
    refine zr_if (c := (nI 0 + (-1)) < 0) (t := (65, [some (.ref 0), some (.int (nI p)), some (.int (nI f)), some (.int z), some (.int (nI A)), some (.int L), some (.int (nI 0 + (-1))), none], [], (zw_M g gl (va_up a 12 f12) al))) (f := (23, [some (.ref 0), some (.int (nI p)), some (.int (nI f)), some (.int z), some (.int (nI A)), some (.int L), some (.int (nI 0 + (-1))), none], [], (zw_M g gl (va_up a 12 f12) al))) rfl (fun h1 => ?_) (fun h1 => ?_)
    · skip
      refine zr_go (t := (66, [some (.ref 0), some (.int (nI p)), some (.int (nI f)), some (.int z), some (.int (nI A)), some (.int L), some (.int (nI 0 + (-1))), none], [.int z], (zw_M g gl (va_up a 12 f12) al))) 1 rfl ?_
      refine zr_if (c := z = 0) (t := (69, [some (.ref 0), some (.int (nI p)), some (.int (nI f)), some (.int z), some (.int (nI A)), some (.int L), some (.int (nI 0 + (-1))), none], [], (zw_M g gl (va_up a 12 f12) al))) (f := (74, [some (.ref 0), some (.int (nI p)), some (.int (nI f)), some (.int z), some (.int (nI A)), some (.int L), some (.int (nI 0 + (-1))), none], [], (zw_M g gl (va_up a 12 f12) al))) rfl (fun h2 => ?_) (fun h2 => ?_)
      · skip
        refine zr_go (t := (76, [some (.ref 0), some (.int (nI p)), some (.int (nI f)), some (.int z), some (.int (nI A)), some (.int L), some (.int (nI 0 + (-1))), none], [.int (nI A)], (zw_M g gl (va_up a 12 f12) al))) 2 rfl ?_
        exact zr_ret rfl trivial ⟨by rw [if_pos h2, ← hA1]; rfl, f12, rfl⟩
      · skip
        refine zr_go (t := (76, [some (.ref 0), some (.int (nI p)), some (.int (nI f)), some (.int z), some (.int (nI A)), some (.int L), some (.int (nI 0 + (-1))), none], [.int L], (zw_M g gl (va_up a 12 f12) al))) 1 rfl ?_
        exact zr_ret rfl trivial ⟨by rw [if_neg h2, hL1], f12, rfl⟩
    · skip
      exact absurd (by decide : nI 0 + (-1) < (0 : Int32)) h1
  · skip
    rw [pk_m1]
    refine zr_go (t := (20, [some (.ref 0), some (.int (nI p)), some (.int (nI f)), some (.int z), some (.int (nI A)), some (.int L), some (.int (nI j)), none], [.int (nI j)], (zw_M g gl (va_up a 12 f12) al))) 1 rfl ?_
    refine zr_ilt (x := nI j) (y := 0) j 0 rfl rfl (by omega) (by omega) (t := (65, [some (.ref 0), some (.int (nI p)), some (.int (nI f)), some (.int z), some (.int (nI A)), some (.int L), some (.int (nI j)), none], [], (zw_M g gl (va_up a 12 f12) al))) (f := (23, [some (.ref 0), some (.int (nI p)), some (.int (nI f)), some (.int z), some (.int (nI A)), some (.int L), some (.int (nI j)), none], [], (zw_M g gl (va_up a 12 f12) al))) rfl (fun h1 => ?_) (fun h1 => ?_)
    · skip
      exact absurd h1 (Nat.not_lt_zero _)
    · skip
      have hpj : zw_pin P N c (zw_ix P N c) f j < zv_np P N := zw_pin_lt hok hfl (by omega)
      have hsj : (zq_sz P (zw_ix P N c)) - j = ((zq_sz P (zw_ix P N c)) - (j + 1)) + 1 := by omega
      have hCj : zC (zw_nr P N c p f) (j + 1) = zC (zw_nr P N c p f) j + ((zw_nr P N c p f) j).toNat := rfl
      refine zr_go (t := (25, [some (.ref 0), some (.int (nI p)), some (.int (nI f)), some (.int z), some (.int (nI A)), some (.int L), some (.int (nI j)), none], [.ref 0, .ref 0], (zw_M g gl (va_up a 12 f12) al))) 2 rfl ?_
      refine zr_call (t := (28, [some (.ref 0), some (.int (nI p)), some (.int (nI f)), some (.int z), some (.int (nI A)), some (.int L), some (.int (nI j)), none], [.ref 0], (zw_M g gl (va_up a 12 f12) al))) rfl (Nat.le_of_ble_eq_true rfl : 1 ≤ 4) (zs_M_index g gl (va_up a 12 f12) al (zw_nl P N c) (zw_npl P N c) hnl hnpl hnl1 hnpl1) ?_
      rintro _ _ ⟨rfl, rfl⟩
      show zm_Run zt_get 4 zt_M_nearNow (28, [some (.ref 0), some (.int (nI p)), some (.int (nI f)), some (.int z), some (.int (nI A)), some (.int L), some (.int (nI j)), none], [.int (nI (zw_ix P N c)), .ref 0], (zw_M g gl (va_up a 12 f12) al)) _
      refine zr_go (t := (31, [some (.ref 0), some (.int (nI p)), some (.int (nI f)), some (.int z), some (.int (nI A)), some (.int L), some (.int (nI j)), none], [.int (nI j), .int (nI f), .int (nI (zw_ix P N c)), .ref 0], (zw_M g gl (va_up a 12 f12) al))) 2 rfl ?_
      refine zr_call (t := (34, [some (.ref 0), some (.int (nI p)), some (.int (nI f)), some (.int z), some (.int (nI A)), some (.int L), some (.int (nI j)), none], [], (zw_M g gl (va_up a 12 f12) al))) rfl (Nat.le_of_ble_eq_true rfl : 2 ≤ 4) (zs_M_pointIn g gl (va_up a 12 f12) al (zw_nl P N c) (zw_npl P N c) hnl hnpl hnl1 hnpl1 (zv_np P N) hB (zw_oo P N c) hOO P hP5 (zw_ln P N c) (zw_pl P N c) hLL (zw_ix P N c) f j h3 hfl (by omega)) ?_
      rintro _ _ ⟨rfl, rfl⟩
      show zm_Run zt_get 4 zt_M_nearNow (34, [some (.ref 0), some (.int (nI p)), some (.int (nI f)), some (.int z), some (.int (nI A)), some (.int L), some (.int (nI j)), none], [.int (nI (zw_pin P N c (zw_ix P N c) f j))], (zw_M g gl (va_up a 12 f12) al)) _
      refine zr_go (t := (39, [some (.ref 0), some (.int (nI p)), some (.int (nI f)), some (.int z), some (.int (nI A)), some (.int L), some (.int (nI j)), some (.int (nI (zw_pin P N c (zw_ix P N c) f j)))], [.int (nI p), .int (nI (zw_pin P N c (zw_ix P N c) f j))], (zw_M g gl (va_up a 12 f12) al))) 3 rfl ?_
      refine zr_ieq (x := nI (zw_pin P N c (zw_ix P N c) f j)) (y := nI p) (zw_pin P N c (zw_ix P N c) f j) p rfl rfl (by omega) (by omega) (t := (52, [some (.ref 0), some (.int (nI p)), some (.int (nI f)), some (.int z), some (.int (nI A)), some (.int L), some (.int (nI j)), some (.int (nI (zw_pin P N c (zw_ix P N c) f j)))], [], (zw_M g gl (va_up a 12 f12) al))) (f := (42, [some (.ref 0), some (.int (nI p)), some (.int (nI f)), some (.int z), some (.int (nI A)), some (.int L), some (.int (nI j)), some (.int (nI (zw_pin P N c (zw_ix P N c) f j)))], [], (zw_M g gl (va_up a 12 f12) al))) rfl (fun h2 => ?_) (fun h2 => ?_)
      · skip
        have hit : (zw_nr P N c p f) j = true := by unfold zw_nr; simp [h2]
        refine zr_go (t := (18, [some (.ref 0), some (.int (nI p)), some (.int (nI f)), some (.int z), some (.int ((nI A) + 1)), some (.int (nI (zw_pin P N c (zw_ix P N c) f j))), some (.int ((nI j) + (-1))), some (.int (nI (zw_pin P N c (zw_ix P N c) f j)))], [], (zw_M g gl (va_up a 12 f12) al))) 5 rfl ?_
        rw [show (nI A) + 1 = nI (A + 1) from (zn_add rfl rfl)]
        refine zr_forget [some (.ref 0), some (.int (nI p)), some (.int (nI f)), some (.int z), some (.int (nI (A + 1))), some (.int (nI (zw_pin P N c (zw_ix P N c) f j))), some (.int ((nI j) + (-1))), none] ⟨Or.inr rfl, Or.inr rfl, Or.inr rfl, Or.inr rfl, Or.inr rfl, Or.inr rfl, Or.inr rfl, Or.inl rfl, trivial⟩ ?_
        exact ih (j, A + 1, nI (zw_pin P N c (zw_ix P N c) f j), f12) ⟨by omega, by show A + 1 + zC (zw_nr P N c p f) j = _; rw [hCj, hit] at hA1; have : (true).toNat = 1 := rfl; omega, by rw [hsj, zM_here hit, if_pos (by omega)]⟩ (Nat.lt_succ_self j)
      · skip
        refine zr_go (t := (46, [some (.ref 0), some (.int (nI p)), some (.int (nI f)), some (.int z), some (.int (nI A)), some (.int L), some (.int (nI j)), some (.int (nI (zw_pin P N c (zw_ix P N c) f j)))], [.int (nI p), .int (nI (zw_pin P N c (zw_ix P N c) f j)), .ref 0], (zw_M g gl (va_up a 12 f12) al))) 3 rfl ?_
        refine zr_call (t := (49, [some (.ref 0), some (.int (nI p)), some (.int (nI f)), some (.int z), some (.int (nI A)), some (.int L), some (.int (nI j)), some (.int (nI (zw_pin P N c (zw_ix P N c) f j)))], [], (zw_M g gl (va_up a 12 f12) al))) rfl (Nat.le_of_ble_eq_true rfl : 4 ≤ 4) (zs_M_isJoined g gl (va_up a 12 f12) al P N hP hN hok.1 hN6 hA hnum (zv_np P N) (zv_y P N) hRR (zw_oo P N c) hOO (zw_pin P N c (zw_ix P N c) f j) p hpj hp (zv_hv2 hok hpj hp)) ?_
        rintro _ _ ⟨rfl, e12, rfl⟩
        show zm_Run zt_get 4 zt_M_nearNow (49, [some (.ref 0), some (.int (nI p)), some (.int (nI f)), some (.int z), some (.int (nI A)), some (.int L), some (.int (nI j)), some (.int (nI (zw_pin P N c (zw_ix P N c) f j)))], [.int (nI ((zv_jn P N (zv_y P N) (zw_oo P N c) (zw_pin P N c (zw_ix P N c) f j) p).toNat))], (zw_M g gl (va_up a 12 e12) al)) _
        have hj1 := zb_le (zv_jn P N (zv_y P N) (zw_oo P N c) (zw_pin P N c (zw_ix P N c) f j) p)
        refine zr_ieq (x := nI ((zv_jn P N (zv_y P N) (zw_oo P N c) (zw_pin P N c (zw_ix P N c) f j) p).toNat)) (y := 0) ((zv_jn P N (zv_y P N) (zw_oo P N c) (zw_pin P N c (zw_ix P N c) f j) p).toNat) 0 rfl rfl (by omega) (by omega) (t := (59, [some (.ref 0), some (.int (nI p)), some (.int (nI f)), some (.int z), some (.int (nI A)), some (.int L), some (.int (nI j)), some (.int (nI (zw_pin P N c (zw_ix P N c) f j)))], [], (zw_M g gl (va_up a 12 e12) al))) (f := (52, [some (.ref 0), some (.int (nI p)), some (.int (nI f)), some (.int z), some (.int (nI A)), some (.int L), some (.int (nI j)), some (.int (nI (zw_pin P N c (zw_ix P N c) f j)))], [], (zw_M g gl (va_up a 12 e12) al))) rfl (fun h4 => ?_) (fun h4 => ?_)
        · skip
          have hno : (zw_nr P N c p f) j = false := by unfold zw_nr; rw [zb_0 h4]; simp [h2]
          refine zr_go (t := (18, [some (.ref 0), some (.int (nI p)), some (.int (nI f)), some (.int z), some (.int (nI A)), some (.int L), some (.int ((nI j) + (-1))), some (.int (nI (zw_pin P N c (zw_ix P N c) f j)))], [], (zw_M g gl (va_up a 12 e12) al))) 2 rfl ?_
          refine zr_forget [some (.ref 0), some (.int (nI p)), some (.int (nI f)), some (.int z), some (.int (nI A)), some (.int L), some (.int ((nI j) + (-1))), none] ⟨Or.inr rfl, Or.inr rfl, Or.inr rfl, Or.inr rfl, Or.inr rfl, Or.inr rfl, Or.inr rfl, Or.inl rfl, trivial⟩ ?_
          exact ih (j, A, L, e12) ⟨by omega, by rw [hCj, hno] at hA1; exact hA1, by rw [hsj, zM_none hno]; exact hL1⟩ (Nat.lt_succ_self j)
        · skip
          have hit : (zw_nr P N c p f) j = true := by unfold zw_nr; rw [zb_1 h4]; simp
          refine zr_go (t := (18, [some (.ref 0), some (.int (nI p)), some (.int (nI f)), some (.int z), some (.int ((nI A) + 1)), some (.int (nI (zw_pin P N c (zw_ix P N c) f j))), some (.int ((nI j) + (-1))), some (.int (nI (zw_pin P N c (zw_ix P N c) f j)))], [], (zw_M g gl (va_up a 12 e12) al))) 5 rfl ?_
          rw [show (nI A) + 1 = nI (A + 1) from (zn_add rfl rfl)]
          refine zr_forget [some (.ref 0), some (.int (nI p)), some (.int (nI f)), some (.int z), some (.int (nI (A + 1))), some (.int (nI (zw_pin P N c (zw_ix P N c) f j))), some (.int ((nI j) + (-1))), none] ⟨Or.inr rfl, Or.inr rfl, Or.inr rfl, Or.inr rfl, Or.inr rfl, Or.inr rfl, Or.inr rfl, Or.inl rfl, trivial⟩ ?_
          exact ih (j, A + 1, nI (zw_pin P N c (zw_ix P N c) f j), e12) ⟨by omega, by show A + 1 + zC (zw_nr P N c p f) j = _; rw [hCj, hit] at hA1; have : (true).toNat = 1 := rfl; omega, by rw [hsj, zM_here hit, if_pos (by omega)]⟩ (Nat.lt_succ_self j)
theorem zs_M_near (g : Nat → Int32) (gl : Nat → Int64) (a : Nat → Nat → Int32) (al : Nat → Nat → Int64) (hG : zG) (P N : Nat) (c : Nat → Nat) (hS : zS_F g a P N c) (x y z : Int32) : zm_Ev zt_get 6 176 [.ref 0, .int x, .int y, .int z] (zw_M g gl a al) (fun v w => v = some (.int (aw_near P N c x y z)) ∧ ∃ f12, w = (zw_M g gl (va_up a 12 f12) al)) := by
  obtain ⟨hP, hN, hnp, hP5, hN6, hnp1⟩ := hS.nums
  obtain ⟨ns, on, nl, npl, hns, hon, hnl, hnpl, hns1, hon1, hnl1, hnpl1, hz0, hzP⟩ := hS.more hG
  have hso : zw_sound P N c = (decide (0 < P) && decide (ns = 0)) := by unfold zw_sound; by_cases q : 0 < P; rw [(hzP q).1]; rw [decide_eq_false q]; rfl
  refine zr_ev zt_M_near rfl rfl ?_
  show zm_Run zt_get 5 zt_M_near (0, [some (.ref 0), some (.int x), some (.int y), some (.int z)], [], (zw_M g gl a al)) _
  refine zr_go (t := (1, [some (.ref 0), some (.int x), some (.int y), some (.int z)], [.ref 0], (zw_M g gl a al))) 1 rfl ?_
  refine zr_call (t := (4, [some (.ref 0), some (.int x), some (.int y), some (.int z)], [], (zw_M g gl a al))) rfl (Nat.le_of_ble_eq_true rfl : 1 ≤ 5) (zs_M_isSound g gl a al P ns hP hP5 hns hns1) ?_
  rintro _ _ ⟨rfl, rfl⟩
  show zm_Run zt_get 5 zt_M_near (4, [some (.ref 0), some (.int x), some (.int y), some (.int z)], [.int (nI ((decide (0 < P) && decide (ns = 0)).toNat))], (zw_M g gl a al)) _
  have hbs := zb_le (decide (0 < P) && decide (ns = 0))
  refine zr_ine (x := nI ((decide (0 < P) && decide (ns = 0)).toNat)) (y := 0) ((decide (0 < P) && decide (ns = 0)).toNat) 0 rfl rfl (by omega) (by omega) (t := (10, [some (.ref 0), some (.int x), some (.int y), some (.int z)], [], (zw_M g gl a al))) (f := (7, [some (.ref 0), some (.int x), some (.int y), some (.int z)], [], (zw_M g gl a al))) rfl (fun h1 => ?_) (fun h1 => ?_)
  · skip
    rw [zb_1 h1] at hso
    obtain ⟨hp0, hn0⟩ := Bool.and_eq_true_iff.mp (zb_1 h1)
    have hp0 := of_decide_eq_true hp0
    have hn0 := of_decide_eq_true hn0
    obtain ⟨ens, eon, e3⟩ := hzP hp0
    obtain ⟨enl, enpl⟩ := e3 hn0
    obtain ⟨hf, enp⟩ := hS.form hp0
    obtain ⟨-, -, -, -, hLL⟩ := hf.sound hG (by rw [← ens]; exact hn0)
    subst enl
    subst enpl
    subst eon
    rw [enp] at hnp hnp1
    have hgm : zq_gm P ns (zw_on P N c) (zw_nl P N c) (zw_npl P N c) = zw_gm P N c := by unfold zq_gm; rw [if_pos ⟨hp0, hn0⟩]; rfl
    refine zr_go (t := (12, [some (.ref 0), some (.int x), some (.int y), some (.int z)], [.int x, .ref 0], (zw_M g gl a al))) 2 rfl ?_
    refine zr_call (t := (15, [some (.ref 0), some (.int x), some (.int y), some (.int z)], [], (zw_M g gl a al))) rfl (Nat.le_of_ble_eq_true rfl : 3 ≤ 5) (zs_M_isOnPoint g gl a al P (zv_np P N) hP hP5 hnp hnp1 (zw_oo P N c) hf.2.2.2.2.1 x) ?_
    rintro _ _ ⟨rfl, rfl⟩
    show zm_Run zt_get 5 zt_M_near (15, [some (.ref 0), some (.int x), some (.int y), some (.int z)], [.int (nI ((decide (0 < P) && zx_in x (zv_np P N) && zw_oo P N c (zx_k x)).toNat))], (zw_M g gl a al)) _
    have hb2 := zb_le (decide (0 < P) && zx_in x (zv_np P N) && zw_oo P N c (zx_k x))
    refine zr_ieq (x := nI ((decide (0 < P) && zx_in x (zv_np P N) && zw_oo P N c (zx_k x)).toNat)) (y := 0) ((decide (0 < P) && zx_in x (zv_np P N) && zw_oo P N c (zx_k x)).toNat) 0 rfl rfl (by omega) (by omega) (t := (26, [some (.ref 0), some (.int x), some (.int y), some (.int z)], [], (zw_M g gl a al))) (f := (18, [some (.ref 0), some (.int x), some (.int y), some (.int z)], [], (zw_M g gl a al))) rfl (fun h2 => ?_) (fun h2 => ?_)
    · skip
      refine zr_go (t := (28, [some (.ref 0), some (.int x), some (.int y), some (.int z)], [.int (-101)], (zw_M g gl a al))) 1 rfl ?_
      exact zr_ret rfl trivial ⟨by unfold aw_near; rw [if_pos hso, if_neg (fun q => by have := zb_0 h2; rw [decide_eq_true hp0, q.1.1, q.1.2] at this; cases this)], a 12, rfl⟩
    · skip
      refine zr_go (t := (20, [some (.ref 0), some (.int x), some (.int y), some (.int z)], [.int y, .ref 0], (zw_M g gl a al))) 2 rfl ?_
      refine zr_call (t := (23, [some (.ref 0), some (.int x), some (.int y), some (.int z)], [], (zw_M g gl a al))) rfl (Nat.le_of_ble_eq_true rfl : 3 ≤ 5) (zs_M_isGreatest g gl a al (zw_nl P N c) (zw_npl P N c) hnl hnpl hnl1 hnpl1 P ns (zw_on P N c) hP hP5 hns hns1 hon hon1 y) ?_
      rintro _ _ ⟨rfl, rfl⟩
      show zm_Run zt_get 5 zt_M_near (23, [some (.ref 0), some (.int x), some (.int y), some (.int z)], [.int (nI ((zx_in y (zq_gm P ns (zw_on P N c) (zw_nl P N c) (zw_npl P N c))).toNat))], (zw_M g gl a al)) _
      rw [hgm]
      have hb3 := zb_le (zx_in y (zw_gm P N c))
      refine zr_ine (x := nI ((zx_in y (zw_gm P N c)).toNat)) (y := 0) ((zx_in y (zw_gm P N c)).toNat) 0 rfl rfl (by omega) (by omega) (t := (29, [some (.ref 0), some (.int x), some (.int y), some (.int z)], [], (zw_M g gl a al))) (f := (26, [some (.ref 0), some (.int x), some (.int y), some (.int z)], [], (zw_M g gl a al))) rfl (fun h3 => ?_) (fun h3 => ?_)
      · skip
        obtain ⟨q1, q2⟩ := Bool.and_eq_true_iff.mp (zb_1 h2)
        have q3 := (Bool.and_eq_true_iff.mp q1).2
        have q4 := zb_1 h3
        have hq : (zx_in x (zv_np P N) = true ∧ zw_oo P N c (zx_k x) = true) ∧ zx_in y (zw_gm P N c) = true := ⟨⟨q3, q2⟩, q4⟩
        refine zr_go (t := (32, [some (.ref 0), some (.int x), some (.int y), some (.int z)], [.int 1, .int 0, .int z], (zw_M g gl a al))) 3 rfl ?_
        refine zr_call (t := (35, [some (.ref 0), some (.int x), some (.int y), some (.int z)], [], (zw_M g gl a al))) rfl (Nat.le_of_ble_eq_true rfl : 1 ≤ 5) (zs_M_within01 g gl a al z) ?_
        rintro _ _ ⟨rfl, rfl⟩
        show zm_Run zt_get 5 zt_M_near (35, [some (.ref 0), some (.int x), some (.int y), some (.int z)], [.int (nI ((zx_in z 2).toNat))], (zw_M g gl a al)) _
        have hb4 := zb_le (zx_in z 2)
        refine zr_ieq (x := nI ((zx_in z 2).toNat)) (y := 0) ((zx_in z 2).toNat) 0 rfl rfl (by omega) (by omega) (t := (48, [some (.ref 0), some (.int x), some (.int y), some (.int z)], [], (zw_M g gl a al))) (f := (38, [some (.ref 0), some (.int x), some (.int y), some (.int z)], [], (zw_M g gl a al))) rfl (fun h4 => ?_) (fun h4 => ?_)
        · skip
          refine zr_go (t := (50, [some (.ref 0), some (.int x), some (.int y), some (.int z)], [.int (-102)], (zw_M g gl a al))) 1 rfl ?_
          exact zr_ret rfl trivial ⟨by unfold aw_near; rw [if_pos hso, if_pos hq, if_neg (by rw [zb_0 h4]; decide)], a 12, rfl⟩
        · skip
          obtain ⟨k1, k2⟩ := zx_of q3
          obtain ⟨l1, l2⟩ := zx_of q4
          generalize hK : zx_k x = k at k1 k2
          generalize hL : zx_k y = l at l1 l2
          subst k2
          subst l2
          refine zr_go (t := (42, [some (.ref 0), some (.int (nI k)), some (.int (nI l)), some (.int z)], [.int z, .int (nI l), .int (nI k), .ref 0], (zw_M g gl a al))) 4 rfl ?_
          refine zr_call (t := (45, [some (.ref 0), some (.int (nI k)), some (.int (nI l)), some (.int z)], [], (zw_M g gl a al))) rfl (Nat.le_of_ble_eq_true rfl : 5 ≤ 5) (zs_M_nearNow g gl a al P N c hf hG (by rw [← ens]; exact hn0) k l k1 l1 z) ?_
          rintro _ _ ⟨rfl, f12, rfl⟩
          show zm_Run zt_get 5 zt_M_near (45, [some (.ref 0), some (.int (nI k)), some (.int (nI l)), some (.int z)], [.int (if z = 0 then nI (zC (zw_nr P N c k l) (zq_sz P (zw_ix P N c))) else (if zM (zw_nr P N c k l) 0 ((zq_sz P (zw_ix P N c)) - 0) < (zq_sz P (zw_ix P N c)) then nI (zw_pin P N c (zw_ix P N c) l (zM (zw_nr P N c k l) 0 ((zq_sz P (zw_ix P N c)) - 0))) else -1))], (zw_M g gl (va_up a 12 f12) al)) _
          refine zr_go (t := (50, [some (.ref 0), some (.int (nI k)), some (.int (nI l)), some (.int z)], [.int (if z = 0 then nI (zC (zw_nr P N c k l) (zq_sz P (zw_ix P N c))) else (if zM (zw_nr P N c k l) 0 ((zq_sz P (zw_ix P N c)) - 0) < (zq_sz P (zw_ix P N c)) then nI (zw_pin P N c (zw_ix P N c) l (zM (zw_nr P N c k l) 0 ((zq_sz P (zw_ix P N c)) - 0))) else -1))], (zw_M g gl (va_up a 12 f12) al))) 1 rfl ?_
          exact zr_ret rfl trivial ⟨by unfold aw_near; rw [if_pos hso, if_pos hq, if_pos (zb_1 h4), hK, hL]; rfl, f12, rfl⟩
      · skip
        refine zr_go (t := (28, [some (.ref 0), some (.int x), some (.int y), some (.int z)], [.int (-101)], (zw_M g gl a al))) 1 rfl ?_
        exact zr_ret rfl trivial ⟨by unfold aw_near; rw [if_pos hso, if_neg (fun q => by have := zb_0 h3; rw [q.2] at this; cases this)], a 12, rfl⟩
  · skip
    refine zr_go (t := (9, [some (.ref 0), some (.int x), some (.int y), some (.int z)], [.int (-103)], (zw_M g gl a al))) 1 rfl ?_
    exact zr_ret rfl trivial ⟨by unfold aw_near; rw [hso, if_neg (by rw [zb_0 h1]; decide)], a 12, rfl⟩
def zw_kd (P N : Nat) (c : Nat → Nat) : Nat := zq_kd N (zw_ns P N c) (zw_nl P N c) (zw_npl P N c)
/-- a property of the form -/
def aw_ab (P N : Nat) (c : Nat → Nat) (k : Nat) : Int32 := if k = 0 then nI P else if k = 1 then nI N else if k = 2 then nI (zv_np P N) else if k = 3 then nI (zw_on P N c) else if k = 4 then nI (zw_ns P N c) else if k = 5 then nI (zw_kd P N c) else if k = 6 then zd_disc P N c else if zw_ns P N c = 0 then nI (zw_ix P N c) else -1
def aw_about (P N : Nat) (c : Nat → Nat) (x : Int32) : Int32 := if zx_in x 8 = true then (if 0 < P then aw_ab P N c (zx_k x) else -103) else -102
theorem zs_M_aboutNow (g : Nat → Int32) (gl : Nat → Int64) (a : Nat → Nat → Int32) (al : Nat → Nat → Int64) (hG : zG) (P N : Nat) (c : Nat → Nat) (hf : zS_f g a P N c) (k : Nat) (hk : k < 8) : zm_Ev zt_get 5 156 [.ref 0, .int (nI k)] (zw_M g gl a al) (fun v w => v = some (.int (aw_ab P N c k)) ∧ ∃ f, w = (zw_M g gl (va_up a 15 f) al)) := by
  have hS : zS_F g a P N c := Or.inr hf
  obtain ⟨hP, hN, hnp, hP5, hN6, hnp1⟩ := hS.nums
  obtain ⟨ns, on, nl, npl, hns, hon, hnl, hnpl, hns1, hon1, hnl1, hnpl1, hz0, hzP⟩ := hS.more hG
  obtain ⟨hok, hFF, hRR, hnum, hOO, h10, h11, -⟩ := id hf
  obtain ⟨-, -, hP0, -, -, hc, hc4⟩ := id hFF
  obtain ⟨ens, eon, e3⟩ := hzP hP0
  have hkd : zq_kd N ns nl npl = zw_kd P N c := by unfold zw_kd; rw [← ens]; by_cases q : ns = 0; rw [(e3 q).1, (e3 q).2]; unfold zq_kd; rw [if_pos (by omega), if_pos (by omega)]
  refine zr_ev zt_M_aboutNow rfl rfl ?_
  show zm_Run zt_get 4 zt_M_aboutNow (0, [some (.ref 0), some (.int (nI k))], [], (zw_M g gl a al)) _
  have hk8 : k = 0 ∨ k = 1 ∨ k = 2 ∨ k = 3 ∨ k = 4 ∨ k = 5 ∨ k = 6 ∨ k = 7 := by omega
  rcases hk8 with rfl | rfl | rfl | rfl | rfl | rfl | rfl | rfl
  · skip
    refine zr_go (t := (1, [some (.ref 0), some (.int (nI 0))], [.int (nI 0)], (zw_M g gl a al))) 1 rfl ?_
    refine zr_step (c := none) (t := ((zm_sw 1 78 0 6 #[43, 48, 53, 58, 63, 68, 73] (nI 0)), [some (.ref 0), some (.int (nI 0))], [], (zw_M g gl a al))) rfl trivial ?_
    rw [show zm_sw 1 78 0 6 #[43, 48, 53, 58, 63, 68, 73] (nI 0) = 44 from by decide]
    refine zr_go (t := (48, [some (.ref 0), some (.int (nI 0))], [.int (g 0)], (zw_M g gl a al))) 2 rfl ?_
    exact zr_ret rfl trivial ⟨by rw [hP]; rfl, a 15, rfl⟩
  · skip
    refine zr_go (t := (1, [some (.ref 0), some (.int (nI 1))], [.int (nI 1)], (zw_M g gl a al))) 1 rfl ?_
    refine zr_step (c := none) (t := ((zm_sw 1 78 0 6 #[43, 48, 53, 58, 63, 68, 73] (nI 1)), [some (.ref 0), some (.int (nI 1))], [], (zw_M g gl a al))) rfl trivial ?_
    rw [show zm_sw 1 78 0 6 #[43, 48, 53, 58, 63, 68, 73] (nI 1) = 49 from by decide]
    refine zr_go (t := (53, [some (.ref 0), some (.int (nI 1))], [.int (g 1)], (zw_M g gl a al))) 2 rfl ?_
    exact zr_ret rfl trivial ⟨by rw [hN]; rfl, a 15, rfl⟩
  · skip
    refine zr_go (t := (1, [some (.ref 0), some (.int (nI 2))], [.int (nI 2)], (zw_M g gl a al))) 1 rfl ?_
    refine zr_step (c := none) (t := ((zm_sw 1 78 0 6 #[43, 48, 53, 58, 63, 68, 73] (nI 2)), [some (.ref 0), some (.int (nI 2))], [], (zw_M g gl a al))) rfl trivial ?_
    rw [show zm_sw 1 78 0 6 #[43, 48, 53, 58, 63, 68, 73] (nI 2) = 54 from by decide]
    refine zr_go (t := (58, [some (.ref 0), some (.int (nI 2))], [.int (g 6)], (zw_M g gl a al))) 2 rfl ?_
    exact zr_ret rfl trivial ⟨by rw [hRR.1]; rfl, a 15, rfl⟩
  · skip
    refine zr_go (t := (1, [some (.ref 0), some (.int (nI 3))], [.int (nI 3)], (zw_M g gl a al))) 1 rfl ?_
    refine zr_step (c := none) (t := ((zm_sw 1 78 0 6 #[43, 48, 53, 58, 63, 68, 73] (nI 3)), [some (.ref 0), some (.int (nI 3))], [], (zw_M g gl a al))) rfl trivial ?_
    rw [show zm_sw 1 78 0 6 #[43, 48, 53, 58, 63, 68, 73] (nI 3) = 59 from by decide]
    refine zr_go (t := (63, [some (.ref 0), some (.int (nI 3))], [.int (g 10)], (zw_M g gl a al))) 2 rfl ?_
    exact zr_ret rfl trivial ⟨by rw [h10]; rfl, a 15, rfl⟩
  · skip
    refine zr_go (t := (1, [some (.ref 0), some (.int (nI 4))], [.int (nI 4)], (zw_M g gl a al))) 1 rfl ?_
    refine zr_step (c := none) (t := ((zm_sw 1 78 0 6 #[43, 48, 53, 58, 63, 68, 73] (nI 4)), [some (.ref 0), some (.int (nI 4))], [], (zw_M g gl a al))) rfl trivial ?_
    rw [show zm_sw 1 78 0 6 #[43, 48, 53, 58, 63, 68, 73] (nI 4) = 64 from by decide]
    refine zr_go (t := (68, [some (.ref 0), some (.int (nI 4))], [.int (g 11)], (zw_M g gl a al))) 2 rfl ?_
    exact zr_ret rfl trivial ⟨by rw [h11]; rfl, a 15, rfl⟩
  · skip
    refine zr_go (t := (1, [some (.ref 0), some (.int (nI 5))], [.int (nI 5)], (zw_M g gl a al))) 1 rfl ?_
    refine zr_step (c := none) (t := ((zm_sw 1 78 0 6 #[43, 48, 53, 58, 63, 68, 73] (nI 5)), [some (.ref 0), some (.int (nI 5))], [], (zw_M g gl a al))) rfl trivial ?_
    rw [show zm_sw 1 78 0 6 #[43, 48, 53, 58, 63, 68, 73] (nI 5) = 69 from by decide]
    refine zr_go (t := (70, [some (.ref 0), some (.int (nI 5))], [.ref 0], (zw_M g gl a al))) 1 rfl ?_
    refine zr_call (t := (73, [some (.ref 0), some (.int (nI 5))], [], (zw_M g gl a al))) rfl (Nat.le_of_ble_eq_true rfl : 2 ≤ 4) (zs_M_kind g gl a al nl npl hnl hnpl hnl1 hnpl1 N ns hN hN6 hns hns1) ?_
    rintro _ _ ⟨rfl, rfl⟩
    show zm_Run zt_get 4 zt_M_aboutNow (73, [some (.ref 0), some (.int (nI 5))], [.int (nI (zq_kd N ns nl npl))], (zw_M g gl a al)) _
    exact zr_ret rfl trivial ⟨by rw [hkd]; rfl, a 15, rfl⟩
  · skip
    refine zr_go (t := (1, [some (.ref 0), some (.int (nI 6))], [.int (nI 6)], (zw_M g gl a al))) 1 rfl ?_
    refine zr_step (c := none) (t := ((zm_sw 1 78 0 6 #[43, 48, 53, 58, 63, 68, 73] (nI 6)), [some (.ref 0), some (.int (nI 6))], [], (zw_M g gl a al))) rfl trivial ?_
    rw [show zm_sw 1 78 0 6 #[43, 48, 53, 58, 63, 68, 73] (nI 6) = 74 from by decide]
    refine zr_go (t := (75, [some (.ref 0), some (.int (nI 6))], [.ref 0], (zw_M g gl a al))) 1 rfl ?_
    refine zr_call (t := (78, [some (.ref 0), some (.int (nI 6))], [], (zw_M g gl a al))) rfl (Nat.le_of_ble_eq_true rfl : 4 ≤ 4) (zs_M_disc g gl a al P N hP hN hok.1 hN6 c hc hc4) ?_
    rintro _ _ ⟨rfl, f, rfl⟩
    show zm_Run zt_get 4 zt_M_aboutNow (78, [some (.ref 0), some (.int (nI 6))], [.int (zd_disc P N c)], (zw_M g gl (va_up a 15 f) al)) _
    exact zr_ret rfl trivial ⟨rfl, f, rfl⟩
  · skip
    refine zr_go (t := (1, [some (.ref 0), some (.int (nI 7))], [.int (nI 7)], (zw_M g gl a al))) 1 rfl ?_
    refine zr_step (c := none) (t := ((zm_sw 1 78 0 6 #[43, 48, 53, 58, 63, 68, 73] (nI 7)), [some (.ref 0), some (.int (nI 7))], [], (zw_M g gl a al))) rfl trivial ?_
    rw [show zm_sw 1 78 0 6 #[43, 48, 53, 58, 63, 68, 73] (nI 7) = 79 from by decide]
    refine zr_go (t := (80, [some (.ref 0), some (.int (nI 7))], [.ref 0], (zw_M g gl a al))) 1 rfl ?_
    refine zr_call (t := (83, [some (.ref 0), some (.int (nI 7))], [], (zw_M g gl a al))) rfl (Nat.le_of_ble_eq_true rfl : 1 ≤ 4) (zs_M_isSound g gl a al P ns hP hP5 hns hns1) ?_
    rintro _ _ ⟨rfl, rfl⟩
    show zm_Run zt_get 4 zt_M_aboutNow (83, [some (.ref 0), some (.int (nI 7))], [.int (nI ((decide (0 < P) && decide (ns = 0)).toNat))], (zw_M g gl a al)) _
    have hbs := zb_le (decide (0 < P) && decide (ns = 0))
    refine zr_ieq (x := nI ((decide (0 < P) && decide (ns = 0)).toNat)) (y := 0) ((decide (0 < P) && decide (ns = 0)).toNat) 0 rfl rfl (by omega) (by omega) (t := (93, [some (.ref 0), some (.int (nI 7))], [], (zw_M g gl a al))) (f := (86, [some (.ref 0), some (.int (nI 7))], [], (zw_M g gl a al))) rfl (fun h1 => ?_) (fun h1 => ?_)
    · skip
      refine zr_go (t := (94, [some (.ref 0), some (.int (nI 7))], [.int (-1)], (zw_M g gl a al))) 1 rfl ?_
      exact zr_ret rfl trivial ⟨by have q := zb_0 h1; rw [decide_eq_true hP0, Bool.true_and] at q; show _ = some (Value.int (if zw_ns P N c = 0 then _ else _)); rw [if_neg (by rw [← ens]; exact of_decide_eq_false q)], a 15, rfl⟩
    · skip
      have hn0 : ns = 0 := of_decide_eq_true (Bool.and_eq_true_iff.mp (zb_1 h1)).2
      obtain ⟨enl, enpl⟩ := e3 hn0
      refine zr_go (t := (87, [some (.ref 0), some (.int (nI 7))], [.ref 0], (zw_M g gl a al))) 1 rfl ?_
      refine zr_call (t := (90, [some (.ref 0), some (.int (nI 7))], [], (zw_M g gl a al))) rfl (Nat.le_of_ble_eq_true rfl : 1 ≤ 4) (zs_M_index g gl a al nl npl hnl hnpl hnl1 hnpl1) ?_
      rintro _ _ ⟨rfl, rfl⟩
      show zm_Run zt_get 4 zt_M_aboutNow (90, [some (.ref 0), some (.int (nI 7))], [.int (nI (zq_ix nl npl))], (zw_M g gl a al)) _
      refine zr_go (t := (94, [some (.ref 0), some (.int (nI 7))], [.int (nI (zq_ix nl npl))], (zw_M g gl a al))) 1 rfl ?_
      exact zr_ret rfl trivial ⟨by show _ = some (Value.int (if zw_ns P N c = 0 then _ else _)); rw [if_pos (by rw [← ens]; exact hn0), enl, enpl]; rfl, a 15, rfl⟩
theorem zs_M_about (g : Nat → Int32) (gl : Nat → Int64) (a : Nat → Nat → Int32) (al : Nat → Nat → Int64) (hG : zG) (P N : Nat) (c : Nat → Nat) (hS : zS_F g a P N c) (x : Int32) : zm_Ev zt_get 6 157 [.ref 0, .int x] (zw_M g gl a al) (fun v w => v = some (.int (aw_about P N c x)) ∧ ∃ f, w = (zw_M g gl (va_up a 15 f) al)) := by
  obtain ⟨hP, hN, hnp, hP5, hN6, hnp1⟩ := hS.nums
  obtain ⟨ns, on, nl, npl, hns, hon, hnl, hnpl, hns1, hon1, hnl1, hnpl1, hz0, hzP⟩ := hS.more hG
  refine zr_ev zt_M_about rfl rfl ?_
  show zm_Run zt_get 5 zt_M_about (0, [some (.ref 0), some (.int x)], [], (zw_M g gl a al)) _
  refine zr_go (t := (4, [some (.ref 0), some (.int x)], [.int 7, .int 0, .int x], (zw_M g gl a al))) 3 rfl ?_
  refine zr_call (t := (7, [some (.ref 0), some (.int x)], [], (zw_M g gl a al))) rfl (Nat.le_of_ble_eq_true rfl : 1 ≤ 5) (zs_M_withinI g gl a al x 8 8 rfl (by decide)) ?_
  rintro _ _ ⟨rfl, rfl⟩
  show zm_Run zt_get 5 zt_M_about (7, [some (.ref 0), some (.int x)], [.int (nI ((zx_in x 8).toNat))], (zw_M g gl a al)) _
  have hb1 := zb_le (zx_in x 8)
  refine zr_ine (x := nI ((zx_in x 8).toNat)) (y := 0) ((zx_in x 8).toNat) 0 rfl rfl (by omega) (by omega) (t := (13, [some (.ref 0), some (.int x)], [], (zw_M g gl a al))) (f := (10, [some (.ref 0), some (.int x)], [], (zw_M g gl a al))) rfl (fun h1 => ?_) (fun h1 => ?_)
  · skip
    refine zr_go (t := (14, [some (.ref 0), some (.int x)], [.ref 0], (zw_M g gl a al))) 1 rfl ?_
    refine zr_call (t := (17, [some (.ref 0), some (.int x)], [], (zw_M g gl a al))) rfl (Nat.le_of_ble_eq_true rfl : 1 ≤ 5) (zs_M_isForm g gl a al P hP hP5) ?_
    rintro _ _ ⟨rfl, rfl⟩
    show zm_Run zt_get 5 zt_M_about (17, [some (.ref 0), some (.int x)], [.int (nI ((decide (0 < P)).toNat))], (zw_M g gl a al)) _
    have hb2 := zb_le (decide (0 < P))
    refine zr_ieq (x := nI ((decide (0 < P)).toNat)) (y := 0) ((decide (0 < P)).toNat) 0 rfl rfl (by omega) (by omega) (t := (28, [some (.ref 0), some (.int x)], [], (zw_M g gl a al))) (f := (20, [some (.ref 0), some (.int x)], [], (zw_M g gl a al))) rfl (fun h2 => ?_) (fun h2 => ?_)
    · skip
      refine zr_go (t := (30, [some (.ref 0), some (.int x)], [.int (-103)], (zw_M g gl a al))) 1 rfl ?_
      exact zr_ret rfl trivial ⟨by unfold aw_about; rw [if_pos (zb_1 h1), if_neg (of_decide_eq_false (zb_0 h2))], a 15, rfl⟩
    · skip
      have hp0 := of_decide_eq_true (zb_1 h2)
      obtain ⟨k1, k2⟩ := zx_of (zb_1 h1)
      generalize hK : zx_k x = k at k1 k2
      subst k2
      refine zr_go (t := (22, [some (.ref 0), some (.int (nI k))], [.int (nI k), .ref 0], (zw_M g gl a al))) 2 rfl ?_
      refine zr_call (t := (25, [some (.ref 0), some (.int (nI k))], [], (zw_M g gl a al))) rfl (Nat.le_of_ble_eq_true rfl : 5 ≤ 5) (zs_M_aboutNow g gl a al hG P N c (hS.form hp0).1 k k1) ?_
      rintro _ _ ⟨rfl, f, rfl⟩
      show zm_Run zt_get 5 zt_M_about (25, [some (.ref 0), some (.int (nI k))], [.int (aw_ab P N c k)], (zw_M g gl (va_up a 15 f) al)) _
      refine zr_go (t := (30, [some (.ref 0), some (.int (nI k))], [.int (aw_ab P N c k)], (zw_M g gl (va_up a 15 f) al))) 1 rfl ?_
      exact zr_ret rfl trivial ⟨by unfold aw_about; rw [if_pos (zb_1 h1), if_pos hp0, hK], f, rfl⟩
  · skip
    refine zr_go (t := (12, [some (.ref 0), some (.int x)], [.int (-102)], (zw_M g gl a al))) 1 rfl ?_
    exact zr_ret rfl trivial ⟨by unfold aw_about; rw [if_neg (by rw [zb_0 h1]; decide)], a 15, rfl⟩
