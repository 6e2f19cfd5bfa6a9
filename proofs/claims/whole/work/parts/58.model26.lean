/-! the reference: the search (written by wip/whole/gen_m26.py) -/
theorem zy_nlt {e : Nat} (h : e < 2 ^ 31) : ¬ nI e < 0 := by
  rw [Int32.lt_iff_toInt_lt, nI_toInt h, show (0 : Int32).toInt = 0 from rfl]; omega
theorem zy_I0 {can : Nat → Int64} {m w most : Nat} {x : Int64} {F : Nat → Int64} {T : Nat → Int32} (hx : zy_sub w x) (hne : x ≠ zy_all w) : zy_I can m w most x 0 1 0 (fun _ => 0) (vp_updL F 0 x) (upd T 0 (-1)) := by
  refine ⟨rfl, fun j hj => ?_, ?_, Nat.zero_le _⟩
  · have e : j = 0 := by omega
    subst e
    rw [pk_us, pk_uLs]
    exact ⟨rfl, Nat.zero_le _, hx, hne, Nat.zero_le _⟩
  · show 0 + (0 + zy_R (zy_f can m (zy_all w) 63 (vp_updL F 0 x 0)) 0 m) = _
    rw [Nat.zero_add, Nat.zero_add, zy_R_0, pk_uLs]; rfl
theorem zs_M_waysFrom (g : Nat → Int32) (gl : Nat → Int64) (a : Nat → Nat → Int32) (al : Nat → Nat → Int64) (m : Nat) (hm : g 31 = nI m) (hm1 : m ≤ 64) (w most : Nat) (hw : w < 62) (hmost : most ≤ 2 ^ 30) (x : Int64) (hx : zy_sub w x) (hcan : ∀ t, t < m → zy_sub w (al 18 t)) : zm_Ev zt_get 3 192 [.ref 0, .long x, .int (nI w), .int (nI most)] (zw_M g gl a al) (fun v w1 => v = some (.int (nI (zy_ways (al 18) m w most x))) ∧ ∃ (T : Nat → Int32) (F : Nat → Int64), w1 = (zw_M g gl (va_up a 20 T) (va_up al 21 F))) := by
  refine zr_ev zt_M_waysFrom rfl rfl ?_
  show zm_Run zt_get 2 zt_M_waysFrom (0, [some (.ref 0), some (.long x), none, some (.int (nI w)), some (.int (nI most)), none, none, none, none], [], (zw_M g gl a al)) _
  refine zr_go (t := (5, [some (.ref 0), some (.long x), none, some (.int (nI w)), some (.int (nI most)), none, none, none, none], [.long ((1 <<< ((nI w).toInt64 &&& 63)) - 1)], (zw_M g gl a al))) 5 rfl ?_
  rw [show (1 <<< ((nI w).toInt64 &&& 63)) - 1 = zy_all w from rfl]
  refine zr_go (t := (11, [some (.ref 0), some (.long x), none, some (.int (nI w)), some (.int (nI most)), some (.long (zy_all w)), none, none, none], [.int (lg_cmp x (zy_all w))], (zw_M g gl a al))) 4 rfl ?_
  refine zr_if (c := lg_cmp x (zy_all w) = 0) (t := (14, [some (.ref 0), some (.long x), none, some (.int (nI w)), some (.int (nI most)), some (.long (zy_all w)), none, none, none], [], (zw_M g gl a al))) (f := (16, [some (.ref 0), some (.long x), none, some (.int (nI w)), some (.int (nI most)), some (.long (zy_all w)), none, none, none], [], (zw_M g gl a al))) rfl (fun h1 => ?_) (fun h1 => ?_)
  · skip
    refine zr_go (t := (15, [some (.ref 0), some (.long x), none, some (.int (nI w)), some (.int (nI most)), some (.long (zy_all w)), none, none, none], [.int 1], (zw_M g gl a al))) 1 rfl ?_
    exact zr_ret rfl trivial ⟨by unfold zy_ways; rw [if_pos ((lg_cmp_eq _ _).mp h1)]; rfl, a 20, al 21, rfl⟩
  · skip
    have hne : x ≠ zy_all w := fun e => h1 ((lg_cmp_eq _ _).mpr e)
    refine zr_go (t := (28, [some (.ref 0), some (.long x), none, some (.int (nI w)), some (.int (nI most)), some (.long (zy_all w)), none, some (.int 0), some (.int 0)], [.long x, .int 0, .ref 21], (zw_M g gl a al))) 8 rfl ?_
    refine zr_cd (t := (29, [some (.ref 0), some (.long x), none, some (.int (nI w)), some (.int (nI most)), some (.long (zy_all w)), none, some (.int 0), some (.int 0)], [], (zw_M g gl a (va_up al 21 (vp_updL (al 21) ((0 : Int32).toNatClampNeg) x))))) rfl (pk_in 0 64 (by omega) rfl (by omega)) ?_
    rw [pk_cl (x := (0 : Int32)) 0 rfl (by omega)]
    refine zr_go (t := (35, [some (.ref 0), some (.long x), none, some (.int (nI w)), some (.int (nI most)), some (.long (zy_all w)), none, some (.int 0), some (.int 0)], [.int (-1), .int 0, .ref 20], (zw_M g gl a (va_up al 21 (vp_updL (al 21) 0 x))))) 4 rfl ?_
    refine zr_cd (t := (36, [some (.ref 0), some (.long x), none, some (.int (nI w)), some (.int (nI most)), some (.long (zy_all w)), none, some (.int 0), some (.int 0)], [], (zw_M g gl (va_up a 20 (upd (a 20) ((0 : Int32).toNatClampNeg) (-1))) (va_up al 21 (vp_updL (al 21) 0 x))))) rfl (pk_in 0 64 (by omega) rfl (by omega)) ?_
    rw [pk_cl (x := (0 : Int32)) 0 rfl (by omega)]
    refine zr_loop (fun zq : Nat × Int32 × Nat × (Nat → Nat) × (Nat → Int64) × (Nat → Int32) => (36, [some (.ref 0), some (.long x), none, some (.int (nI w)), some (.int (nI most)), some (.long (zy_all w)), none, some (.int (nI zq.1)), some (.int zq.2.1)], [], (zw_M g gl (va_up a 20 zq.2.2.2.2.2) (va_up al 21 zq.2.2.2.2.1)))) (fun zq => zy_I (al 18) m w most x zq.1 zq.2.2.1 zq.2.1 zq.2.2.2.1 zq.2.2.2.2.1 zq.2.2.2.2.2) (fun zq => zy_mu (al 18) m w zq.2.2.1 zq.2.2.2.1 zq.2.2.2.2.1) ?_ (0, 0, 1, (fun _ => 0), (vp_updL (al 21) 0 x), (upd (a 20) 0 (-1))) (zy_I0 hx hne)
    rintro ⟨W, D, dep, nx, F, T⟩ hI ih
    try dsimp only at *
    refine zr_go (t := (38, [some (.ref 0), some (.long x), none, some (.int (nI w)), some (.int (nI most)), some (.long (zy_all w)), none, some (.int (nI W)), some (.int D)], [.int D], (zw_M g gl (va_up a 20 T) (va_up al 21 F)))) 1 rfl ?_
    refine zr_if (c := D < 0) (t := (172, [some (.ref 0), some (.long x), none, some (.int (nI w)), some (.int (nI most)), some (.long (zy_all w)), none, some (.int (nI W)), some (.int D)], [], (zw_M g gl (va_up a 20 T) (va_up al 21 F)))) (f := (41, [some (.ref 0), some (.long x), none, some (.int (nI w)), some (.int (nI most)), some (.long (zy_all w)), none, some (.int (nI W)), some (.int D)], [], (zw_M g gl (va_up a 20 T) (va_up al 21 F)))) rfl (fun h2 => ?_) (fun h2 => ?_)
    · skip
      have hd0 : dep = 0 := by by_cases q : dep = 0; exact q; exact absurd h2 (by obtain ⟨b, rfl⟩ : ∃ b, dep = b + 1 := ⟨dep - 1, by omega⟩; rw [(hI.deep hw).1]; exact zy_nlt (by have := (hI.deep hw).2.1; omega))
      subst hd0
      have hsum := hI.sum
      have hfew := hI.few
      refine zr_go (t := (174, [some (.ref 0), some (.long x), none, some (.int (nI w)), some (.int (nI most)), some (.long (zy_all w)), none, some (.int (nI W)), some (.int D)], [.int (nI W)], (zw_M g gl (va_up a 20 T) (va_up al 21 F)))) 1 rfl ?_
      exact zr_ret rfl trivial ⟨by unfold zy_ways; rw [if_neg hne, ← hsum]; show _ = some (Value.int (nI (min most (W + 0)))); rw [Nat.add_zero, Nat.min_eq_right hfew], T, F, rfl⟩
    · skip
      have hd1 : dep ≠ 0 := fun q => h2 (by subst q; have := hI.dep; rw [if_pos rfl] at this; rw [this]; decide)
      obtain ⟨e, rfl⟩ : ∃ e, dep = e + 1 := ⟨dep - 1, by omega⟩
      obtain ⟨hD, he, hT, hn, hsx, hnx, hpc⟩ := hI.deep hw
      subst hD
      have hfew := hI.few
      have hsum := hI.sum
      refine zr_go (t := (45, [some (.ref 0), some (.long x), none, some (.int (nI w)), some (.int (nI most)), some (.long (zy_all w)), none, some (.int (nI W)), some (.int (nI e))], [.int (nI most), .int (nI W)], (zw_M g gl (va_up a 20 T) (va_up al 21 F)))) 2 rfl ?_
      refine zr_ige (x := nI W) (y := nI most) W most rfl rfl (by omega) (by omega) (t := (172, [some (.ref 0), some (.long x), none, some (.int (nI w)), some (.int (nI most)), some (.long (zy_all w)), none, some (.int (nI W)), some (.int (nI e))], [], (zw_M g gl (va_up a 20 T) (va_up al 21 F)))) (f := (48, [some (.ref 0), some (.long x), none, some (.int (nI w)), some (.int (nI most)), some (.long (zy_all w)), none, some (.int (nI W)), some (.int (nI e))], [], (zw_M g gl (va_up a 20 T) (va_up al 21 F)))) rfl (fun h3 => ?_) (fun h3 => ?_)
      · skip
        have hWm : W = most := by omega
        refine zr_go (t := (174, [some (.ref 0), some (.long x), none, some (.int (nI w)), some (.int (nI most)), some (.long (zy_all w)), none, some (.int (nI W)), some (.int (nI e))], [.int (nI W)], (zw_M g gl (va_up a 20 T) (va_up al 21 F)))) 1 rfl ?_
        exact zr_ret rfl trivial ⟨by unfold zy_ways; rw [if_neg hne, ← hsum, Nat.min_eq_left (by rw [hWm]; exact Nat.le_add_right _ _), hWm], T, F, rfl⟩
      · skip
        refine zr_go (t := (61, [some (.ref 0), some (.long x), none, some (.int (nI w)), some (.int (nI most)), some (.long (zy_all w)), none, some (.int (nI W)), some (.int (nI e))], [.int (nI e), .ref 20, .ref 0, .int (nI e), .ref 20], (zw_M g gl (va_up a 20 T) (va_up al 21 F)))) 7 rfl ?_
        refine zr_cd (t := (62, [some (.ref 0), some (.long x), none, some (.int (nI w)), some (.int (nI most)), some (.long (zy_all w)), none, some (.int (nI W)), some (.int (nI e))], [.int (T (nI e).toNatClampNeg), .ref 0, .int (nI e), .ref 20], (zw_M g gl (va_up a 20 T) (va_up al 21 F)))) rfl (pk_in e 64 (by omega) rfl (by omega)) ?_
        rw [pk_cl (x := (nI e)) e rfl (by omega)]
        refine zr_go (t := (70, [some (.ref 0), some (.long x), none, some (.int (nI w)), some (.int (nI most)), some (.long (zy_all w)), none, some (.int (nI W)), some (.int (nI e))], [.int (nI e), .ref 21, .int ((T e) + 1), .ref 0, .int (nI e), .ref 20], (zw_M g gl (va_up a 20 T) (va_up al 21 F)))) 5 rfl ?_
        refine zr_cd (t := (71, [some (.ref 0), some (.long x), none, some (.int (nI w)), some (.int (nI most)), some (.long (zy_all w)), none, some (.int (nI W)), some (.int (nI e))], [.long (F (nI e).toNatClampNeg), .int ((T e) + 1), .ref 0, .int (nI e), .ref 20], (zw_M g gl (va_up a 20 T) (va_up al 21 F)))) rfl (pk_in e 64 (by omega) rfl (by omega)) ?_
        rw [pk_cl (x := (nI e)) e rfl (by omega)]
        rw [hT]
        obtain ⟨jm, hjm, hjx⟩ := zy_miss (by omega) hsx hnx
        obtain ⟨k, hk⟩ : ∃ k, k = zM (zy_ok (al 18) (F e)) (nx e) (m - nx e) := ⟨_, rfl⟩
        have hkm : k ≤ m := by have := (zM_ge (zy_ok (al 18) (F e)) (m - nx e) (nx e)).2.1; omega
        refine zr_call (t := (74, [some (.ref 0), some (.long x), none, some (.int (nI w)), some (.int (nI most)), some (.long (zy_all w)), none, some (.int (nI W)), some (.int (nI e))], [.int (nI e), .ref 20], (zw_M g gl (va_up a 20 T) (va_up al 21 F)))) rfl (Nat.le_of_ble_eq_true rfl : 2 ≤ 2) (zs_M_nextCan g gl (va_up a 20 T) (va_up al 21 F) m hm hm1 (nx e) hn (F e) jm (by omega) hjx) ?_
        rintro _ _ ⟨rfl, rfl⟩
        show zm_Run zt_get 2 zt_M_waysFrom (74, [some (.ref 0), some (.long x), none, some (.int (nI w)), some (.int (nI most)), some (.long (zy_all w)), none, some (.int (nI W)), some (.int (nI e))], [.int (nI (zM (zy_ok (al 18) (F e)) (nx e) (m - nx e))), .int (nI e), .ref 20], (zw_M g gl (va_up a 20 T) (va_up al 21 F))) _
        rw [← hk]
        refine zr_cd (t := (75, [some (.ref 0), some (.long x), none, some (.int (nI w)), some (.int (nI most)), some (.long (zy_all w)), none, some (.int (nI W)), some (.int (nI e))], [], (zw_M g gl (va_up a 20 (upd T ((nI e).toNatClampNeg) (nI k))) (va_up al 21 F)))) rfl (pk_in e 64 (by omega) rfl (by omega)) ?_
        rw [pk_cl (x := (nI e)) e rfl (by omega)]
        refine zr_go (t := (81, [some (.ref 0), some (.long x), none, some (.int (nI w)), some (.int (nI most)), some (.long (zy_all w)), none, some (.int (nI W)), some (.int (nI e))], [.int (nI e), .ref 20], (zw_M g gl (va_up a 20 (upd T e (nI k))) (va_up al 21 F)))) 3 rfl ?_
        refine zr_cd (t := (82, [some (.ref 0), some (.long x), none, some (.int (nI w)), some (.int (nI most)), some (.long (zy_all w)), none, some (.int (nI W)), some (.int (nI e))], [.int ((upd T e (nI k)) (nI e).toNatClampNeg)], (zw_M g gl (va_up a 20 (upd T e (nI k))) (va_up al 21 F)))) rfl (pk_in e 64 (by omega) rfl (by omega)) ?_
        rw [pk_cl (x := (nI e)) e rfl (by omega)]
        rw [show (upd T e (nI k)) e = nI k from pk_us]
        refine zr_go (t := (86, [some (.ref 0), some (.long x), none, some (.int (nI w)), some (.int (nI most)), some (.long (zy_all w)), none, some (.int (nI W)), some (.int (nI e))], [.int (g 31), .int (nI k)], (zw_M g gl (va_up a 20 (upd T e (nI k))) (va_up al 21 F)))) 2 rfl ?_
        refine zr_ine (x := nI k) (y := g 31) k m rfl hm (by omega) (by omega) (t := (95, [some (.ref 0), some (.long x), none, some (.int (nI w)), some (.int (nI most)), some (.long (zy_all w)), none, some (.int (nI W)), some (.int (nI e))], [], (zw_M g gl (va_up a 20 (upd T e (nI k))) (va_up al 21 F)))) (f := (89, [some (.ref 0), some (.long x), none, some (.int (nI w)), some (.int (nI most)), some (.long (zy_all w)), none, some (.int (nI W)), some (.int (nI e))], [], (zw_M g gl (va_up a 20 (upd T e (nI k))) (va_up al 21 F)))) rfl (fun h4 => ?_) (fun h4 => ?_)
        · skip
          refine zr_go (t := (101, [some (.ref 0), some (.long x), none, some (.int (nI w)), some (.int (nI most)), some (.long (zy_all w)), none, some (.int (nI W)), some (.int (nI e))], [.int (nI e), .ref 21], (zw_M g gl (va_up a 20 (upd T e (nI k))) (va_up al 21 F)))) 3 rfl ?_
          refine zr_cd (t := (102, [some (.ref 0), some (.long x), none, some (.int (nI w)), some (.int (nI most)), some (.long (zy_all w)), none, some (.int (nI W)), some (.int (nI e))], [.long (F (nI e).toNatClampNeg)], (zw_M g gl (va_up a 20 (upd T e (nI k))) (va_up al 21 F)))) rfl (pk_in e 64 (by omega) rfl (by omega)) ?_
          rw [pk_cl (x := (nI e)) e rfl (by omega)]
          refine zr_go (t := (112, [some (.ref 0), some (.long x), none, some (.int (nI w)), some (.int (nI most)), some (.long (zy_all w)), none, some (.int (nI W)), some (.int (nI e))], [.int (nI e), .ref 20, .ref 18, .long (F e)], (zw_M g gl (va_up a 20 (upd T e (nI k))) (va_up al 21 F)))) 5 rfl ?_
          refine zr_cd (t := (113, [some (.ref 0), some (.long x), none, some (.int (nI w)), some (.int (nI most)), some (.long (zy_all w)), none, some (.int (nI W)), some (.int (nI e))], [.int ((upd T e (nI k)) (nI e).toNatClampNeg), .ref 18, .long (F e)], (zw_M g gl (va_up a 20 (upd T e (nI k))) (va_up al 21 F)))) rfl (pk_in e 64 (by omega) rfl (by omega)) ?_
          rw [pk_cl (x := (nI e)) e rfl (by omega)]
          rw [show (upd T e (nI k)) e = nI k from pk_us]
          refine zr_cd (t := (114, [some (.ref 0), some (.long x), none, some (.int (nI w)), some (.int (nI most)), some (.long (zy_all w)), none, some (.int (nI W)), some (.int (nI e))], [.long ((al 18) (nI k).toNatClampNeg), .long (F e)], (zw_M g gl (va_up a 20 (upd T e (nI k))) (va_up al 21 F)))) rfl (pk_in k 64 (by omega) rfl (by omega)) ?_
          rw [pk_cl (x := (nI k)) k rfl (by omega)]
          refine zr_go (t := (118, [some (.ref 0), some (.long x), none, some (.int (nI w)), some (.int (nI most)), some (.long (zy_all w)), none, some (.int (nI W)), some (.int (nI e))], [.int (lg_cmp ((F e) ||| ((al 18) k)) (zy_all w))], (zw_M g gl (va_up a 20 (upd T e (nI k))) (va_up al 21 F)))) 3 rfl ?_
          refine zr_if (c := lg_cmp ((F e) ||| ((al 18) k)) (zy_all w) = 0) (t := (121, [some (.ref 0), some (.long x), none, some (.int (nI w)), some (.int (nI most)), some (.long (zy_all w)), none, some (.int (nI W)), some (.int (nI e))], [], (zw_M g gl (va_up a 20 (upd T e (nI k))) (va_up al 21 F)))) (f := (127, [some (.ref 0), some (.long x), none, some (.int (nI w)), some (.int (nI most)), some (.long (zy_all w)), none, some (.int (nI W)), some (.int (nI e))], [], (zw_M g gl (va_up a 20 (upd T e (nI k))) (va_up al 21 F)))) rfl (fun h5 => ?_) (fun h5 => ?_)
          · skip
            have ha := (lg_cmp_eq _ _).mp h5
            obtain ⟨hI2, hmu⟩ := hI.leaf hw hk.symm h4 h3 ha
            refine zr_go (t := (36, [some (.ref 0), some (.long x), none, some (.int (nI w)), some (.int (nI most)), some (.long (zy_all w)), none, some (.int ((nI W) + 1)), some (.int (nI e))], [], (zw_M g gl (va_up a 20 (upd T e (nI k))) (va_up al 21 F)))) 2 rfl ?_
            rw [show (nI W) + 1 = nI (W + 1) from (zn_add rfl rfl)]
            exact ih (W + 1, nI e, e + 1, zy_n1 nx e (k + 1), F, (upd T e (nI k))) hI2 (hmu)
          · skip
            have ha : F e ||| al 18 k ≠ zy_all w := fun q => h5 ((lg_cmp_eq _ _).mpr q)
            obtain ⟨hI2, hmu⟩ := hI.push hw hk.symm h4 hcan ha
            refine zr_go (t := (141, [some (.ref 0), some (.long x), none, some (.int (nI w)), some (.int (nI most)), some (.long (zy_all w)), none, some (.int (nI W)), some (.int (nI e))], [.int (nI e), .ref 21, .int ((nI e) + 1), .ref 21], (zw_M g gl (va_up a 20 (upd T e (nI k))) (va_up al 21 F)))) 8 rfl ?_
            refine zr_cd (t := (142, [some (.ref 0), some (.long x), none, some (.int (nI w)), some (.int (nI most)), some (.long (zy_all w)), none, some (.int (nI W)), some (.int (nI e))], [.long (F (nI e).toNatClampNeg), .int ((nI e) + 1), .ref 21], (zw_M g gl (va_up a 20 (upd T e (nI k))) (va_up al 21 F)))) rfl (pk_in e 64 (by omega) rfl (by omega)) ?_
            rw [pk_cl (x := (nI e)) e rfl (by omega)]
            refine zr_go (t := (152, [some (.ref 0), some (.long x), none, some (.int (nI w)), some (.int (nI most)), some (.long (zy_all w)), none, some (.int (nI W)), some (.int (nI e))], [.int (nI e), .ref 20, .ref 18, .long (F e), .int ((nI e) + 1), .ref 21], (zw_M g gl (va_up a 20 (upd T e (nI k))) (va_up al 21 F)))) 5 rfl ?_
            refine zr_cd (t := (153, [some (.ref 0), some (.long x), none, some (.int (nI w)), some (.int (nI most)), some (.long (zy_all w)), none, some (.int (nI W)), some (.int (nI e))], [.int ((upd T e (nI k)) (nI e).toNatClampNeg), .ref 18, .long (F e), .int ((nI e) + 1), .ref 21], (zw_M g gl (va_up a 20 (upd T e (nI k))) (va_up al 21 F)))) rfl (pk_in e 64 (by omega) rfl (by omega)) ?_
            rw [pk_cl (x := (nI e)) e rfl (by omega)]
            rw [show (upd T e (nI k)) e = nI k from pk_us]
            refine zr_cd (t := (154, [some (.ref 0), some (.long x), none, some (.int (nI w)), some (.int (nI most)), some (.long (zy_all w)), none, some (.int (nI W)), some (.int (nI e))], [.long ((al 18) (nI k).toNatClampNeg), .long (F e), .int ((nI e) + 1), .ref 21], (zw_M g gl (va_up a 20 (upd T e (nI k))) (va_up al 21 F)))) rfl (pk_in k 64 (by omega) rfl (by omega)) ?_
            rw [pk_cl (x := (nI k)) k rfl (by omega)]
            refine zr_go (t := (155, [some (.ref 0), some (.long x), none, some (.int (nI w)), some (.int (nI most)), some (.long (zy_all w)), none, some (.int (nI W)), some (.int (nI e))], [.long ((F e) ||| ((al 18) k)), .int ((nI e) + 1), .ref 21], (zw_M g gl (va_up a 20 (upd T e (nI k))) (va_up al 21 F)))) 1 rfl ?_
            refine zr_cd (t := (156, [some (.ref 0), some (.long x), none, some (.int (nI w)), some (.int (nI most)), some (.long (zy_all w)), none, some (.int (nI W)), some (.int (nI e))], [], (zw_M g gl (va_up a 20 (upd T e (nI k))) (va_up al 21 (vp_updL F (((nI e) + 1).toNatClampNeg) ((F e) ||| ((al 18) k))))))) rfl (pk_in (e + 1) 64 (by omega) (zn_add rfl rfl) (by omega)) ?_
            rw [pk_cl (x := ((nI e) + 1)) (e + 1) (zn_add rfl rfl) (by omega)]
            refine zr_go (t := (165, [some (.ref 0), some (.long x), none, some (.int (nI w)), some (.int (nI most)), some (.long (zy_all w)), none, some (.int (nI W)), some (.int (nI e))], [.int (-1), .int ((nI e) + 1), .ref 20], (zw_M g gl (va_up a 20 (upd T e (nI k))) (va_up al 21 (vp_updL F (e + 1) ((F e) ||| ((al 18) k))))))) 6 rfl ?_
            refine zr_cd (t := (166, [some (.ref 0), some (.long x), none, some (.int (nI w)), some (.int (nI most)), some (.long (zy_all w)), none, some (.int (nI W)), some (.int (nI e))], [], (zw_M g gl (va_up a 20 (upd (upd T e (nI k)) (((nI e) + 1).toNatClampNeg) (-1))) (va_up al 21 (vp_updL F (e + 1) ((F e) ||| ((al 18) k))))))) rfl (pk_in (e + 1) 64 (by omega) (zn_add rfl rfl) (by omega)) ?_
            rw [pk_cl (x := ((nI e) + 1)) (e + 1) (zn_add rfl rfl) (by omega)]
            refine zr_go (t := (36, [some (.ref 0), some (.long x), none, some (.int (nI w)), some (.int (nI most)), some (.long (zy_all w)), none, some (.int (nI W)), some (.int ((nI e) + 1))], [], (zw_M g gl (va_up a 20 (upd (upd T e (nI k)) (e + 1) (-1))) (va_up al 21 (vp_updL F (e + 1) ((F e) ||| ((al 18) k))))))) 2 rfl ?_
            rw [show (nI e) + 1 = nI (e + 1) from (zn_add rfl rfl)]
            exact ih (W, nI (e + 1), e + 2, zy_n1 (zy_n1 nx e (k + 1)) (e + 1) 0, (vp_updL F (e + 1) ((F e) ||| ((al 18) k))), (upd (upd T e (nI k)) (e + 1) (-1))) hI2 (hmu)
        · skip
          obtain ⟨hI2, hmu⟩ := hI.pop hw (hk.symm.trans h4) (nI k)
          refine zr_go (t := (36, [some (.ref 0), some (.long x), none, some (.int (nI w)), some (.int (nI most)), some (.long (zy_all w)), none, some (.int (nI W)), some (.int ((nI e) + (-1)))], [], (zw_M g gl (va_up a 20 (upd T e (nI k))) (va_up al 21 F)))) 2 rfl ?_
          exact ih (W, nI e + (-1), e, nx, F, (upd T e (nI k))) hI2 (hmu)
