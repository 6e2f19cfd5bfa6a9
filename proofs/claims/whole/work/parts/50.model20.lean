/-! the reference: the two lists (written by wip/whole/gen_m20.py) -/
/-- bits, one by one -/
def zL (h : Nat → Bool) : Nat → Int64
  | 0 => 0
  | n + 1 => zL h n ||| (if h n = true then 1 <<< ((nI n).toInt64 &&& 63) else 0)
def zLo (o h : Nat → Bool) : Nat → Int64
  | 0 => 0
  | n + 1 => zLo o h n ||| (if (o n && h n) = true then 1 <<< ((nI (zC o n)).toInt64 &&& 63) else 0)
def zw_has (P N : Nat) (c : Nat → Nat) (f p : Nat) : Bool := zq_has P (zv_np P N) (zw_nl P N c) (zw_npl P N c) (zw_oo P N c) (zw_ln P N c) (zw_pl P N c) f p
/-- what a point (0), a maximal flat (1) covers -/
def zw_rc (P N : Nat) (c : Nat → Nat) (q x : Nat) : Int64 := if q = 0 then zL (fun f => zw_has P N c f x) (zw_gm P N c) else zLo (zw_oo P N c) (fun p => zw_has P N c x p) (zv_np P N)
def zw_rd (P N : Nat) (c : Nat → Nat) (q : Nat) (f : Nat → Nat) : Nat → Int64
  | 0 => 0
  | k + 1 => zw_rd P N c q f k ||| zw_rc P N c q (f k)
/-- the two lists -/
def zS_l (a : Nat → Nat → Int32) (nn : Nat → Nat) (ff : Nat → Nat → Nat) : Prop := ∀ q, q < 2 → a 16 q = nI (nn q) ∧ nn q ≤ 64 ∧ ∀ k, k < nn q → a 17 (64 * q + k) = nI (ff q k)
/-- their entries are points on the quadric, maximal flats -/
def zw_ent (P N : Nat) (c : Nat → Nat) (q x : Nat) : Prop := if q = 0 then x < zv_np P N ∧ zw_oo P N c x = true else x < zw_gm P N c
theorem zs_M_hasW (g : Nat → Int32) (gl : Nat → Int64) (a : Nat → Nat → Int32) (al : Nat → Nat → Int64) (hG : zG) (P N : Nat) (c : Nat → Nat) (hf : zS_f g a P N c) (hs : zw_ns P N c = 0) (f p : Nat) (hfl : f < zw_gm P N c) (hp : p < 1000) : zm_Ev zt_get 3 149 [.ref 0, .int (nI f), .int (nI p)] (zw_M g gl a al) (fun v w => v = some (.int (nI (zw_has P N c f p).toNat)) ∧ w = zw_M g gl a al) := by
  obtain ⟨hnl, hnpl, hnl1, hnpl1, hLL⟩ := hf.sound hG hs
  obtain ⟨hP, hN, hP0, hP5, hN6, -⟩ := id hf.2.1
  exact zs_M_has g gl a al (zw_nl P N c) (zw_npl P N c) hnl hnpl hnl1 hnpl1 (zv_np P N) (zv_nums hf.1).2.1 (zw_oo P N c) hf.2.2.2.2.1 P hP5 (zw_ln P N c) (zw_pl P N c) hLL hP f p hfl hp (fun k hk => zw_pin_lt hf.1 hfl hk)
theorem zw_gm_le {g : Nat → Int32} {a : Nat → Nat → Int32} {P N : Nat} {c : Nat → Nat} (hG : zG) (hf : zS_f g a P N c) (hs : zw_ns P N c = 0) : zw_gm P N c ≤ 156 := by
  obtain ⟨hnl, hnpl, hnl1, hnpl1, -⟩ := hf.sound hG hs
  have h1 : zw_on P N c ≤ 156 := Nat.le_trans (zC_le _ _) (zv_nums hf.1).2.1
  unfold zw_gm zw_fl zq_fl
  split
  · exact h1
  · split <;> omega
theorem zs_M_gmW (g : Nat → Int32) (gl : Nat → Int64) (a : Nat → Nat → Int32) (al : Nat → Nat → Int64) (hG : zG) (P N : Nat) (c : Nat → Nat) (hf : zS_f g a P N c) (hs : zw_ns P N c = 0) : zm_Ev zt_get 2 148 [.ref 0] (zw_M g gl a al) (fun v w => v = some (.int (nI (zw_gm P N c))) ∧ w = zw_M g gl a al) := by
  obtain ⟨hnl, hnpl, hnl1, hnpl1, hLL⟩ := hf.sound hG hs
  obtain ⟨hP, hN, hP0, hP5, hN6, -⟩ := id hf.2.1
  have h := zs_M_greatestMany g gl a al (zw_nl P N c) (zw_npl P N c) hnl hnpl hnl1 hnpl1 P (zw_ns P N c) (zw_on P N c) hP hP5 hf.2.2.2.2.2.2.1 (by omega) hf.2.2.2.2.2.1
  have e : zq_gm P (zw_ns P N c) (zw_on P N c) (zw_nl P N c) (zw_npl P N c) = zw_gm P N c := by unfold zq_gm; rw [if_pos (And.intro hP0 hs)]; rfl
  rw [e] at h
  exact h
theorem zs_M_reach (g : Nat → Int32) (gl : Nat → Int64) (a : Nat → Nat → Int32) (al : Nat → Nat → Int64) (hG : zG) (P N : Nat) (c : Nat → Nat) (hf : zS_f g a P N c) (hs : zw_ns P N c = 0) (q x : Nat) (hq : q < 2) (hx : zw_ent P N c q x) : zm_Ev zt_get 4 177 [.ref 0, .int (nI q), .int (nI x)] (zw_M g gl a al) (fun v w => v = some (.long (zw_rc P N c q x)) ∧ w = (zw_M g gl a al)) := by
  obtain ⟨hok, hFF, hRR, hnum, hOO, -⟩ := id hf
  obtain ⟨hA, hB, -⟩ := zv_nums hok
  have hnp := hRR.1
  have hgm := zw_gm_le hG hf hs
  refine zr_ev zt_M_reach rfl rfl ?_
  show zm_Run zt_get 3 zt_M_reach (0, [some (.ref 0), some (.int (nI q)), some (.int (nI x)), none, none, none, none], [], (zw_M g gl a al)) _
  refine zr_go (t := (3, [some (.ref 0), some (.int (nI q)), some (.int (nI x)), some (.long 0), none, none, none], [.int (nI q)], (zw_M g gl a al))) 3 rfl ?_
  refine zr_ine (x := nI q) (y := 0) q 0 rfl rfl (by omega) (by omega) (t := (47, [some (.ref 0), some (.int (nI q)), some (.int (nI x)), some (.long 0), none, none, none], [], (zw_M g gl a al))) (f := (6, [some (.ref 0), some (.int (nI q)), some (.int (nI x)), some (.long 0), none, none, none], [], (zw_M g gl a al))) rfl (fun h1 => ?_) (fun h1 => ?_)
  · skip
    have hx1 : x < zw_gm P N c := by unfold zw_ent at hx; rw [if_neg h1] at hx; exact hx
    refine zr_go (t := (53, [some (.ref 0), some (.int (nI q)), some (.int (nI x)), some (.long 0), none, some (.int 0), some (.int 0)], [], (zw_M g gl a al))) 4 rfl ?_
    refine zr_loop (fun zq : Nat × Nat × Int64 => (53, [some (.ref 0), some (.int (nI q)), some (.int (nI x)), some (.long zq.2.2), none, some (.int (nI zq.2.1)), some (.int (nI zq.1))], [], (zw_M g gl a al))) (fun zq => zq.1 ≤ zv_np P N ∧ zq.2.1 = zC (zw_oo P N c) zq.1 ∧ zq.2.2 = zLo (zw_oo P N c) (fun t => zw_has P N c x t) zq.1) (fun zq => zv_np P N - zq.1) ?_ (0, 0, 0) ⟨by omega, rfl, rfl⟩
    rintro ⟨p, r, B⟩ ⟨hp, hr, hB2⟩ ih
    try dsimp only at *
    have ho1 := zb_le (zw_oo P N c p)
    refine zr_go (t := (59, [some (.ref 0), some (.int (nI q)), some (.int (nI x)), some (.long B), none, some (.int (nI r)), some (.int (nI p))], [.int (g 6), .int (nI p)], (zw_M g gl a al))) 3 rfl ?_
    refine zr_ige (x := nI p) (y := g 6) p (zv_np P N) rfl hnp (by omega) (by omega) (t := (119, [some (.ref 0), some (.int (nI q)), some (.int (nI x)), some (.long B), none, some (.int (nI r)), some (.int (nI p))], [], (zw_M g gl a al))) (f := (62, [some (.ref 0), some (.int (nI q)), some (.int (nI x)), some (.long B), none, some (.int (nI r)), some (.int (nI p))], [], (zw_M g gl a al))) rfl (fun h2 => ?_) (fun h2 => ?_)
    · skip
      refine zr_go (t := (120, [some (.ref 0), some (.int (nI q)), some (.int (nI x)), some (.long B), none, some (.int (nI r)), some (.int (nI p))], [.long B], (zw_M g gl a al))) 1 rfl ?_
      exact zr_ret rfl trivial ⟨by unfold zw_rc; rw [if_neg h1, hB2, show p = zv_np P N by omega], rfl⟩
    · skip
      refine zr_go (t := (69, [some (.ref 0), some (.int (nI q)), some (.int (nI x)), some (.long B), none, some (.int (nI r)), some (.int (nI p))], [.int (nI p), .ref 5, .long B], (zw_M g gl a al))) 4 rfl ?_
      refine zr_cd (t := (70, [some (.ref 0), some (.int (nI q)), some (.int (nI x)), some (.long B), none, some (.int (nI r)), some (.int (nI p))], [.int ((a 5) (nI p).toNatClampNeg), .long B], (zw_M g gl a al))) rfl (pk_in p 156 (by omega) rfl (by omega)) ?_
      rw [pk_cl (x := (nI p)) p rfl (by omega)]
      rw [show (a 5) p = nI ((zw_oo P N c p).toNat) from hOO p (by omega)]
      refine zr_ieq (x := nI ((zw_oo P N c p).toNat)) (y := 0) ((zw_oo P N c p).toNat) 0 rfl rfl (by omega) (by omega) (t := (90, [some (.ref 0), some (.int (nI q)), some (.int (nI x)), some (.long B), none, some (.int (nI r)), some (.int (nI p))], [.long B], (zw_M g gl a al))) (f := (73, [some (.ref 0), some (.int (nI q)), some (.int (nI x)), some (.long B), none, some (.int (nI r)), some (.int (nI p))], [.long B], (zw_M g gl a al))) rfl (fun h3 => ?_) (fun h3 => ?_)
      · skip
        refine zr_go (t := (93, [some (.ref 0), some (.int (nI q)), some (.int (nI x)), some (.long (B ||| 0)), none, some (.int (nI r)), some (.int (nI p))], [], (zw_M g gl a al))) 3 rfl ?_
        refine zr_go (t := (101, [some (.ref 0), some (.int (nI q)), some (.int (nI x)), some (.long (B ||| 0)), none, some (.int (nI r)), some (.int (nI p))], [.int (nI p), .ref 5, .int (nI r)], (zw_M g gl a al))) 4 rfl ?_
        refine zr_cd (t := (102, [some (.ref 0), some (.int (nI q)), some (.int (nI x)), some (.long (B ||| 0)), none, some (.int (nI r)), some (.int (nI p))], [.int ((a 5) (nI p).toNatClampNeg), .int (nI r)], (zw_M g gl a al))) rfl (pk_in p 156 (by omega) rfl (by omega)) ?_
        rw [pk_cl (x := (nI p)) p rfl (by omega)]
        rw [show (a 5) p = nI ((zw_oo P N c p).toNat) from hOO p (by omega)]
        refine zr_ieq (x := nI ((zw_oo P N c p).toNat)) (y := 0) ((zw_oo P N c p).toNat) 0 rfl rfl (by omega) (by omega) (t := (109, [some (.ref 0), some (.int (nI q)), some (.int (nI x)), some (.long (B ||| 0)), none, some (.int (nI r)), some (.int (nI p))], [.int (nI r)], (zw_M g gl a al))) (f := (105, [some (.ref 0), some (.int (nI q)), some (.int (nI x)), some (.long (B ||| 0)), none, some (.int (nI r)), some (.int (nI p))], [.int (nI r)], (zw_M g gl a al))) rfl (fun h6 => ?_) (fun h6 => ?_)
        · skip
          refine zr_go (t := (53, [some (.ref 0), some (.int (nI q)), some (.int (nI x)), some (.long (B ||| 0)), none, some (.int ((nI r) + 0)), some (.int ((nI p) + 1))], [], (zw_M g gl a al))) 5 rfl ?_
          rw [show (nI p) + 1 = nI (p + 1) from (zn_add rfl rfl)]
          rw [show (nI r) + 0 = nI (r + 0) from (zn_add rfl rfl)]
          exact ih (p + 1, r + 0, B ||| 0) ⟨by omega, by rw [hr]; show _ = _ + (zw_oo P N c p).toNat; rw [zb_0 h3]; rfl, by rw [hB2]; show _ = zLo (zw_oo P N c) (fun t => zw_has P N c x t) p ||| (if (zw_oo P N c p && zw_has P N c x p) = true then _ else _); rw [if_neg (by rw [zb_0 h3, Bool.false_and]; decide)]⟩ (by omega)
        · skip
          exfalso; omega
      · skip
        refine zr_go (t := (77, [some (.ref 0), some (.int (nI q)), some (.int (nI x)), some (.long B), none, some (.int (nI r)), some (.int (nI p))], [.int (nI p), .int (nI x), .ref 0, .long B], (zw_M g gl a al))) 3 rfl ?_
        refine zr_call (t := (80, [some (.ref 0), some (.int (nI q)), some (.int (nI x)), some (.long B), none, some (.int (nI r)), some (.int (nI p))], [.long B], (zw_M g gl a al))) rfl (Nat.le_of_ble_eq_true rfl : 3 ≤ 3) (zs_M_hasW g gl a al hG P N c hf hs x p hx1 (by omega)) ?_
        rintro _ _ ⟨rfl, rfl⟩
        show zm_Run zt_get 3 zt_M_reach (80, [some (.ref 0), some (.int (nI q)), some (.int (nI x)), some (.long B), none, some (.int (nI r)), some (.int (nI p))], [.int (nI ((zw_has P N c x p).toNat)), .long B], (zw_M g gl a al)) _
        have hh1 := zb_le (zw_has P N c x p)
        refine zr_ieq (x := nI ((zw_has P N c x p).toNat)) (y := 0) ((zw_has P N c x p).toNat) 0 rfl rfl (by omega) (by omega) (t := (90, [some (.ref 0), some (.int (nI q)), some (.int (nI x)), some (.long B), none, some (.int (nI r)), some (.int (nI p))], [.long B], (zw_M g gl a al))) (f := (83, [some (.ref 0), some (.int (nI q)), some (.int (nI x)), some (.long B), none, some (.int (nI r)), some (.int (nI p))], [.long B], (zw_M g gl a al))) rfl (fun h4 => ?_) (fun h4 => ?_)
        · skip
          refine zr_go (t := (93, [some (.ref 0), some (.int (nI q)), some (.int (nI x)), some (.long (B ||| 0)), none, some (.int (nI r)), some (.int (nI p))], [], (zw_M g gl a al))) 3 rfl ?_
          refine zr_go (t := (101, [some (.ref 0), some (.int (nI q)), some (.int (nI x)), some (.long (B ||| 0)), none, some (.int (nI r)), some (.int (nI p))], [.int (nI p), .ref 5, .int (nI r)], (zw_M g gl a al))) 4 rfl ?_
          refine zr_cd (t := (102, [some (.ref 0), some (.int (nI q)), some (.int (nI x)), some (.long (B ||| 0)), none, some (.int (nI r)), some (.int (nI p))], [.int ((a 5) (nI p).toNatClampNeg), .int (nI r)], (zw_M g gl a al))) rfl (pk_in p 156 (by omega) rfl (by omega)) ?_
          rw [pk_cl (x := (nI p)) p rfl (by omega)]
          rw [show (a 5) p = nI ((zw_oo P N c p).toNat) from hOO p (by omega)]
          refine zr_ieq (x := nI ((zw_oo P N c p).toNat)) (y := 0) ((zw_oo P N c p).toNat) 0 rfl rfl (by omega) (by omega) (t := (109, [some (.ref 0), some (.int (nI q)), some (.int (nI x)), some (.long (B ||| 0)), none, some (.int (nI r)), some (.int (nI p))], [.int (nI r)], (zw_M g gl a al))) (f := (105, [some (.ref 0), some (.int (nI q)), some (.int (nI x)), some (.long (B ||| 0)), none, some (.int (nI r)), some (.int (nI p))], [.int (nI r)], (zw_M g gl a al))) rfl (fun h6 => ?_) (fun h6 => ?_)
          · skip
            exfalso; omega
          · skip
            refine zr_go (t := (53, [some (.ref 0), some (.int (nI q)), some (.int (nI x)), some (.long (B ||| 0)), none, some (.int ((nI r) + 1)), some (.int ((nI p) + 1))], [], (zw_M g gl a al))) 6 rfl ?_
            rw [show (nI p) + 1 = nI (p + 1) from (zn_add rfl rfl)]
            rw [show (nI r) + 1 = nI (r + 1) from (zn_add rfl rfl)]
            exact ih (p + 1, r + 1, B ||| 0) ⟨by omega, by rw [hr]; show _ = _ + (zw_oo P N c p).toNat; rw [zb_1 h3]; rfl, by rw [hB2]; show _ = zLo (zw_oo P N c) (fun t => zw_has P N c x t) p ||| (if (zw_oo P N c p && zw_has P N c x p) = true then _ else _); rw [if_neg (by rw [zb_0 h4, Bool.and_false]; decide)]⟩ (by omega)
        · skip
          refine zr_go (t := (93, [some (.ref 0), some (.int (nI q)), some (.int (nI x)), some (.long (B ||| (1 <<< ((nI r).toInt64 &&& 63)))), none, some (.int (nI r)), some (.int (nI p))], [], (zw_M g gl a al))) 6 rfl ?_
          refine zr_go (t := (101, [some (.ref 0), some (.int (nI q)), some (.int (nI x)), some (.long (B ||| (1 <<< ((nI r).toInt64 &&& 63)))), none, some (.int (nI r)), some (.int (nI p))], [.int (nI p), .ref 5, .int (nI r)], (zw_M g gl a al))) 4 rfl ?_
          refine zr_cd (t := (102, [some (.ref 0), some (.int (nI q)), some (.int (nI x)), some (.long (B ||| (1 <<< ((nI r).toInt64 &&& 63)))), none, some (.int (nI r)), some (.int (nI p))], [.int ((a 5) (nI p).toNatClampNeg), .int (nI r)], (zw_M g gl a al))) rfl (pk_in p 156 (by omega) rfl (by omega)) ?_
          rw [pk_cl (x := (nI p)) p rfl (by omega)]
          rw [show (a 5) p = nI ((zw_oo P N c p).toNat) from hOO p (by omega)]
          refine zr_ieq (x := nI ((zw_oo P N c p).toNat)) (y := 0) ((zw_oo P N c p).toNat) 0 rfl rfl (by omega) (by omega) (t := (109, [some (.ref 0), some (.int (nI q)), some (.int (nI x)), some (.long (B ||| (1 <<< ((nI r).toInt64 &&& 63)))), none, some (.int (nI r)), some (.int (nI p))], [.int (nI r)], (zw_M g gl a al))) (f := (105, [some (.ref 0), some (.int (nI q)), some (.int (nI x)), some (.long (B ||| (1 <<< ((nI r).toInt64 &&& 63)))), none, some (.int (nI r)), some (.int (nI p))], [.int (nI r)], (zw_M g gl a al))) rfl (fun h6 => ?_) (fun h6 => ?_)
          · skip
            exfalso; omega
          · skip
            refine zr_go (t := (53, [some (.ref 0), some (.int (nI q)), some (.int (nI x)), some (.long (B ||| (1 <<< ((nI r).toInt64 &&& 63)))), none, some (.int ((nI r) + 1)), some (.int ((nI p) + 1))], [], (zw_M g gl a al))) 6 rfl ?_
            rw [show (nI p) + 1 = nI (p + 1) from (zn_add rfl rfl)]
            rw [show (nI r) + 1 = nI (r + 1) from (zn_add rfl rfl)]
            exact ih (p + 1, r + 1, B ||| (1 <<< ((nI r).toInt64 &&& 63))) ⟨by omega, by rw [hr]; show _ = _ + (zw_oo P N c p).toNat; rw [zb_1 h3]; rfl, by rw [hB2]; show _ = zLo (zw_oo P N c) (fun t => zw_has P N c x t) p ||| (if (zw_oo P N c p && zw_has P N c x p) = true then _ else _); rw [if_pos (by rw [zb_1 h3, zb_1 h4]; rfl), hr]⟩ (by omega)
  · skip
    have hx1 : x < zv_np P N := by unfold zw_ent at hx; rw [if_pos h1] at hx; exact hx.1
    refine zr_go (t := (9, [some (.ref 0), some (.int (nI q)), some (.int (nI x)), some (.long 0), none, some (.int 0), none], [], (zw_M g gl a al))) 2 rfl ?_
    refine zr_loop (fun zq : Nat × Int64 => (9, [some (.ref 0), some (.int (nI q)), some (.int (nI x)), some (.long zq.2), none, some (.int (nI zq.1)), none], [], (zw_M g gl a al))) (fun zq => zq.1 ≤ zw_gm P N c ∧ zq.2 = zL (fun t => zw_has P N c t x) zq.1) (fun zq => zw_gm P N c - zq.1) ?_ (0, 0) ⟨by omega, rfl⟩
    rintro ⟨k, B⟩ ⟨hk, hB2⟩ ih
    try dsimp only at *
    refine zr_go (t := (12, [some (.ref 0), some (.int (nI q)), some (.int (nI x)), some (.long B), none, some (.int (nI k)), none], [.ref 0, .int (nI k)], (zw_M g gl a al))) 2 rfl ?_
    refine zr_call (t := (15, [some (.ref 0), some (.int (nI q)), some (.int (nI x)), some (.long B), none, some (.int (nI k)), none], [.int (nI k)], (zw_M g gl a al))) rfl (Nat.le_of_ble_eq_true rfl : 2 ≤ 3) (zs_M_gmW g gl a al hG P N c hf hs) ?_
    rintro _ _ ⟨rfl, rfl⟩
    show zm_Run zt_get 3 zt_M_reach (15, [some (.ref 0), some (.int (nI q)), some (.int (nI x)), some (.long B), none, some (.int (nI k)), none], [.int (nI (zw_gm P N c)), .int (nI k)], (zw_M g gl a al)) _
    refine zr_ige (x := nI k) (y := nI (zw_gm P N c)) k (zw_gm P N c) rfl rfl (by omega) (by omega) (t := (45, [some (.ref 0), some (.int (nI q)), some (.int (nI x)), some (.long B), none, some (.int (nI k)), none], [], (zw_M g gl a al))) (f := (18, [some (.ref 0), some (.int (nI q)), some (.int (nI x)), some (.long B), none, some (.int (nI k)), none], [], (zw_M g gl a al))) rfl (fun h2 => ?_) (fun h2 => ?_)
    · skip
      refine zr_go (t := (46, [some (.ref 0), some (.int (nI q)), some (.int (nI x)), some (.long B), none, some (.int (nI k)), none], [.long B], (zw_M g gl a al))) 1 rfl ?_
      exact zr_ret rfl trivial ⟨by unfold zw_rc; rw [if_pos h1, hB2, show k = zw_gm P N c by omega], rfl⟩
    · skip
      refine zr_go (t := (23, [some (.ref 0), some (.int (nI q)), some (.int (nI x)), some (.long B), none, some (.int (nI k)), none], [.int (nI x), .int (nI k), .ref 0, .long B], (zw_M g gl a al))) 4 rfl ?_
      refine zr_call (t := (26, [some (.ref 0), some (.int (nI q)), some (.int (nI x)), some (.long B), none, some (.int (nI k)), none], [.long B], (zw_M g gl a al))) rfl (Nat.le_of_ble_eq_true rfl : 3 ≤ 3) (zs_M_hasW g gl a al hG P N c hf hs k x h2 (by omega)) ?_
      rintro _ _ ⟨rfl, rfl⟩
      show zm_Run zt_get 3 zt_M_reach (26, [some (.ref 0), some (.int (nI q)), some (.int (nI x)), some (.long B), none, some (.int (nI k)), none], [.int (nI ((zw_has P N c k x).toNat)), .long B], (zw_M g gl a al)) _
      have hh1 := zb_le (zw_has P N c k x)
      refine zr_ieq (x := nI ((zw_has P N c k x).toNat)) (y := 0) ((zw_has P N c k x).toNat) 0 rfl rfl (by omega) (by omega) (t := (36, [some (.ref 0), some (.int (nI q)), some (.int (nI x)), some (.long B), none, some (.int (nI k)), none], [.long B], (zw_M g gl a al))) (f := (29, [some (.ref 0), some (.int (nI q)), some (.int (nI x)), some (.long B), none, some (.int (nI k)), none], [.long B], (zw_M g gl a al))) rfl (fun h3 => ?_) (fun h3 => ?_)
      · skip
        refine zr_go (t := (9, [some (.ref 0), some (.int (nI q)), some (.int (nI x)), some (.long (B ||| 0)), none, some (.int ((nI k) + 1)), none], [], (zw_M g gl a al))) 5 rfl ?_
        rw [show (nI k) + 1 = nI (k + 1) from (zn_add rfl rfl)]
        exact ih (k + 1, B ||| 0) ⟨by omega, by rw [hB2]; show _ = zL (fun t => zw_has P N c t x) k ||| (if zw_has P N c k x = true then _ else _); rw [if_neg (by rw [zb_0 h3]; decide)]⟩ (by omega)
      · skip
        refine zr_go (t := (9, [some (.ref 0), some (.int (nI q)), some (.int (nI x)), some (.long (B ||| (1 <<< ((nI k).toInt64 &&& 63)))), none, some (.int ((nI k) + 1)), none], [], (zw_M g gl a al))) 8 rfl ?_
        rw [show (nI k) + 1 = nI (k + 1) from (zn_add rfl rfl)]
        exact ih (k + 1, B ||| (1 <<< ((nI k).toInt64 &&& 63))) ⟨by omega, by rw [hB2]; show _ = zL (fun t => zw_has P N c t x) k ||| (if zw_has P N c k x = true then _ else _); rw [if_pos (zb_1 h3)]⟩ (by omega)
theorem zs_M_reached (g : Nat → Int32) (gl : Nat → Int64) (a : Nat → Nat → Int32) (al : Nat → Nat → Int64) (hG : zG) (P N : Nat) (c : Nat → Nat) (hf : zS_f g a P N c) (hs : zw_ns P N c = 0) (nn : Nat → Nat) (ff : Nat → Nat → Nat) (hl : zS_l a nn ff) (he : ∀ q, q < 2 → ∀ k, k < nn q → zw_ent P N c q (ff q k)) (q : Nat) (hq : q < 2) : zm_Ev zt_get 5 178 [.ref 0, .int (nI q)] (zw_M g gl a al) (fun v w => v = some (.long (zw_rd P N c q (ff q) (nn q))) ∧ w = (zw_M g gl a al)) := by
  have hnq := (hl q hq).2.1
  refine zr_ev zt_M_reached rfl rfl ?_
  show zm_Run zt_get 4 zt_M_reached (0, [some (.ref 0), some (.int (nI q)), none, none, none], [], (zw_M g gl a al)) _
  refine zr_go (t := (5, [some (.ref 0), some (.int (nI q)), some (.long 0), none, some (.int 0)], [], (zw_M g gl a al))) 4 rfl ?_
  refine zr_loop (fun zq : Nat × Int64 => (5, [some (.ref 0), some (.int (nI q)), some (.long zq.2), none, some (.int (nI zq.1))], [], (zw_M g gl a al))) (fun zq => zq.1 ≤ nn q ∧ zq.2 = zw_rd P N c q (ff q) zq.1) (fun zq => nn q - zq.1) ?_ (0, 0) ⟨by omega, rfl⟩
  rintro ⟨k, B⟩ ⟨hk, hB2⟩ ih
  try dsimp only at *
  refine zr_go (t := (12, [some (.ref 0), some (.int (nI q)), some (.long B), none, some (.int (nI k))], [.int (nI q), .ref 16, .int (nI k)], (zw_M g gl a al))) 4 rfl ?_
  refine zr_cd (t := (13, [some (.ref 0), some (.int (nI q)), some (.long B), none, some (.int (nI k))], [.int ((a 16) (nI q).toNatClampNeg), .int (nI k)], (zw_M g gl a al))) rfl (pk_in q 2 (by omega) rfl (by omega)) ?_
  rw [pk_cl (x := (nI q)) q rfl (by omega)]
  rw [show (a 16) q = nI (nn q) from (hl q (by omega)).1]
  refine zr_ige (x := nI k) (y := nI (nn q)) k (nn q) rfl rfl (by omega) (by omega) (t := (42, [some (.ref 0), some (.int (nI q)), some (.long B), none, some (.int (nI k))], [], (zw_M g gl a al))) (f := (16, [some (.ref 0), some (.int (nI q)), some (.long B), none, some (.int (nI k))], [], (zw_M g gl a al))) rfl (fun h1 => ?_) (fun h1 => ?_)
  · skip
    refine zr_go (t := (43, [some (.ref 0), some (.int (nI q)), some (.long B), none, some (.int (nI k))], [.long B], (zw_M g gl a al))) 1 rfl ?_
    exact zr_ret rfl trivial ⟨by rw [hB2, show k = nn q by omega], rfl⟩
  · skip
    refine zr_go (t := (30, [some (.ref 0), some (.int (nI q)), some (.long B), none, some (.int (nI k))], [.int ((64 * (nI q)) + (nI k)), .ref 17, .int (nI q), .ref 0, .long B], (zw_M g gl a al))) 10 rfl ?_
    refine zr_cd (t := (31, [some (.ref 0), some (.int (nI q)), some (.long B), none, some (.int (nI k))], [.int ((a 17) ((64 * (nI q)) + (nI k)).toNatClampNeg), .int (nI q), .ref 0, .long B], (zw_M g gl a al))) rfl (pk_in ((64 * q) + k) 128 (by omega) (zn_add (zn_mul rfl rfl) rfl) (by omega)) ?_
    rw [pk_cl (x := ((64 * (nI q)) + (nI k))) ((64 * q) + k) (zn_add (zn_mul rfl rfl) rfl) (by omega)]
    rw [show (a 17) ((64 * q) + k) = nI (ff q k) from (hl q hq).2.2 k h1]
    refine zr_call (t := (34, [some (.ref 0), some (.int (nI q)), some (.long B), none, some (.int (nI k))], [.long B], (zw_M g gl a al))) rfl (Nat.le_of_ble_eq_true rfl : 4 ≤ 4) (zs_M_reach g gl a al hG P N c hf hs q (ff q k) hq (he q hq k h1)) ?_
    rintro _ _ ⟨rfl, rfl⟩
    show zm_Run zt_get 4 zt_M_reached (34, [some (.ref 0), some (.int (nI q)), some (.long B), none, some (.int (nI k))], [.long (zw_rc P N c q (ff q k)), .long B], (zw_M g gl a al)) _
    refine zr_go (t := (5, [some (.ref 0), some (.int (nI q)), some (.long (B ||| (zw_rc P N c q (ff q k)))), none, some (.int ((nI k) + 1))], [], (zw_M g gl a al))) 4 rfl ?_
    rw [show (nI k) + 1 = nI (k + 1) from (zn_add rfl rfl)]
    exact ih (k + 1, B ||| (zw_rc P N c q (ff q k))) ⟨by omega, by rw [hB2]; rfl⟩ (by omega)
theorem zcmp0 (x : Int64) : lg_cmp x 0 = 0 ↔ x = 0 := by
  unfold lg_cmp
  by_cases h1 : x > 0
  · rw [if_pos h1]
    exact ⟨fun q => absurd q (by decide), fun q => absurd (q ▸ h1) (by decide)⟩
  · rw [if_neg h1]
    by_cases h2 : x = 0
    · rw [if_pos h2]; exact ⟨fun _ => h2, fun _ => rfl⟩
    · rw [if_neg h2]; exact ⟨fun q => absurd q (by decide), fun q => absurd q h2⟩
def zl_n (nn : Nat → Nat) (q n : Nat) : Nat → Nat := fun t => if t = q then n else nn t
def zl_f (ff : Nat → Nat → Nat) (q k x : Nat) : Nat → Nat → Nat := fun s t => if s = q ∧ t = k then x else ff s t
theorem zs_M_choose (g : Nat → Int32) (gl : Nat → Int64) (a : Nat → Nat → Int32) (al : Nat → Nat → Int64) (hG : zG) (P N : Nat) (c : Nat → Nat) (hf : zS_f g a P N c) (hs : zw_ns P N c = 0) (nn : Nat → Nat) (ff : Nat → Nat → Nat) (hl : zS_l a nn ff) (he : ∀ q, q < 2 → ∀ k, k < nn q → zw_ent P N c q (ff q k)) (q x : Nat) (hq : q < 2) (hx : zw_ent P N c q x) (hx1 : x < 1000) (hnq : nn q < 64) : zm_Ev zt_get 6 179 [.ref 0, .int (nI q), .int (nI x)] (zw_M g gl a al) (fun v w => (¬ (zw_rd P N c q (ff q) (nn q) &&& zw_rc P N c q x) = 0 ∧ v = some (.int (-103)) ∧ w = (zw_M g gl a al)) ∨ ((zw_rd P N c q (ff q) (nn q) &&& zw_rc P N c q x) = 0 ∧ v = some (.int (nI (nn q + 1))) ∧ w = (zw_M g gl (va_up (va_up a 16 (upd (a 16) q (nI (nn q + 1)))) 17 (upd (a 17) (64 * q + nn q) (nI x))) al))) := by
  refine zr_ev zt_M_choose rfl rfl ?_
  show zm_Run zt_get 5 zt_M_choose (0, [some (.ref 0), some (.int (nI q)), some (.int (nI x))], [], (zw_M g gl a al)) _
  refine zr_go (t := (2, [some (.ref 0), some (.int (nI q)), some (.int (nI x))], [.int (nI q), .ref 0], (zw_M g gl a al))) 2 rfl ?_
  refine zr_call (t := (5, [some (.ref 0), some (.int (nI q)), some (.int (nI x))], [], (zw_M g gl a al))) rfl (Nat.le_of_ble_eq_true rfl : 5 ≤ 5) (zs_M_reached g gl a al hG P N c hf hs nn ff hl he q hq) ?_
  rintro _ _ ⟨rfl, rfl⟩
  show zm_Run zt_get 5 zt_M_choose (5, [some (.ref 0), some (.int (nI q)), some (.int (nI x))], [.long (zw_rd P N c q (ff q) (nn q))], (zw_M g gl a al)) _
  refine zr_go (t := (8, [some (.ref 0), some (.int (nI q)), some (.int (nI x))], [.int (nI x), .int (nI q), .ref 0, .long (zw_rd P N c q (ff q) (nn q))], (zw_M g gl a al))) 3 rfl ?_
  refine zr_call (t := (11, [some (.ref 0), some (.int (nI q)), some (.int (nI x))], [.long (zw_rd P N c q (ff q) (nn q))], (zw_M g gl a al))) rfl (Nat.le_of_ble_eq_true rfl : 4 ≤ 5) (zs_M_reach g gl a al hG P N c hf hs q x hq hx) ?_
  rintro _ _ ⟨rfl, rfl⟩
  show zm_Run zt_get 5 zt_M_choose (11, [some (.ref 0), some (.int (nI q)), some (.int (nI x))], [.long (zw_rc P N c q x), .long (zw_rd P N c q (ff q) (nn q))], (zw_M g gl a al)) _
  refine zr_go (t := (14, [some (.ref 0), some (.int (nI q)), some (.int (nI x))], [.int (lg_cmp ((zw_rd P N c q (ff q) (nn q)) &&& (zw_rc P N c q x)) 0)], (zw_M g gl a al))) 3 rfl ?_
  refine zr_if (c := (lg_cmp ((zw_rd P N c q (ff q) (nn q)) &&& (zw_rc P N c q x)) 0) = 0) (t := (20, [some (.ref 0), some (.int (nI q)), some (.int (nI x))], [], (zw_M g gl a al))) (f := (17, [some (.ref 0), some (.int (nI q)), some (.int (nI x))], [], (zw_M g gl a al))) rfl (fun h1 => ?_) (fun h1 => ?_)
  · skip
    have h2 := (zcmp0 _).mp h1
    refine zr_go (t := (33, [some (.ref 0), some (.int (nI q)), some (.int (nI x))], [.int (nI q), .ref 16, .int (64 * (nI q)), .ref 17], (zw_M g gl a al))) 8 rfl ?_
    refine zr_cd (t := (34, [some (.ref 0), some (.int (nI q)), some (.int (nI x))], [.int ((a 16) (nI q).toNatClampNeg), .int (64 * (nI q)), .ref 17], (zw_M g gl a al))) rfl (pk_in q 2 (by omega) rfl (by omega)) ?_
    rw [pk_cl (x := (nI q)) q rfl (by omega)]
    rw [show (a 16) q = nI (nn q) from (hl q (by omega)).1]
    refine zr_go (t := (36, [some (.ref 0), some (.int (nI q)), some (.int (nI x))], [.int (nI x), .int ((64 * (nI q)) + (nI (nn q))), .ref 17], (zw_M g gl a al))) 2 rfl ?_
    refine zr_cd (t := (37, [some (.ref 0), some (.int (nI q)), some (.int (nI x))], [], (zw_M g gl (va_up a 17 (upd (a 17) (((64 * (nI q)) + (nI (nn q))).toNatClampNeg) (nI x))) al))) rfl (pk_in ((64 * q) + (nn q)) 128 (by omega) (zn_add (zn_mul rfl rfl) rfl) (by omega)) ?_
    rw [pk_cl (x := ((64 * (nI q)) + (nI (nn q)))) ((64 * q) + (nn q)) (zn_add (zn_mul rfl rfl) rfl) (by omega)]
    refine zr_go (t := (43, [some (.ref 0), some (.int (nI q)), some (.int (nI x))], [.int (nI q), .ref 16, .int (nI q), .ref 16], (zw_M g gl (va_up a 17 (upd (a 17) ((64 * q) + (nn q)) (nI x))) al))) 4 rfl ?_
    refine zr_cd (t := (44, [some (.ref 0), some (.int (nI q)), some (.int (nI x))], [.int ((a 16) (nI q).toNatClampNeg), .int (nI q), .ref 16], (zw_M g gl (va_up a 17 (upd (a 17) ((64 * q) + (nn q)) (nI x))) al))) rfl (pk_in q 2 (by omega) rfl (by omega)) ?_
    rw [pk_cl (x := (nI q)) q rfl (by omega)]
    rw [show (a 16) q = nI (nn q) from (hl q (by omega)).1]
    refine zr_go (t := (46, [some (.ref 0), some (.int (nI q)), some (.int (nI x))], [.int ((nI (nn q)) + 1), .int (nI q), .ref 16], (zw_M g gl (va_up a 17 (upd (a 17) ((64 * q) + (nn q)) (nI x))) al))) 2 rfl ?_
    refine zr_cd (t := (47, [some (.ref 0), some (.int (nI q)), some (.int (nI x))], [], (zw_M g gl (va_up (va_up a 16 (upd (a 16) ((nI q).toNatClampNeg) ((nI (nn q)) + 1))) 17 (upd (a 17) ((64 * q) + (nn q)) (nI x))) al))) rfl (pk_in q 2 (by omega) rfl (by omega)) ?_
    rw [pk_cl (x := (nI q)) q rfl (by omega)]
    refine zr_go (t := (52, [some (.ref 0), some (.int (nI q)), some (.int (nI x))], [.int (nI q), .ref 16], (zw_M g gl (va_up (va_up a 16 (upd (a 16) q ((nI (nn q)) + 1))) 17 (upd (a 17) ((64 * q) + (nn q)) (nI x))) al))) 3 rfl ?_
    refine zr_cd (t := (53, [some (.ref 0), some (.int (nI q)), some (.int (nI x))], [.int ((upd (a 16) q ((nI (nn q)) + 1)) (nI q).toNatClampNeg)], (zw_M g gl (va_up (va_up a 16 (upd (a 16) q ((nI (nn q)) + 1))) 17 (upd (a 17) ((64 * q) + (nn q)) (nI x))) al))) rfl (pk_in q 2 (by omega) rfl (by omega)) ?_
    rw [pk_cl (x := (nI q)) q rfl (by omega)]
    rw [show nI (nn q) + 1 = nI (nn q + 1) from nI_1 _]
    rw [show upd (a 16) q (nI (nn q + 1)) q = nI (nn q + 1) from pk_us]
    exact zr_ret rfl trivial (Or.inr ⟨h2, rfl, rfl⟩)
  · skip
    refine zr_go (t := (19, [some (.ref 0), some (.int (nI q)), some (.int (nI x))], [.int (-103)], (zw_M g gl a al))) 1 rfl ?_
    exact zr_ret rfl trivial (Or.inl ⟨fun q => h1 ((zcmp0 _).mpr q), rfl, rfl⟩)
theorem zs_M_pick (g : Nat → Int32) (gl : Nat → Int64) (a : Nat → Nat → Int32) (al : Nat → Nat → Int64) (hG : zG) (P N : Nat) (c : Nat → Nat) (hS : zS_F g a P N c) (nn : Nat → Nat) (ff : Nat → Nat → Nat) (hl : zS_l a nn ff) (he : zw_sound P N c = true → ∀ q, q < 2 → ∀ k, k < nn q → zw_ent P N c q (ff q k)) (hnq : zw_sound P N c = true → nn 0 < 64) (x : Int32) : zm_Ev zt_get 7 180 [.ref 0, .int x] (zw_M g gl a al) (fun v w => (v = some (.int (if zw_sound P N c = true then (if (zx_in x (zv_np P N) = true ∧ zw_oo P N c (zx_k x) = true) then (if (zw_rd P N c 0 (ff 0) (nn 0) &&& zw_rc P N c 0 (zx_k x)) = 0 then nI (nn 0 + 1) else -103) else -101) else -103))) ∧ (((zw_sound P N c = true ∧ (zx_in x (zv_np P N) = true ∧ zw_oo P N c (zx_k x) = true) ∧ (zw_rd P N c 0 (ff 0) (nn 0) &&& zw_rc P N c 0 (zx_k x)) = 0) ∧ w = (zw_M g gl (va_up (va_up a 16 (upd (a 16) 0 (nI (nn 0 + 1)))) 17 (upd (a 17) (64 * 0 + nn 0) x)) al)) ∨ (¬ (zw_sound P N c = true ∧ (zx_in x (zv_np P N) = true ∧ zw_oo P N c (zx_k x) = true) ∧ (zw_rd P N c 0 (ff 0) (nn 0) &&& zw_rc P N c 0 (zx_k x)) = 0) ∧ w = (zw_M g gl a al)))) := by
  obtain ⟨hP, hN, hnp, hP5, hN6, hnp1⟩ := hS.nums
  obtain ⟨ns, on, nl, npl, hns, hon, hnl, hnpl, hns1, hon1, hnl1, hnpl1, hz0, hzP⟩ := hS.more hG
  have hso : zw_sound P N c = (decide (0 < P) && decide (ns = 0)) := by unfold zw_sound; by_cases q : 0 < P; rw [(hzP q).1]; rw [decide_eq_false q]; rfl
  refine zr_ev zt_M_pick rfl rfl ?_
  show zm_Run zt_get 6 zt_M_pick (0, [some (.ref 0), some (.int x)], [], (zw_M g gl a al)) _
  refine zr_go (t := (1, [some (.ref 0), some (.int x)], [.ref 0], (zw_M g gl a al))) 1 rfl ?_
  refine zr_call (t := (4, [some (.ref 0), some (.int x)], [], (zw_M g gl a al))) rfl (Nat.le_of_ble_eq_true rfl : 1 ≤ 6) (zs_M_isSound g gl a al P ns hP hP5 hns hns1) ?_
  rintro _ _ ⟨rfl, rfl⟩
  show zm_Run zt_get 6 zt_M_pick (4, [some (.ref 0), some (.int x)], [.int (nI ((decide (0 < P) && decide (ns = 0)).toNat))], (zw_M g gl a al)) _
  have hbs := zb_le (decide (0 < P) && decide (ns = 0))
  refine zr_ine (x := nI ((decide (0 < P) && decide (ns = 0)).toNat)) (y := 0) ((decide (0 < P) && decide (ns = 0)).toNat) 0 rfl rfl (by omega) (by omega) (t := (10, [some (.ref 0), some (.int x)], [], (zw_M g gl a al))) (f := (7, [some (.ref 0), some (.int x)], [], (zw_M g gl a al))) rfl (fun h1 => ?_) (fun h1 => ?_)
  · skip
    rw [zb_1 h1] at hso
    obtain ⟨hp0, hn0⟩ := Bool.and_eq_true_iff.mp (zb_1 h1)
    have hp0 := of_decide_eq_true hp0
    have hn0 := of_decide_eq_true hn0
    obtain ⟨ens, eon, e3⟩ := hzP hp0
    obtain ⟨enl, enpl⟩ := e3 hn0
    obtain ⟨hf, enp⟩ := hS.form hp0
    obtain ⟨-, -, -, -, hLL⟩ := hf.sound hG (by rw [← ens]; exact hn0)
    subst enl
    subst enpl
    subst eon
    rw [enp] at hnp hnp1
    have hgm : zq_gm P ns (zw_on P N c) (zw_nl P N c) (zw_npl P N c) = zw_gm P N c := by unfold zq_gm; rw [if_pos ⟨hp0, hn0⟩]; rfl
    have hs0 : zw_ns P N c = 0 := by rw [← ens]; exact hn0
    have hgl := zw_gm_le hG hf hs0
    refine zr_go (t := (12, [some (.ref 0), some (.int x)], [.int x, .ref 0], (zw_M g gl a al))) 2 rfl ?_
    refine zr_call (t := (15, [some (.ref 0), some (.int x)], [], (zw_M g gl a al))) rfl (Nat.le_of_ble_eq_true rfl : 3 ≤ 6) (zs_M_isOnPoint g gl a al P (zv_np P N) hP hP5 hnp hnp1 (zw_oo P N c) hf.2.2.2.2.1 x) ?_
    rintro _ _ ⟨rfl, rfl⟩
    show zm_Run zt_get 6 zt_M_pick (15, [some (.ref 0), some (.int x)], [.int (nI ((decide (0 < P) && zx_in x (zv_np P N) && zw_oo P N c (zx_k x)).toNat))], (zw_M g gl a al)) _
    have hb2 := zb_le (decide (0 < P) && zx_in x (zv_np P N) && zw_oo P N c (zx_k x))
    refine zr_ieq (x := nI ((decide (0 < P) && zx_in x (zv_np P N) && zw_oo P N c (zx_k x)).toNat)) (y := 0) ((decide (0 < P) && zx_in x (zv_np P N) && zw_oo P N c (zx_k x)).toNat) 0 rfl rfl (by omega) (by omega) (t := (27, [some (.ref 0), some (.int x)], [], (zw_M g gl a al))) (f := (18, [some (.ref 0), some (.int x)], [], (zw_M g gl a al))) rfl (fun h2 => ?_) (fun h2 => ?_)
    · skip
      have hni : ¬ (zx_in x (zv_np P N) = true ∧ zw_oo P N c (zx_k x) = true) := fun q => by have := zb_0 h2; rw [decide_eq_true hp0, q.1, q.2] at this; cases this
      refine zr_go (t := (29, [some (.ref 0), some (.int x)], [.int (-101)], (zw_M g gl a al))) 1 rfl ?_
      exact zr_ret rfl trivial ⟨by rw [if_pos hso, if_neg hni], Or.inr ⟨fun q => hni q.2.1, rfl⟩⟩
    · skip
      obtain ⟨q1, q2⟩ := Bool.and_eq_true_iff.mp (zb_1 h2)
      have q3 := (Bool.and_eq_true_iff.mp q1).2
      have hin : (zx_in x (zv_np P N) = true ∧ zw_oo P N c (zx_k x) = true) := ⟨q3, q2⟩
      obtain ⟨k1, k2⟩ := zx_of q3
      generalize hK : zx_k x = k at k1 k2 q2 hin
      subst k2
      refine zr_go (t := (21, [some (.ref 0), some (.int (nI k))], [.int (nI k), .int 0, .ref 0], (zw_M g gl a al))) 3 rfl ?_
      refine zr_call (t := (24, [some (.ref 0), some (.int (nI k))], [], (zw_M g gl a al))) rfl (Nat.le_of_ble_eq_true rfl : 6 ≤ 6) (zs_M_choose g gl a al hG P N c hf hs0 nn ff hl (he hso) 0 k (by decide) (by unfold zw_ent; rw [if_pos rfl]; exact ⟨k1, q2⟩) (by omega) (hnq hso)) ?_
      rintro _ _ (⟨hz, rfl, rfl⟩ | ⟨hz, rfl, rfl⟩)
      · skip
        show zm_Run zt_get 6 zt_M_pick (24, [some (.ref 0), some (.int (nI k))], [.int (-103)], (zw_M g gl a al)) _
        refine zr_go (t := (29, [some (.ref 0), some (.int (nI k))], [.int (-103)], (zw_M g gl a al))) 1 rfl ?_
        exact zr_ret rfl trivial ⟨by rw [if_pos hso, if_pos hin, if_neg hz], Or.inr ⟨fun q => hz q.2.2, rfl⟩⟩
      · skip
        show zm_Run zt_get 6 zt_M_pick (24, [some (.ref 0), some (.int (nI k))], [.int (nI (nn 0 + 1))], (zw_M g gl (va_up (va_up a 16 (upd (a 16) 0 (nI (nn 0 + 1)))) 17 (upd (a 17) (64 * 0 + nn 0) (nI k))) al)) _
        refine zr_go (t := (29, [some (.ref 0), some (.int (nI k))], [.int (nI (nn 0 + 1))], (zw_M g gl (va_up (va_up a 16 (upd (a 16) 0 (nI (nn 0 + 1)))) 17 (upd (a 17) (64 * 0 + nn 0) (nI k))) al))) 1 rfl ?_
        exact zr_ret rfl trivial ⟨by rw [if_pos hso, if_pos hin, if_pos hz], Or.inl ⟨⟨hso, hin, hz⟩, rfl⟩⟩
  · skip
    rw [zb_0 h1] at hso
    refine zr_go (t := (9, [some (.ref 0), some (.int x)], [.int (-103)], (zw_M g gl a al))) 1 rfl ?_
    exact zr_ret rfl trivial ⟨by rw [if_neg (by rw [hso]; decide)], Or.inr ⟨fun q => by rw [hso] at q; exact absurd q.1 (by decide), rfl⟩⟩
theorem zs_M_gather (g : Nat → Int32) (gl : Nat → Int64) (a : Nat → Nat → Int32) (al : Nat → Nat → Int64) (hG : zG) (P N : Nat) (c : Nat → Nat) (hS : zS_F g a P N c) (nn : Nat → Nat) (ff : Nat → Nat → Nat) (hl : zS_l a nn ff) (he : zw_sound P N c = true → ∀ q, q < 2 → ∀ k, k < nn q → zw_ent P N c q (ff q k)) (hnq : zw_sound P N c = true → nn 1 < 64) (x : Int32) : zm_Ev zt_get 7 181 [.ref 0, .int x] (zw_M g gl a al) (fun v w => (v = some (.int (if zw_sound P N c = true then (if zx_in x (zw_gm P N c) = true then (if (zw_rd P N c 1 (ff 1) (nn 1) &&& zw_rc P N c 1 (zx_k x)) = 0 then nI (nn 1 + 1) else -103) else -101) else -103))) ∧ (((zw_sound P N c = true ∧ zx_in x (zw_gm P N c) = true ∧ (zw_rd P N c 1 (ff 1) (nn 1) &&& zw_rc P N c 1 (zx_k x)) = 0) ∧ w = (zw_M g gl (va_up (va_up a 16 (upd (a 16) 1 (nI (nn 1 + 1)))) 17 (upd (a 17) (64 * 1 + nn 1) x)) al)) ∨ (¬ (zw_sound P N c = true ∧ zx_in x (zw_gm P N c) = true ∧ (zw_rd P N c 1 (ff 1) (nn 1) &&& zw_rc P N c 1 (zx_k x)) = 0) ∧ w = (zw_M g gl a al)))) := by
  obtain ⟨hP, hN, hnp, hP5, hN6, hnp1⟩ := hS.nums
  obtain ⟨ns, on, nl, npl, hns, hon, hnl, hnpl, hns1, hon1, hnl1, hnpl1, hz0, hzP⟩ := hS.more hG
  have hso : zw_sound P N c = (decide (0 < P) && decide (ns = 0)) := by unfold zw_sound; by_cases q : 0 < P; rw [(hzP q).1]; rw [decide_eq_false q]; rfl
  refine zr_ev zt_M_gather rfl rfl ?_
  show zm_Run zt_get 6 zt_M_gather (0, [some (.ref 0), some (.int x)], [], (zw_M g gl a al)) _
  refine zr_go (t := (1, [some (.ref 0), some (.int x)], [.ref 0], (zw_M g gl a al))) 1 rfl ?_
  refine zr_call (t := (4, [some (.ref 0), some (.int x)], [], (zw_M g gl a al))) rfl (Nat.le_of_ble_eq_true rfl : 1 ≤ 6) (zs_M_isSound g gl a al P ns hP hP5 hns hns1) ?_
  rintro _ _ ⟨rfl, rfl⟩
  show zm_Run zt_get 6 zt_M_gather (4, [some (.ref 0), some (.int x)], [.int (nI ((decide (0 < P) && decide (ns = 0)).toNat))], (zw_M g gl a al)) _
  have hbs := zb_le (decide (0 < P) && decide (ns = 0))
  refine zr_ine (x := nI ((decide (0 < P) && decide (ns = 0)).toNat)) (y := 0) ((decide (0 < P) && decide (ns = 0)).toNat) 0 rfl rfl (by omega) (by omega) (t := (10, [some (.ref 0), some (.int x)], [], (zw_M g gl a al))) (f := (7, [some (.ref 0), some (.int x)], [], (zw_M g gl a al))) rfl (fun h1 => ?_) (fun h1 => ?_)
  · skip
    rw [zb_1 h1] at hso
    obtain ⟨hp0, hn0⟩ := Bool.and_eq_true_iff.mp (zb_1 h1)
    have hp0 := of_decide_eq_true hp0
    have hn0 := of_decide_eq_true hn0
    obtain ⟨ens, eon, e3⟩ := hzP hp0
    obtain ⟨enl, enpl⟩ := e3 hn0
    obtain ⟨hf, enp⟩ := hS.form hp0
    obtain ⟨-, -, -, -, hLL⟩ := hf.sound hG (by rw [← ens]; exact hn0)
    subst enl
    subst enpl
    subst eon
    rw [enp] at hnp hnp1
    have hgm : zq_gm P ns (zw_on P N c) (zw_nl P N c) (zw_npl P N c) = zw_gm P N c := by unfold zq_gm; rw [if_pos ⟨hp0, hn0⟩]; rfl
    have hs0 : zw_ns P N c = 0 := by rw [← ens]; exact hn0
    have hgl := zw_gm_le hG hf hs0
    refine zr_go (t := (12, [some (.ref 0), some (.int x)], [.int x, .ref 0], (zw_M g gl a al))) 2 rfl ?_
    refine zr_call (t := (15, [some (.ref 0), some (.int x)], [], (zw_M g gl a al))) rfl (Nat.le_of_ble_eq_true rfl : 3 ≤ 6) (zs_M_isGreatest g gl a al (zw_nl P N c) (zw_npl P N c) hnl hnpl hnl1 hnpl1 P ns (zw_on P N c) hP hP5 hns hns1 hon hon1 x) ?_
    rintro _ _ ⟨rfl, rfl⟩
    show zm_Run zt_get 6 zt_M_gather (15, [some (.ref 0), some (.int x)], [.int (nI ((zx_in x (zq_gm P ns (zw_on P N c) (zw_nl P N c) (zw_npl P N c))).toNat))], (zw_M g gl a al)) _
    rw [hgm]
    have hb2 := zb_le (zx_in x (zw_gm P N c))
    refine zr_ieq (x := nI ((zx_in x (zw_gm P N c)).toNat)) (y := 0) ((zx_in x (zw_gm P N c)).toNat) 0 rfl rfl (by omega) (by omega) (t := (27, [some (.ref 0), some (.int x)], [], (zw_M g gl a al))) (f := (18, [some (.ref 0), some (.int x)], [], (zw_M g gl a al))) rfl (fun h2 => ?_) (fun h2 => ?_)
    · skip
      have hni : ¬ zx_in x (zw_gm P N c) = true := fun q => by have := zb_0 h2; rw [q] at this; cases this
      refine zr_go (t := (29, [some (.ref 0), some (.int x)], [.int (-101)], (zw_M g gl a al))) 1 rfl ?_
      exact zr_ret rfl trivial ⟨by rw [if_pos hso, if_neg hni], Or.inr ⟨fun q => hni q.2.1, rfl⟩⟩
    · skip
      have hin : zx_in x (zw_gm P N c) = true := zb_1 h2
      obtain ⟨k1, k2⟩ := zx_of hin
      generalize hK : zx_k x = k at k1 k2
      subst k2
      refine zr_go (t := (21, [some (.ref 0), some (.int (nI k))], [.int (nI k), .int 1, .ref 0], (zw_M g gl a al))) 3 rfl ?_
      refine zr_call (t := (24, [some (.ref 0), some (.int (nI k))], [], (zw_M g gl a al))) rfl (Nat.le_of_ble_eq_true rfl : 6 ≤ 6) (zs_M_choose g gl a al hG P N c hf hs0 nn ff hl (he hso) 1 k (by decide) (by unfold zw_ent; rw [if_neg (by decide)]; exact k1) (by omega) (hnq hso)) ?_
      rintro _ _ (⟨hz, rfl, rfl⟩ | ⟨hz, rfl, rfl⟩)
      · skip
        show zm_Run zt_get 6 zt_M_gather (24, [some (.ref 0), some (.int (nI k))], [.int (-103)], (zw_M g gl a al)) _
        refine zr_go (t := (29, [some (.ref 0), some (.int (nI k))], [.int (-103)], (zw_M g gl a al))) 1 rfl ?_
        exact zr_ret rfl trivial ⟨by rw [if_pos hso, if_pos hin, if_neg hz], Or.inr ⟨fun q => hz q.2.2, rfl⟩⟩
      · skip
        show zm_Run zt_get 6 zt_M_gather (24, [some (.ref 0), some (.int (nI k))], [.int (nI (nn 1 + 1))], (zw_M g gl (va_up (va_up a 16 (upd (a 16) 1 (nI (nn 1 + 1)))) 17 (upd (a 17) (64 * 1 + nn 1) (nI k))) al)) _
        refine zr_go (t := (29, [some (.ref 0), some (.int (nI k))], [.int (nI (nn 1 + 1))], (zw_M g gl (va_up (va_up a 16 (upd (a 16) 1 (nI (nn 1 + 1)))) 17 (upd (a 17) (64 * 1 + nn 1) (nI k))) al))) 1 rfl ?_
        exact zr_ret rfl trivial ⟨by rw [if_pos hso, if_pos hin, if_pos hz], Or.inl ⟨⟨hso, hin, hz⟩, rfl⟩⟩
  · skip
    rw [zb_0 h1] at hso
    refine zr_go (t := (9, [some (.ref 0), some (.int x)], [.int (-103)], (zw_M g gl a al))) 1 rfl ?_
    exact zr_ret rfl trivial ⟨by rw [if_neg (by rw [hso]; decide)], Or.inr ⟨fun q => by rw [hso] at q; exact absurd q.1 (by decide), rfl⟩⟩
theorem zs_M_isOf (g : Nat → Int32) (gl : Nat → Int64) (a : Nat → Nat → Int32) (al : Nat → Nat → Int64) (x : Int32) : zm_Ev zt_get 2 182 [.int x] (zw_M g gl a al) (fun v w => v = some (.int (nI (zx_in x 2).toNat)) ∧ w = (zw_M g gl a al)) := by
  refine zr_ev zt_M_isOf rfl rfl ?_
  show zm_Run zt_get 1 zt_M_isOf (0, [some (.int x)], [], (zw_M g gl a al)) _
  refine zr_go (t := (3, [some (.int x)], [.int 1, .int 0, .int x], (zw_M g gl a al))) 3 rfl ?_
  refine zr_call (t := (6, [some (.int x)], [], (zw_M g gl a al))) rfl (Nat.le_of_ble_eq_true rfl : 1 ≤ 1) (zs_M_within01 g gl a al x) ?_
  rintro _ _ ⟨rfl, rfl⟩
  show zm_Run zt_get 1 zt_M_isOf (6, [some (.int x)], [.int (nI ((zx_in x 2).toNat))], (zw_M g gl a al)) _
  exact zr_ret rfl (zb_ok _) ⟨rfl, rfl⟩
theorem zs_M_drop (g : Nat → Int32) (gl : Nat → Int64) (a : Nat → Nat → Int32) (al : Nat → Nat → Int64) (nn : Nat → Nat) (ff : Nat → Nat → Nat) (hl : zS_l a nn ff) (x : Int32) : zm_Ev zt_get 3 183 [.ref 0, .int x] (zw_M g gl a al) (fun v w => v = some (.int (if zx_in x 2 = true then (if nn (zx_k x) = 0 then -103 else nI (ff (zx_k x) (nn (zx_k x) - 1))) else -102)) ∧ (((zx_in x 2 = true ∧ nn (zx_k x) ≠ 0) ∧ w = (zw_M g gl (va_up a 16 (upd (a 16) (zx_k x) (nI (nn (zx_k x) - 1)))) al)) ∨ (¬ (zx_in x 2 = true ∧ nn (zx_k x) ≠ 0) ∧ w = (zw_M g gl a al)))) := by
  refine zr_ev zt_M_drop rfl rfl ?_
  show zm_Run zt_get 2 zt_M_drop (0, [some (.ref 0), some (.int x)], [], (zw_M g gl a al)) _
  refine zr_go (t := (1, [some (.ref 0), some (.int x)], [.int x], (zw_M g gl a al))) 1 rfl ?_
  refine zr_call (t := (4, [some (.ref 0), some (.int x)], [], (zw_M g gl a al))) rfl (Nat.le_of_ble_eq_true rfl : 2 ≤ 2) (zs_M_isOf g gl a al x) ?_
  rintro _ _ ⟨rfl, rfl⟩
  show zm_Run zt_get 2 zt_M_drop (4, [some (.ref 0), some (.int x)], [.int (nI ((zx_in x 2).toNat))], (zw_M g gl a al)) _
  have hb1 := zb_le (zx_in x 2)
  refine zr_ine (x := nI ((zx_in x 2).toNat)) (y := 0) ((zx_in x 2).toNat) 0 rfl rfl (by omega) (by omega) (t := (10, [some (.ref 0), some (.int x)], [], (zw_M g gl a al))) (f := (7, [some (.ref 0), some (.int x)], [], (zw_M g gl a al))) rfl (fun h1 => ?_) (fun h1 => ?_)
  · skip
    have hq := zb_1 h1
    obtain ⟨k1, k2⟩ := zx_of hq
    generalize hK : zx_k x = q at k1 k2
    subst k2
    have hnq := (hl q k1).2.1
    refine zr_go (t := (15, [some (.ref 0), some (.int (nI q))], [.int (nI q), .ref 16], (zw_M g gl a al))) 3 rfl ?_
    refine zr_cd (t := (16, [some (.ref 0), some (.int (nI q))], [.int ((a 16) (nI q).toNatClampNeg)], (zw_M g gl a al))) rfl (pk_in q 2 (by omega) rfl (by omega)) ?_
    rw [pk_cl (x := (nI q)) q rfl (by omega)]
    rw [show (a 16) q = nI (nn q) from (hl q (by omega)).1]
    refine zr_ine (x := nI (nn q)) (y := 0) (nn q) 0 rfl rfl (by omega) (by omega) (t := (22, [some (.ref 0), some (.int (nI q))], [], (zw_M g gl a al))) (f := (19, [some (.ref 0), some (.int (nI q))], [], (zw_M g gl a al))) rfl (fun h2 => ?_) (fun h2 => ?_)
    · skip
      refine zr_go (t := (28, [some (.ref 0), some (.int (nI q))], [.int (nI q), .ref 16, .int (nI q), .ref 16], (zw_M g gl a al))) 4 rfl ?_
      refine zr_cd (t := (29, [some (.ref 0), some (.int (nI q))], [.int ((a 16) (nI q).toNatClampNeg), .int (nI q), .ref 16], (zw_M g gl a al))) rfl (pk_in q 2 (by omega) rfl (by omega)) ?_
      rw [pk_cl (x := (nI q)) q rfl (by omega)]
      rw [show (a 16) q = nI (nn q) from (hl q (by omega)).1]
      refine zr_go (t := (31, [some (.ref 0), some (.int (nI q))], [.int ((nI (nn q)) - 1), .int (nI q), .ref 16], (zw_M g gl a al))) 2 rfl ?_
      refine zr_cd (t := (32, [some (.ref 0), some (.int (nI q))], [], (zw_M g gl (va_up a 16 (upd (a 16) ((nI q).toNatClampNeg) ((nI (nn q)) - 1))) al))) rfl (pk_in q 2 (by omega) rfl (by omega)) ?_
      rw [pk_cl (x := (nI q)) q rfl (by omega)]
      rw [show nI (nn q) - 1 = nI (nn q - 1) from zn_sub rfl rfl (by omega)]
      refine zr_go (t := (45, [some (.ref 0), some (.int (nI q))], [.int (nI q), .ref 16, .int (64 * (nI q)), .ref 17], (zw_M g gl (va_up a 16 (upd (a 16) q (nI (nn q - 1)))) al))) 8 rfl ?_
      refine zr_cd (t := (46, [some (.ref 0), some (.int (nI q))], [.int ((upd (a 16) q (nI (nn q - 1))) (nI q).toNatClampNeg), .int (64 * (nI q)), .ref 17], (zw_M g gl (va_up a 16 (upd (a 16) q (nI (nn q - 1)))) al))) rfl (pk_in q 2 (by omega) rfl (by omega)) ?_
      rw [pk_cl (x := (nI q)) q rfl (by omega)]
      rw [show (upd (a 16) q (nI (nn q - 1))) q = nI (nn q - 1) from pk_us]
      refine zr_go (t := (47, [some (.ref 0), some (.int (nI q))], [.int ((64 * (nI q)) + (nI (nn q - 1))), .ref 17], (zw_M g gl (va_up a 16 (upd (a 16) q (nI (nn q - 1)))) al))) 1 rfl ?_
      refine zr_cd (t := (48, [some (.ref 0), some (.int (nI q))], [.int ((a 17) ((64 * (nI q)) + (nI (nn q - 1))).toNatClampNeg)], (zw_M g gl (va_up a 16 (upd (a 16) q (nI (nn q - 1)))) al))) rfl (pk_in ((64 * q) + (nn q - 1)) 128 (by omega) (zn_add (zn_mul rfl rfl) rfl) (by omega)) ?_
      rw [pk_cl (x := ((64 * (nI q)) + (nI (nn q - 1)))) ((64 * q) + (nn q - 1)) (zn_add (zn_mul rfl rfl) rfl) (by omega)]
      rw [show (a 17) ((64 * q) + (nn q - 1)) = nI (ff q (nn q - 1)) from (hl q k1).2.2 (nn q - 1) (by omega)]
      exact zr_ret rfl trivial ⟨by rw [if_pos hq, if_neg h2], Or.inl ⟨⟨hq, h2⟩, rfl⟩⟩
    · skip
      refine zr_go (t := (21, [some (.ref 0), some (.int (nI q))], [.int (-103)], (zw_M g gl a al))) 1 rfl ?_
      exact zr_ret rfl trivial ⟨by rw [if_pos hq, if_pos h2], Or.inr ⟨fun z => z.2 h2, rfl⟩⟩
  · skip
    refine zr_go (t := (9, [some (.ref 0), some (.int x)], [.int (-102)], (zw_M g gl a al))) 1 rfl ?_
    exact zr_ret rfl trivial ⟨by rw [if_neg (by rw [zb_0 h1]; decide)], Or.inr ⟨fun z => (by have := zb_0 h1; rw [z.1] at this; cases this), rfl⟩⟩
theorem zs_M_chosen (g : Nat → Int32) (gl : Nat → Int64) (a : Nat → Nat → Int32) (al : Nat → Nat → Int64) (nn : Nat → Nat) (ff : Nat → Nat → Nat) (hl : zS_l a nn ff) (x z : Int32) : zm_Ev zt_get 3 184 [.ref 0, .int x, .int z] (zw_M g gl a al) (fun v w => v = some (.int (if zx_in x 2 = true then (if zx_in z (nn (zx_k x)) = true then nI (ff (zx_k x) (zx_k z)) else -101) else -102)) ∧ w = (zw_M g gl a al)) := by
  refine zr_ev zt_M_chosen rfl rfl ?_
  show zm_Run zt_get 2 zt_M_chosen (0, [some (.ref 0), some (.int x), some (.int z)], [], (zw_M g gl a al)) _
  refine zr_go (t := (1, [some (.ref 0), some (.int x), some (.int z)], [.int x], (zw_M g gl a al))) 1 rfl ?_
  refine zr_call (t := (4, [some (.ref 0), some (.int x), some (.int z)], [], (zw_M g gl a al))) rfl (Nat.le_of_ble_eq_true rfl : 2 ≤ 2) (zs_M_isOf g gl a al x) ?_
  rintro _ _ ⟨rfl, rfl⟩
  show zm_Run zt_get 2 zt_M_chosen (4, [some (.ref 0), some (.int x), some (.int z)], [.int (nI ((zx_in x 2).toNat))], (zw_M g gl a al)) _
  have hb1 := zb_le (zx_in x 2)
  refine zr_ine (x := nI ((zx_in x 2).toNat)) (y := 0) ((zx_in x 2).toNat) 0 rfl rfl (by omega) (by omega) (t := (10, [some (.ref 0), some (.int x), some (.int z)], [], (zw_M g gl a al))) (f := (7, [some (.ref 0), some (.int x), some (.int z)], [], (zw_M g gl a al))) rfl (fun h1 => ?_) (fun h1 => ?_)
  · skip
    have hq := zb_1 h1
    obtain ⟨k1, k2⟩ := zx_of hq
    generalize hK : zx_k x = q at k1 k2
    subst k2
    have hnq := (hl q k1).2.1
    refine zr_go (t := (17, [some (.ref 0), some (.int (nI q)), some (.int z)], [.int (nI q), .ref 16, .int 0, .int z], (zw_M g gl a al))) 5 rfl ?_
    refine zr_cd (t := (18, [some (.ref 0), some (.int (nI q)), some (.int z)], [.int ((a 16) (nI q).toNatClampNeg), .int 0, .int z], (zw_M g gl a al))) rfl (pk_in q 2 (by omega) rfl (by omega)) ?_
    rw [pk_cl (x := (nI q)) q rfl (by omega)]
    rw [show (a 16) q = nI (nn q) from (hl q (by omega)).1]
    refine zr_go (t := (20, [some (.ref 0), some (.int (nI q)), some (.int z)], [.int ((nI (nn q)) - 1), .int 0, .int z], (zw_M g gl a al))) 2 rfl ?_
    refine zr_call (t := (23, [some (.ref 0), some (.int (nI q)), some (.int z)], [], (zw_M g gl a al))) rfl (Nat.le_of_ble_eq_true rfl : 1 ≤ 2) (zs_M_withinI g gl a al z (nI (nn q)) (nn q) rfl (by omega)) ?_
    rintro _ _ ⟨rfl, rfl⟩
    show zm_Run zt_get 2 zt_M_chosen (23, [some (.ref 0), some (.int (nI q)), some (.int z)], [.int (nI ((zx_in z (nn q)).toNat))], (zw_M g gl a al)) _
    have hb2 := zb_le (zx_in z (nn q))
    refine zr_ieq (x := nI ((zx_in z (nn q)).toNat)) (y := 0) ((zx_in z (nn q)).toNat) 0 rfl rfl (by omega) (by omega) (t := (40, [some (.ref 0), some (.int (nI q)), some (.int z)], [], (zw_M g gl a al))) (f := (26, [some (.ref 0), some (.int (nI q)), some (.int z)], [], (zw_M g gl a al))) rfl (fun h2 => ?_) (fun h2 => ?_)
    · skip
      refine zr_go (t := (42, [some (.ref 0), some (.int (nI q)), some (.int z)], [.int (-101)], (zw_M g gl a al))) 1 rfl ?_
      exact zr_ret rfl trivial ⟨by rw [if_pos hq, if_neg (by rw [zb_0 h2]; decide)], rfl⟩
    · skip
      have hz := zb_1 h2
      obtain ⟨l1, l2⟩ := zx_of hz
      generalize hZ : zx_k z = k at l1 l2
      subst l2
      refine zr_go (t := (36, [some (.ref 0), some (.int (nI q)), some (.int (nI k))], [.int ((64 * (nI q)) + (nI k)), .ref 17], (zw_M g gl a al))) 7 rfl ?_
      refine zr_cd (t := (37, [some (.ref 0), some (.int (nI q)), some (.int (nI k))], [.int ((a 17) ((64 * (nI q)) + (nI k)).toNatClampNeg)], (zw_M g gl a al))) rfl (pk_in ((64 * q) + k) 128 (by omega) (zn_add (zn_mul rfl rfl) rfl) (by omega)) ?_
      rw [pk_cl (x := ((64 * (nI q)) + (nI k))) ((64 * q) + k) (zn_add (zn_mul rfl rfl) rfl) (by omega)]
      rw [show (a 17) ((64 * q) + k) = nI (ff q k) from (hl q k1).2.2 k l1]
      refine zr_go (t := (42, [some (.ref 0), some (.int (nI q)), some (.int (nI k))], [.int (nI (ff q k))], (zw_M g gl a al))) 1 rfl ?_
      exact zr_ret rfl trivial ⟨by rw [if_pos hq, if_pos hz], rfl⟩
  · skip
    refine zr_go (t := (9, [some (.ref 0), some (.int x), some (.int z)], [.int (-102)], (zw_M g gl a al))) 1 rfl ?_
    exact zr_ret rfl trivial ⟨by rw [if_neg (by rw [zb_0 h1]; decide)], rfl⟩
