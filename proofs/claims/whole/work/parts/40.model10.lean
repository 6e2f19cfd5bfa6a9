/-! the reference: the page and its reading (written by wip/whole/gen_m10.py) -/
theorem zs_M_withinN (g : Nat → Int32) (gl : Nat → Int64) (a : Nat → Nat → Int32) (al : Nat → Nat → Int64) (X Y Z : Int32) (x y z : Nat) (hX : X = nI x) (hY : Y = nI y) (hZ : Z = nI z) (h1 : x < 2 ^ 31) (h2 : y < 2 ^ 31) (h3 : z < 2 ^ 31) : zm_Ev zt_get 1 107 [.int X, .int Y, .int Z] (zw_M g gl a al) (fun v w => v = some (.int (nI (decide (y ≤ x ∧ x ≤ z)).toNat)) ∧ w = zw_M g gl a al) := by
  refine zr_evp (zs_M_within g gl a al X Y Z) ?_
  rintro v w ⟨h, rfl⟩
  refine ⟨?_, rfl⟩
  subst hX; subst hY; subst hZ
  rw [nI_leI h2 h1, nI_leI h1 h3] at h
  rcases h with ⟨h, rfl⟩ | ⟨h, rfl⟩
  · rw [decide_eq_true h]; rfl
  · rw [decide_eq_false h]; rfl
def zp_most (P : Nat) : Nat := if P = 2 then 6 else if P = 3 then 5 else 4
/-- how far a reading has come: P, the width (0: the first row goes on), the row, the digits of the row -/
def zp_J (P m r d : Nat) : Prop := (P = 2 ∨ P = 3 ∨ P = 5) ∧ ((m = 0 ∧ r = 0 ∧ d ≤ zp_most P) ∨ (3 ≤ m ∧ m ≤ zp_most P ∧ r < m ∧ d ≤ m - r))
def zp_dig (P m r d c : Nat) : Bool := decide (d < (if m = 0 then zp_most P else m - r)) && decide (48 ≤ c ∧ c ≤ 48 + P - 1)
def zp_sla (m r d c : Nat) : Bool := decide (c = 47) && (if m = 0 then decide (3 ≤ d) else (decide (d = m - r) && decide (r < m - 1)))
theorem zp_most_le (P : Nat) : 4 ≤ zp_most P ∧ zp_most P ≤ 6 := by unfold zp_most; split; omega; split <;> omega
theorem zs_M_mostOf (g : Nat → Int32) (gl : Nat → Int64) (a : Nat → Nat → Int32) (al : Nat → Nat → Int64) (P : Nat) (hP : P < 2 ^ 31) : zm_Ev zt_get 1 111 [.int (nI P)] (zw_M g gl a al) (fun v w => v = some (.int (nI (zp_most P))) ∧ w = (zw_M g gl a al)) := by
  refine zr_ev zt_M_mostOf rfl rfl ?_
  show zm_Run zt_get 0 zt_M_mostOf (0, [some (.int (nI P))], [], (zw_M g gl a al)) _
  refine zr_go (t := (2, [some (.int (nI P))], [.int 2, .int (nI P)], (zw_M g gl a al))) 2 rfl ?_
  refine zr_ine (x := nI P) (y := 2) P 2 rfl rfl (by omega) (by omega) (t := (10, [some (.int (nI P))], [], (zw_M g gl a al))) (f := (5, [some (.int (nI P))], [], (zw_M g gl a al))) rfl (fun h1 => ?_) (fun h1 => ?_)
  · skip
    refine zr_go (t := (12, [some (.int (nI P))], [.int 3, .int (nI P)], (zw_M g gl a al))) 2 rfl ?_
    refine zr_ine (x := nI P) (y := 3) P 3 rfl rfl (by omega) (by omega) (t := (19, [some (.int (nI P))], [], (zw_M g gl a al))) (f := (15, [some (.int (nI P))], [], (zw_M g gl a al))) rfl (fun h2 => ?_) (fun h2 => ?_)
    · skip
      refine zr_go (t := (20, [some (.int (nI P))], [.int 4], (zw_M g gl a al))) 1 rfl ?_
      exact zr_ret rfl trivial ⟨by unfold zp_most; rw [if_neg h1, if_neg h2]; rfl, rfl⟩
    · skip
      refine zr_go (t := (20, [some (.int (nI P))], [.int 5], (zw_M g gl a al))) 2 rfl ?_
      exact zr_ret rfl trivial ⟨by unfold zp_most; rw [if_neg h1, if_pos h2]; rfl, rfl⟩
  · skip
    refine zr_go (t := (20, [some (.int (nI P))], [.int 6], (zw_M g gl a al))) 2 rfl ?_
    exact zr_ret rfl trivial ⟨by unfold zp_most; rw [if_pos h1]; rfl, rfl⟩
theorem zs_M_takesDigit (g : Nat → Int32) (gl : Nat → Int64) (a : Nat → Nat → Int32) (al : Nat → Nat → Int64) (P m r d : Nat) (hJ : zp_J P m r d) (c : Nat) (hc : c < 128) : zm_Ev zt_get 2 112 [.ref 0, .int (nI c)] (zw_M (upd (upd (upd (upd g 16 (nI P)) 17 (nI m)) 18 (nI r)) 19 (nI d)) gl a al) (fun v w => (zp_dig P m r d c = true ∧ v = some (.int 1) ∧ w = (zw_M (upd (upd (upd (upd g 16 (nI P)) 17 (nI m)) 18 (nI r)) 19 (nI (d + 1))) gl (va_up a 8 (upd (a 8) (6 * r + r + d) (nI (c - 48)))) al)) ∨ (zp_dig P m r d c = false ∧ v = some (.int 0) ∧ w = (zw_M (upd (upd (upd (upd g 16 (nI P)) 17 (nI m)) 18 (nI r)) 19 (nI d)) gl a al))) := by
  obtain ⟨hPP, hJ2⟩ := id hJ
  have hmo := zp_most_le P
  refine zr_ev zt_M_takesDigit rfl rfl ?_
  show zm_Run zt_get 1 zt_M_takesDigit (0, [some (.ref 0), some (.int (nI c)), none, none], [], (zw_M (upd (upd (upd (upd g 16 (nI P)) 17 (nI m)) 18 (nI r)) 19 (nI d)) gl a al)) _
  have tail : ∀ mo : Nat, mo = (if m = 0 then zp_most P else m - r) → zm_Run zt_get 1 zt_M_takesDigit (27, [some (.ref 0), some (.int (nI c)), some (.int (nI mo)), none], [], (zw_M (upd (upd (upd (upd g 16 (nI P)) 17 (nI m)) 18 (nI r)) 19 (nI d)) gl a al)) (fun v w => (zp_dig P m r d c = true ∧ v = some (.int 1) ∧ w = (zw_M (upd (upd (upd (upd g 16 (nI P)) 17 (nI m)) 18 (nI r)) 19 (nI (d + 1))) gl (va_up a 8 (upd (a 8) (6 * r + r + d) (nI (c - 48)))) al)) ∨ (zp_dig P m r d c = false ∧ v = some (.int 0) ∧ w = (zw_M (upd (upd (upd (upd g 16 (nI P)) 17 (nI m)) 18 (nI r)) 19 (nI d)) gl a al))) := by
    intro mo hmo2
    have hmo3 : mo ≤ 6 := by rw [hmo2]; split <;> omega
    have hidx : d < mo → 6 * r + r + d < 36 := by rw [hmo2]; split <;> omega
    refine zr_go (t := (32, [some (.ref 0), some (.int (nI c)), some (.int (nI mo)), none], [.int (nI mo), .int (nI d)], (zw_M (upd (upd (upd (upd g 16 (nI P)) 17 (nI m)) 18 (nI r)) 19 (nI d)) gl a al))) 3 rfl ?_
    refine zr_ige (x := nI d) (y := nI mo) d mo rfl rfl (by omega) (by omega) (t := (57, [some (.ref 0), some (.int (nI c)), some (.int (nI mo)), none], [], (zw_M (upd (upd (upd (upd g 16 (nI P)) 17 (nI m)) 18 (nI r)) 19 (nI d)) gl a al))) (f := (35, [some (.ref 0), some (.int (nI c)), some (.int (nI mo)), none], [], (zw_M (upd (upd (upd (upd g 16 (nI P)) 17 (nI m)) 18 (nI r)) 19 (nI d)) gl a al))) rfl (fun h1 => ?_) (fun h1 => ?_)
    · skip
      have hz : zp_dig P m r d c = false := by unfold zp_dig; rw [← hmo2, decide_eq_false (by omega)]; rfl
      refine zr_go (t := (60, [some (.ref 0), some (.int (nI c)), some (.int (nI mo)), some (.int 0)], [.int 0], (zw_M (upd (upd (upd (upd g 16 (nI P)) 17 (nI m)) 18 (nI r)) 19 (nI d)) gl a al))) 3 rfl ?_
      refine zr_ieq (x := 0) (y := 0) 0 0 rfl rfl (by omega) (by omega) (t := (99, [some (.ref 0), some (.int (nI c)), some (.int (nI mo)), some (.int 0)], [], (zw_M (upd (upd (upd (upd g 16 (nI P)) 17 (nI m)) 18 (nI r)) 19 (nI d)) gl a al))) (f := (63, [some (.ref 0), some (.int (nI c)), some (.int (nI mo)), some (.int 0)], [], (zw_M (upd (upd (upd (upd g 16 (nI P)) 17 (nI m)) 18 (nI r)) 19 (nI d)) gl a al))) rfl (fun h9 => ?_) (fun h9 => ?_)
      · skip
        refine zr_go (t := (100, [some (.ref 0), some (.int (nI c)), some (.int (nI mo)), some (.int 0)], [.int 0], (zw_M (upd (upd (upd (upd g 16 (nI P)) 17 (nI m)) 18 (nI r)) 19 (nI d)) gl a al))) 1 rfl ?_
        exact zr_ret rfl (Or.inl rfl) (Or.inr ⟨hz, rfl, rfl⟩)
      · skip
        exact absurd rfl h9
    · skip
      refine zr_go (t := (47, [some (.ref 0), some (.int (nI c)), some (.int (nI mo)), none], [.int ((48 + (nI P)) - 1), .int 48, .int (nI c)], (zw_M (upd (upd (upd (upd g 16 (nI P)) 17 (nI m)) 18 (nI r)) 19 (nI d)) gl a al))) 8 rfl ?_
      refine zr_call (t := (50, [some (.ref 0), some (.int (nI c)), some (.int (nI mo)), none], [], (zw_M (upd (upd (upd (upd g 16 (nI P)) 17 (nI m)) 18 (nI r)) 19 (nI d)) gl a al))) rfl (Nat.le_of_ble_eq_true rfl : 1 ≤ 1) (zs_M_withinN (upd (upd (upd (upd g 16 (nI P)) 17 (nI m)) 18 (nI r)) 19 (nI d)) gl a al (nI c) 48 ((48 + (nI P)) - 1) c 48 (48 + P - 1) rfl rfl (zn_sub (zn_add rfl rfl) rfl (by omega)) (by omega) (by omega) (by omega)) ?_
      rintro _ _ ⟨rfl, rfl⟩
      show zm_Run zt_get 1 zt_M_takesDigit (50, [some (.ref 0), some (.int (nI c)), some (.int (nI mo)), none], [.int (nI ((decide (48 ≤ c ∧ c ≤ 48 + P - 1)).toNat))], (zw_M (upd (upd (upd (upd g 16 (nI P)) 17 (nI m)) 18 (nI r)) 19 (nI d)) gl a al)) _
      have hd1 := zb_le (decide (48 ≤ c ∧ c ≤ 48 + P - 1))
      refine zr_ieq (x := nI ((decide (48 ≤ c ∧ c ≤ 48 + P - 1)).toNat)) (y := 0) ((decide (48 ≤ c ∧ c ≤ 48 + P - 1)).toNat) 0 rfl rfl (by omega) (by omega) (t := (57, [some (.ref 0), some (.int (nI c)), some (.int (nI mo)), none], [], (zw_M (upd (upd (upd (upd g 16 (nI P)) 17 (nI m)) 18 (nI r)) 19 (nI d)) gl a al))) (f := (53, [some (.ref 0), some (.int (nI c)), some (.int (nI mo)), none], [], (zw_M (upd (upd (upd (upd g 16 (nI P)) 17 (nI m)) 18 (nI r)) 19 (nI d)) gl a al))) rfl (fun h2 => ?_) (fun h2 => ?_)
      · skip
        have hz : zp_dig P m r d c = false := by unfold zp_dig; rw [zb_0 h2, Bool.and_false]
        refine zr_go (t := (60, [some (.ref 0), some (.int (nI c)), some (.int (nI mo)), some (.int 0)], [.int 0], (zw_M (upd (upd (upd (upd g 16 (nI P)) 17 (nI m)) 18 (nI r)) 19 (nI d)) gl a al))) 3 rfl ?_
        refine zr_ieq (x := 0) (y := 0) 0 0 rfl rfl (by omega) (by omega) (t := (99, [some (.ref 0), some (.int (nI c)), some (.int (nI mo)), some (.int 0)], [], (zw_M (upd (upd (upd (upd g 16 (nI P)) 17 (nI m)) 18 (nI r)) 19 (nI d)) gl a al))) (f := (63, [some (.ref 0), some (.int (nI c)), some (.int (nI mo)), some (.int 0)], [], (zw_M (upd (upd (upd (upd g 16 (nI P)) 17 (nI m)) 18 (nI r)) 19 (nI d)) gl a al))) rfl (fun h9 => ?_) (fun h9 => ?_)
        · skip
          refine zr_go (t := (100, [some (.ref 0), some (.int (nI c)), some (.int (nI mo)), some (.int 0)], [.int 0], (zw_M (upd (upd (upd (upd g 16 (nI P)) 17 (nI m)) 18 (nI r)) 19 (nI d)) gl a al))) 1 rfl ?_
          exact zr_ret rfl (Or.inl rfl) (Or.inr ⟨hz, rfl, rfl⟩)
        · skip
          exact absurd rfl h9
      · skip
        have hz : zp_dig P m r d c = true := by unfold zp_dig; rw [zb_1 h2, ← hmo2, decide_eq_true h1]; rfl
        have hcc := of_decide_eq_true (zb_1 h2)
        have hix := hidx h1
        refine zr_go (t := (60, [some (.ref 0), some (.int (nI c)), some (.int (nI mo)), some (.int 1)], [.int 1], (zw_M (upd (upd (upd (upd g 16 (nI P)) 17 (nI m)) 18 (nI r)) 19 (nI d)) gl a al))) 4 rfl ?_
        refine zr_ieq (x := 1) (y := 0) 1 0 rfl rfl (by omega) (by omega) (t := (99, [some (.ref 0), some (.int (nI c)), some (.int (nI mo)), some (.int 1)], [], (zw_M (upd (upd (upd (upd g 16 (nI P)) 17 (nI m)) 18 (nI r)) 19 (nI d)) gl a al))) (f := (63, [some (.ref 0), some (.int (nI c)), some (.int (nI mo)), some (.int 1)], [], (zw_M (upd (upd (upd (upd g 16 (nI P)) 17 (nI m)) 18 (nI r)) 19 (nI d)) gl a al))) rfl (fun h9 => ?_) (fun h9 => ?_)
        · skip
          exact absurd h9 (by decide)
        · skip
          refine zr_go (t := (88, [some (.ref 0), some (.int (nI c)), some (.int (nI mo)), some (.int 1)], [.int ((nI c) - 48), .int (((6 * (nI r)) + (nI r)) + (nI d)), .ref 8], (zw_M (upd (upd (upd (upd g 16 (nI P)) 17 (nI m)) 18 (nI r)) 19 (nI d)) gl a al))) 15 rfl ?_
          rw [show (nI c) - 48 = nI (c - 48) from (zn_sub rfl rfl (by omega))]
          refine zr_cd (t := (89, [some (.ref 0), some (.int (nI c)), some (.int (nI mo)), some (.int 1)], [], (zw_M (upd (upd (upd (upd g 16 (nI P)) 17 (nI m)) 18 (nI r)) 19 (nI d)) gl (va_up a 8 (upd (a 8) ((((6 * (nI r)) + (nI r)) + (nI d)).toNatClampNeg) (nI (c - 48)))) al))) rfl (pk_in (((6 * r) + r) + d) 36 (by omega) (zn_add (zn_add (zn_mul rfl rfl) rfl) rfl) (by omega)) ?_
          rw [pk_cl (x := (((6 * (nI r)) + (nI r)) + (nI d))) (((6 * r) + r) + d) (zn_add (zn_add (zn_mul rfl rfl) rfl) rfl) (by omega)]
          refine zr_go (t := (100, [some (.ref 0), some (.int (nI c)), some (.int (nI mo)), some (.int 1)], [.int 1], (zw_M (upd (upd (upd (upd g 16 (nI P)) 17 (nI m)) 18 (nI r)) 19 ((nI d) + 1)) gl (va_up a 8 (upd (a 8) (((6 * r) + r) + d) (nI (c - 48)))) al))) 7 rfl ?_
          rw [show (nI d) + 1 = nI (d + 1) from (zn_add rfl rfl)]
          exact zr_ret rfl (Or.inr rfl) (Or.inl ⟨hz, rfl, rfl⟩)
  refine zr_go (t := (4, [some (.ref 0), some (.int (nI c)), none, none], [.int (nI m)], (zw_M (upd (upd (upd (upd g 16 (nI P)) 17 (nI m)) 18 (nI r)) 19 (nI d)) gl a al))) 2 rfl ?_
  refine zr_ine (x := nI m) (y := 0) m 0 rfl rfl (by omega) (by omega) (t := (17, [some (.ref 0), some (.int (nI c)), none, none], [], (zw_M (upd (upd (upd (upd g 16 (nI P)) 17 (nI m)) 18 (nI r)) 19 (nI d)) gl a al))) (f := (7, [some (.ref 0), some (.int (nI c)), none, none], [], (zw_M (upd (upd (upd (upd g 16 (nI P)) 17 (nI m)) 18 (nI r)) 19 (nI d)) gl a al))) rfl (fun h0 => ?_) (fun h0 => ?_)
  · skip
    refine zr_go (t := (27, [some (.ref 0), some (.int (nI c)), some (.int ((nI m) - (nI r))), none], [], (zw_M (upd (upd (upd (upd g 16 (nI P)) 17 (nI m)) 18 (nI r)) 19 (nI d)) gl a al))) 6 rfl ?_
    rw [show nI m - nI r = nI (m - r) from zn_sub rfl rfl (by omega)]
    exact tail (m - r) (by rw [if_neg h0])
  · skip
    refine zr_go (t := (11, [some (.ref 0), some (.int (nI c)), none, none], [.int (nI P)], (zw_M (upd (upd (upd (upd g 16 (nI P)) 17 (nI m)) 18 (nI r)) 19 (nI d)) gl a al))) 2 rfl ?_
    refine zr_call (t := (14, [some (.ref 0), some (.int (nI c)), none, none], [], (zw_M (upd (upd (upd (upd g 16 (nI P)) 17 (nI m)) 18 (nI r)) 19 (nI d)) gl a al))) rfl (Nat.le_of_ble_eq_true rfl : 1 ≤ 1) (zs_M_mostOf (upd (upd (upd (upd g 16 (nI P)) 17 (nI m)) 18 (nI r)) 19 (nI d)) gl a al P (by omega)) ?_
    rintro _ _ ⟨rfl, rfl⟩
    show zm_Run zt_get 1 zt_M_takesDigit (14, [some (.ref 0), some (.int (nI c)), none, none], [.int (nI (zp_most P))], (zw_M (upd (upd (upd (upd g 16 (nI P)) 17 (nI m)) 18 (nI r)) 19 (nI d)) gl a al)) _
    refine zr_go (t := (27, [some (.ref 0), some (.int (nI c)), some (.int (nI (zp_most P))), none], [], (zw_M (upd (upd (upd (upd g 16 (nI P)) 17 (nI m)) 18 (nI r)) 19 (nI d)) gl a al))) 2 rfl ?_
    exact tail (zp_most P) (by rw [if_pos h0])
theorem zs_M_takesSlash (g : Nat → Int32) (gl : Nat → Int64) (a : Nat → Nat → Int32) (al : Nat → Nat → Int64) (P m r d : Nat) (hJ : zp_J P m r d) (c : Nat) (hc : c < 128) : zm_Ev zt_get 1 113 [.ref 0, .int (nI c)] (zw_M (upd (upd (upd (upd g 16 (nI P)) 17 (nI m)) 18 (nI r)) 19 (nI d)) gl a al) (fun v w => (zp_sla m r d c = true ∧ v = some (.int 1) ∧ w = (zw_M (upd (upd (upd (upd g 16 (nI P)) 17 (nI (if m = 0 then d else m))) 18 (nI (r + 1))) 19 0) gl a al)) ∨ (zp_sla m r d c = false ∧ v = some (.int 0) ∧ w = (zw_M (upd (upd (upd (upd g 16 (nI P)) 17 (nI m)) 18 (nI r)) 19 (nI d)) gl a al))) := by
  obtain ⟨hPP, hJ2⟩ := id hJ
  have hmo := zp_most_le P
  refine zr_ev zt_M_takesSlash rfl rfl ?_
  show zm_Run zt_get 0 zt_M_takesSlash (0, [some (.ref 0), some (.int (nI c)), none, none], [], (zw_M (upd (upd (upd (upd g 16 (nI P)) 17 (nI m)) 18 (nI r)) 19 (nI d)) gl a al)) _
  refine zr_go (t := (4, [some (.ref 0), some (.int (nI c)), none, none], [.int (nI m)], (zw_M (upd (upd (upd (upd g 16 (nI P)) 17 (nI m)) 18 (nI r)) 19 (nI d)) gl a al))) 2 rfl ?_
  refine zr_ine (x := nI m) (y := 0) m 0 rfl rfl (by omega) (by omega) (t := (11, [some (.ref 0), some (.int (nI c)), none, none], [], (zw_M (upd (upd (upd (upd g 16 (nI P)) 17 (nI m)) 18 (nI r)) 19 (nI d)) gl a al))) (f := (7, [some (.ref 0), some (.int (nI c)), none, none], [], (zw_M (upd (upd (upd (upd g 16 (nI P)) 17 (nI m)) 18 (nI r)) 19 (nI d)) gl a al))) rfl (fun hm => ?_) (fun hm => ?_)
  · skip
    refine zr_go (t := (16, [some (.ref 0), some (.int (nI c)), some (.int 0), none], [.int 47, .int (nI c)], (zw_M (upd (upd (upd (upd g 16 (nI P)) 17 (nI m)) 18 (nI r)) 19 (nI d)) gl a al))) 4 rfl ?_
    refine zr_ine (x := nI c) (y := 47) c 47 rfl rfl (by omega) (by omega) (t := (67, [some (.ref 0), some (.int (nI c)), some (.int 0), none], [], (zw_M (upd (upd (upd (upd g 16 (nI P)) 17 (nI m)) 18 (nI r)) 19 (nI d)) gl a al))) (f := (19, [some (.ref 0), some (.int (nI c)), some (.int 0), none], [], (zw_M (upd (upd (upd (upd g 16 (nI P)) 17 (nI m)) 18 (nI r)) 19 (nI d)) gl a al))) rfl (fun h1 => ?_) (fun h1 => ?_)
    · skip
      have hz : zp_sla m r d c = false := by unfold zp_sla; rw [decide_eq_false h1]; rfl
      refine zr_go (t := (70, [some (.ref 0), some (.int (nI c)), some (.int 0), some (.int 0)], [.int 0], (zw_M (upd (upd (upd (upd g 16 (nI P)) 17 (nI m)) 18 (nI r)) 19 (nI d)) gl a al))) 3 rfl ?_
      refine zr_ieq (x := 0) (y := 0) 0 0 rfl rfl (by omega) (by omega) (t := (107, [some (.ref 0), some (.int (nI c)), some (.int 0), some (.int 0)], [], (zw_M (upd (upd (upd (upd g 16 (nI P)) 17 (nI m)) 18 (nI r)) 19 (nI d)) gl a al))) (f := (73, [some (.ref 0), some (.int (nI c)), some (.int 0), some (.int 0)], [], (zw_M (upd (upd (upd (upd g 16 (nI P)) 17 (nI m)) 18 (nI r)) 19 (nI d)) gl a al))) rfl (fun h9 => ?_) (fun h9 => ?_)
      · skip
        refine zr_go (t := (108, [some (.ref 0), some (.int (nI c)), some (.int 0), some (.int 0)], [.int 0], (zw_M (upd (upd (upd (upd g 16 (nI P)) 17 (nI m)) 18 (nI r)) 19 (nI d)) gl a al))) 1 rfl ?_
        exact zr_ret rfl (Or.inl rfl) (Or.inr ⟨hz, rfl, rfl⟩)
      · skip
        exact absurd rfl h9
    · skip
      refine zr_go (t := (20, [some (.ref 0), some (.int (nI c)), some (.int 0), none], [.int 0], (zw_M (upd (upd (upd (upd g 16 (nI P)) 17 (nI m)) 18 (nI r)) 19 (nI d)) gl a al))) 1 rfl ?_
      refine zr_ieq (x := 0) (y := 0) 0 0 rfl rfl (by omega) (by omega) (t := (34, [some (.ref 0), some (.int (nI c)), some (.int 0), none], [], (zw_M (upd (upd (upd (upd g 16 (nI P)) 17 (nI m)) 18 (nI r)) 19 (nI d)) gl a al))) (f := (23, [some (.ref 0), some (.int (nI c)), some (.int 0), none], [], (zw_M (upd (upd (upd (upd g 16 (nI P)) 17 (nI m)) 18 (nI r)) 19 (nI d)) gl a al))) rfl (fun h2 => ?_) (fun h2 => ?_)
      · skip
        refine zr_go (t := (47, [some (.ref 0), some (.int (nI c)), some (.int 0), none], [.int ((nI m) - (nI r)), .int (nI d)], (zw_M (upd (upd (upd (upd g 16 (nI P)) 17 (nI m)) 18 (nI r)) 19 (nI d)) gl a al))) 7 rfl ?_
        refine zr_ine (x := nI d) (y := (nI m) - (nI r)) d (m - r) rfl (zn_sub rfl rfl (by omega)) (by omega) (by omega) (t := (67, [some (.ref 0), some (.int (nI c)), some (.int 0), none], [], (zw_M (upd (upd (upd (upd g 16 (nI P)) 17 (nI m)) 18 (nI r)) 19 (nI d)) gl a al))) (f := (50, [some (.ref 0), some (.int (nI c)), some (.int 0), none], [], (zw_M (upd (upd (upd (upd g 16 (nI P)) 17 (nI m)) 18 (nI r)) 19 (nI d)) gl a al))) rfl (fun h3 => ?_) (fun h3 => ?_)
        · skip
          have hz : zp_sla m r d c = false := by unfold zp_sla; rw [if_neg hm, decide_eq_false h3]; simp
          refine zr_go (t := (70, [some (.ref 0), some (.int (nI c)), some (.int 0), some (.int 0)], [.int 0], (zw_M (upd (upd (upd (upd g 16 (nI P)) 17 (nI m)) 18 (nI r)) 19 (nI d)) gl a al))) 3 rfl ?_
          refine zr_ieq (x := 0) (y := 0) 0 0 rfl rfl (by omega) (by omega) (t := (107, [some (.ref 0), some (.int (nI c)), some (.int 0), some (.int 0)], [], (zw_M (upd (upd (upd (upd g 16 (nI P)) 17 (nI m)) 18 (nI r)) 19 (nI d)) gl a al))) (f := (73, [some (.ref 0), some (.int (nI c)), some (.int 0), some (.int 0)], [], (zw_M (upd (upd (upd (upd g 16 (nI P)) 17 (nI m)) 18 (nI r)) 19 (nI d)) gl a al))) rfl (fun h9 => ?_) (fun h9 => ?_)
          · skip
            refine zr_go (t := (108, [some (.ref 0), some (.int (nI c)), some (.int 0), some (.int 0)], [.int 0], (zw_M (upd (upd (upd (upd g 16 (nI P)) 17 (nI m)) 18 (nI r)) 19 (nI d)) gl a al))) 1 rfl ?_
            exact zr_ret rfl (Or.inl rfl) (Or.inr ⟨hz, rfl, rfl⟩)
          · skip
            exact absurd rfl h9
        · skip
          refine zr_go (t := (60, [some (.ref 0), some (.int (nI c)), some (.int 0), none], [.int ((nI m) - 1), .int (nI r)], (zw_M (upd (upd (upd (upd g 16 (nI P)) 17 (nI m)) 18 (nI r)) 19 (nI d)) gl a al))) 6 rfl ?_
          refine zr_ige (x := nI r) (y := (nI m) - 1) r (m - 1) rfl (zn_sub rfl rfl (by omega)) (by omega) (by omega) (t := (67, [some (.ref 0), some (.int (nI c)), some (.int 0), none], [], (zw_M (upd (upd (upd (upd g 16 (nI P)) 17 (nI m)) 18 (nI r)) 19 (nI d)) gl a al))) (f := (63, [some (.ref 0), some (.int (nI c)), some (.int 0), none], [], (zw_M (upd (upd (upd (upd g 16 (nI P)) 17 (nI m)) 18 (nI r)) 19 (nI d)) gl a al))) rfl (fun h4 => ?_) (fun h4 => ?_)
          · skip
            have hz : zp_sla m r d c = false := by unfold zp_sla; rw [if_neg hm, decide_eq_false (show ¬ r < m - 1 by omega)]; simp
            refine zr_go (t := (70, [some (.ref 0), some (.int (nI c)), some (.int 0), some (.int 0)], [.int 0], (zw_M (upd (upd (upd (upd g 16 (nI P)) 17 (nI m)) 18 (nI r)) 19 (nI d)) gl a al))) 3 rfl ?_
            refine zr_ieq (x := 0) (y := 0) 0 0 rfl rfl (by omega) (by omega) (t := (107, [some (.ref 0), some (.int (nI c)), some (.int 0), some (.int 0)], [], (zw_M (upd (upd (upd (upd g 16 (nI P)) 17 (nI m)) 18 (nI r)) 19 (nI d)) gl a al))) (f := (73, [some (.ref 0), some (.int (nI c)), some (.int 0), some (.int 0)], [], (zw_M (upd (upd (upd (upd g 16 (nI P)) 17 (nI m)) 18 (nI r)) 19 (nI d)) gl a al))) rfl (fun h9 => ?_) (fun h9 => ?_)
            · skip
              refine zr_go (t := (108, [some (.ref 0), some (.int (nI c)), some (.int 0), some (.int 0)], [.int 0], (zw_M (upd (upd (upd (upd g 16 (nI P)) 17 (nI m)) 18 (nI r)) 19 (nI d)) gl a al))) 1 rfl ?_
              exact zr_ret rfl (Or.inl rfl) (Or.inr ⟨hz, rfl, rfl⟩)
            · skip
              exact absurd rfl h9
          · skip
            have hz : zp_sla m r d c = true := by unfold zp_sla; rw [if_neg hm, decide_eq_true h1, decide_eq_true h3, decide_eq_true h4]; rfl
            refine zr_go (t := (70, [some (.ref 0), some (.int (nI c)), some (.int 0), some (.int 1)], [.int 1], (zw_M (upd (upd (upd (upd g 16 (nI P)) 17 (nI m)) 18 (nI r)) 19 (nI d)) gl a al))) 4 rfl ?_
            refine zr_ieq (x := 1) (y := 0) 1 0 rfl rfl (by omega) (by omega) (t := (107, [some (.ref 0), some (.int (nI c)), some (.int 0), some (.int 1)], [], (zw_M (upd (upd (upd (upd g 16 (nI P)) 17 (nI m)) 18 (nI r)) 19 (nI d)) gl a al))) (f := (73, [some (.ref 0), some (.int (nI c)), some (.int 0), some (.int 1)], [], (zw_M (upd (upd (upd (upd g 16 (nI P)) 17 (nI m)) 18 (nI r)) 19 (nI d)) gl a al))) rfl (fun h9 => ?_) (fun h9 => ?_)
            · skip
              exact absurd h9 (by decide)
            · skip
              refine zr_go (t := (75, [some (.ref 0), some (.int (nI c)), some (.int 0), some (.int 1)], [.int 0, .ref 0], (zw_M (upd (upd (upd (upd g 16 (nI P)) 17 (nI m)) 18 (nI r)) 19 (nI d)) gl a al))) 2 rfl ?_
              refine zr_ieq (x := 0) (y := 0) 0 0 rfl rfl (by omega) (by omega) (t := (85, [some (.ref 0), some (.int (nI c)), some (.int 0), some (.int 1)], [.ref 0], (zw_M (upd (upd (upd (upd g 16 (nI P)) 17 (nI m)) 18 (nI r)) 19 (nI d)) gl a al))) (f := (78, [some (.ref 0), some (.int (nI c)), some (.int 0), some (.int 1)], [.ref 0], (zw_M (upd (upd (upd (upd g 16 (nI P)) 17 (nI m)) 18 (nI r)) 19 (nI d)) gl a al))) rfl (fun h8 => ?_) (fun h8 => ?_)
              · skip
                refine zr_go (t := (108, [some (.ref 0), some (.int (nI c)), some (.int 0), some (.int 1)], [.int 1], (zw_M (upd (upd (upd (upd g 16 (nI P)) 17 (nI m)) 18 ((nI r) + 1)) 19 0) gl a al))) 13 rfl ?_
                rw [show (nI r) + 1 = nI (r + 1) from (zn_add rfl rfl)]
                exact zr_ret rfl (Or.inr rfl) (Or.inl ⟨hz, rfl, by rw [if_neg hm]⟩)
              · skip
                exact absurd h8 (by decide)
      · skip
        exact absurd rfl h2
  · skip
    refine zr_go (t := (16, [some (.ref 0), some (.int (nI c)), some (.int 1), none], [.int 47, .int (nI c)], (zw_M (upd (upd (upd (upd g 16 (nI P)) 17 (nI m)) 18 (nI r)) 19 (nI d)) gl a al))) 5 rfl ?_
    refine zr_ine (x := nI c) (y := 47) c 47 rfl rfl (by omega) (by omega) (t := (67, [some (.ref 0), some (.int (nI c)), some (.int 1), none], [], (zw_M (upd (upd (upd (upd g 16 (nI P)) 17 (nI m)) 18 (nI r)) 19 (nI d)) gl a al))) (f := (19, [some (.ref 0), some (.int (nI c)), some (.int 1), none], [], (zw_M (upd (upd (upd (upd g 16 (nI P)) 17 (nI m)) 18 (nI r)) 19 (nI d)) gl a al))) rfl (fun h1 => ?_) (fun h1 => ?_)
    · skip
      have hz : zp_sla m r d c = false := by unfold zp_sla; rw [decide_eq_false h1]; rfl
      refine zr_go (t := (70, [some (.ref 0), some (.int (nI c)), some (.int 1), some (.int 0)], [.int 0], (zw_M (upd (upd (upd (upd g 16 (nI P)) 17 (nI m)) 18 (nI r)) 19 (nI d)) gl a al))) 3 rfl ?_
      refine zr_ieq (x := 0) (y := 0) 0 0 rfl rfl (by omega) (by omega) (t := (107, [some (.ref 0), some (.int (nI c)), some (.int 1), some (.int 0)], [], (zw_M (upd (upd (upd (upd g 16 (nI P)) 17 (nI m)) 18 (nI r)) 19 (nI d)) gl a al))) (f := (73, [some (.ref 0), some (.int (nI c)), some (.int 1), some (.int 0)], [], (zw_M (upd (upd (upd (upd g 16 (nI P)) 17 (nI m)) 18 (nI r)) 19 (nI d)) gl a al))) rfl (fun h9 => ?_) (fun h9 => ?_)
      · skip
        refine zr_go (t := (108, [some (.ref 0), some (.int (nI c)), some (.int 1), some (.int 0)], [.int 0], (zw_M (upd (upd (upd (upd g 16 (nI P)) 17 (nI m)) 18 (nI r)) 19 (nI d)) gl a al))) 1 rfl ?_
        exact zr_ret rfl (Or.inl rfl) (Or.inr ⟨hz, rfl, rfl⟩)
      · skip
        exact absurd rfl h9
    · skip
      refine zr_go (t := (20, [some (.ref 0), some (.int (nI c)), some (.int 1), none], [.int 1], (zw_M (upd (upd (upd (upd g 16 (nI P)) 17 (nI m)) 18 (nI r)) 19 (nI d)) gl a al))) 1 rfl ?_
      refine zr_ieq (x := 1) (y := 0) 1 0 rfl rfl (by omega) (by omega) (t := (34, [some (.ref 0), some (.int (nI c)), some (.int 1), none], [], (zw_M (upd (upd (upd (upd g 16 (nI P)) 17 (nI m)) 18 (nI r)) 19 (nI d)) gl a al))) (f := (23, [some (.ref 0), some (.int (nI c)), some (.int 1), none], [], (zw_M (upd (upd (upd (upd g 16 (nI P)) 17 (nI m)) 18 (nI r)) 19 (nI d)) gl a al))) rfl (fun h2 => ?_) (fun h2 => ?_)
      · skip
        exact absurd h2 (by decide)
      · skip
        refine zr_go (t := (28, [some (.ref 0), some (.int (nI c)), some (.int 1), none], [.int 3, .int (nI d)], (zw_M (upd (upd (upd (upd g 16 (nI P)) 17 (nI m)) 18 (nI r)) 19 (nI d)) gl a al))) 3 rfl ?_
        refine zr_ilt (x := nI d) (y := 3) d 3 rfl rfl (by omega) (by omega) (t := (67, [some (.ref 0), some (.int (nI c)), some (.int 1), none], [], (zw_M (upd (upd (upd (upd g 16 (nI P)) 17 (nI m)) 18 (nI r)) 19 (nI d)) gl a al))) (f := (31, [some (.ref 0), some (.int (nI c)), some (.int 1), none], [], (zw_M (upd (upd (upd (upd g 16 (nI P)) 17 (nI m)) 18 (nI r)) 19 (nI d)) gl a al))) rfl (fun h3 => ?_) (fun h3 => ?_)
        · skip
          have hz : zp_sla m r d c = false := by unfold zp_sla; rw [if_pos hm, decide_eq_false (show ¬ 3 ≤ d by omega)]; simp
          refine zr_go (t := (70, [some (.ref 0), some (.int (nI c)), some (.int 1), some (.int 0)], [.int 0], (zw_M (upd (upd (upd (upd g 16 (nI P)) 17 (nI m)) 18 (nI r)) 19 (nI d)) gl a al))) 3 rfl ?_
          refine zr_ieq (x := 0) (y := 0) 0 0 rfl rfl (by omega) (by omega) (t := (107, [some (.ref 0), some (.int (nI c)), some (.int 1), some (.int 0)], [], (zw_M (upd (upd (upd (upd g 16 (nI P)) 17 (nI m)) 18 (nI r)) 19 (nI d)) gl a al))) (f := (73, [some (.ref 0), some (.int (nI c)), some (.int 1), some (.int 0)], [], (zw_M (upd (upd (upd (upd g 16 (nI P)) 17 (nI m)) 18 (nI r)) 19 (nI d)) gl a al))) rfl (fun h9 => ?_) (fun h9 => ?_)
          · skip
            refine zr_go (t := (108, [some (.ref 0), some (.int (nI c)), some (.int 1), some (.int 0)], [.int 0], (zw_M (upd (upd (upd (upd g 16 (nI P)) 17 (nI m)) 18 (nI r)) 19 (nI d)) gl a al))) 1 rfl ?_
            exact zr_ret rfl (Or.inl rfl) (Or.inr ⟨hz, rfl, rfl⟩)
          · skip
            exact absurd rfl h9
        · skip
          have hz : zp_sla m r d c = true := by unfold zp_sla; rw [if_pos hm, decide_eq_true h1, decide_eq_true h3]; rfl
          refine zr_go (t := (70, [some (.ref 0), some (.int (nI c)), some (.int 1), some (.int 1)], [.int 1], (zw_M (upd (upd (upd (upd g 16 (nI P)) 17 (nI m)) 18 (nI r)) 19 (nI d)) gl a al))) 5 rfl ?_
          refine zr_ieq (x := 1) (y := 0) 1 0 rfl rfl (by omega) (by omega) (t := (107, [some (.ref 0), some (.int (nI c)), some (.int 1), some (.int 1)], [], (zw_M (upd (upd (upd (upd g 16 (nI P)) 17 (nI m)) 18 (nI r)) 19 (nI d)) gl a al))) (f := (73, [some (.ref 0), some (.int (nI c)), some (.int 1), some (.int 1)], [], (zw_M (upd (upd (upd (upd g 16 (nI P)) 17 (nI m)) 18 (nI r)) 19 (nI d)) gl a al))) rfl (fun h9 => ?_) (fun h9 => ?_)
          · skip
            exact absurd h9 (by decide)
          · skip
            refine zr_go (t := (75, [some (.ref 0), some (.int (nI c)), some (.int 1), some (.int 1)], [.int 1, .ref 0], (zw_M (upd (upd (upd (upd g 16 (nI P)) 17 (nI m)) 18 (nI r)) 19 (nI d)) gl a al))) 2 rfl ?_
            refine zr_ieq (x := 1) (y := 0) 1 0 rfl rfl (by omega) (by omega) (t := (85, [some (.ref 0), some (.int (nI c)), some (.int 1), some (.int 1)], [.ref 0], (zw_M (upd (upd (upd (upd g 16 (nI P)) 17 (nI m)) 18 (nI r)) 19 (nI d)) gl a al))) (f := (78, [some (.ref 0), some (.int (nI c)), some (.int 1), some (.int 1)], [.ref 0], (zw_M (upd (upd (upd (upd g 16 (nI P)) 17 (nI m)) 18 (nI r)) 19 (nI d)) gl a al))) rfl (fun h8 => ?_) (fun h8 => ?_)
            · skip
              exact absurd h8 (by decide)
            · skip
              refine zr_go (t := (108, [some (.ref 0), some (.int (nI c)), some (.int 1), some (.int 1)], [.int 1], (zw_M (upd (upd (upd (upd g 16 (nI P)) 17 (nI d)) 18 ((nI r) + 1)) 19 0) gl a al))) 14 rfl ?_
              rw [show (nI r) + 1 = nI (r + 1) from (zn_add rfl rfl)]
              exact zr_ret rfl (Or.inr rfl) (Or.inl ⟨hz, rfl, by rw [if_pos hm]⟩)
