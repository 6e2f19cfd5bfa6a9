/-! the reference: reading (written by wip/whole/gen_m11.py) -/
def zp_nx (P m r d c : Nat) : Option (Nat × Nat × Nat × Nat) := if zp_dig P m r d c = true then some (P, m, r, d + 1) else if zp_sla m r d c = true then some (P, (if m = 0 then d else m), r + 1, 0) else none
/-- the k-th character is read -/
def zp_step (k : Nat) (s : Nat × Nat × Nat × Nat) (c : Nat) : Option (Nat × Nat × Nat × Nat) := if k = 0 then (if c = 50 ∨ c = 51 ∨ c = 53 then some (c - 48, 0, 0, 0) else none) else if k = 1 then (if c = 58 then some s else none) else zp_nx s.1 s.2.1 s.2.2.1 s.2.2.2 c
/-- behind k characters, all of them allowed -/
def zp_st (cd : Nat → Nat) : Nat → Option (Nat × Nat × Nat × Nat)
  | 0 => some (0, 0, 0, 0)
  | k + 1 => match zp_st cd k with
    | some s => zp_step k s (cd k)
    | none => none
/-- the place of the first character that is not allowed, of n -/
def zp_len (cd : Nat → Nat) (n : Nat) : Nat := zM (fun k => (zp_st cd (k + 1)).isNone) 0 n
def zp_pos (m : Nat) : Nat → Nat
  | 0 => 2
  | i + 1 => zp_pos m i + (m - i) + 1
theorem zp_st_succ {cd : Nat → Nat} {k : Nat} {s : Nat × Nat × Nat × Nat} (h : zp_st cd k = some s) : zp_st cd (k + 1) = zp_step k s (cd k) := by
  show (match zp_st cd k with | some s => zp_step k s (cd k) | none => none) = _
  rw [h]
theorem zp_J_dig {P m r d c : Nat} (h : zp_J P m r d) (hd : zp_dig P m r d c = true) : zp_J P m r (d + 1) := by
  unfold zp_dig at hd
  simp only [Bool.and_eq_true, decide_eq_true_eq] at hd
  obtain ⟨h1, h2⟩ := h
  refine ⟨h1, ?_⟩
  rcases h2 with ⟨a1, a2, a3⟩ | ⟨a1, a2, a3, a4⟩
  · rw [if_pos a1] at hd
    exact Or.inl ⟨a1, a2, hd.1⟩
  · rw [if_neg (by omega)] at hd
    exact Or.inr ⟨a1, a2, a3, hd.1⟩
theorem zp_J_sla {P m r d c : Nat} (h : zp_J P m r d) (hd : zp_sla m r d c = true) : zp_J P (if m = 0 then d else m) (r + 1) 0 := by
  unfold zp_sla at hd
  obtain ⟨h1, h2⟩ := h
  have hmo := zp_most_le P
  refine ⟨h1, Or.inr ?_⟩
  by_cases e : m = 0
  · rw [if_pos e]
    rw [if_pos e] at hd
    simp only [Bool.and_eq_true, decide_eq_true_eq] at hd
    rcases h2 with ⟨a1, a2, a3⟩ | ⟨a1, a2, a3, a4⟩ <;> omega
  · rw [if_neg e]
    rw [if_neg e] at hd
    simp only [Bool.and_eq_true, decide_eq_true_eq] at hd
    rcases h2 with ⟨a1, a2, a3⟩ | ⟨a1, a2, a3, a4⟩ <;> omega
/-- what is known behind k characters, k at least 2: the state, where the reading is, and that the digits are digits -/
def zp_K (cd : Nat → Nat) (k P m r d : Nat) : Prop := zp_J P m r d ∧ (m = 0 → k = 2 + d) ∧ (m ≠ 0 → k = zp_pos m r + d) ∧ ∀ i j, i ≤ j → (i < r ∧ j < m ∨ i = r ∧ j < r + d) → 48 ≤ cd (zp_pos m i + (j - i)) ∧ cd (zp_pos m i + (j - i)) < 48 + P
theorem zp_K_ok {cd : Nat → Nat} : ∀ k P m r d, zp_st cd (k + 2) = some (P, m, r, d) → zp_K cd (k + 2) P m r d := by
  intro k
  induction k with
  | zero =>
    intro P m r d h
    have h1 : zp_st cd 1 = (if cd 0 = 50 ∨ cd 0 = 51 ∨ cd 0 = 53 then some (cd 0 - 48, 0, 0, 0) else none) := rfl
    by_cases e : cd 0 = 50 ∨ cd 0 = 51 ∨ cd 0 = 53
    · rw [if_pos e] at h1
      rw [zp_st_succ h1] at h
      have h2 : (if cd 1 = 58 then some (cd 0 - 48, 0, 0, 0) else none) = some (P, m, r, d) := h
      split at h2
      · cases h2
        exact ⟨⟨by omega, Or.inl ⟨rfl, rfl, Nat.zero_le _⟩⟩, fun _ => rfl, fun q => absurd rfl q, fun i j h3 h4 => by omega⟩
      · cases h2
    · rw [if_neg e] at h1
      have h3 : zp_st cd 2 = none := by show (match zp_st cd 1 with | some s => zp_step 1 s (cd 1) | none => none) = _; rw [h1]
      rw [h3] at h; cases h
  | succ k ih =>
    intro P m r d h
    cases hs : zp_st cd (k + 2) with
    | none =>
      have h3 : zp_st cd (k + 3) = none := by show (match zp_st cd (k + 2) with | some s => zp_step (k + 2) s (cd (k + 2)) | none => none) = _; rw [hs]
      rw [h3] at h; cases h
    | some s =>
      obtain ⟨P0, m0, r0, d0⟩ := s
      have hK := ih P0 m0 r0 d0 hs
      rw [zp_st_succ hs] at h
      have h2 : zp_nx P0 m0 r0 d0 (cd (k + 2)) = some (P, m, r, d) := by
        unfold zp_step at h; rw [if_neg (by omega), if_neg (by omega)] at h; exact h
      unfold zp_nx at h2
      obtain ⟨k1, k2, k3, k4⟩ := hK
      have hmo := zp_most_le P0
      split at h2
      next hd =>
        cases h2
        refine ⟨zp_J_dig k1 hd, fun q => by have := k2 q; omega, fun q => by have := k3 q; omega, fun i j h3 h4 => ?_⟩
        by_cases e : i = r ∧ j = r + d0
        · obtain ⟨rfl, rfl⟩ := e
          have e2 : zp_pos m i + (i + d0 - i) = k + 2 := by
            by_cases q : m = 0
            · have q2 : i = 0 := by rcases k1.2 with ⟨_, b, _⟩ | ⟨b, _⟩ <;> omega
              subst q2; rw [k2 q]; show 2 + (0 + d0 - 0) = _; omega
            · rw [k3 q]; omega
          rw [e2]
          unfold zp_dig at hd
          simp only [Bool.and_eq_true, decide_eq_true_eq] at hd
          rcases k1.1 with rfl | rfl | rfl <;> omega
        · exact k4 i j h3 (by omega)
      next hd =>
        split at h2
        next hsl =>
          cases h2
          have hJ := zp_J_sla k1 hsl
          unfold zp_sla at hsl
          by_cases q : m0 = 0
          · rw [if_pos q] at hsl hJ ⊢
            simp only [Bool.and_eq_true, decide_eq_true_eq] at hsl
            have q2 : r0 = 0 := by rcases k1.2 with ⟨_, b, _⟩ | ⟨b, _⟩ <;> omega
            subst q2
            refine ⟨hJ, fun z => by omega, fun _ => by have := k2 q; show _ = 2 + (d0 - 0) + 1 + 0; omega, fun i j h3 h4 => ?_⟩
            have q3 : i = 0 := by omega
            subst q3
            exact k4 0 j h3 (by omega)
          · rw [if_neg q] at hsl hJ ⊢
            simp only [Bool.and_eq_true, decide_eq_true_eq] at hsl
            exact ⟨hJ, fun z => absurd z q, fun _ => by have := k3 q; show _ = zp_pos m0 r0 + (m0 - r0) + 1 + 0; omega, fun i j h3 h4 => k4 i j h3 (by omega)⟩
        next => cases h2
/-- the numbers of the rows so far, as they stand in an array -/
def zp_Tb (cd : Nat → Nat) (m r d : Nat) (f : Nat → Int32) : Prop := ∀ i j, i ≤ j → (i < r ∧ j < m ∨ i = r ∧ j < r + d) → f (6 * i + j) = nI (cd (zp_pos m i + (j - i)) - 48)
theorem zs_M_takes (g : Nat → Int32) (gl : Nat → Int64) (a : Nat → Nat → Int32) (al : Nat → Nat → Int64) (x16 : Int32) (P m r d k c : Nat) (hk : k < 28) (hc : c < 128) (hx : 1 ≤ k → x16 = nI P) (h0 : k < 2 → m = 0 ∧ r = 0 ∧ d = 0) (hJ : 2 ≤ k → zp_J P m r d) : zm_Ev zt_get 3 114 [.ref 0, .int (nI k), .int (nI c)] (zw_M (upd (upd (upd (upd g 16 x16) 17 (nI m)) 18 (nI r)) 19 (nI d)) gl a al) (fun v w => (∃ P' m' r' d' f', zp_step k (P, m, r, d) c = some (P', m', r', d') ∧ v = some (.int 1) ∧ w = (zw_M (upd (upd (upd (upd g 16 (nI (P'))) 17 (nI (m'))) 18 (nI (r'))) 19 (nI (d'))) gl (va_up a 8 (f')) al) ∧ ((k < 2 ∨ zp_dig P m r d c = false) → f' = a 8) ∧ (2 ≤ k → zp_dig P m r d c = true → f' = upd (a 8) (6 * r + r + d) (nI (c - 48)))) ∨ (zp_step k (P, m, r, d) c = none ∧ v = some (.int 0) ∧ ∃ x, w = (zw_M (upd (upd (upd (upd g 16 x) 17 (nI m)) 18 (nI r)) 19 (nI d)) gl a al) ∧ (1 ≤ k → x = nI P))) := by
  refine zr_ev zt_M_takes rfl rfl ?_
  show zm_Run zt_get 2 zt_M_takes (0, [some (.ref 0), some (.int (nI k)), some (.int (nI c))], [], (zw_M (upd (upd (upd (upd g 16 x16) 17 (nI m)) 18 (nI r)) 19 (nI d)) gl a al)) _
  refine zr_go (t := (1, [some (.ref 0), some (.int (nI k)), some (.int (nI c))], [.int (nI k)], (zw_M (upd (upd (upd (upd g 16 x16) 17 (nI m)) 18 (nI r)) 19 (nI d)) gl a al))) 1 rfl ?_
  refine zr_ine (x := nI k) (y := 0) k 0 rfl rfl (by omega) (by omega) (t := (36, [some (.ref 0), some (.int (nI k)), some (.int (nI c))], [], (zw_M (upd (upd (upd (upd g 16 x16) 17 (nI m)) 18 (nI r)) 19 (nI d)) gl a al))) (f := (4, [some (.ref 0), some (.int (nI k)), some (.int (nI c))], [], (zw_M (upd (upd (upd (upd g 16 x16) 17 (nI m)) 18 (nI r)) 19 (nI d)) gl a al))) rfl (fun h1 => ?_) (fun h1 => ?_)
  · skip
    have hx1 := hx (by omega)
    subst hx1
    refine zr_go (t := (38, [some (.ref 0), some (.int (nI k)), some (.int (nI c))], [.int 1, .int (nI k)], (zw_M (upd (upd (upd (upd g 16 (nI P)) 17 (nI m)) 18 (nI r)) 19 (nI d)) gl a al))) 2 rfl ?_
    refine zr_ine (x := nI k) (y := 1) k 1 rfl rfl (by omega) (by omega) (t := (53, [some (.ref 0), some (.int (nI k)), some (.int (nI c))], [], (zw_M (upd (upd (upd (upd g 16 (nI P)) 17 (nI m)) 18 (nI r)) 19 (nI d)) gl a al))) (f := (41, [some (.ref 0), some (.int (nI k)), some (.int (nI c))], [], (zw_M (upd (upd (upd (upd g 16 (nI P)) 17 (nI m)) 18 (nI r)) 19 (nI d)) gl a al))) rfl (fun h2 => ?_) (fun h2 => ?_)
    · skip
      have hJ2 := hJ (by omega)
      have hst : zp_step k (P, m, r, d) c = zp_nx P m r d c := by unfold zp_step; rw [if_neg h1, if_neg h2]
      refine zr_go (t := (55, [some (.ref 0), some (.int (nI k)), some (.int (nI c))], [.int (nI c), .ref 0], (zw_M (upd (upd (upd (upd g 16 (nI P)) 17 (nI m)) 18 (nI r)) 19 (nI d)) gl a al))) 2 rfl ?_
      refine zr_call (t := (58, [some (.ref 0), some (.int (nI k)), some (.int (nI c))], [], (zw_M (upd (upd (upd (upd g 16 (nI P)) 17 (nI m)) 18 (nI r)) 19 (nI d)) gl a al))) rfl (Nat.le_of_ble_eq_true rfl : 2 ≤ 2) (zs_M_takesDigit g gl a al P m r d hJ2 c hc) ?_
      rintro _ _ (⟨hz, rfl, rfl⟩ | ⟨hzd, rfl, rfl⟩)
      · skip
        show zm_Run zt_get 2 zt_M_takes (58, [some (.ref 0), some (.int (nI k)), some (.int (nI c))], [.int 1], (zw_M (upd (upd (upd (upd g 16 (nI P)) 17 (nI m)) 18 (nI r)) 19 (nI (d + 1))) gl (va_up a 8 (upd (a 8) (6 * r + r + d) (nI (c - 48)))) al)) _
        refine zr_ine (x := 1) (y := 0) 1 0 rfl rfl (by omega) (by omega) (t := (69, [some (.ref 0), some (.int (nI k)), some (.int (nI c))], [], (zw_M (upd (upd (upd (upd g 16 (nI P)) 17 (nI m)) 18 (nI r)) 19 (nI (d + 1))) gl (va_up a 8 (upd (a 8) (6 * r + r + d) (nI (c - 48)))) al))) (f := (61, [some (.ref 0), some (.int (nI k)), some (.int (nI c))], [], (zw_M (upd (upd (upd (upd g 16 (nI P)) 17 (nI m)) 18 (nI r)) 19 (nI (d + 1))) gl (va_up a 8 (upd (a 8) (6 * r + r + d) (nI (c - 48)))) al))) rfl (fun h3 => ?_) (fun h3 => ?_)
        · skip
          refine zr_go (t := (74, [some (.ref 0), some (.int (nI k)), some (.int (nI c))], [.int 1], (zw_M (upd (upd (upd (upd g 16 (nI P)) 17 (nI m)) 18 (nI r)) 19 (nI (d + 1))) gl (va_up a 8 (upd (a 8) (6 * r + r + d) (nI (c - 48)))) al))) 2 rfl ?_
          exact zr_ret rfl (Or.inr rfl) (Or.inl ⟨P, m, r, d + 1, _, by rw [hst]; unfold zp_nx; rw [if_pos hz], rfl, rfl, fun q => absurd q (by rw [hz]; simp; omega), fun _ _ => rfl⟩)
        · skip
          exact absurd h3 (by decide)
      · skip
        show zm_Run zt_get 2 zt_M_takes (58, [some (.ref 0), some (.int (nI k)), some (.int (nI c))], [.int 0], (zw_M (upd (upd (upd (upd g 16 (nI P)) 17 (nI m)) 18 (nI r)) 19 (nI d)) gl a al)) _
        refine zr_ine (x := 0) (y := 0) 0 0 rfl rfl (by omega) (by omega) (t := (69, [some (.ref 0), some (.int (nI k)), some (.int (nI c))], [], (zw_M (upd (upd (upd (upd g 16 (nI P)) 17 (nI m)) 18 (nI r)) 19 (nI d)) gl a al))) (f := (61, [some (.ref 0), some (.int (nI k)), some (.int (nI c))], [], (zw_M (upd (upd (upd (upd g 16 (nI P)) 17 (nI m)) 18 (nI r)) 19 (nI d)) gl a al))) rfl (fun h3 => ?_) (fun h3 => ?_)
        · skip
          exact absurd rfl h3
        · skip
          refine zr_go (t := (63, [some (.ref 0), some (.int (nI k)), some (.int (nI c))], [.int (nI c), .ref 0], (zw_M (upd (upd (upd (upd g 16 (nI P)) 17 (nI m)) 18 (nI r)) 19 (nI d)) gl a al))) 2 rfl ?_
          refine zr_call (t := (66, [some (.ref 0), some (.int (nI k)), some (.int (nI c))], [], (zw_M (upd (upd (upd (upd g 16 (nI P)) 17 (nI m)) 18 (nI r)) 19 (nI d)) gl a al))) rfl (Nat.le_of_ble_eq_true rfl : 1 ≤ 2) (zs_M_takesSlash g gl a al P m r d hJ2 c hc) ?_
          rintro _ _ (⟨hz, rfl, rfl⟩ | ⟨hz, rfl, rfl⟩)
          · skip
            show zm_Run zt_get 2 zt_M_takes (66, [some (.ref 0), some (.int (nI k)), some (.int (nI c))], [.int 1], (zw_M (upd (upd (upd (upd g 16 (nI P)) 17 (nI (if m = 0 then d else m))) 18 (nI (r + 1))) 19 0) gl a al)) _
            refine zr_ieq (x := 1) (y := 0) 1 0 rfl rfl (by omega) (by omega) (t := (73, [some (.ref 0), some (.int (nI k)), some (.int (nI c))], [], (zw_M (upd (upd (upd (upd g 16 (nI P)) 17 (nI (if m = 0 then d else m))) 18 (nI (r + 1))) 19 0) gl a al))) (f := (69, [some (.ref 0), some (.int (nI k)), some (.int (nI c))], [], (zw_M (upd (upd (upd (upd g 16 (nI P)) 17 (nI (if m = 0 then d else m))) 18 (nI (r + 1))) 19 0) gl a al))) rfl (fun h4 => ?_) (fun h4 => ?_)
            · skip
              exact absurd h4 (by decide)
            · skip
              refine zr_go (t := (74, [some (.ref 0), some (.int (nI k)), some (.int (nI c))], [.int 1], (zw_M (upd (upd (upd (upd g 16 (nI P)) 17 (nI (if m = 0 then d else m))) 18 (nI (r + 1))) 19 0) gl a al))) 2 rfl ?_
              exact zr_ret rfl (Or.inr rfl) (Or.inl ⟨P, (if m = 0 then d else m), r + 1, 0, a 8, by rw [hst]; unfold zp_nx; rw [if_neg (by rw [hzd]; decide), if_pos hz], rfl, rfl, fun _ => rfl, fun _ q => absurd q (by rw [hzd]; decide)⟩)
          · skip
            show zm_Run zt_get 2 zt_M_takes (66, [some (.ref 0), some (.int (nI k)), some (.int (nI c))], [.int 0], (zw_M (upd (upd (upd (upd g 16 (nI P)) 17 (nI m)) 18 (nI r)) 19 (nI d)) gl a al)) _
            refine zr_ieq (x := 0) (y := 0) 0 0 rfl rfl (by omega) (by omega) (t := (73, [some (.ref 0), some (.int (nI k)), some (.int (nI c))], [], (zw_M (upd (upd (upd (upd g 16 (nI P)) 17 (nI m)) 18 (nI r)) 19 (nI d)) gl a al))) (f := (69, [some (.ref 0), some (.int (nI k)), some (.int (nI c))], [], (zw_M (upd (upd (upd (upd g 16 (nI P)) 17 (nI m)) 18 (nI r)) 19 (nI d)) gl a al))) rfl (fun h4 => ?_) (fun h4 => ?_)
            · skip
              refine zr_go (t := (74, [some (.ref 0), some (.int (nI k)), some (.int (nI c))], [.int 0], (zw_M (upd (upd (upd (upd g 16 (nI P)) 17 (nI m)) 18 (nI r)) 19 (nI d)) gl a al))) 1 rfl ?_
              exact zr_ret rfl (Or.inl rfl) (Or.inr ⟨by rw [hst]; unfold zp_nx; rw [if_neg (by rw [hzd]; decide), if_neg (by rw [hz]; decide)], rfl, nI P, rfl, fun _ => rfl⟩)
            · skip
              exact absurd rfl h4
    · skip
      have hst : zp_step k (P, m, r, d) c = if c = 58 then some (P, m, r, d) else none := by unfold zp_step; rw [if_neg h1, if_pos h2]
      refine zr_go (t := (44, [some (.ref 0), some (.int (nI k)), some (.int (nI c))], [.int 58, .int (nI c)], (zw_M (upd (upd (upd (upd g 16 (nI P)) 17 (nI m)) 18 (nI r)) 19 (nI d)) gl a al))) 2 rfl ?_
      refine zr_ine (x := nI c) (y := 58) c 58 rfl rfl (by omega) (by omega) (t := (51, [some (.ref 0), some (.int (nI k)), some (.int (nI c))], [], (zw_M (upd (upd (upd (upd g 16 (nI P)) 17 (nI m)) 18 (nI r)) 19 (nI d)) gl a al))) (f := (47, [some (.ref 0), some (.int (nI k)), some (.int (nI c))], [], (zw_M (upd (upd (upd (upd g 16 (nI P)) 17 (nI m)) 18 (nI r)) 19 (nI d)) gl a al))) rfl (fun h3 => ?_) (fun h3 => ?_)
      · skip
        refine zr_go (t := (52, [some (.ref 0), some (.int (nI k)), some (.int (nI c))], [.int 0], (zw_M (upd (upd (upd (upd g 16 (nI P)) 17 (nI m)) 18 (nI r)) 19 (nI d)) gl a al))) 1 rfl ?_
        exact zr_ret rfl (Or.inl rfl) (Or.inr ⟨by rw [hst, if_neg h3], rfl, nI P, rfl, fun _ => rfl⟩)
      · skip
        refine zr_go (t := (52, [some (.ref 0), some (.int (nI k)), some (.int (nI c))], [.int 1], (zw_M (upd (upd (upd (upd g 16 (nI P)) 17 (nI m)) 18 (nI r)) 19 (nI d)) gl a al))) 2 rfl ?_
        exact zr_ret rfl (Or.inr rfl) (Or.inl ⟨P, m, r, d, a 8, by rw [hst, if_pos h3], rfl, rfl, fun _ => rfl, fun q => by omega⟩)
  · skip
    obtain ⟨rfl, rfl, rfl⟩ := h0 (by omega)
    subst h1
    refine zr_go (t := (15, [some (.ref 0), some (.int (nI 0)), some (.int (nI c))], [.int 50, .int (nI c)], (zw_M (upd (upd (upd (upd g 16 ((nI c) - 48)) 17 (nI 0)) 18 (nI 0)) 19 (nI 0)) gl a al))) 7 rfl ?_
    refine zr_ieq (x := nI c) (y := 50) c 50 rfl rfl (by omega) (by omega) (t := (30, [some (.ref 0), some (.int (nI 0)), some (.int (nI c))], [], (zw_M (upd (upd (upd (upd g 16 ((nI c) - 48)) 17 (nI 0)) 18 (nI 0)) 19 (nI 0)) gl a al))) (f := (18, [some (.ref 0), some (.int (nI 0)), some (.int (nI c))], [], (zw_M (upd (upd (upd (upd g 16 ((nI c) - 48)) 17 (nI 0)) 18 (nI 0)) 19 (nI 0)) gl a al))) rfl (fun h3 => ?_) (fun h3 => ?_)
    · skip
      refine zr_go (t := (35, [some (.ref 0), some (.int (nI 0)), some (.int (nI c))], [.int 1], (zw_M (upd (upd (upd (upd g 16 ((nI c) - 48)) 17 (nI 0)) 18 (nI 0)) 19 (nI 0)) gl a al))) 2 rfl ?_
      rw [show nI c - 48 = nI (c - 48) from zn_sub rfl rfl (by omega)]
      exact zr_ret rfl (Or.inr rfl) (Or.inl ⟨c - 48, 0, 0, 0, a 8, by unfold zp_step; rw [if_pos rfl, if_pos (by omega)], rfl, rfl, fun _ => rfl, fun q => by omega⟩)
    · skip
      refine zr_go (t := (21, [some (.ref 0), some (.int (nI 0)), some (.int (nI c))], [.int 51, .int (nI c)], (zw_M (upd (upd (upd (upd g 16 ((nI c) - 48)) 17 (nI 0)) 18 (nI 0)) 19 (nI 0)) gl a al))) 2 rfl ?_
      refine zr_ieq (x := nI c) (y := 51) c 51 rfl rfl (by omega) (by omega) (t := (30, [some (.ref 0), some (.int (nI 0)), some (.int (nI c))], [], (zw_M (upd (upd (upd (upd g 16 ((nI c) - 48)) 17 (nI 0)) 18 (nI 0)) 19 (nI 0)) gl a al))) (f := (24, [some (.ref 0), some (.int (nI 0)), some (.int (nI c))], [], (zw_M (upd (upd (upd (upd g 16 ((nI c) - 48)) 17 (nI 0)) 18 (nI 0)) 19 (nI 0)) gl a al))) rfl (fun h4 => ?_) (fun h4 => ?_)
      · skip
        refine zr_go (t := (35, [some (.ref 0), some (.int (nI 0)), some (.int (nI c))], [.int 1], (zw_M (upd (upd (upd (upd g 16 ((nI c) - 48)) 17 (nI 0)) 18 (nI 0)) 19 (nI 0)) gl a al))) 2 rfl ?_
        rw [show nI c - 48 = nI (c - 48) from zn_sub rfl rfl (by omega)]
        exact zr_ret rfl (Or.inr rfl) (Or.inl ⟨c - 48, 0, 0, 0, a 8, by unfold zp_step; rw [if_pos rfl, if_pos (by omega)], rfl, rfl, fun _ => rfl, fun q => by omega⟩)
      · skip
        refine zr_go (t := (27, [some (.ref 0), some (.int (nI 0)), some (.int (nI c))], [.int 53, .int (nI c)], (zw_M (upd (upd (upd (upd g 16 ((nI c) - 48)) 17 (nI 0)) 18 (nI 0)) 19 (nI 0)) gl a al))) 2 rfl ?_
        refine zr_ine (x := nI c) (y := 53) c 53 rfl rfl (by omega) (by omega) (t := (34, [some (.ref 0), some (.int (nI 0)), some (.int (nI c))], [], (zw_M (upd (upd (upd (upd g 16 ((nI c) - 48)) 17 (nI 0)) 18 (nI 0)) 19 (nI 0)) gl a al))) (f := (30, [some (.ref 0), some (.int (nI 0)), some (.int (nI c))], [], (zw_M (upd (upd (upd (upd g 16 ((nI c) - 48)) 17 (nI 0)) 18 (nI 0)) 19 (nI 0)) gl a al))) rfl (fun h5 => ?_) (fun h5 => ?_)
        · skip
          refine zr_go (t := (35, [some (.ref 0), some (.int (nI 0)), some (.int (nI c))], [.int 0], (zw_M (upd (upd (upd (upd g 16 ((nI c) - 48)) 17 (nI 0)) 18 (nI 0)) 19 (nI 0)) gl a al))) 1 rfl ?_
          exact zr_ret rfl (Or.inl rfl) (Or.inr ⟨by unfold zp_step; rw [if_pos rfl, if_neg (by omega)], rfl, nI c - 48, rfl, fun q => by omega⟩)
        · skip
          refine zr_go (t := (35, [some (.ref 0), some (.int (nI 0)), some (.int (nI c))], [.int 1], (zw_M (upd (upd (upd (upd g 16 ((nI c) - 48)) 17 (nI 0)) 18 (nI 0)) 19 (nI 0)) gl a al))) 2 rfl ?_
          rw [show nI c - 48 = nI (c - 48) from zn_sub rfl rfl (by omega)]
          exact zr_ret rfl (Or.inr rfl) (Or.inl ⟨c - 48, 0, 0, 0, a 8, by unfold zp_step; rw [if_pos rfl, if_pos (by omega)], rfl, rfl, fun _ => rfl, fun q => by omega⟩)
theorem zp_st1 {s t : Nat × Nat × Nat × Nat} {c : Nat} (h : zp_step 0 s c = some t) : t.2.1 = 0 ∧ t.2.2.1 = 0 ∧ t.2.2.2 = 0 := by
  unfold zp_step at h
  rw [if_pos rfl] at h
  split at h
  · cases h; exact ⟨rfl, rfl, rfl⟩
  · cases h
theorem zp_Tb_step {cd : Nat → Nat} {k P m r d P' m' r' d' : Nat} {f f' : Nat → Int32} (hJ : 2 ≤ k → zp_J P m r d) (h0 : k < 2 → m = 0 ∧ r = 0 ∧ d = 0) (hst : zp_st cd k = some (P, m, r, d)) (hs : zp_step k (P, m, r, d) (cd k) = some (P', m', r', d')) (hT : zp_Tb cd m r d f) (hf1 : (k < 2 ∨ zp_dig P m r d (cd k) = false) → f' = f) (hf2 : 2 ≤ k → zp_dig P m r d (cd k) = true → f' = upd f (6 * r + r + d) (nI (cd k - 48))) : zp_Tb cd m' r' d' f' := by
  by_cases hk : k < 2
  · have e := hf1 (Or.inl hk)
    subst e
    obtain ⟨rfl, rfl, rfl⟩ := h0 hk
    have h1 : m' = 0 ∧ r' = 0 ∧ d' = 0 := by
      by_cases q : k = 0
      · subst q; exact zp_st1 hs
      · unfold zp_step at hs
        rw [if_neg q, if_pos (by omega)] at hs
        split at hs
        · cases hs; exact ⟨rfl, rfl, rfl⟩
        · cases hs
    obtain ⟨rfl, rfl, rfl⟩ := h1
    exact fun i j h2 h3 => by omega
  · have hJ2 := hJ (by omega)
    have h2 : zp_nx P m r d (cd k) = some (P', m', r', d') := by
      unfold zp_step at hs; rw [if_neg (by omega), if_neg (by omega)] at hs; exact hs
    obtain ⟨k0, rfl⟩ : ∃ k0, k = k0 + 2 := ⟨k - 2, by omega⟩
    obtain ⟨k1, k2, k3, -⟩ := zp_K_ok k0 P m r d hst
    have hmo := zp_most_le P
    unfold zp_nx at h2
    split at h2
    next hd =>
      cases h2
      rw [hf2 (by omega) hd]
      intro i j h3 h4
      by_cases e : i = r ∧ j = r + d
      · obtain ⟨rfl, rfl⟩ := e
        have e2 : zp_pos m i + (i + d - i) = k0 + 2 := by
          by_cases q : m = 0
          · have q2 : i = 0 := by rcases k1.2 with ⟨_, b, _⟩ | ⟨b, _⟩ <;> omega
            subst q2; rw [k2 q]; show 2 + (0 + d - 0) = _; omega
          · rw [k3 q]; omega
        rw [e2, show 6 * i + (i + d) = 6 * i + i + d by omega]
        exact pk_us
      · refine (pk_un ?_).trans (hT i j h3 (by omega))
        rcases k1.2 with ⟨b1, b2, b3⟩ | ⟨b1, b2, b3, b4⟩ <;> omega
    next hd =>
      rw [hf1 (Or.inr (by cases hq : zp_dig P m r d (cd (k0 + 2)) with | true => exact absurd hq hd | false => rfl))]
      split at h2
      next hsl =>
        cases h2
        unfold zp_sla at hsl
        by_cases q : m = 0
        · rw [if_pos q] at hsl ⊢
          simp only [Bool.and_eq_true, decide_eq_true_eq] at hsl
          have q2 : r = 0 := by rcases k1.2 with ⟨_, b, _⟩ | ⟨b, _⟩ <;> omega
          subst q2
          intro i j h3 h4
          have q3 : i = 0 := by omega
          subst q3
          exact hT 0 j h3 (by omega)
        · rw [if_neg q] at hsl ⊢
          simp only [Bool.and_eq_true, decide_eq_true_eq] at hsl
          exact fun i j h3 h4 => hT i j h3 (by omega)
      next => cases h2
theorem zs_M_read (g : Nat → Int32) (gl : Nat → Int64) (a : Nat → Nat → Int32) (al : Nat → Nat → Int64) (n : Nat) (hn : g 4 = nI n) (hn28 : n ≤ 28) (cd : Nat → Nat) (hcd : ∀ k, k < n → a 2 k = nI (cd k)) (hcd1 : ∀ k, k < n → cd k < 128) : zm_Ev zt_get 4 115 [.ref 0] (zw_M g gl a al) (fun v w => v = some (.int (nI (zp_len cd n))) ∧ ∃ (x16 : Int32) (P m r d : Nat) (f8 : Nat → Int32), w = (zw_M (upd (upd (upd (upd g 16 x16) 17 (nI m)) 18 (nI r)) 19 (nI d)) gl (va_up a 8 f8) al) ∧ zp_st cd (zp_len cd n) = some (P, m, r, d) ∧ zp_len cd n ≤ n ∧ (1 ≤ zp_len cd n → x16 = nI P) ∧ zp_Tb cd m r d f8) := by
  refine zr_ev zt_M_read rfl rfl ?_
  show zm_Run zt_get 3 zt_M_read (0, [some (.ref 0), none], [], (zw_M g gl a al)) _
  refine zr_go (t := (17, [some (.ref 0), some (.int 0)], [], (zw_M (upd (upd (upd g 17 0) 18 0) 19 0) gl a al))) 11 rfl ?_
  refine zr_loop (fun zq : Nat × Int32 × Nat × Nat × Nat × Nat × (Nat → Int32) => (17, [some (.ref 0), some (.int (nI zq.1))], [], (zw_M (upd (upd (upd (upd g 16 zq.2.1) 17 (nI zq.2.2.2.1)) 18 (nI zq.2.2.2.2.1)) 19 (nI zq.2.2.2.2.2.1)) gl (va_up a 8 zq.2.2.2.2.2.2) al))) (fun zq => zq.1 ≤ n ∧ zp_st cd zq.1 = some (zq.2.2.1, zq.2.2.2.1, zq.2.2.2.2.1, zq.2.2.2.2.2.1) ∧ (1 ≤ zq.1 → zq.2.1 = nI zq.2.2.1) ∧ zp_Tb cd zq.2.2.2.1 zq.2.2.2.2.1 zq.2.2.2.2.2.1 zq.2.2.2.2.2.2 ∧ (zq.1 < 2 → zq.2.2.2.1 = 0 ∧ zq.2.2.2.2.1 = 0 ∧ zq.2.2.2.2.2.1 = 0) ∧ zM (fun t => (zp_st cd (t + 1)).isNone) zq.1 (n - zq.1) = zp_len cd n) (fun zq => n - zq.1) ?_ (0, g 16, 0, 0, 0, 0, a 8) ⟨by omega, rfl, fun q => absurd q (Nat.not_succ_le_zero 0), fun i j h1 h2 => (by have h2 : i < 0 ∧ j < 0 ∨ i = 0 ∧ j < 0 + 0 := h2; omega), fun _ => ⟨rfl, rfl, rfl⟩, rfl⟩
  rintro ⟨k, x16, P, m, r, d, f8⟩ ⟨hk, hst, hx, hTb, h0, hM⟩ ih
  try dsimp only at *
  refine zr_go (t := (22, [some (.ref 0), some (.int (nI k))], [.int (g 4), .int (nI k)], (zw_M (upd (upd (upd (upd g 16 x16) 17 (nI m)) 18 (nI r)) 19 (nI d)) gl (va_up a 8 f8) al))) 3 rfl ?_
  refine zr_ige (x := nI k) (y := g 4) k n rfl hn (by omega) (by omega) (t := (45, [some (.ref 0), some (.int (nI k))], [], (zw_M (upd (upd (upd (upd g 16 x16) 17 (nI m)) 18 (nI r)) 19 (nI d)) gl (va_up a 8 f8) al))) (f := (25, [some (.ref 0), some (.int (nI k))], [], (zw_M (upd (upd (upd (upd g 16 x16) 17 (nI m)) 18 (nI r)) 19 (nI d)) gl (va_up a 8 f8) al))) rfl (fun h1 => ?_) (fun h1 => ?_)
  · skip
    have e1 : zp_len cd n = k := by rw [← hM, show n - k = 0 by omega]; rfl
    refine zr_go (t := (46, [some (.ref 0), some (.int (nI k))], [.int (nI k)], (zw_M (upd (upd (upd (upd g 16 x16) 17 (nI m)) 18 (nI r)) 19 (nI d)) gl (va_up a 8 f8) al))) 1 rfl ?_
    exact zr_ret rfl trivial ⟨by rw [e1], x16, P, m, r, d, f8, rfl, by rw [e1]; exact hst, by rw [e1]; exact hk, by rw [e1]; exact hx, hTb⟩
  · skip
    have hc1 := hcd1 k h1
    have hJ : 2 ≤ k → zp_J P m r d := fun q => by obtain ⟨k0, rfl⟩ : ∃ k0, k = k0 + 2 := ⟨k - 2, by omega⟩; exact (zp_K_ok k0 P m r d hst).1
    have hstep := zp_st_succ hst
    refine zr_go (t := (32, [some (.ref 0), some (.int (nI k))], [.int (nI k), .ref 2, .int (nI k), .ref 0], (zw_M (upd (upd (upd (upd g 16 x16) 17 (nI m)) 18 (nI r)) 19 (nI d)) gl (va_up a 8 f8) al))) 5 rfl ?_
    refine zr_cd (t := (33, [some (.ref 0), some (.int (nI k))], [.int ((a 2) (nI k).toNatClampNeg), .int (nI k), .ref 0], (zw_M (upd (upd (upd (upd g 16 x16) 17 (nI m)) 18 (nI r)) 19 (nI d)) gl (va_up a 8 f8) al))) rfl (pk_in k 28 (by omega) rfl (by omega)) ?_
    rw [pk_cl (x := (nI k)) k rfl (by omega)]
    rw [show (a 2) k = nI (cd k) from hcd k (by omega)]
    refine zr_call (t := (36, [some (.ref 0), some (.int (nI k))], [], (zw_M (upd (upd (upd (upd g 16 x16) 17 (nI m)) 18 (nI r)) 19 (nI d)) gl (va_up a 8 f8) al))) rfl (Nat.le_of_ble_eq_true rfl : 3 ≤ 3) (zs_M_takes g gl (va_up a 8 f8) al x16 P m r d k (cd k) (by omega) hc1 hx h0 hJ) ?_
    rintro _ _ (⟨P', m', r', d', f', hs, rfl, rfl, hf1, hf2⟩ | ⟨hs, rfl, x, rfl, hx2⟩)
    · skip
      show zm_Run zt_get 3 zt_M_read (36, [some (.ref 0), some (.int (nI k))], [.int 1], (zw_M (upd (upd (upd (upd g 16 (nI (P'))) 17 (nI (m'))) 18 (nI (r'))) 19 (nI (d'))) gl (va_up a 8 (f')) al)) _
      refine zr_ieq (x := 1) (y := 0) 1 0 rfl rfl (by omega) (by omega) (t := (45, [some (.ref 0), some (.int (nI k))], [], (zw_M (upd (upd (upd (upd g 16 (nI (P'))) 17 (nI (m'))) 18 (nI (r'))) 19 (nI (d'))) gl (va_up a 8 (f')) al))) (f := (39, [some (.ref 0), some (.int (nI k))], [], (zw_M (upd (upd (upd (upd g 16 (nI (P'))) 17 (nI (m'))) 18 (nI (r'))) 19 (nI (d'))) gl (va_up a 8 (f')) al))) rfl (fun h2 => ?_) (fun h2 => ?_)
      · skip
        exact absurd h2 (by decide)
      · skip
        have hst2 : zp_st cd (k + 1) = some (P', m', r', d') := hstep.trans hs
        have hT2 : zp_Tb cd m' r' d' f' := zp_Tb_step hJ h0 hst hs hTb hf1 hf2
        refine zr_go (t := (17, [some (.ref 0), some (.int ((nI k) + 1))], [], (zw_M (upd (upd (upd (upd g 16 (nI (P'))) 17 (nI (m'))) 18 (nI (r'))) 19 (nI (d'))) gl (va_up a 8 (f')) al))) 2 rfl ?_
        rw [show nI k + 1 = nI (k + 1) from nI_1 k]
        exact ih (k + 1, nI P', P', m', r', d', f') ⟨by omega, hst2, fun _ => rfl, hT2, fun q => by have e0 : k = 0 := (by have q : k + 1 < 2 := q; omega); subst e0; exact zp_st1 hs, by rw [← hM, show n - k = (n - (k + 1)) + 1 by omega]; show zM _ (k + 1) (n - (k + 1)) = if (zp_st cd (k + 1)).isNone = true then k else _; rw [hst2]; rfl⟩ (by show n - (k + 1) < n - k; omega)
    · skip
      show zm_Run zt_get 3 zt_M_read (36, [some (.ref 0), some (.int (nI k))], [.int 0], (zw_M (upd (upd (upd (upd g 16 x) 17 (nI m)) 18 (nI r)) 19 (nI d)) gl (va_up a 8 f8) al)) _
      refine zr_ieq (x := 0) (y := 0) 0 0 rfl rfl (by omega) (by omega) (t := (45, [some (.ref 0), some (.int (nI k))], [], (zw_M (upd (upd (upd (upd g 16 x) 17 (nI m)) 18 (nI r)) 19 (nI d)) gl (va_up a 8 f8) al))) (f := (39, [some (.ref 0), some (.int (nI k))], [], (zw_M (upd (upd (upd (upd g 16 x) 17 (nI m)) 18 (nI r)) 19 (nI d)) gl (va_up a 8 f8) al))) rfl (fun h2 => ?_) (fun h2 => ?_)
      · skip
        have e1 : zp_len cd n = k := by rw [← hM, show n - k = (n - (k + 1)) + 1 by omega]; show (if (zp_st cd (k + 1)).isNone = true then k else _) = k; rw [hstep, hs]; rfl
        refine zr_go (t := (46, [some (.ref 0), some (.int (nI k))], [.int (nI k)], (zw_M (upd (upd (upd (upd g 16 x) 17 (nI m)) 18 (nI r)) 19 (nI d)) gl (va_up a 8 f8) al))) 1 rfl ?_
        exact zr_ret rfl trivial ⟨by rw [e1], x, P, m, r, d, f8, rfl, by rw [e1]; exact hst, by rw [e1]; exact hk, by rw [e1]; exact hx2, hTb⟩
      · skip
        exact absurd rfl h2
