/-! the reference: determinant, discriminant (written by wip/whole/gen_m15.py) -/
theorem zd_det_s (P N n k : Nat) (M : Nat → Nat → Nat) (t : Nat) : zd_det P N (n + 1) k M t = if zM (fun i => M i k != 0) k (N - k) = N then 0 else zd_det P N n (k + 1) (zd_cl P (zd_sw M k (zM (fun i => M i k != 0) k (N - k))) k (zv_inv P (zd_sw M k (zM (fun i => M i k != 0) k (N - k)) k k))) ((if zM (fun i => M i k != 0) k (N - k) = k then t else P - t) * zd_sw M k (zM (fun i => M i k != 0) k (N - k)) k k % P) := rfl
theorem zd_sw_lt {P N : Nat} {M : Nat → Nat → Nat} {r s : Nat} (h : ∀ i j, i < N → j < N → M i j < P) (hr : r < N) (hs : s < N) : ∀ i j, i < N → j < N → zd_sw M r s i j < P := by
  intro i j hi hj; unfold zd_sw; split; exact h s j hs hj; split; exact h r j hr hj; exact h i j hi hj
theorem zd_cl_lt {P N : Nat} {M : Nat → Nat → Nat} {k b : Nat} (h0 : 0 < P) (h : ∀ i j, i < N → j < N → M i j < P) : ∀ i j, i < N → j < N → zd_cl P M k b i j < P := by
  intro i j hi hj; unfold zd_cl; split; exact Nat.mod_lt _ h0; exact h i j hi hj
theorem zd_det_lt {P N : Nat} (h0 : 0 < P) (n : Nat) : ∀ k M t, t < P → zd_det P N n k M t < P := by
  induction n with
  | zero => intro k M t h; exact h
  | succ n ih => intro k M t h; unfold zd_det; split; exact h0; exact ih _ _ _ (Nat.mod_lt _ h0)
theorem zs_M_determinant (g : Nat → Int32) (gl : Nat → Int64) (a : Nat → Nat → Int32) (al : Nat → Nat → Int64) (P N : Nat) (hP : g 0 = nI P) (hN : g 1 = nI N) (hPP : P = 2 ∨ P = 3 ∨ P = 5) (hN6 : N ≤ 6) (M0 : Nat → Nat → Nat) (hM : zc_M a N M0) (hMP0 : ∀ i j, i < N → j < N → M0 i j < P) : zm_Ev zt_get 3 152 [.ref 0] (zw_M g gl a al) (fun v w => v = some (.int (nI (zd_det P N N 0 M0 1))) ∧ ∃ f, w = (zw_M g gl (va_up a 15 f) al)) := by
  obtain ⟨hP0, hP5⟩ := zv_P5 hPP
  refine zr_ev zt_M_determinant rfl rfl ?_
  show zm_Run zt_get 2 zt_M_determinant (0, [some (.ref 0), none, none, none], [], (zw_M g gl a al)) _
  refine zr_go (t := (4, [some (.ref 0), some (.int 1), some (.int 0), none], [], (zw_M g gl a al))) 4 rfl ?_
  refine zr_loop (fun zq : Nat × Nat × (Nat → Nat → Nat) × (Nat → Int32) => (4, [some (.ref 0), some (.int (nI zq.2.1)), some (.int (nI zq.1)), none], [], (zw_M g gl (va_up a 15 zq.2.2.2) al))) (fun zq => zq.1 ≤ N ∧ zq.2.1 < P ∧ (∀ i j, i < N → j < N → zq.2.2.2 (6 * i + j) = nI (zq.2.2.1 i j)) ∧ (∀ i j, i < N → j < N → zq.2.2.1 i j < P) ∧ zd_det P N (N - zq.1) zq.1 zq.2.2.1 zq.2.1 = zd_det P N N 0 M0 1) (fun zq => N - zq.1) ?_ (0, 1, M0, a 15) ⟨by omega, by show 1 < P; omega, hM, hMP0, rfl⟩
  rintro ⟨k, t, M, f⟩ ⟨hk, ht, hf, hMP, hD⟩ ih
  try dsimp only at *
  refine zr_go (t := (9, [some (.ref 0), some (.int (nI t)), some (.int (nI k)), none], [.int (g 1), .int (nI k)], (zw_M g gl (va_up a 15 f) al))) 3 rfl ?_
  refine zr_ige (x := nI k) (y := g 1) k N rfl hN (by omega) (by omega) (t := (104, [some (.ref 0), some (.int (nI t)), some (.int (nI k)), none], [], (zw_M g gl (va_up a 15 f) al))) (f := (12, [some (.ref 0), some (.int (nI t)), some (.int (nI k)), none], [], (zw_M g gl (va_up a 15 f) al))) rfl (fun h1 => ?_) (fun h1 => ?_)
  · skip
    refine zr_go (t := (105, [some (.ref 0), some (.int (nI t)), some (.int (nI k)), none], [.int (nI t)], (zw_M g gl (va_up a 15 f) al))) 1 rfl ?_
    exact zr_ret rfl trivial ⟨by rw [← hD, show N - k = 0 by omega]; rfl, f, rfl⟩
  · skip
    rw [show N - k = (N - (k + 1)) + 1 by omega] at hD
    rw [zd_det_s] at hD
    obtain ⟨z1, z2, z3⟩ := zM_ge (fun i => M i k != 0) (N - k) k
    refine zr_go (t := (14, [some (.ref 0), some (.int (nI t)), some (.int (nI k)), some (.int (nI k))], [], (zw_M g gl (va_up a 15 f) al))) 2 rfl ?_
    refine zr_loop (fun zq : Nat => (14, [some (.ref 0), some (.int (nI t)), some (.int (nI k)), some (.int (nI zq))], [], (zw_M g gl (va_up a 15 f) al))) (fun zq => k ≤ zq ∧ zq ≤ N ∧ zM (fun i => M i k != 0) zq (N - zq) = zM (fun i => M i k != 0) k (N - k)) (fun zq => N - zq) ?_ k ⟨Nat.le_refl _, by omega, rfl⟩
    rintro s ⟨hs1, hs2, hs3⟩ ih2
    try dsimp only at *
    refine zr_go (t := (19, [some (.ref 0), some (.int (nI t)), some (.int (nI k)), some (.int (nI s))], [.int (g 1), .int (nI s)], (zw_M g gl (va_up a 15 f) al))) 3 rfl ?_
    refine zr_ige (x := nI s) (y := g 1) s N rfl hN (by omega) (by omega) (t := (42, [some (.ref 0), some (.int (nI t)), some (.int (nI k)), some (.int (nI s))], [], (zw_M g gl (va_up a 15 f) al))) (f := (22, [some (.ref 0), some (.int (nI t)), some (.int (nI k)), some (.int (nI s))], [], (zw_M g gl (va_up a 15 f) al))) rfl (fun h2 => ?_) (fun h2 => ?_)
    · skip
      have e1 : zM (fun i => M i k != 0) k (N - k) = N := by rw [← hs3, show N - s = 0 by omega]; show s = N; omega
      refine zr_go (t := (47, [some (.ref 0), some (.int (nI t)), some (.int (nI k)), some (.int (nI s))], [.int (g 1), .int (nI s)], (zw_M g gl (va_up a 15 f) al))) 3 rfl ?_
      refine zr_ine (x := nI s) (y := g 1) s N rfl hN (by omega) (by omega) (t := (52, [some (.ref 0), some (.int (nI t)), some (.int (nI k)), some (.int (nI s))], [], (zw_M g gl (va_up a 15 f) al))) (f := (50, [some (.ref 0), some (.int (nI t)), some (.int (nI k)), some (.int (nI s))], [], (zw_M g gl (va_up a 15 f) al))) rfl (fun h3 => ?_) (fun h3 => ?_)
      · skip
        exfalso; omega
      · skip
        refine zr_go (t := (51, [some (.ref 0), some (.int (nI t)), some (.int (nI k)), some (.int (nI s))], [.int 0], (zw_M g gl (va_up a 15 f) al))) 1 rfl ?_
        exact zr_ret rfl trivial ⟨by rw [if_pos e1] at hD; rw [← hD]; rfl, f, rfl⟩
    · skip
      have hsk := hMP s k (by omega) h1
      refine zr_go (t := (32, [some (.ref 0), some (.int (nI t)), some (.int (nI k)), some (.int (nI s))], [.int ((6 * (nI s)) + (nI k)), .ref 15], (zw_M g gl (va_up a 15 f) al))) 7 rfl ?_
      refine zr_cd (t := (33, [some (.ref 0), some (.int (nI t)), some (.int (nI k)), some (.int (nI s))], [.int (f ((6 * (nI s)) + (nI k)).toNatClampNeg)], (zw_M g gl (va_up a 15 f) al))) rfl (pk_in ((6 * s) + k) 36 (by omega) (zn_add (zn_mul rfl rfl) rfl) (by omega)) ?_
      rw [pk_cl (x := ((6 * (nI s)) + (nI k))) ((6 * s) + k) (zn_add (zn_mul rfl rfl) rfl) (by omega)]
      rw [show f ((6 * s) + k) = nI (M s k) from hf s k (by omega) h1]
      refine zr_ine (x := nI (M s k)) (y := 0) (M s k) 0 rfl rfl (by omega) (by omega) (t := (42, [some (.ref 0), some (.int (nI t)), some (.int (nI k)), some (.int (nI s))], [], (zw_M g gl (va_up a 15 f) al))) (f := (36, [some (.ref 0), some (.int (nI t)), some (.int (nI k)), some (.int (nI s))], [], (zw_M g gl (va_up a 15 f) al))) rfl (fun h3 => ?_) (fun h3 => ?_)
      · skip
        have e1 : zM (fun i => M i k != 0) k (N - k) = s := by rw [← hs3, show N - s = (N - (s + 1)) + 1 by omega]; unfold zM; rw [if_pos (by simp [h3])]
        rw [e1, if_neg (by omega)] at hD
        have tail : ∀ t2 : Nat, t2 = (if s = k then t else P - t) → zm_Run zt_get 2 zt_M_determinant (68, [some (.ref 0), some (.int (nI t2)), some (.int (nI k)), some (.int (nI s))], [], (zw_M g gl (va_up a 15 f) al)) (fun v w => v = some (.int (nI (zd_det P N N 0 M0 1))) ∧ ∃ f, w = (zw_M g gl (va_up a 15 f) al)) := by
          intro t2 ht2
          have ht3 : t2 ≤ P := by rw [ht2]; split <;> omega
          have hsw := zd_sw_lt (r := k) (s := s) hMP h1 h2
          have hkk : zd_sw M k s k k ≠ 0 := by unfold zd_sw; rw [if_pos rfl]; exact h3
          have hkP := hsw k k h1 h1
          have hmu : t2 * zd_sw M k s k k ≤ 5 * 5 := Nat.mul_le_mul (by omega) (by omega)
          refine zr_go (t := (71, [some (.ref 0), some (.int (nI t2)), some (.int (nI k)), some (.int (nI s))], [.int (nI s), .int (nI k), .ref 0], (zw_M g gl (va_up a 15 f) al))) 3 rfl ?_
          refine zr_call (t := (74, [some (.ref 0), some (.int (nI t2)), some (.int (nI k)), some (.int (nI s))], [], (zw_M g gl (va_up a 15 f) al))) rfl (Nat.le_of_ble_eq_true rfl : 1 ≤ 2) (zs_M_swapLines g gl (va_up a 15 f) al P N hP hN hPP hN6 M hf hMP k s h1 h2) ?_
          rintro _ _ ⟨rfl, f2, rfl, hf2⟩
          show zm_Run zt_get 2 zt_M_determinant (74, [some (.ref 0), some (.int (nI t2)), some (.int (nI k)), some (.int (nI s))], [], (zw_M g gl (va_up a 15 f2) al)) _
          refine zr_go (t := (85, [some (.ref 0), some (.int (nI t2)), some (.int (nI k)), some (.int (nI s))], [.int ((6 * (nI k)) + (nI k)), .ref 15, .int (nI t2)], (zw_M g gl (va_up a 15 f2) al))) 8 rfl ?_
          refine zr_cd (t := (86, [some (.ref 0), some (.int (nI t2)), some (.int (nI k)), some (.int (nI s))], [.int (f2 ((6 * (nI k)) + (nI k)).toNatClampNeg), .int (nI t2)], (zw_M g gl (va_up a 15 f2) al))) rfl (pk_in ((6 * k) + k) 36 (by omega) (zn_add (zn_mul rfl rfl) rfl) (by omega)) ?_
          rw [pk_cl (x := ((6 * (nI k)) + (nI k))) ((6 * k) + k) (zn_add (zn_mul rfl rfl) rfl) (by omega)]
          rw [show f2 ((6 * k) + k) = nI (zd_sw M k s k k) from hf2 k k h1 h1]
          refine zr_go (t := (91, [some (.ref 0), some (.int (nI t2)), some (.int (nI k)), some (.int (nI s))], [.int (g 0), .int ((nI t2) * (nI (zd_sw M k s k k)))], (zw_M g gl (va_up a 15 f2) al))) 3 rfl ?_
          refine zr_cd (t := (92, [some (.ref 0), some (.int (nI t2)), some (.int (nI k)), some (.int (nI s))], [.int (((nI t2) * (nI (zd_sw M k s k k))) - ((nI t2) * (nI (zd_sw M k s k k))) / (g 0) * (g 0))], (zw_M g gl (va_up a 15 f2) al))) rfl (zn_ne0 hP (by omega) (by omega)) ?_
          rw [show ((nI t2) * (nI (zd_sw M k s k k))) - ((nI t2) * (nI (zd_sw M k s k k))) / (g 0) * (g 0) = nI ((t2 * (zd_sw M k s k k)) % P) from (zn_rem (zn_mul rfl rfl) hP (by omega) (by omega) (by omega))]
          refine zr_go (t := (95, [some (.ref 0), some (.int (nI ((t2 * (zd_sw M k s k k)) % P))), some (.int (nI k)), some (.int (nI s))], [.int (nI k), .ref 0], (zw_M g gl (va_up a 15 f2) al))) 3 rfl ?_
          refine zr_call (t := (98, [some (.ref 0), some (.int (nI ((t2 * (zd_sw M k s k k)) % P))), some (.int (nI k)), some (.int (nI s))], [], (zw_M g gl (va_up a 15 f2) al))) rfl (Nat.le_of_ble_eq_true rfl : 2 ≤ 2) (zs_M_clearBelow g gl (va_up a 15 f2) al P N hP hN hPP hN6 (zd_sw M k s) hf2 hsw k h1 hkk) ?_
          rintro _ _ ⟨rfl, f3, rfl, hf3⟩
          show zm_Run zt_get 2 zt_M_determinant (98, [some (.ref 0), some (.int (nI ((t2 * (zd_sw M k s k k)) % P))), some (.int (nI k)), some (.int (nI s))], [], (zw_M g gl (va_up a 15 f3) al)) _
          refine zr_go (t := (4, [some (.ref 0), some (.int (nI ((t2 * (zd_sw M k s k k)) % P))), some (.int ((nI k) + 1)), some (.int (nI s))], [], (zw_M g gl (va_up a 15 f3) al))) 2 rfl ?_
          rw [show (nI k) + 1 = nI (k + 1) from (zn_add rfl rfl)]
          refine zr_forget [some (.ref 0), some (.int (nI ((t2 * (zd_sw M k s k k)) % P))), some (.int (nI (k + 1))), none] ⟨Or.inr rfl, Or.inr rfl, Or.inr rfl, Or.inl rfl, trivial⟩ ?_
          exact ih (k + 1, t2 * zd_sw M k s k k % P, zd_cl P (zd_sw M k s) k (zv_inv P (zd_sw M k s k k)), f3) ⟨by omega, Nat.mod_lt _ hP0, hf3, zd_cl_lt hP0 hsw, by rw [ht2]; exact hD⟩ (by omega)
        refine zr_go (t := (47, [some (.ref 0), some (.int (nI t)), some (.int (nI k)), some (.int (nI s))], [.int (g 1), .int (nI s)], (zw_M g gl (va_up a 15 f) al))) 3 rfl ?_
        refine zr_ine (x := nI s) (y := g 1) s N rfl hN (by omega) (by omega) (t := (52, [some (.ref 0), some (.int (nI t)), some (.int (nI k)), some (.int (nI s))], [], (zw_M g gl (va_up a 15 f) al))) (f := (50, [some (.ref 0), some (.int (nI t)), some (.int (nI k)), some (.int (nI s))], [], (zw_M g gl (va_up a 15 f) al))) rfl (fun h4 => ?_) (fun h4 => ?_)
        · skip
          refine zr_go (t := (54, [some (.ref 0), some (.int (nI t)), some (.int (nI k)), some (.int (nI s))], [.int (nI k), .int (nI s)], (zw_M g gl (va_up a 15 f) al))) 2 rfl ?_
          refine zr_ine (x := nI s) (y := nI k) s k rfl rfl (by omega) (by omega) (t := (61, [some (.ref 0), some (.int (nI t)), some (.int (nI k)), some (.int (nI s))], [], (zw_M g gl (va_up a 15 f) al))) (f := (57, [some (.ref 0), some (.int (nI t)), some (.int (nI k)), some (.int (nI s))], [], (zw_M g gl (va_up a 15 f) al))) rfl (fun h5 => ?_) (fun h5 => ?_)
          · skip
            refine zr_go (t := (68, [some (.ref 0), some (.int ((g 0) - (nI t))), some (.int (nI k)), some (.int (nI s))], [], (zw_M g gl (va_up a 15 f) al))) 5 rfl ?_
            rw [show (g 0) - (nI t) = nI (P - t) from (zn_sub hP rfl (by omega))]
            exact tail (P - t) (by rw [if_neg h5])
          · skip
            refine zr_go (t := (68, [some (.ref 0), some (.int (nI t)), some (.int (nI k)), some (.int (nI s))], [], (zw_M g gl (va_up a 15 f) al))) 3 rfl ?_
            exact tail t (by rw [if_pos h5])
        · skip
          exfalso; omega
      · skip
        refine zr_go (t := (14, [some (.ref 0), some (.int (nI t)), some (.int (nI k)), some (.int ((nI s) + 1))], [], (zw_M g gl (va_up a 15 f) al))) 2 rfl ?_
        rw [show (nI s) + 1 = nI (s + 1) from (zn_add rfl rfl)]
        exact ih2 (s + 1) ⟨by omega, by omega, by rw [← hs3, show N - s = (N - (s + 1)) + 1 by omega]; show _ = (if (M s k != 0) = true then s else _); rw [if_neg (by simp [h3])]⟩ (by omega)
theorem zs_M_disc (g : Nat → Int32) (gl : Nat → Int64) (a : Nat → Nat → Int32) (al : Nat → Nat → Int64) (P N : Nat) (hP : g 0 = nI P) (hN : g 1 = nI N) (hPP : P = 2 ∨ P = 3 ∨ P = 5) (hN6 : N ≤ 6) (c : Nat → Nat) (hc : ∀ k, k < 36 → a 1 k = nI (c k)) (hc4 : ∀ k, k < 36 → c k ≤ 4) : zm_Ev zt_get 4 155 [.ref 0] (zw_M g gl a al) (fun v w => v = some (.int (zd_disc P N c)) ∧ ∃ f, w = (zw_M g gl (va_up a 15 f) al)) := by
  obtain ⟨hP0, hP5⟩ := zv_P5 hPP
  refine zr_ev zt_M_disc rfl rfl ?_
  show zm_Run zt_get 3 zt_M_disc (0, [some (.ref 0), none, none, none], [], (zw_M g gl a al)) _
  refine zr_go (t := (5, [some (.ref 0), none, none, none], [.int 2, .int (g 0)], (zw_M g gl a al))) 3 rfl ?_
  refine zr_ine (x := g 0) (y := 2) P 2 hP rfl (by omega) (by omega) (t := (10, [some (.ref 0), none, none, none], [], (zw_M g gl a al))) (f := (8, [some (.ref 0), none, none, none], [], (zw_M g gl a al))) rfl (fun h1 => ?_) (fun h1 => ?_)
  · skip
    refine zr_go (t := (11, [some (.ref 0), none, none, none], [.ref 0], (zw_M g gl a al))) 1 rfl ?_
    refine zr_call (t := (14, [some (.ref 0), none, none, none], [], (zw_M g gl a al))) rfl (Nat.le_of_ble_eq_true rfl : 1 ≤ 3) (zs_M_layMatrix g gl a al P N hP hN hPP hN6 c hc hc4) ?_
    rintro _ _ ⟨rfl, f, rfl, hf⟩
    show zm_Run zt_get 3 zt_M_disc (14, [some (.ref 0), none, none, none], [], (zw_M g gl (va_up a 15 f) al)) _
    refine zr_go (t := (15, [some (.ref 0), none, none, none], [.ref 0], (zw_M g gl (va_up a 15 f) al))) 1 rfl ?_
    refine zr_call (t := (18, [some (.ref 0), none, none, none], [], (zw_M g gl (va_up a 15 f) al))) rfl (Nat.le_of_ble_eq_true rfl : 3 ≤ 3) (zs_M_determinant g gl (va_up a 15 f) al P N hP hN hPP hN6 (zd_mat P c) hf (fun i j _ _ => Nat.mod_lt _ hP0)) ?_
    rintro _ _ ⟨rfl, f2, rfl⟩
    show zm_Run zt_get 3 zt_M_disc (18, [some (.ref 0), none, none, none], [.int (nI (zd_det P N N 0 (zd_mat P c) 1))], (zw_M g gl (va_up a 15 f2) al)) _
    have hv := zd_det_lt (N := N) hP0 N 0 (zd_mat P c) 1 (by omega)
    generalize hV : zd_det P N N 0 (zd_mat P c) 1 = V at hv ⊢
    refine zr_go (t := (23, [some (.ref 0), some (.int (nI V)), some (.int 0), some (.int 1)], [], (zw_M g gl (va_up a 15 f2) al))) 5 rfl ?_
    refine zr_loop (fun zq : Nat × Bool => (23, [some (.ref 0), some (.int (nI V)), some (.int (nI zq.2.toNat)), some (.int (nI zq.1))], [], (zw_M g gl (va_up a 15 f2) al))) (fun zq => 1 ≤ zq.1 ∧ zq.1 ≤ P ∧ zq.2 = zE (fun t => (t + 1) * (t + 1) % P == V) (zq.1 - 1)) (fun zq => P - zq.1) ?_ (1, false) ⟨Nat.le_refl _, by omega, rfl⟩
    rintro ⟨x, b⟩ ⟨hx1, hx, hb⟩ ih
    try dsimp only at *
    have hxx : x * x ≤ 5 * 5 := Nat.mul_le_mul (by omega) (by omega)
    have hb1 := zb_le b
    refine zr_go (t := (28, [some (.ref 0), some (.int (nI V)), some (.int (nI b.toNat)), some (.int (nI x))], [.int (g 0), .int (nI x)], (zw_M g gl (va_up a 15 f2) al))) 3 rfl ?_
    refine zr_ige (x := nI x) (y := g 0) x P rfl hP (by omega) (by omega) (t := (59, [some (.ref 0), some (.int (nI V)), some (.int (nI b.toNat)), some (.int (nI x))], [], (zw_M g gl (va_up a 15 f2) al))) (f := (31, [some (.ref 0), some (.int (nI V)), some (.int (nI b.toNat)), some (.int (nI x))], [], (zw_M g gl (va_up a 15 f2) al))) rfl (fun h2 => ?_) (fun h2 => ?_)
    · skip
      have e1 : zE (fun t => (t + 1) * (t + 1) % P == V) (P - 1) = b := by rw [hb, show x = P by omega]
      refine zr_go (t := (60, [some (.ref 0), some (.int (nI V)), some (.int (nI b.toNat)), some (.int (nI x))], [.int (nI V)], (zw_M g gl (va_up a 15 f2) al))) 1 rfl ?_
      refine zr_ine (x := nI V) (y := 0) V 0 rfl rfl (by omega) (by omega) (t := (67, [some (.ref 0), some (.int (nI V)), some (.int (nI b.toNat)), some (.int (nI x))], [], (zw_M g gl (va_up a 15 f2) al))) (f := (63, [some (.ref 0), some (.int (nI V)), some (.int (nI b.toNat)), some (.int (nI x))], [], (zw_M g gl (va_up a 15 f2) al))) rfl (fun h3 => ?_) (fun h3 => ?_)
      · skip
        refine zr_go (t := (68, [some (.ref 0), some (.int (nI V)), some (.int (nI b.toNat)), some (.int (nI x))], [.int (nI b.toNat)], (zw_M g gl (va_up a 15 f2) al))) 1 rfl ?_
        refine zr_ieq (x := nI b.toNat) (y := 0) b.toNat 0 rfl rfl (by omega) (by omega) (t := (75, [some (.ref 0), some (.int (nI V)), some (.int (nI b.toNat)), some (.int (nI x))], [], (zw_M g gl (va_up a 15 f2) al))) (f := (71, [some (.ref 0), some (.int (nI V)), some (.int (nI b.toNat)), some (.int (nI x))], [], (zw_M g gl (va_up a 15 f2) al))) rfl (fun h4 => ?_) (fun h4 => ?_)
        · skip
          refine zr_go (t := (76, [some (.ref 0), some (.int (nI V)), some (.int (nI b.toNat)), some (.int (nI x))], [.int (-1)], (zw_M g gl (va_up a 15 f2) al))) 1 rfl ?_
          exact zr_ret rfl trivial ⟨by unfold zd_disc; rw [if_neg h1, hV, if_neg h3, if_neg (by rw [e1, zb_0 h4]; decide)], f2, rfl⟩
        · skip
          refine zr_go (t := (76, [some (.ref 0), some (.int (nI V)), some (.int (nI b.toNat)), some (.int (nI x))], [.int 1], (zw_M g gl (va_up a 15 f2) al))) 2 rfl ?_
          exact zr_ret rfl trivial ⟨by unfold zd_disc; rw [if_neg h1, hV, if_neg h3, if_pos (by rw [e1, zb_1 h4])], f2, rfl⟩
      · skip
        refine zr_go (t := (76, [some (.ref 0), some (.int (nI V)), some (.int (nI b.toNat)), some (.int (nI x))], [.int 0], (zw_M g gl (va_up a 15 f2) al))) 2 rfl ?_
        exact zr_ret rfl trivial ⟨by unfold zd_disc; rw [if_neg h1, hV, if_pos h3], f2, rfl⟩
    · skip
      refine zr_go (t := (32, [some (.ref 0), some (.int (nI V)), some (.int (nI b.toNat)), some (.int (nI x))], [.int (nI b.toNat)], (zw_M g gl (va_up a 15 f2) al))) 1 rfl ?_
      refine zr_ine (x := nI b.toNat) (y := 0) b.toNat 0 rfl rfl (by omega) (by omega) (t := (47, [some (.ref 0), some (.int (nI V)), some (.int (nI b.toNat)), some (.int (nI x))], [], (zw_M g gl (va_up a 15 f2) al))) (f := (35, [some (.ref 0), some (.int (nI V)), some (.int (nI b.toNat)), some (.int (nI x))], [], (zw_M g gl (va_up a 15 f2) al))) rfl (fun h3 => ?_) (fun h3 => ?_)
      · skip
        refine zr_go (t := (23, [some (.ref 0), some (.int (nI V)), some (.int 1), some (.int ((nI x) + 1))], [], (zw_M g gl (va_up a 15 f2) al))) 5 rfl ?_
        rw [show some (Value.int 1) = some (Value.int (nI (true).toNat)) from rfl]
        rw [show (nI x) + 1 = nI (x + 1) from (zn_add rfl rfl)]
        exact ih (x + 1, true) ⟨by omega, by omega, by rw [show x + 1 - 1 = (x - 1) + 1 by omega]; show true = (zE _ (x - 1) || _); rw [← hb, zb_1 h3]; rfl⟩ (by omega)
      · skip
        refine zr_go (t := (42, [some (.ref 0), some (.int (nI V)), some (.int (nI b.toNat)), some (.int (nI x))], [.int (g 0), .int ((nI x) * (nI x))], (zw_M g gl (va_up a 15 f2) al))) 5 rfl ?_
        refine zr_cd (t := (43, [some (.ref 0), some (.int (nI V)), some (.int (nI b.toNat)), some (.int (nI x))], [.int (((nI x) * (nI x)) - ((nI x) * (nI x)) / (g 0) * (g 0))], (zw_M g gl (va_up a 15 f2) al))) rfl (zn_ne0 hP (by omega) (by omega)) ?_
        rw [show ((nI x) * (nI x)) - ((nI x) * (nI x)) / (g 0) * (g 0) = nI ((x * x) % P) from (zn_rem (zn_mul rfl rfl) hP (by omega) (by omega) (by omega))]
        refine zr_go (t := (44, [some (.ref 0), some (.int (nI V)), some (.int (nI b.toNat)), some (.int (nI x))], [.int (nI V), .int (nI ((x * x) % P))], (zw_M g gl (va_up a 15 f2) al))) 1 rfl ?_
        have hmm : x * x % P < P := Nat.mod_lt _ hP0
        refine zr_ine (x := nI ((x * x) % P)) (y := nI V) ((x * x) % P) V rfl rfl (by omega) (by omega) (t := (51, [some (.ref 0), some (.int (nI V)), some (.int (nI b.toNat)), some (.int (nI x))], [], (zw_M g gl (va_up a 15 f2) al))) (f := (47, [some (.ref 0), some (.int (nI V)), some (.int (nI b.toNat)), some (.int (nI x))], [], (zw_M g gl (va_up a 15 f2) al))) rfl (fun h4 => ?_) (fun h4 => ?_)
        · skip
          refine zr_go (t := (23, [some (.ref 0), some (.int (nI V)), some (.int 0), some (.int ((nI x) + 1))], [], (zw_M g gl (va_up a 15 f2) al))) 4 rfl ?_
          rw [show some (Value.int 0) = some (Value.int (nI (false).toNat)) from rfl]
          rw [show (nI x) + 1 = nI (x + 1) from (zn_add rfl rfl)]
          exact ih (x + 1, false) ⟨by omega, by omega, by rw [show x + 1 - 1 = (x - 1) + 1 by omega]; show false = (zE _ (x - 1) || _); rw [← hb, zb_0 h3]; dsimp only; rw [show x - 1 + 1 = x by omega]; simp [h4]⟩ (by omega)
        · skip
          refine zr_go (t := (23, [some (.ref 0), some (.int (nI V)), some (.int 1), some (.int ((nI x) + 1))], [], (zw_M g gl (va_up a 15 f2) al))) 5 rfl ?_
          rw [show some (Value.int 1) = some (Value.int (nI (true).toNat)) from rfl]
          rw [show (nI x) + 1 = nI (x + 1) from (zn_add rfl rfl)]
          exact ih (x + 1, true) ⟨by omega, by omega, by rw [show x + 1 - 1 = (x - 1) + 1 by omega]; show true = (zE _ (x - 1) || _); rw [← hb, zb_0 h3]; dsimp only; rw [show x - 1 + 1 = x by omega]; simp [h4]⟩ (by omega)
  · skip
    refine zr_go (t := (9, [some (.ref 0), none, none, none], [.int 0], (zw_M g gl a al))) 1 rfl ?_
    exact zr_ret rfl trivial ⟨by unfold zd_disc; rw [if_pos h1], a 15, rfl⟩
