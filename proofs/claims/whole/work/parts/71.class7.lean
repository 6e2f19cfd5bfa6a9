/-! the class: points laid out, tangent points, types (written by wip/whole/gen_c7.py) -/
theorem zl_vp_1 {P : Nat} {x : Nat → Nat} (hP5 : P ≤ 5) (N : Nat) (hx : ∀ i, i < N → x i < P) : ∀ i, i ≤ N → (zl_vp P x i).1 ≤ 5
  | 0, _ => Nat.zero_le _
  | i + 1, h => by
    unfold zl_vp
    split
    · exact zz_invlt (hx i (by omega)) hP5
    · exact zl_vp_1 hP5 N hx i (by omega)
theorem zl_vp_2 {P : Nat} {x : Nat → Nat} (hP0 : 0 < P) (hP5 : P ≤ 5) : ∀ i, (zl_vp P x i).2 < 7 ^ i
  | 0 => Nat.zero_lt_one
  | i + 1 => by
    have ih := zl_vp_2 (x := x) hP0 hP5 i
    have e : 7 ^ (i + 1) = 7 ^ i * 7 := rfl
    unfold zl_vp
    split
    · show (zl_vp P x i).2 < _
      omega
    · show (zl_vp P x i).2 * P + (zl_vp P x i).1 * x i % P + 1 < _
      have h1 : (zl_vp P x i).2 * P ≤ (zl_vp P x i).2 * 5 := Nat.mul_le_mul_left _ hP5
      have h2 := Nat.mod_lt ((zl_vp P x i).1 * x i) hP0
      omega
theorem zl_vp_z {P : Nat} {x : Nat → Nat} {i : Nat} (h : (zl_vp P x i).1 = 0) : zl_vp P x (i + 1) = (zz_inv P (x i), (zl_vp P x i).2) := if_pos h
theorem zl_vp_n {P : Nat} {x : Nat → Nat} {i : Nat} (h : (zl_vp P x i).1 ≠ 0) : zl_vp P x (i + 1) = ((zl_vp P x i).1, (zl_vp P x i).2 * P + (zl_vp P x i).1 * x i % P + 1) := if_neg h
theorem z7_6 {i : Nat} (h : i ≤ 6) : 7 ^ i ≤ 117649 := Nat.le_trans (Nat.pow_le_pow_right (by decide) h) (by decide)
theorem zs_C_vecPt (g : Nat → Int32) (gl : Nat → Int64) (a : Nat → Nat → Int32) (al : Nat → Nat → Int64) (P N : Nat) (hP : g 15 = nI P) (hN : g 16 = nI N) (hP0 : 0 < P) (hP5 : P ≤ 5) (hN6 : N ≤ 6) (x : Nat → Nat) (hx : ∀ i, i < N → a 20 i = nI (x i)) (hxP : ∀ i, i < N → x i < P) : zm_Ev zt_get 2 32 [.ref 4] (zw_C g gl a al) (fun v w => v = some (.int (if (zl_vp P x N).1 = 0 then -1 else nI (zl_vp P x N).2)) ∧ w = (zw_C g gl a al)) := by
  refine zr_ev zt_Q_vectorPoint rfl rfl ?_
  show zm_Run zt_get 1 zt_Q_vectorPoint (0, [some (.ref 4), none, none, none], [], (zw_C g gl a al)) _
  refine zr_go (t := (6, [some (.ref 4), some (.int 0), some (.int 0), some (.int 0)], [], (zw_C g gl a al))) 6 rfl ?_
  refine zr_loop (fun zq : Nat × Nat × Nat => (6, [some (.ref 4), some (.int (nI zq.2.1)), some (.int (nI zq.2.2)), some (.int (nI zq.1))], [], (zw_C g gl a al))) (fun zq => zq.1 ≤ N ∧ zq.2.1 = (zl_vp P x zq.1).1 ∧ zq.2.2 = (zl_vp P x zq.1).2) (fun zq => N - zq.1) ?_ (0, 0, 0) ⟨by omega, rfl, rfl⟩
  rintro ⟨i, f, t⟩ ⟨hi, hf, ht⟩ ih
  try dsimp only at *
  have hf5 : f ≤ 5 := by rw [hf]; exact zl_vp_1 hP5 N hxP i hi
  have ht7 : t < 117649 := by rw [ht]; exact Nat.lt_of_lt_of_le (zl_vp_2 hP0 hP5 i) (z7_6 (by omega))
  refine zr_go (t := (11, [some (.ref 4), some (.int (nI f)), some (.int (nI t)), some (.int (nI i))], [.int (g 16), .int (nI i)], (zw_C g gl a al))) 3 rfl ?_
  refine zr_ige (x := nI i) (y := g 16) i N rfl hN (by omega) (by omega) (t := (66, [some (.ref 4), some (.int (nI f)), some (.int (nI t)), some (.int (nI i))], [], (zw_C g gl a al))) (f := (14, [some (.ref 4), some (.int (nI f)), some (.int (nI t)), some (.int (nI i))], [], (zw_C g gl a al))) rfl (fun h1 => ?_) (fun h1 => ?_)
  · skip
    have e : i = N := by omega
    subst e
    refine zr_go (t := (67, [some (.ref 4), some (.int (nI f)), some (.int (nI t)), some (.int (nI i))], [.int (nI f)], (zw_C g gl a al))) 1 rfl ?_
    refine zr_ine (x := nI f) (y := 0) f 0 rfl rfl (by omega) (by omega) (t := (74, [some (.ref 4), some (.int (nI f)), some (.int (nI t)), some (.int (nI i))], [], (zw_C g gl a al))) (f := (70, [some (.ref 4), some (.int (nI f)), some (.int (nI t)), some (.int (nI i))], [], (zw_C g gl a al))) rfl (fun h2 => ?_) (fun h2 => ?_)
    · skip
      refine zr_go (t := (75, [some (.ref 4), some (.int (nI f)), some (.int (nI t)), some (.int (nI i))], [.int (nI t)], (zw_C g gl a al))) 1 rfl ?_
      exact zr_ret rfl trivial ⟨by rw [if_neg (by omega), ht], rfl⟩
    · skip
      refine zr_go (t := (75, [some (.ref 4), some (.int (nI f)), some (.int (nI t)), some (.int (nI i))], [.int (-1)], (zw_C g gl a al))) 2 rfl ?_
      exact zr_ret rfl trivial ⟨by rw [if_pos (by omega)], rfl⟩
  · skip
    have hxi := hxP i h1
    refine zr_go (t := (15, [some (.ref 4), some (.int (nI f)), some (.int (nI t)), some (.int (nI i))], [.int (nI f)], (zw_C g gl a al))) 1 rfl ?_
    refine zr_ine (x := nI f) (y := 0) f 0 rfl rfl (by omega) (by omega) (t := (35, [some (.ref 4), some (.int (nI f)), some (.int (nI t)), some (.int (nI i))], [], (zw_C g gl a al))) (f := (18, [some (.ref 4), some (.int (nI f)), some (.int (nI t)), some (.int (nI i))], [], (zw_C g gl a al))) rfl (fun h2 => ?_) (fun h2 => ?_)
    · skip
      have hfx : f * x i ≤ 5 * 4 := Nat.mul_le_mul hf5 (by omega)
      have htP : t * P ≤ t * 5 := Nat.mul_le_mul_left _ hP5
      refine zr_go (t := (47, [some (.ref 4), some (.int (nI f)), some (.int (nI t)), some (.int (nI i))], [.int (nI i), .ref 20, .int (nI f), .int ((nI t) * (g 15))], (zw_C g gl a al))) 8 rfl ?_
      refine zr_cd (t := (48, [some (.ref 4), some (.int (nI f)), some (.int (nI t)), some (.int (nI i))], [.int ((a 20) (nI i).toNatClampNeg), .int (nI f), .int ((nI t) * (g 15))], (zw_C g gl a al))) rfl (pk_in i 6 (by omega) rfl (by omega)) ?_
      rw [pk_cl (x := (nI i)) i rfl (by omega)]
      rw [show (a 20) i = nI (x i) from hx i h1]
      refine zr_go (t := (53, [some (.ref 4), some (.int (nI f)), some (.int (nI t)), some (.int (nI i))], [.int (g 15), .int ((nI f) * (nI (x i))), .int ((nI t) * (g 15))], (zw_C g gl a al))) 3 rfl ?_
      rw [hP]
      refine zr_call (t := (56, [some (.ref 4), some (.int (nI f)), some (.int (nI t)), some (.int (nI i))], [.int ((nI t) * (nI P))], (zw_C g gl a al))) rfl (Nat.le_of_ble_eq_true rfl : 1 ≤ 1) (zs_C_modN g gl a al (nI f * nI (x i)) (f * x i) P (zn_mul rfl rfl) (by omega) hP0 (by omega)) ?_
      rintro _ _ ⟨rfl, rfl⟩
      show zm_Run zt_get 1 zt_Q_vectorPoint (56, [some (.ref 4), some (.int (nI f)), some (.int (nI t)), some (.int (nI i))], [.int (nI (f * x i % P)), .int ((nI t) * (nI P))], (zw_C g gl a al)) _
      have hmm : f * x i % P < P := Nat.mod_lt _ hP0
      refine zr_go (t := (6, [some (.ref 4), some (.int (nI f)), some (.int ((((nI t) * (nI P)) + (nI (f * x i % P))) + 1)), some (.int ((nI i) + 1))], [], (zw_C g gl a al))) 6 rfl ?_
      rw [show (nI i) + 1 = nI (i + 1) from (zn_add rfl rfl)]
      rw [show (((nI t) * (nI P)) + (nI (f * x i % P))) + 1 = nI (((t * P) + (f * x i % P)) + 1) from (zn_add (zn_add (zn_mul rfl rfl) rfl) rfl)]
      exact ih (i + 1, f, t * P + f * x i % P + 1) ⟨by omega, by rw [zl_vp_n (by omega)]; exact hf, by rw [zl_vp_n (by omega), ← hf, ← ht]⟩ (by omega)
    · skip
      refine zr_go (t := (23, [some (.ref 4), some (.int (nI f)), some (.int (nI t)), some (.int (nI i))], [.int (nI i), .ref 20], (zw_C g gl a al))) 3 rfl ?_
      refine zr_cd (t := (24, [some (.ref 4), some (.int (nI f)), some (.int (nI t)), some (.int (nI i))], [.int ((a 20) (nI i).toNatClampNeg)], (zw_C g gl a al))) rfl (pk_in i 6 (by omega) rfl (by omega)) ?_
      rw [pk_cl (x := (nI i)) i rfl (by omega)]
      rw [show (a 20) i = nI (x i) from hx i h1]
      refine zr_go (t := (28, [some (.ref 4), some (.int (nI f)), some (.int (nI t)), some (.int (nI i))], [.int (g 15), .int (nI (x i))], (zw_C g gl a al))) 2 rfl ?_
      rw [hP]
      refine zr_call (t := (31, [some (.ref 4), some (.int (nI f)), some (.int (nI t)), some (.int (nI i))], [], (zw_C g gl a al))) rfl (Nat.le_of_ble_eq_true rfl : 1 ≤ 1) (zs_C_inverse g gl a al (x i) P (by omega) (by omega)) ?_
      rintro _ _ ⟨rfl, rfl⟩
      show zm_Run zt_get 1 zt_Q_vectorPoint (31, [some (.ref 4), some (.int (nI f)), some (.int (nI t)), some (.int (nI i))], [.int (nI (zz_inv P (x i)))], (zw_C g gl a al)) _
      refine zr_go (t := (6, [some (.ref 4), some (.int (nI (zz_inv P (x i)))), some (.int (nI t)), some (.int ((nI i) + 1))], [], (zw_C g gl a al))) 4 rfl ?_
      rw [show (nI i) + 1 = nI (i + 1) from (zn_add rfl rfl)]
      exact ih (i + 1, zz_inv P (x i), t) ⟨by omega, by rw [zl_vp_z (by omega)], by rw [zl_vp_z (by omega), ht]⟩ (by omega)
/-- the section by h is tangent at p, as the class asks it -/
def zz_tp (P N : Nat) (c : Nat → Nat) (h p : Nat) : Bool := decide ((zl_vp P (zz_nm P N c (zv_y P N p)) N).1 ≠ 0 ∧ (zl_vp P (zz_nm P N c (zv_y P N p)) N).2 = h)
theorem zs_C_tangent (g : Nat → Int32) (gl : Nat → Int64) (a : Nat → Nat → Int32) (al : Nat → Nat → Int64) (P N : Nat) (hQ : zQ_P g a P N) (c : Nat → Nat) (hv : zQ_v g a P N c) (h : Nat) (hh : h < zv_np P N) : zm_Ev zt_get 3 40 [.ref 4, .int (nI h)] (zw_C g gl a al) (fun v w => v = some (.int (if zM (fun u => zz_tp P N c h (zX (zw_oo P N c) (zv_np P N) u)) 0 (zw_on P N c) < zw_on P N c then nI (zX (zw_oo P N c) (zv_np P N) (zM (fun u => zz_tp P N c h (zX (zw_oo P N c) (zv_np P N) u)) 0 (zw_on P N c))) else -1)) ∧ ∃ f, w = (zw_C g gl (va_up a 20 f) al)) := by
  obtain ⟨hok, hP, hN, hnp, hy⟩ := id hQ
  obtain ⟨hP0, hP5⟩ := zv_P5 hok.1
  have hN6 := zv_okN hok
  obtain ⟨-, hnp1, -⟩ := zv_nums hok
  obtain ⟨h18, h19, h17, h16, hrk, hmb⟩ := id hv
  have hon : zw_on P N c ≤ zv_np P N := zC_le _ _
  refine zr_ev zt_Q_tangentPoint rfl rfl ?_
  show zm_Run zt_get 2 zt_Q_tangentPoint (0, [some (.ref 4), some (.int (nI h)), none, none, none], [], (zw_C g gl a al)) _
  refine zr_go (t := (2, [some (.ref 4), some (.int (nI h)), some (.int 0), none, none], [], (zw_C g gl a al))) 2 rfl ?_
  refine zr_loop (fun zq : Nat × (Nat → Int32) => (2, [some (.ref 4), some (.int (nI h)), some (.int (nI zq.1)), none, none], [], (zw_C g gl (va_up a 20 zq.2) al))) (fun zq => zq.1 ≤ zw_on P N c ∧ zM (fun u => zz_tp P N c h (zX (zw_oo P N c) (zv_np P N) u)) zq.1 (zw_on P N c - zq.1) = zM (fun u => zz_tp P N c h (zX (zw_oo P N c) (zv_np P N) u)) 0 (zw_on P N c)) (fun zq => zw_on P N c - zq.1) ?_ (0, a 20) ⟨by omega, rfl⟩
  rintro ⟨r, f⟩ ⟨hr, hz⟩ ih
  try dsimp only at *
  refine zr_go (t := (7, [some (.ref 4), some (.int (nI h)), some (.int (nI r)), none, none], [.int (g 18), .int (nI r)], (zw_C g gl (va_up a 20 f) al))) 3 rfl ?_
  refine zr_ige (x := nI r) (y := g 18) r (zw_on P N c) rfl h18 (by omega) (by omega) (t := (75, [some (.ref 4), some (.int (nI h)), some (.int (nI r)), none, none], [], (zw_C g gl (va_up a 20 f) al))) (f := (10, [some (.ref 4), some (.int (nI h)), some (.int (nI r)), none, none], [], (zw_C g gl (va_up a 20 f) al))) rfl (fun h1 => ?_) (fun h1 => ?_)
  · skip
    rw [show zw_on P N c - r = 0 by omega] at hz
    have hz : r = _ := hz
    refine zr_go (t := (76, [some (.ref 4), some (.int (nI h)), some (.int (nI r)), none, none], [.int (-1)], (zw_C g gl (va_up a 20 f) al))) 1 rfl ?_
    exact zr_ret rfl trivial ⟨by rw [← hz, if_neg (by omega)], f, rfl⟩
  · skip
    have hX := zX_ok (f := (zw_oo P N c)) (n := zv_np P N) (l := r) h1
    obtain ⟨k, hk⟩ : ∃ k, k = zX (zw_oo P N c) (zv_np P N) r := ⟨_, rfl⟩
    rw [← hk] at hX
    have hkk : a 18 r = nI k := by rw [hk]; exact hmb r h1
    have h64 : zw_on P N c - r = (zw_on P N c - (r + 1)) + 1 := by omega
    refine zr_go (t := (15, [some (.ref 4), some (.int (nI h)), some (.int (nI r)), none, none], [.int (nI r), .ref 18], (zw_C g gl (va_up a 20 f) al))) 3 rfl ?_
    refine zr_cd (t := (16, [some (.ref 4), some (.int (nI h)), some (.int (nI r)), none, none], [.int ((a 18) (nI r).toNatClampNeg)], (zw_C g gl (va_up a 20 f) al))) rfl (pk_in r 156 (by omega) rfl (by omega)) ?_
    rw [pk_cl (x := (nI r)) r rfl (by omega)]
    rw [show (a 18) r = nI k from hkk]
    refine zr_go (t := (23, [some (.ref 4), some (.int (nI h)), some (.int (nI r)), some (.int ((nI k) * 6)), some (.int 0)], [], (zw_C g gl (va_up a 20 f) al))) 5 rfl ?_
    rw [show (nI k) * 6 = nI (k * 6) from (zn_mul rfl rfl)]
    refine zr_loop (fun zq : Nat × (Nat → Int32) => (23, [some (.ref 4), some (.int (nI h)), some (.int (nI r)), some (.int (nI (k * 6))), some (.int (nI zq.1))], [], (zw_C g gl (va_up a 20 zq.2) al))) (fun zq => zq.1 ≤ N ∧ ∀ t, t < zq.1 → zq.2 t = nI ((zz_nm P N c (zv_y P N k)) t)) (fun zq => N - zq.1) ?_ (0, f) ⟨by omega, fun t h => absurd h (Nat.not_lt_zero t)⟩
    rintro ⟨i, e⟩ ⟨hi, he⟩ ih2
    try dsimp only at *
    refine zr_go (t := (29, [some (.ref 4), some (.int (nI h)), some (.int (nI r)), some (.int (nI (k * 6))), some (.int (nI i))], [.int (g 16), .int (nI i)], (zw_C g gl (va_up a 20 e) al))) 3 rfl ?_
    refine zr_ige (x := nI i) (y := g 16) i N rfl hN (by omega) (by omega) (t := (54, [some (.ref 4), some (.int (nI h)), some (.int (nI r)), some (.int (nI (k * 6))), some (.int (nI i))], [], (zw_C g gl (va_up a 20 e) al))) (f := (32, [some (.ref 4), some (.int (nI h)), some (.int (nI r)), some (.int (nI (k * 6))), some (.int (nI i))], [], (zw_C g gl (va_up a 20 e) al))) rfl (fun h2 => ?_) (fun h2 => ?_)
    · skip
      refine zr_go (t := (55, [some (.ref 4), some (.int (nI h)), some (.int (nI r)), some (.int (nI (k * 6))), some (.int (nI i))], [.ref 4], (zw_C g gl (va_up a 20 e) al))) 1 rfl ?_
      refine zr_call (t := (58, [some (.ref 4), some (.int (nI h)), some (.int (nI r)), some (.int (nI (k * 6))), some (.int (nI i))], [], (zw_C g gl (va_up a 20 e) al))) rfl (Nat.le_of_ble_eq_true rfl : 2 ≤ 2) (zs_C_vecPt g gl (va_up a 20 e) al P N hP hN hP0 hP5 hN6 (zz_nm P N c (zv_y P N k)) (fun t ht => he t (by omega)) (fun t _ => zz_nm_lt hP0 t)) ?_
      rintro _ _ ⟨rfl, rfl⟩
      show zm_Run zt_get 2 zt_Q_tangentPoint (58, [some (.ref 4), some (.int (nI h)), some (.int (nI r)), some (.int (nI (k * 6))), some (.int (nI i))], [.int (if (zl_vp P (zz_nm P N c (zv_y P N k)) N).1 = 0 then -1 else nI (zl_vp P (zz_nm P N c (zv_y P N k)) N).2)], (zw_C g gl (va_up a 20 e) al)) _
      have ht7 : (zl_vp P (zz_nm P N c (zv_y P N k)) N).2 < 117649 := Nat.lt_of_lt_of_le (zl_vp_2 hP0 hP5 N) (z7_6 (by omega))
      by_cases hv0 : (zl_vp P (zz_nm P N c (zv_y P N k)) N).1 = 0
      · skip
        rw [if_pos hv0]
        refine zr_go (t := (59, [some (.ref 4), some (.int (nI h)), some (.int (nI r)), some (.int (nI (k * 6))), some (.int (nI i))], [.int (nI h), .int (-1)], (zw_C g gl (va_up a 20 e) al))) 1 rfl ?_
        refine zr_if (c := (-1) = nI h) (t := (62, [some (.ref 4), some (.int (nI h)), some (.int (nI r)), some (.int (nI (k * 6))), some (.int (nI i))], [], (zw_C g gl (va_up a 20 e) al))) (f := (69, [some (.ref 4), some (.int (nI h)), some (.int (nI r)), some (.int (nI (k * 6))), some (.int (nI i))], [], (zw_C g gl (va_up a 20 e) al))) rfl (fun h3 => ?_) (fun h3 => ?_)
        · skip
          exact absurd h3.symm (zz_nm1 (by omega))
        · skip
          refine zr_go (t := (2, [some (.ref 4), some (.int (nI h)), some (.int ((nI r) + 1)), some (.int (nI (k * 6))), some (.int (nI i))], [], (zw_C g gl (va_up a 20 e) al))) 2 rfl ?_
          rw [show (nI r) + 1 = nI (r + 1) from (zn_add rfl rfl)]
          refine zr_forget [some (.ref 4), some (.int (nI h)), some (.int (nI (r + 1))), none, none] ⟨Or.inr rfl, Or.inr rfl, Or.inr rfl, Or.inl rfl, Or.inl rfl, trivial⟩ ?_
          exact ih (r + 1, e) ⟨by omega, by rw [← hz, h64, zM_none (f := (fun u => zz_tp P N c h (zX (zw_oo P N c) (zv_np P N) u))) (by show zz_tp P N c h (zX (zw_oo P N c) (zv_np P N) r) = false; rw [← hk]; unfold zz_tp; exact decide_eq_false (fun q => q.1 hv0))]⟩ (by omega)
      · skip
        rw [if_neg hv0]
        refine zr_go (t := (59, [some (.ref 4), some (.int (nI h)), some (.int (nI r)), some (.int (nI (k * 6))), some (.int (nI i))], [.int (nI h), .int (nI ((zl_vp P (zz_nm P N c (zv_y P N k)) N).2))], (zw_C g gl (va_up a 20 e) al))) 1 rfl ?_
        refine zr_ine (x := nI ((zl_vp P (zz_nm P N c (zv_y P N k)) N).2)) (y := nI h) ((zl_vp P (zz_nm P N c (zv_y P N k)) N).2) h rfl rfl (by omega) (by omega) (t := (69, [some (.ref 4), some (.int (nI h)), some (.int (nI r)), some (.int (nI (k * 6))), some (.int (nI i))], [], (zw_C g gl (va_up a 20 e) al))) (f := (62, [some (.ref 4), some (.int (nI h)), some (.int (nI r)), some (.int (nI (k * 6))), some (.int (nI i))], [], (zw_C g gl (va_up a 20 e) al))) rfl (fun h3 => ?_) (fun h3 => ?_)
        · skip
          refine zr_go (t := (2, [some (.ref 4), some (.int (nI h)), some (.int ((nI r) + 1)), some (.int (nI (k * 6))), some (.int (nI i))], [], (zw_C g gl (va_up a 20 e) al))) 2 rfl ?_
          rw [show (nI r) + 1 = nI (r + 1) from (zn_add rfl rfl)]
          refine zr_forget [some (.ref 4), some (.int (nI h)), some (.int (nI (r + 1))), none, none] ⟨Or.inr rfl, Or.inr rfl, Or.inr rfl, Or.inl rfl, Or.inl rfl, trivial⟩ ?_
          exact ih (r + 1, e) ⟨by omega, by rw [← hz, h64, zM_none (f := (fun u => zz_tp P N c h (zX (zw_oo P N c) (zv_np P N) u))) (by show zz_tp P N c h (zX (zw_oo P N c) (zv_np P N) r) = false; rw [← hk]; unfold zz_tp; exact decide_eq_false (fun q => h3 q.2))]⟩ (by omega)
        · skip
          have hM : zM (fun u => zz_tp P N c h (zX (zw_oo P N c) (zv_np P N) u)) 0 (zw_on P N c) = r := by rw [← hz, h64, zM_here (f := (fun u => zz_tp P N c h (zX (zw_oo P N c) (zv_np P N) u))) (by show zz_tp P N c h (zX (zw_oo P N c) (zv_np P N) r) = true; rw [← hk]; unfold zz_tp; exact decide_eq_true ⟨hv0, h3⟩)]
          refine zr_go (t := (67, [some (.ref 4), some (.int (nI h)), some (.int (nI r)), some (.int (nI (k * 6))), some (.int (nI i))], [.int (nI r), .ref 18], (zw_C g gl (va_up a 20 e) al))) 3 rfl ?_
          refine zr_cd (t := (68, [some (.ref 4), some (.int (nI h)), some (.int (nI r)), some (.int (nI (k * 6))), some (.int (nI i))], [.int ((a 18) (nI r).toNatClampNeg)], (zw_C g gl (va_up a 20 e) al))) rfl (pk_in r 156 (by omega) rfl (by omega)) ?_
          rw [pk_cl (x := (nI r)) r rfl (by omega)]
          rw [show (a 18) r = nI k from hkk]
          exact zr_ret rfl trivial ⟨by rw [hM, if_pos h1, ← hk], e, rfl⟩
    · skip
      have hni := zz_nm_lt (N := N) (c := c) (x := zv_y P N k) hP0 i
      refine zr_go (t := (46, [some (.ref 4), some (.int (nI h)), some (.int (nI r)), some (.int (nI (k * 6))), some (.int (nI i))], [.int ((nI (k * 6)) + (nI i)), .ref 16, .int (nI i), .ref 20], (zw_C g gl (va_up a 20 e) al))) 8 rfl ?_
      refine zr_cd (t := (47, [some (.ref 4), some (.int (nI h)), some (.int (nI r)), some (.int (nI (k * 6))), some (.int (nI i))], [.int ((a 16) ((nI (k * 6)) + (nI i)).toNatClampNeg), .int (nI i), .ref 20], (zw_C g gl (va_up a 20 e) al))) rfl (pk_in ((k * 6) + i) 936 (by omega) (zn_add rfl rfl) (by omega)) ?_
      rw [pk_cl (x := ((nI (k * 6)) + (nI i))) ((k * 6) + i) (zn_add rfl rfl) (by omega)]
      rw [show (a 16) ((k * 6) + i) = nI ((zz_nm P N c (zv_y P N k)) i) from h16 k hX.1 i h2]
      refine zr_cd (t := (48, [some (.ref 4), some (.int (nI h)), some (.int (nI r)), some (.int (nI (k * 6))), some (.int (nI i))], [], (zw_C g gl (va_up a 20 (upd e ((nI i).toNatClampNeg) (nI ((zz_nm P N c (zv_y P N k)) i)))) al))) rfl (pk_in i 6 (by omega) rfl (by omega)) ?_
      rw [pk_cl (x := (nI i)) i rfl (by omega)]
      refine zr_go (t := (23, [some (.ref 4), some (.int (nI h)), some (.int (nI r)), some (.int (nI (k * 6))), some (.int ((nI i) + 1))], [], (zw_C g gl (va_up a 20 (upd e i (nI ((zz_nm P N c (zv_y P N k)) i)))) al))) 2 rfl ?_
      rw [show (nI i) + 1 = nI (i + 1) from (zn_add rfl rfl)]
      exact ih2 (i + 1, (upd e i (nI ((zz_nm P N c (zv_y P N k)) i)))) ⟨by omega, lt_s (fun t ht => (pk_un (by omega)).trans (he t ht)) pk_us⟩ (by omega)
def zz_hy (P on np : Nat) : Bool := decide (np - 1 < on * P)
def zz_kd (P N on ns np : Nat) : Nat := if 0 < ns then 3 else if N % 2 ≠ 0 then 0 else if zz_hy P on np = true then 1 else 2
def zz_ix (P N on np : Nat) : Nat := if N % 2 ≠ 0 ∨ zz_hy P on np = true then N / 2 else N / 2 - 1
theorem zs_C_hyp (g : Nat → Int32) (gl : Nat → Int64) (a : Nat → Nat → Int32) (al : Nat → Nat → Int64) (P N on ns np : Nat) (hP : g 15 = nI P) (hN : g 16 = nI N) (hnp : g 17 = nI np) (hon : g 18 = nI on) (hns : g 19 = nI ns) (hP5 : P ≤ 5) (hN6 : N ≤ 6) (hN3 : 3 ≤ N) (hnp1 : np ≤ 156) (hnp0 : 0 < np) (hon1 : on ≤ 156) (hns1 : ns ≤ 156) : zm_Ev zt_get 1 43 [.ref 4] (zw_C g gl a al) (fun v w => v = some (.int (nI (zz_hy P on np).toNat)) ∧ w = (zw_C g gl a al)) := by
  have hm : on * P ≤ 156 * 5 := Nat.mul_le_mul hon1 hP5
  refine zr_ev zt_Q_isHyperbolic rfl rfl ?_
  show zm_Run zt_get 0 zt_Q_isHyperbolic (0, [some (.ref 4)], [], (zw_C g gl a al)) _
  refine zr_go (t := (15, [some (.ref 4)], [.int ((g 17) - 1), .int ((g 18) * (g 15))], (zw_C g gl a al))) 9 rfl ?_
  refine zr_ile (x := (g 18) * (g 15)) (y := (g 17) - 1) (on * P) (np - 1) (zn_mul hon hP) (zn_sub hnp rfl (by omega)) (by omega) (by omega) (t := (22, [some (.ref 4)], [], (zw_C g gl a al))) (f := (18, [some (.ref 4)], [], (zw_C g gl a al))) rfl (fun h1 => ?_) (fun h1 => ?_)
  · skip
    refine zr_go (t := (23, [some (.ref 4)], [.int 0], (zw_C g gl a al))) 1 rfl ?_
    exact zr_ret rfl (Or.inl rfl) ⟨by rw [show zz_hy P on np = false from decide_eq_false (by omega)]; rfl, rfl⟩
  · skip
    refine zr_go (t := (23, [some (.ref 4)], [.int 1], (zw_C g gl a al))) 2 rfl ?_
    exact zr_ret rfl (Or.inr rfl) ⟨by rw [show zz_hy P on np = true from decide_eq_true (by omega)]; rfl, rfl⟩
theorem zs_C_kind (g : Nat → Int32) (gl : Nat → Int64) (a : Nat → Nat → Int32) (al : Nat → Nat → Int64) (P N on ns np : Nat) (hP : g 15 = nI P) (hN : g 16 = nI N) (hnp : g 17 = nI np) (hon : g 18 = nI on) (hns : g 19 = nI ns) (hP5 : P ≤ 5) (hN6 : N ≤ 6) (hN3 : 3 ≤ N) (hnp1 : np ≤ 156) (hnp0 : 0 < np) (hon1 : on ≤ 156) (hns1 : ns ≤ 156) : zm_Ev zt_get 2 41 [.ref 4] (zw_C g gl a al) (fun v w => v = some (.int (nI (zz_kd P N on ns np))) ∧ w = (zw_C g gl a al)) := by
  have hb := zb_le (zz_hy P on np)
  refine zr_ev zt_Q_kind rfl rfl ?_
  show zm_Run zt_get 1 zt_Q_kind (0, [some (.ref 4)], [], (zw_C g gl a al)) _
  refine zr_go (t := (4, [some (.ref 4)], [.int (g 19)], (zw_C g gl a al))) 2 rfl ?_
  refine zr_ile (x := g 19) (y := 0) ns 0 hns rfl (by omega) (by omega) (t := (9, [some (.ref 4)], [], (zw_C g gl a al))) (f := (7, [some (.ref 4)], [], (zw_C g gl a al))) rfl (fun h1 => ?_) (fun h1 => ?_)
  · skip
    refine zr_go (t := (14, [some (.ref 4)], [.int 2, .int (g 16)], (zw_C g gl a al))) 3 rfl ?_
    refine zr_cd (t := (15, [some (.ref 4)], [.int ((g 16) - (g 16) / 2 * 2)], (zw_C g gl a al))) rfl (zn_ne0 (b := 2) rfl (by decide) (by decide)) ?_
    rw [show (g 16) - (g 16) / 2 * 2 = nI (N % 2) from (zn_rem hN rfl (by omega) (by omega) (by omega))]
    refine zr_ieq (x := nI (N % 2)) (y := 0) (N % 2) 0 rfl rfl (by omega) (by omega) (t := (20, [some (.ref 4)], [], (zw_C g gl a al))) (f := (18, [some (.ref 4)], [], (zw_C g gl a al))) rfl (fun h2 => ?_) (fun h2 => ?_)
    · skip
      refine zr_go (t := (21, [some (.ref 4)], [.ref 4], (zw_C g gl a al))) 1 rfl ?_
      refine zr_call (t := (24, [some (.ref 4)], [], (zw_C g gl a al))) rfl (Nat.le_of_ble_eq_true rfl : 1 ≤ 1) (zs_C_hyp g gl a al P N on ns np hP hN hnp hon hns hP5 hN6 hN3 hnp1 hnp0 hon1 hns1) ?_
      rintro _ _ ⟨rfl, rfl⟩
      show zm_Run zt_get 1 zt_Q_kind (24, [some (.ref 4)], [.int (nI ((zz_hy P on np).toNat))], (zw_C g gl a al)) _
      refine zr_ieq (x := nI ((zz_hy P on np).toNat)) (y := 0) ((zz_hy P on np).toNat) 0 rfl rfl (by omega) (by omega) (t := (31, [some (.ref 4)], [], (zw_C g gl a al))) (f := (27, [some (.ref 4)], [], (zw_C g gl a al))) rfl (fun h3 => ?_) (fun h3 => ?_)
      · skip
        refine zr_go (t := (32, [some (.ref 4)], [.int 2], (zw_C g gl a al))) 1 rfl ?_
        exact zr_ret rfl trivial ⟨by unfold zz_kd; rw [if_neg (by omega), if_neg (by omega), if_neg (by rw [zb_0 h3]; decide)]; rfl, rfl⟩
      · skip
        refine zr_go (t := (32, [some (.ref 4)], [.int 1], (zw_C g gl a al))) 2 rfl ?_
        exact zr_ret rfl trivial ⟨by unfold zz_kd; rw [if_neg (by omega), if_neg (by omega), if_pos (zb_1 h3)]; rfl, rfl⟩
    · skip
      refine zr_go (t := (19, [some (.ref 4)], [.int 0], (zw_C g gl a al))) 1 rfl ?_
      exact zr_ret rfl trivial ⟨by unfold zz_kd; rw [if_neg (by omega), if_pos h2]; rfl, rfl⟩
  · skip
    refine zr_go (t := (8, [some (.ref 4)], [.int 3], (zw_C g gl a al))) 1 rfl ?_
    exact zr_ret rfl trivial ⟨by unfold zz_kd; rw [if_pos (by omega)]; rfl, rfl⟩
theorem zs_C_index (g : Nat → Int32) (gl : Nat → Int64) (a : Nat → Nat → Int32) (al : Nat → Nat → Int64) (P N on ns np : Nat) (hP : g 15 = nI P) (hN : g 16 = nI N) (hnp : g 17 = nI np) (hon : g 18 = nI on) (hns : g 19 = nI ns) (hP5 : P ≤ 5) (hN6 : N ≤ 6) (hN3 : 3 ≤ N) (hnp1 : np ≤ 156) (hnp0 : 0 < np) (hon1 : on ≤ 156) (hns1 : ns ≤ 156) : zm_Ev zt_get 2 42 [.ref 4] (zw_C g gl a al) (fun v w => v = some (.int (if 0 < ns then -1 else nI (zz_ix P N on np))) ∧ w = (zw_C g gl a al)) := by
  have hb := zb_le (zz_hy P on np)
  refine zr_ev zt_Q_index rfl rfl ?_
  show zm_Run zt_get 1 zt_Q_index (0, [some (.ref 4)], [], (zw_C g gl a al)) _
  refine zr_go (t := (4, [some (.ref 4)], [.int (g 19)], (zw_C g gl a al))) 2 rfl ?_
  refine zr_ile (x := g 19) (y := 0) ns 0 hns rfl (by omega) (by omega) (t := (9, [some (.ref 4)], [], (zw_C g gl a al))) (f := (7, [some (.ref 4)], [], (zw_C g gl a al))) rfl (fun h1 => ?_) (fun h1 => ?_)
  · skip
    refine zr_go (t := (14, [some (.ref 4)], [.int 2, .int (g 16)], (zw_C g gl a al))) 3 rfl ?_
    refine zr_cd (t := (15, [some (.ref 4)], [.int ((g 16) - (g 16) / 2 * 2)], (zw_C g gl a al))) rfl (zn_ne0 (b := 2) rfl (by decide) (by decide)) ?_
    rw [show (g 16) - (g 16) / 2 * 2 = nI (N % 2) from (zn_rem hN rfl (by omega) (by omega) (by omega))]
    refine zr_ine (x := nI (N % 2)) (y := 0) (N % 2) 0 rfl rfl (by omega) (by omega) (t := (25, [some (.ref 4)], [], (zw_C g gl a al))) (f := (18, [some (.ref 4)], [], (zw_C g gl a al))) rfl (fun h2 => ?_) (fun h2 => ?_)
    · skip
      refine zr_go (t := (30, [some (.ref 4)], [.int 2, .int (g 16)], (zw_C g gl a al))) 3 rfl ?_
      refine zr_cd (t := (31, [some (.ref 4)], [.int ((g 16) / 2)], (zw_C g gl a al))) rfl (zn_ne0 (b := 2) rfl (by decide) (by decide)) ?_
      rw [show (g 16) / 2 = nI (N / 2) from (zn_div hN rfl (by omega) (by omega) (by omega))]
      refine zr_go (t := (42, [some (.ref 4)], [.int (nI (N / 2))], (zw_C g gl a al))) 1 rfl ?_
      exact zr_ret rfl trivial ⟨by unfold zz_ix; rw [if_neg (by omega), if_pos (Or.inl h2)], rfl⟩
    · skip
      refine zr_go (t := (19, [some (.ref 4)], [.ref 4], (zw_C g gl a al))) 1 rfl ?_
      refine zr_call (t := (22, [some (.ref 4)], [], (zw_C g gl a al))) rfl (Nat.le_of_ble_eq_true rfl : 1 ≤ 1) (zs_C_hyp g gl a al P N on ns np hP hN hnp hon hns hP5 hN6 hN3 hnp1 hnp0 hon1 hns1) ?_
      rintro _ _ ⟨rfl, rfl⟩
      show zm_Run zt_get 1 zt_Q_index (22, [some (.ref 4)], [.int (nI ((zz_hy P on np).toNat))], (zw_C g gl a al)) _
      refine zr_ieq (x := nI ((zz_hy P on np).toNat)) (y := 0) ((zz_hy P on np).toNat) 0 rfl rfl (by omega) (by omega) (t := (34, [some (.ref 4)], [], (zw_C g gl a al))) (f := (25, [some (.ref 4)], [], (zw_C g gl a al))) rfl (fun h3 => ?_) (fun h3 => ?_)
      · skip
        refine zr_go (t := (39, [some (.ref 4)], [.int 2, .int (g 16)], (zw_C g gl a al))) 3 rfl ?_
        refine zr_cd (t := (40, [some (.ref 4)], [.int ((g 16) / 2)], (zw_C g gl a al))) rfl (zn_ne0 (b := 2) rfl (by decide) (by decide)) ?_
        rw [show (g 16) / 2 = nI (N / 2) from (zn_div hN rfl (by omega) (by omega) (by omega))]
        refine zr_go (t := (42, [some (.ref 4)], [.int ((nI (N / 2)) - 1)], (zw_C g gl a al))) 2 rfl ?_
        rw [show (nI (N / 2)) - 1 = nI ((N / 2) - 1) from (zn_sub rfl rfl (by omega))]
        exact zr_ret rfl trivial ⟨by unfold zz_ix; rw [if_neg (by omega), if_neg (by rw [zb_0 h3]; intro q; rcases q with q | q; omega; cases q)], rfl⟩
      · skip
        refine zr_go (t := (30, [some (.ref 4)], [.int 2, .int (g 16)], (zw_C g gl a al))) 3 rfl ?_
        refine zr_cd (t := (31, [some (.ref 4)], [.int ((g 16) / 2)], (zw_C g gl a al))) rfl (zn_ne0 (b := 2) rfl (by decide) (by decide)) ?_
        rw [show (g 16) / 2 = nI (N / 2) from (zn_div hN rfl (by omega) (by omega) (by omega))]
        refine zr_go (t := (42, [some (.ref 4)], [.int (nI (N / 2))], (zw_C g gl a al))) 1 rfl ?_
        exact zr_ret rfl trivial ⟨by unfold zz_ix; rw [if_neg (by omega), if_pos (Or.inr (zb_1 h3))], rfl⟩
  · skip
    refine zr_go (t := (8, [some (.ref 4)], [.int (-1)], (zw_C g gl a al))) 1 rfl ?_
    exact zr_ret rfl trivial ⟨by rw [if_pos (by omega)], rfl⟩
theorem zl_st_y {P p k : Nat} (h : 0 < (zl_st P p k).1) : zl_st P p (k + 1) = (((zl_st P p k).1 - 1) / P, (zl_st P p k).2) := if_pos h
theorem zl_st_n {P p k : Nat} (h : (zl_st P p k).1 = 0) : zl_st P p (k + 1) = (0, true) := if_neg (by omega)
theorem zb_tn {b : Bool} {n : Nat} (h : n = b.toNat) (h0 : n = 0) : b = false := zb_0 (by omega)
theorem zs_C_layPoint (g : Nat → Int32) (gl : Nat → Int64) (a : Nat → Nat → Int32) (al : Nat → Nat → Int64) (P N : Nat) (hP : g 15 = nI P) (hN : g 16 = nI N) (hP0 : 0 < P) (hP5 : P ≤ 5) (hN6 : N ≤ 6) (hN1 : 1 ≤ N) (p : Nat) (hp : p < 156) : zm_Ev zt_get 2 31 [.ref 4, .int (nI p)] (zw_C g gl a al) (fun v w => v = none ∧ ∃ f, w = (zw_C g gl (va_up a 15 f) al) ∧ (∀ i, i < N → f (p * 6 + i) = nI (zl_y P N p i)) ∧ ∀ q i, q ≠ p → i < 6 → f (q * 6 + i) = a 15 (q * 6 + i)) := by
  refine zr_ev zt_Q_layPoint rfl rfl ?_
  show zm_Run zt_get 1 zt_Q_layPoint (0, [some (.ref 4), some (.int (nI p)), none, none, none, none], [], (zw_C g gl a al)) _
  refine zr_go (t := (12, [some (.ref 4), some (.int (nI p)), some (.int (nI p)), some (.int 0), some (.int ((g 16) - 1)), none], [], (zw_C g gl a al))) 9 rfl ?_
  rw [show g 16 - 1 = nI N + (-1) from by rw [hN]; exact Int32.sub_eq_add_neg _ _]
  refine zr_loop (fun zq : Nat × Nat × Bool × (Nat → Int32) => (12, [some (.ref 4), some (.int (nI p)), some (.int (nI zq.2.1)), some (.int (nI zq.2.2.1.toNat)), some (.int (nI zq.1 + (-1))), none], [], (zw_C g gl (va_up a 15 zq.2.2.2) al))) (fun zq => zq.1 ≤ N ∧ (zq.2.1, zq.2.2.1) = zl_st P p (N - zq.1) ∧ zq.2.1 ≤ p ∧ (∀ i, zq.1 ≤ i → i < N → zq.2.2.2 (p * 6 + i) = nI (zl_y P N p i)) ∧ ∀ q i, q ≠ p → i < 6 → zq.2.2.2 (q * 6 + i) = a 15 (q * 6 + i)) (fun zq => zq.1) ?_ (N, p, false, a 15) ⟨Nat.le_refl _, by rw [Nat.sub_self]; rfl, Nat.le_refl _, fun i h1 h2 => absurd h2 (by have h1 : N ≤ i := h1; omega), fun q i _ _ => rfl⟩
  rintro ⟨j, r, b, f⟩ ⟨hj, hst, hrp, hf, hf2⟩ ih
  try dsimp only at *
  rcases j with _ | j
  · skip
    refine zr_go (t := (14, [some (.ref 4), some (.int (nI p)), some (.int (nI r)), some (.int (nI b.toNat)), some (.int (nI 0 + (-1))), none], [.int (nI 0 + (-1))], (zw_C g gl (va_up a 15 f) al))) 1 rfl ?_
    refine zr_if (c := (nI 0 + (-1)) < 0) (t := (89, [some (.ref 4), some (.int (nI p)), some (.int (nI r)), some (.int (nI b.toNat)), some (.int (nI 0 + (-1))), none], [], (zw_C g gl (va_up a 15 f) al))) (f := (17, [some (.ref 4), some (.int (nI p)), some (.int (nI r)), some (.int (nI b.toNat)), some (.int (nI 0 + (-1))), none], [], (zw_C g gl (va_up a 15 f) al))) rfl (fun h1 => ?_) (fun h1 => ?_)
    · skip
      exact zr_ret rfl trivial ⟨rfl, f, rfl, fun i hi => hf i (Nat.zero_le _) hi, hf2⟩
    · skip
      exact absurd (by decide : nI 0 + (-1) < (0 : Int32)) h1
  · skip
    rw [pk_m1]
    have hNj : N - 1 - j = N - (j + 1) := by omega
    have hNs : N - j = (N - (j + 1)) + 1 := by omega
    have hb1 := zb_le b
    have hr1 : (zl_st P p (N - (j + 1))).1 = r := by rw [← hst]
    have hr2 : (zl_st P p (N - (j + 1))).2 = b := by rw [← hst]
    refine zr_go (t := (14, [some (.ref 4), some (.int (nI p)), some (.int (nI r)), some (.int (nI b.toNat)), some (.int (nI j)), none], [.int (nI j)], (zw_C g gl (va_up a 15 f) al))) 1 rfl ?_
    refine zr_ilt (x := nI j) (y := 0) j 0 rfl rfl (by omega) (by omega) (t := (89, [some (.ref 4), some (.int (nI p)), some (.int (nI r)), some (.int (nI b.toNat)), some (.int (nI j)), none], [], (zw_C g gl (va_up a 15 f) al))) (f := (17, [some (.ref 4), some (.int (nI p)), some (.int (nI r)), some (.int (nI b.toNat)), some (.int (nI j)), none], [], (zw_C g gl (va_up a 15 f) al))) rfl (fun h1 => ?_) (fun h1 => ?_)
    · skip
      exact absurd h1 (Nat.not_lt_zero _)
    · skip
      refine zr_go (t := (18, [some (.ref 4), some (.int (nI p)), some (.int (nI r)), some (.int (nI b.toNat)), some (.int (nI j)), none], [.int (nI b.toNat)], (zw_C g gl (va_up a 15 f) al))) 1 rfl ?_
      refine zr_ieq (x := nI b.toNat) (y := 0) b.toNat 0 rfl rfl (by omega) (by omega) (t := (25, [some (.ref 4), some (.int (nI p)), some (.int (nI r)), some (.int (nI b.toNat)), some (.int (nI j)), none], [], (zw_C g gl (va_up a 15 f) al))) (f := (21, [some (.ref 4), some (.int (nI p)), some (.int (nI r)), some (.int (nI b.toNat)), some (.int (nI j)), none], [], (zw_C g gl (va_up a 15 f) al))) rfl (fun h2 => ?_) (fun h2 => ?_)
      · skip
        have hb : b = false := zb_0 h2
        refine zr_go (t := (29, [some (.ref 4), some (.int (nI p)), some (.int (nI r)), some (.int (nI b.toNat)), some (.int (nI j)), some (.int 1)], [.int (nI r)], (zw_C g gl (va_up a 15 f) al))) 3 rfl ?_
        refine zr_ile (x := nI r) (y := 0) r 0 rfl rfl (by omega) (by omega) (t := (67, [some (.ref 4), some (.int (nI p)), some (.int (nI r)), some (.int (nI b.toNat)), some (.int (nI j)), some (.int 1)], [], (zw_C g gl (va_up a 15 f) al))) (f := (32, [some (.ref 4), some (.int (nI p)), some (.int (nI r)), some (.int (nI b.toNat)), some (.int (nI j)), some (.int 1)], [], (zw_C g gl (va_up a 15 f) al))) rfl (fun h3 => ?_) (fun h3 => ?_)
        · skip
          have hr0 : r = 0 := by omega
          refine zr_go (t := (82, [some (.ref 4), some (.int (nI p)), some (.int (nI r)), some (.int 1), some (.int (nI j)), some (.int 1)], [.int 1, .int (((nI p) * 6) + (nI j)), .ref 15], (zw_C g gl (va_up a 15 f) al))) 10 rfl ?_
          refine zr_cd (t := (83, [some (.ref 4), some (.int (nI p)), some (.int (nI r)), some (.int 1), some (.int (nI j)), some (.int 1)], [], (zw_C g gl (va_up a 15 (upd f ((((nI p) * 6) + (nI j)).toNatClampNeg) 1)) al))) rfl (pk_in ((p * 6) + j) 936 (by omega) (zn_add (zn_mul rfl rfl) rfl) (by omega)) ?_
          rw [pk_cl (x := (((nI p) * 6) + (nI j))) ((p * 6) + j) (zn_add (zn_mul rfl rfl) rfl) (by omega)]
          refine zr_go (t := (12, [some (.ref 4), some (.int (nI p)), some (.int (nI r)), some (.int 1), some (.int ((nI j) + (-1))), some (.int 1)], [], (zw_C g gl (va_up a 15 (upd f ((p * 6) + j) 1)) al))) 2 rfl ?_
          have hy : zl_y P N p j = 1 := by unfold zl_y; rw [hNj, hr1, hr2, hb, if_neg (by omega)]; rfl
          refine zr_forget [some (.ref 4), some (.int (nI p)), some (.int (nI r)), some (.int 1), some (.int ((nI j) + (-1))), none] ⟨Or.inr rfl, Or.inr rfl, Or.inr rfl, Or.inr rfl, Or.inr rfl, Or.inl rfl, trivial⟩ ?_
          exact ih (j, r, true, (upd f ((p * 6) + j) 1)) ⟨by omega, by rw [hNs, zl_st_n (by omega), hr0], hrp, fun i h5 h6 => if e : i = j then (by subst e; rw [hy]; exact pk_us) else (pk_un (by omega)).trans (hf i (by omega) h6), fun q i hq hi => (pk_un (by omega)).trans (hf2 q i hq hi)⟩ (Nat.lt_succ_self j)
        · skip
          refine zr_go (t := (39, [some (.ref 4), some (.int (nI p)), some (.int (nI r)), some (.int (nI b.toNat)), some (.int (nI j)), some (.int 1)], [.int (g 15), .int ((nI r) - 1)], (zw_C g gl (va_up a 15 f) al))) 5 rfl ?_
          rw [hP]
          rw [show (nI r) - 1 = nI (r - 1) from (zn_sub rfl rfl (by omega))]
          refine zr_call (t := (42, [some (.ref 4), some (.int (nI p)), some (.int (nI r)), some (.int (nI b.toNat)), some (.int (nI j)), some (.int 1)], [], (zw_C g gl (va_up a 15 f) al))) rfl (Nat.le_of_ble_eq_true rfl : 1 ≤ 1) (zs_C_modN g gl (va_up a 15 f) al (nI (r - 1)) (r - 1) P rfl (by omega) hP0 (by omega)) ?_
          rintro _ _ ⟨rfl, rfl⟩
          show zm_Run zt_get 1 zt_Q_layPoint (42, [some (.ref 4), some (.int (nI p)), some (.int (nI r)), some (.int (nI b.toNat)), some (.int (nI j)), some (.int 1)], [.int (nI ((r - 1) % P))], (zw_C g gl (va_up a 15 f) al)) _
          refine zr_go (t := (48, [some (.ref 4), some (.int (nI p)), some (.int (nI r)), some (.int (nI b.toNat)), some (.int (nI j)), some (.int (nI ((r - 1) % P)))], [.int (g 15)], (zw_C g gl (va_up a 15 f) al))) 3 rfl ?_
          refine zr_ile (x := g 15) (y := 0) P 0 hP rfl (by omega) (by omega) (t := (62, [some (.ref 4), some (.int (nI p)), some (.int (nI r)), some (.int (nI b.toNat)), some (.int (nI j)), some (.int (nI ((r - 1) % P)))], [], (zw_C g gl (va_up a 15 f) al))) (f := (51, [some (.ref 4), some (.int (nI p)), some (.int (nI r)), some (.int (nI b.toNat)), some (.int (nI j)), some (.int (nI ((r - 1) % P)))], [], (zw_C g gl (va_up a 15 f) al))) rfl (fun h4 => ?_) (fun h4 => ?_)
          · skip
            exfalso; omega
          · skip
            refine zr_go (t := (58, [some (.ref 4), some (.int (nI p)), some (.int (nI r)), some (.int (nI b.toNat)), some (.int (nI j)), some (.int (nI ((r - 1) % P)))], [.int (g 15), .int ((nI r) - 1)], (zw_C g gl (va_up a 15 f) al))) 5 rfl ?_
            refine zr_cd (t := (59, [some (.ref 4), some (.int (nI p)), some (.int (nI r)), some (.int (nI b.toNat)), some (.int (nI j)), some (.int (nI ((r - 1) % P)))], [.int (((nI r) - 1) / (g 15))], (zw_C g gl (va_up a 15 f) al))) rfl (zn_ne0 hP (by omega) (by omega)) ?_
            rw [show ((nI r) - 1) / (g 15) = nI ((r - 1) / P) from (zn_div (zn_sub rfl rfl (by omega)) hP (by omega) (by omega) (by omega))]
            refine zr_go (t := (82, [some (.ref 4), some (.int (nI p)), some (.int (nI ((r - 1) / P))), some (.int (nI b.toNat)), some (.int (nI j)), some (.int (nI ((r - 1) % P)))], [.int (nI ((r - 1) % P)), .int (((nI p) * 6) + (nI j)), .ref 15], (zw_C g gl (va_up a 15 f) al))) 11 rfl ?_
            refine zr_cd (t := (83, [some (.ref 4), some (.int (nI p)), some (.int (nI ((r - 1) / P))), some (.int (nI b.toNat)), some (.int (nI j)), some (.int (nI ((r - 1) % P)))], [], (zw_C g gl (va_up a 15 (upd f ((((nI p) * 6) + (nI j)).toNatClampNeg) (nI ((r - 1) % P)))) al))) rfl (pk_in ((p * 6) + j) 936 (by omega) (zn_add (zn_mul rfl rfl) rfl) (by omega)) ?_
            rw [pk_cl (x := (((nI p) * 6) + (nI j))) ((p * 6) + j) (zn_add (zn_mul rfl rfl) rfl) (by omega)]
            refine zr_go (t := (12, [some (.ref 4), some (.int (nI p)), some (.int (nI ((r - 1) / P))), some (.int (nI b.toNat)), some (.int ((nI j) + (-1))), some (.int (nI ((r - 1) % P)))], [], (zw_C g gl (va_up a 15 (upd f ((p * 6) + j) (nI ((r - 1) % P)))) al))) 2 rfl ?_
            have hy : zl_y P N p j = (r - 1) % P := by unfold zl_y; rw [hNj, hr1, if_pos (by omega)]
            have hdv : (r - 1) / P ≤ r - 1 := Nat.div_le_self _ _
            refine zr_forget [some (.ref 4), some (.int (nI p)), some (.int (nI ((r - 1) / P))), some (.int (nI b.toNat)), some (.int ((nI j) + (-1))), none] ⟨Or.inr rfl, Or.inr rfl, Or.inr rfl, Or.inr rfl, Or.inr rfl, Or.inl rfl, trivial⟩ ?_
            exact ih (j, (r - 1) / P, b, (upd f ((p * 6) + j) (nI ((r - 1) % P)))) ⟨by omega, by rw [hNs, zl_st_y (by omega), hr1, hr2], by show (r - 1) / P ≤ p; omega, fun i h5 h6 => if e : i = j then (by subst e; rw [hy]; exact pk_us) else (pk_un (by omega)).trans (hf i (by omega) h6), fun q i hq hi => (pk_un (by omega)).trans (hf2 q i hq hi)⟩ (Nat.lt_succ_self j)
      · skip
        have hb : b = true := zb_1 h2
        refine zr_go (t := (29, [some (.ref 4), some (.int (nI p)), some (.int (nI r)), some (.int (nI b.toNat)), some (.int (nI j)), some (.int 0)], [.int (nI r)], (zw_C g gl (va_up a 15 f) al))) 4 rfl ?_
        refine zr_ile (x := nI r) (y := 0) r 0 rfl rfl (by omega) (by omega) (t := (67, [some (.ref 4), some (.int (nI p)), some (.int (nI r)), some (.int (nI b.toNat)), some (.int (nI j)), some (.int 0)], [], (zw_C g gl (va_up a 15 f) al))) (f := (32, [some (.ref 4), some (.int (nI p)), some (.int (nI r)), some (.int (nI b.toNat)), some (.int (nI j)), some (.int 0)], [], (zw_C g gl (va_up a 15 f) al))) rfl (fun h3 => ?_) (fun h3 => ?_)
        · skip
          have hr0 : r = 0 := by omega
          refine zr_go (t := (82, [some (.ref 4), some (.int (nI p)), some (.int (nI r)), some (.int 1), some (.int (nI j)), some (.int 0)], [.int 0, .int (((nI p) * 6) + (nI j)), .ref 15], (zw_C g gl (va_up a 15 f) al))) 10 rfl ?_
          refine zr_cd (t := (83, [some (.ref 4), some (.int (nI p)), some (.int (nI r)), some (.int 1), some (.int (nI j)), some (.int 0)], [], (zw_C g gl (va_up a 15 (upd f ((((nI p) * 6) + (nI j)).toNatClampNeg) 0)) al))) rfl (pk_in ((p * 6) + j) 936 (by omega) (zn_add (zn_mul rfl rfl) rfl) (by omega)) ?_
          rw [pk_cl (x := (((nI p) * 6) + (nI j))) ((p * 6) + j) (zn_add (zn_mul rfl rfl) rfl) (by omega)]
          refine zr_go (t := (12, [some (.ref 4), some (.int (nI p)), some (.int (nI r)), some (.int 1), some (.int ((nI j) + (-1))), some (.int 0)], [], (zw_C g gl (va_up a 15 (upd f ((p * 6) + j) 0)) al))) 2 rfl ?_
          have hy : zl_y P N p j = 0 := by unfold zl_y; rw [hNj, hr1, hr2, hb, if_neg (by omega)]; rfl
          refine zr_forget [some (.ref 4), some (.int (nI p)), some (.int (nI r)), some (.int 1), some (.int ((nI j) + (-1))), none] ⟨Or.inr rfl, Or.inr rfl, Or.inr rfl, Or.inr rfl, Or.inr rfl, Or.inl rfl, trivial⟩ ?_
          exact ih (j, r, true, (upd f ((p * 6) + j) 0)) ⟨by omega, by rw [hNs, zl_st_n (by omega), hr0], hrp, fun i h5 h6 => if e : i = j then (by subst e; rw [hy]; exact pk_us) else (pk_un (by omega)).trans (hf i (by omega) h6), fun q i hq hi => (pk_un (by omega)).trans (hf2 q i hq hi)⟩ (Nat.lt_succ_self j)
        · skip
          refine zr_go (t := (39, [some (.ref 4), some (.int (nI p)), some (.int (nI r)), some (.int (nI b.toNat)), some (.int (nI j)), some (.int 0)], [.int (g 15), .int ((nI r) - 1)], (zw_C g gl (va_up a 15 f) al))) 5 rfl ?_
          rw [hP]
          rw [show (nI r) - 1 = nI (r - 1) from (zn_sub rfl rfl (by omega))]
          refine zr_call (t := (42, [some (.ref 4), some (.int (nI p)), some (.int (nI r)), some (.int (nI b.toNat)), some (.int (nI j)), some (.int 0)], [], (zw_C g gl (va_up a 15 f) al))) rfl (Nat.le_of_ble_eq_true rfl : 1 ≤ 1) (zs_C_modN g gl (va_up a 15 f) al (nI (r - 1)) (r - 1) P rfl (by omega) hP0 (by omega)) ?_
          rintro _ _ ⟨rfl, rfl⟩
          show zm_Run zt_get 1 zt_Q_layPoint (42, [some (.ref 4), some (.int (nI p)), some (.int (nI r)), some (.int (nI b.toNat)), some (.int (nI j)), some (.int 0)], [.int (nI ((r - 1) % P))], (zw_C g gl (va_up a 15 f) al)) _
          refine zr_go (t := (48, [some (.ref 4), some (.int (nI p)), some (.int (nI r)), some (.int (nI b.toNat)), some (.int (nI j)), some (.int (nI ((r - 1) % P)))], [.int (g 15)], (zw_C g gl (va_up a 15 f) al))) 3 rfl ?_
          refine zr_ile (x := g 15) (y := 0) P 0 hP rfl (by omega) (by omega) (t := (62, [some (.ref 4), some (.int (nI p)), some (.int (nI r)), some (.int (nI b.toNat)), some (.int (nI j)), some (.int (nI ((r - 1) % P)))], [], (zw_C g gl (va_up a 15 f) al))) (f := (51, [some (.ref 4), some (.int (nI p)), some (.int (nI r)), some (.int (nI b.toNat)), some (.int (nI j)), some (.int (nI ((r - 1) % P)))], [], (zw_C g gl (va_up a 15 f) al))) rfl (fun h4 => ?_) (fun h4 => ?_)
          · skip
            exfalso; omega
          · skip
            refine zr_go (t := (58, [some (.ref 4), some (.int (nI p)), some (.int (nI r)), some (.int (nI b.toNat)), some (.int (nI j)), some (.int (nI ((r - 1) % P)))], [.int (g 15), .int ((nI r) - 1)], (zw_C g gl (va_up a 15 f) al))) 5 rfl ?_
            refine zr_cd (t := (59, [some (.ref 4), some (.int (nI p)), some (.int (nI r)), some (.int (nI b.toNat)), some (.int (nI j)), some (.int (nI ((r - 1) % P)))], [.int (((nI r) - 1) / (g 15))], (zw_C g gl (va_up a 15 f) al))) rfl (zn_ne0 hP (by omega) (by omega)) ?_
            rw [show ((nI r) - 1) / (g 15) = nI ((r - 1) / P) from (zn_div (zn_sub rfl rfl (by omega)) hP (by omega) (by omega) (by omega))]
            refine zr_go (t := (82, [some (.ref 4), some (.int (nI p)), some (.int (nI ((r - 1) / P))), some (.int (nI b.toNat)), some (.int (nI j)), some (.int (nI ((r - 1) % P)))], [.int (nI ((r - 1) % P)), .int (((nI p) * 6) + (nI j)), .ref 15], (zw_C g gl (va_up a 15 f) al))) 11 rfl ?_
            refine zr_cd (t := (83, [some (.ref 4), some (.int (nI p)), some (.int (nI ((r - 1) / P))), some (.int (nI b.toNat)), some (.int (nI j)), some (.int (nI ((r - 1) % P)))], [], (zw_C g gl (va_up a 15 (upd f ((((nI p) * 6) + (nI j)).toNatClampNeg) (nI ((r - 1) % P)))) al))) rfl (pk_in ((p * 6) + j) 936 (by omega) (zn_add (zn_mul rfl rfl) rfl) (by omega)) ?_
            rw [pk_cl (x := (((nI p) * 6) + (nI j))) ((p * 6) + j) (zn_add (zn_mul rfl rfl) rfl) (by omega)]
            refine zr_go (t := (12, [some (.ref 4), some (.int (nI p)), some (.int (nI ((r - 1) / P))), some (.int (nI b.toNat)), some (.int ((nI j) + (-1))), some (.int (nI ((r - 1) % P)))], [], (zw_C g gl (va_up a 15 (upd f ((p * 6) + j) (nI ((r - 1) % P)))) al))) 2 rfl ?_
            have hy : zl_y P N p j = (r - 1) % P := by unfold zl_y; rw [hNj, hr1, if_pos (by omega)]
            have hdv : (r - 1) / P ≤ r - 1 := Nat.div_le_self _ _
            refine zr_forget [some (.ref 4), some (.int (nI p)), some (.int (nI ((r - 1) / P))), some (.int (nI b.toNat)), some (.int ((nI j) + (-1))), none] ⟨Or.inr rfl, Or.inr rfl, Or.inr rfl, Or.inr rfl, Or.inr rfl, Or.inl rfl, trivial⟩ ?_
            exact ih (j, (r - 1) / P, b, (upd f ((p * 6) + j) (nI ((r - 1) % P)))) ⟨by omega, by rw [hNs, zl_st_y (by omega), hr1, hr2], by show (r - 1) / P ≤ p; omega, fun i h5 h6 => if e : i = j then (by subst e; rw [hy]; exact pk_us) else (pk_un (by omega)).trans (hf i (by omega) h6), fun q i hq hi => (pk_un (by omega)).trans (hf2 q i hq hi)⟩ (Nat.lt_succ_self j)
theorem zs_C_layPoints (g : Nat → Int32) (gl : Nat → Int64) (a : Nat → Nat → Int32) (al : Nat → Nat → Int64) (P N P0 N0 : Nat) (hok : zv_ok P N) (h11 : g 11 = nI P) (h12 : g 12 = nI N) (h15 : g 15 = nI P0) (h16 : g 16 = nI N0) (hP05 : P0 ≤ 5) (hN06 : N0 ≤ 6) (hold : P0 = P → N0 = N → zQ_P g a P N) : zm_Ev zt_get 3 30 [.ref 4, .ref 2] (zw_C g gl a al) (fun v w => v = none ∧ ∃ x15 x16 x17 f15, w = (zw_C (upd (upd (upd g 15 x15) 16 x16) 17 x17) gl (va_up a 15 f15) al) ∧ zQ_P (upd (upd (upd g 15 x15) 16 x16) 17 x17) (va_up a 15 f15) P N) := by
  obtain ⟨hP0, hP5⟩ := zv_P5 hok.1
  have hN6 := zv_okN hok
  have hN3 := hok.2.1
  obtain ⟨-, hnp1, hnp0⟩ := zv_nums hok
  refine zr_ev zt_Q_layPoints rfl rfl ?_
  show zm_Run zt_get 2 zt_Q_layPoints (0, [some (.ref 4), some (.ref 2), none, none], [], (zw_C g gl a al)) _
  refine zr_go (t := (8, [some (.ref 4), some (.ref 2), none, none], [.int (g 15), .int (g 11)], (zw_C g gl a al))) 4 rfl ?_
  refine zr_ine (x := g 11) (y := g 15) P P0 h11 h15 (by omega) (by omega) (t := (23, [some (.ref 4), some (.ref 2), none, none], [], (zw_C g gl a al))) (f := (11, [some (.ref 4), some (.ref 2), none, none], [], (zw_C g gl a al))) rfl (fun h1 => ?_) (fun h1 => ?_)
  · skip
    refine zr_go (t := (43, [some (.ref 4), some (.ref 2), some (.int 0), some (.int 0)], [], (zw_C (upd (upd g 15 (g 11)) 16 (g 12)) gl a al))) 12 rfl ?_
    refine zr_loop (fun zq : Nat × Nat => (43, [some (.ref 4), some (.ref 2), some (.int (nI zq.2)), some (.int (nI zq.1))], [], (zw_C (upd (upd g 15 (g 11)) 16 (g 12)) gl a al))) (fun zq => zq.1 ≤ N ∧ zq.2 = zl_sum P zq.1) (fun zq => N - zq.1) ?_ (0, 0) ⟨by omega, rfl⟩
    rintro ⟨i, s⟩ ⟨hi, hs⟩ ih
    try dsimp only at *
    have hs1 : s ≤ 156 := by rw [hs]; rcases zl_sum_le (P := P) i N hi with q | q; exact Nat.le_trans q (by rw [zl_np hok]; exact hnp1); omega
    refine zr_go (t := (48, [some (.ref 4), some (.ref 2), some (.int (nI s)), some (.int (nI i))], [.int (g 12), .int (nI i)], (zw_C (upd (upd g 15 (g 11)) 16 (g 12)) gl a al))) 3 rfl ?_
    refine zr_ige (x := nI i) (y := g 12) i N rfl h12 (by omega) (by omega) (t := (66, [some (.ref 4), some (.ref 2), some (.int (nI s)), some (.int (nI i))], [], (zw_C (upd (upd g 15 (g 11)) 16 (g 12)) gl a al))) (f := (51, [some (.ref 4), some (.ref 2), some (.int (nI s)), some (.int (nI i))], [], (zw_C (upd (upd g 15 (g 11)) 16 (g 12)) gl a al))) rfl (fun h3 => ?_) (fun h3 => ?_)
    · skip
      have hsn : s = zv_np P N := by rw [hs, show i = N by omega]; exact zl_np hok
      subst hsn
      refine zr_go (t := (79, [some (.ref 4), some (.ref 2), some (.int (nI (zv_np P N))), some (.int 0)], [], (zw_C (upd (upd (upd g 15 (g 11)) 16 (g 12)) 17 (if 156 < (nI (zv_np P N)) then 156 else (nI (zv_np P N)))) gl a al))) 7 rfl ?_
      rw [show (if (156 : Int32) < nI (zv_np P N) then (156 : Int32) else nI (zv_np P N)) = nI (zv_np P N) from (zn_min (a := zv_np P N) (b := 156) rfl rfl (by omega) (by omega)).trans (congrArg nI (Nat.min_eq_left hnp1))]
      refine zr_forget [some (.ref 4), some (.ref 2), none, some (.int 0)] ⟨Or.inr rfl, Or.inr rfl, Or.inl rfl, Or.inr rfl, trivial⟩ ?_
      refine zr_loop (fun zq : Nat × (Nat → Int32) => (79, [some (.ref 4), some (.ref 2), none, some (.int (nI zq.1))], [], (zw_C (upd (upd (upd g 15 (g 11)) 16 (g 12)) 17 (nI (zv_np P N))) gl (va_up a 15 zq.2) al))) (fun zq => zq.1 ≤ zv_np P N ∧ ∀ q i, q < zq.1 → i < N → zq.2 (q * 6 + i) = nI (zv_y P N q i)) (fun zq => zv_np P N - zq.1) ?_ (0, a 15) ⟨by omega, fun q i h => absurd h (Nat.not_lt_zero q)⟩
      rintro ⟨p, f⟩ ⟨hp, hf⟩ ih2
      try dsimp only at *
      refine zr_go (t := (84, [some (.ref 4), some (.ref 2), none, some (.int (nI p))], [.int (nI (zv_np P N)), .int (nI p)], (zw_C (upd (upd (upd g 15 (g 11)) 16 (g 12)) 17 (nI (zv_np P N))) gl (va_up a 15 f) al))) 3 rfl ?_
      refine zr_ige (x := nI p) (y := nI (zv_np P N)) p (zv_np P N) rfl rfl (by omega) (by omega) (t := (98, [some (.ref 4), some (.ref 2), none, some (.int (nI p))], [], (zw_C (upd (upd (upd g 15 (g 11)) 16 (g 12)) 17 (nI (zv_np P N))) gl (va_up a 15 f) al))) (f := (87, [some (.ref 4), some (.ref 2), none, some (.int (nI p))], [], (zw_C (upd (upd (upd g 15 (g 11)) 16 (g 12)) 17 (nI (zv_np P N))) gl (va_up a 15 f) al))) rfl (fun h4 => ?_) (fun h4 => ?_)
      · skip
        exact zr_ret rfl trivial ⟨rfl, _, _, _, _, rfl, hok, h11, h12, rfl, fun q i hq hi => hf q i (by omega) hi⟩
      · skip
        refine zr_go (t := (89, [some (.ref 4), some (.ref 2), none, some (.int (nI p))], [.int (nI p), .ref 4], (zw_C (upd (upd (upd g 15 (g 11)) 16 (g 12)) 17 (nI (zv_np P N))) gl (va_up a 15 f) al))) 2 rfl ?_
        refine zr_call (t := (92, [some (.ref 4), some (.ref 2), none, some (.int (nI p))], [], (zw_C (upd (upd (upd g 15 (g 11)) 16 (g 12)) 17 (nI (zv_np P N))) gl (va_up a 15 f) al))) rfl (Nat.le_of_ble_eq_true rfl : 2 ≤ 2) (zs_C_layPoint (upd (upd (upd g 15 (g 11)) 16 (g 12)) 17 (nI (zv_np P N))) gl (va_up a 15 f) al P N h11 h12 hP0 hP5 hN6 (by omega) p (by omega)) ?_
        rintro _ _ ⟨rfl, f2, rfl, hf2, hf3⟩
        show zm_Run zt_get 2 zt_Q_layPoints (92, [some (.ref 4), some (.ref 2), none, some (.int (nI p))], [], (zw_C (upd (upd (upd g 15 (g 11)) 16 (g 12)) 17 (nI (zv_np P N))) gl (va_up a 15 f2) al)) _
        refine zr_go (t := (79, [some (.ref 4), some (.ref 2), none, some (.int ((nI p) + 1))], [], (zw_C (upd (upd (upd g 15 (g 11)) 16 (g 12)) 17 (nI (zv_np P N))) gl (va_up a 15 f2) al))) 2 rfl ?_
        rw [show (nI p) + 1 = nI (p + 1) from (zn_add rfl rfl)]
        exact ih2 (p + 1, f2) ⟨by omega, fun q i hq hi => if e : q = p then (by subst e; exact (hf2 i hi).trans (congrArg nI (zl_yy hok h4 hi))) else (hf3 q i e (by omega)).trans (hf q i (by have hq : q < p + 1 := hq; omega) hi)⟩ (by omega)
    · skip
      have hsP : s * P ≤ s * 5 := Nat.mul_le_mul_left _ hP5
      refine zr_go (t := (43, [some (.ref 4), some (.ref 2), some (.int (((nI s) * (g 11)) + 1)), some (.int ((nI i) + 1))], [], (zw_C (upd (upd g 15 (g 11)) 16 (g 12)) gl a al))) 9 rfl ?_
      rw [show (nI i) + 1 = nI (i + 1) from (zn_add rfl rfl)]
      rw [show ((nI s) * (g 11)) + 1 = nI ((s * P) + 1) from (zn_add (zn_mul rfl h11) rfl)]
      exact ih (i + 1, s * P + 1) ⟨by omega, by rw [hs]; rfl⟩ (by omega)
  · skip
    refine zr_go (t := (19, [some (.ref 4), some (.ref 2), none, none], [.int (g 16), .int (g 12)], (zw_C g gl a al))) 4 rfl ?_
    refine zr_ine (x := g 12) (y := g 16) N N0 h12 h16 (by omega) (by omega) (t := (23, [some (.ref 4), some (.ref 2), none, none], [], (zw_C g gl a al))) (f := (22, [some (.ref 4), some (.ref 2), none, none], [], (zw_C g gl a al))) rfl (fun h2 => ?_) (fun h2 => ?_)
    · skip
      refine zr_go (t := (43, [some (.ref 4), some (.ref 2), some (.int 0), some (.int 0)], [], (zw_C (upd (upd g 15 (g 11)) 16 (g 12)) gl a al))) 12 rfl ?_
      refine zr_loop (fun zq : Nat × Nat => (43, [some (.ref 4), some (.ref 2), some (.int (nI zq.2)), some (.int (nI zq.1))], [], (zw_C (upd (upd g 15 (g 11)) 16 (g 12)) gl a al))) (fun zq => zq.1 ≤ N ∧ zq.2 = zl_sum P zq.1) (fun zq => N - zq.1) ?_ (0, 0) ⟨by omega, rfl⟩
      rintro ⟨i, s⟩ ⟨hi, hs⟩ ih
      try dsimp only at *
      have hs1 : s ≤ 156 := by rw [hs]; rcases zl_sum_le (P := P) i N hi with q | q; exact Nat.le_trans q (by rw [zl_np hok]; exact hnp1); omega
      refine zr_go (t := (48, [some (.ref 4), some (.ref 2), some (.int (nI s)), some (.int (nI i))], [.int (g 12), .int (nI i)], (zw_C (upd (upd g 15 (g 11)) 16 (g 12)) gl a al))) 3 rfl ?_
      refine zr_ige (x := nI i) (y := g 12) i N rfl h12 (by omega) (by omega) (t := (66, [some (.ref 4), some (.ref 2), some (.int (nI s)), some (.int (nI i))], [], (zw_C (upd (upd g 15 (g 11)) 16 (g 12)) gl a al))) (f := (51, [some (.ref 4), some (.ref 2), some (.int (nI s)), some (.int (nI i))], [], (zw_C (upd (upd g 15 (g 11)) 16 (g 12)) gl a al))) rfl (fun h3 => ?_) (fun h3 => ?_)
      · skip
        have hsn : s = zv_np P N := by rw [hs, show i = N by omega]; exact zl_np hok
        subst hsn
        refine zr_go (t := (79, [some (.ref 4), some (.ref 2), some (.int (nI (zv_np P N))), some (.int 0)], [], (zw_C (upd (upd (upd g 15 (g 11)) 16 (g 12)) 17 (if 156 < (nI (zv_np P N)) then 156 else (nI (zv_np P N)))) gl a al))) 7 rfl ?_
        rw [show (if (156 : Int32) < nI (zv_np P N) then (156 : Int32) else nI (zv_np P N)) = nI (zv_np P N) from (zn_min (a := zv_np P N) (b := 156) rfl rfl (by omega) (by omega)).trans (congrArg nI (Nat.min_eq_left hnp1))]
        refine zr_forget [some (.ref 4), some (.ref 2), none, some (.int 0)] ⟨Or.inr rfl, Or.inr rfl, Or.inl rfl, Or.inr rfl, trivial⟩ ?_
        refine zr_loop (fun zq : Nat × (Nat → Int32) => (79, [some (.ref 4), some (.ref 2), none, some (.int (nI zq.1))], [], (zw_C (upd (upd (upd g 15 (g 11)) 16 (g 12)) 17 (nI (zv_np P N))) gl (va_up a 15 zq.2) al))) (fun zq => zq.1 ≤ zv_np P N ∧ ∀ q i, q < zq.1 → i < N → zq.2 (q * 6 + i) = nI (zv_y P N q i)) (fun zq => zv_np P N - zq.1) ?_ (0, a 15) ⟨by omega, fun q i h => absurd h (Nat.not_lt_zero q)⟩
        rintro ⟨p, f⟩ ⟨hp, hf⟩ ih2
        try dsimp only at *
        refine zr_go (t := (84, [some (.ref 4), some (.ref 2), none, some (.int (nI p))], [.int (nI (zv_np P N)), .int (nI p)], (zw_C (upd (upd (upd g 15 (g 11)) 16 (g 12)) 17 (nI (zv_np P N))) gl (va_up a 15 f) al))) 3 rfl ?_
        refine zr_ige (x := nI p) (y := nI (zv_np P N)) p (zv_np P N) rfl rfl (by omega) (by omega) (t := (98, [some (.ref 4), some (.ref 2), none, some (.int (nI p))], [], (zw_C (upd (upd (upd g 15 (g 11)) 16 (g 12)) 17 (nI (zv_np P N))) gl (va_up a 15 f) al))) (f := (87, [some (.ref 4), some (.ref 2), none, some (.int (nI p))], [], (zw_C (upd (upd (upd g 15 (g 11)) 16 (g 12)) 17 (nI (zv_np P N))) gl (va_up a 15 f) al))) rfl (fun h4 => ?_) (fun h4 => ?_)
        · skip
          exact zr_ret rfl trivial ⟨rfl, _, _, _, _, rfl, hok, h11, h12, rfl, fun q i hq hi => hf q i (by omega) hi⟩
        · skip
          refine zr_go (t := (89, [some (.ref 4), some (.ref 2), none, some (.int (nI p))], [.int (nI p), .ref 4], (zw_C (upd (upd (upd g 15 (g 11)) 16 (g 12)) 17 (nI (zv_np P N))) gl (va_up a 15 f) al))) 2 rfl ?_
          refine zr_call (t := (92, [some (.ref 4), some (.ref 2), none, some (.int (nI p))], [], (zw_C (upd (upd (upd g 15 (g 11)) 16 (g 12)) 17 (nI (zv_np P N))) gl (va_up a 15 f) al))) rfl (Nat.le_of_ble_eq_true rfl : 2 ≤ 2) (zs_C_layPoint (upd (upd (upd g 15 (g 11)) 16 (g 12)) 17 (nI (zv_np P N))) gl (va_up a 15 f) al P N h11 h12 hP0 hP5 hN6 (by omega) p (by omega)) ?_
          rintro _ _ ⟨rfl, f2, rfl, hf2, hf3⟩
          show zm_Run zt_get 2 zt_Q_layPoints (92, [some (.ref 4), some (.ref 2), none, some (.int (nI p))], [], (zw_C (upd (upd (upd g 15 (g 11)) 16 (g 12)) 17 (nI (zv_np P N))) gl (va_up a 15 f2) al)) _
          refine zr_go (t := (79, [some (.ref 4), some (.ref 2), none, some (.int ((nI p) + 1))], [], (zw_C (upd (upd (upd g 15 (g 11)) 16 (g 12)) 17 (nI (zv_np P N))) gl (va_up a 15 f2) al))) 2 rfl ?_
          rw [show (nI p) + 1 = nI (p + 1) from (zn_add rfl rfl)]
          exact ih2 (p + 1, f2) ⟨by omega, fun q i hq hi => if e : q = p then (by subst e; exact (hf2 i hi).trans (congrArg nI (zl_yy hok h4 hi))) else (hf3 q i e (by omega)).trans (hf q i (by have hq : q < p + 1 := hq; omega) hi)⟩ (by omega)
      · skip
        have hsP : s * P ≤ s * 5 := Nat.mul_le_mul_left _ hP5
        refine zr_go (t := (43, [some (.ref 4), some (.ref 2), some (.int (((nI s) * (g 11)) + 1)), some (.int ((nI i) + 1))], [], (zw_C (upd (upd g 15 (g 11)) 16 (g 12)) gl a al))) 9 rfl ?_
        rw [show (nI i) + 1 = nI (i + 1) from (zn_add rfl rfl)]
        rw [show ((nI s) * (g 11)) + 1 = nI ((s * P) + 1) from (zn_add (zn_mul rfl h11) rfl)]
        exact ih (i + 1, s * P + 1) ⟨by omega, by rw [hs]; rfl⟩ (by omega)
    · skip
      exact zr_ret rfl trivial ⟨rfl, g 15, g 16, g 17, a 15, rfl, hold h1.symm h2.symm⟩
