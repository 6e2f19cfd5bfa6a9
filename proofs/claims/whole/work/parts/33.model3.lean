/-! the reference: singular points, sections (written by wip/whole/gen_m3.py) -/
theorem zb_eq0 {n : Nat} (h : n = 0) : (n == 0) = true := by simp [h]
theorem zb_ne0 {n : Nat} (h : n ≠ 0) : (n == 0) = false := by simp [h]
def zv_isS (P N : Nat) (c : Nat → Nat) (np : Nat) (y : Nat → Nat → Nat) (o : Nat → Bool) (p : Nat) : Bool := o p && zA (fun k => zv_pol P N c (y p) (y k) == 0) np
def zv_dot (N : Nat) (x y : Nat → Nat) : Nat := zS (fun i => x i * y i) N
theorem zv_dot_le {N : Nat} {x y : Nat → Nat} (hN : N ≤ 6) (hx : ∀ i, i < 6 → x i ≤ 4) (hy : ∀ i, i < 6 → y i ≤ 4) : zv_dot N x y ≤ 96 :=
  Nat.le_trans (zS_le (B := 16) N (fun k hk => Nat.mul_le_mul (hx k (by omega)) (hy k (by omega)))) (Nat.le_trans (Nat.mul_le_mul_right _ hN) (by decide))
theorem zv_pol_lt {P N : Nat} {c x y : Nat → Nat} (h : 0 < P) : zv_pol P N c x y < P := Nat.mod_lt _ h
theorem zs_M_isSingular (g : Nat → Int32) (gl : Nat → Int64) (a : Nat → Nat → Int32) (al : Nat → Nat → Int64) (P N : Nat) (c : Nat → Nat) (hF : zc_F g a P N c) (np : Nat) (y : Nat → Nat → Nat) (hR : zc_R g a np y) (o : Nat → Bool) (hO : zc_O a np o) (p : Nat) (hp : p < np) : zm_Ev zt_get 4 129 [.ref 0, .int (nI p)] (zw_M g gl a al) (fun v w => v = some (.int (nI (zv_isS P N c np y o p).toNat)) ∧ ∃ f1 f2 f3, w = (zw_M g gl (va_up (va_up (va_up a 9 f1) 10 f2) 11 f3) al)) := by
  obtain ⟨hP, hN, hP0, hP5, hN6, hc, hc4⟩ := id hF
  obtain ⟨hnp, hnp1, hy, hy4⟩ := id hR
  refine zr_ev zt_M_isSingular rfl rfl ?_
  show zm_Run zt_get 3 zt_M_isSingular (0, [some (.ref 0), some (.int (nI p)), none, none], [], (zw_M g gl a al)) _
  refine zr_go (t := (5, [some (.ref 0), some (.int (nI p)), none, none], [.int (nI p), .ref 5], (zw_M g gl a al))) 3 rfl ?_
  refine zr_cd (t := (6, [some (.ref 0), some (.int (nI p)), none, none], [.int ((a 5) (nI p).toNatClampNeg)], (zw_M g gl a al))) rfl (pk_in p 156 (by omega) rfl (by omega)) ?_
  rw [pk_cl (x := nI p) p rfl (by omega)]
  rw [show (a 5) p = nI ((o p).toNat) from hO p (by omega)]
  refine zr_go (t := (9, [some (.ref 0), some (.int (nI p)), some (.int (nI ((o p).toNat))), some (.int 0)], [], (zw_M g gl a al))) 3 rfl ?_
  refine zr_loop (fun q : Nat × Bool × (Nat → Int32) × (Nat → Int32) × (Nat → Int32) => (9, [some (.ref 0), some (.int (nI p)), some (.int (nI q.2.1.toNat)), some (.int (nI q.1))], [], (zw_M g gl (va_up (va_up (va_up a 9 q.2.2.1) 10 q.2.2.2.1) 11 q.2.2.2.2) al))) (fun q => q.1 ≤ np ∧ q.2.1 = (o p && zA (fun t => zv_pol P N c (y p) (y t) == 0) q.1)) (fun q => np - q.1) ?_ (0, o p, a 9, a 10, a 11) ⟨by omega, by simp [zA]⟩
  rintro ⟨k, b, f1, f2, f3⟩ ⟨hk, hb⟩ ih
  try dsimp only at *
  refine zr_go (t := (14, [some (.ref 0), some (.int (nI p)), some (.int (nI b.toNat)), some (.int (nI k))], [.int (g 6), .int (nI k)], (zw_M g gl (va_up (va_up (va_up a 9 f1) 10 f2) 11 f3) al))) 3 rfl ?_
  refine zr_ige (x := nI k) (y := g 6) k np rfl hnp (by omega) (by omega) (t := (42, [some (.ref 0), some (.int (nI p)), some (.int (nI b.toNat)), some (.int (nI k))], [], (zw_M g gl (va_up (va_up (va_up a 9 f1) 10 f2) 11 f3) al))) (f := (17, [some (.ref 0), some (.int (nI p)), some (.int (nI b.toNat)), some (.int (nI k))], [], (zw_M g gl (va_up (va_up (va_up a 9 f1) 10 f2) 11 f3) al))) rfl (fun h1 => ?_) (fun h1 => ?_)
  · skip
    refine zr_go (t := (43, [some (.ref 0), some (.int (nI p)), some (.int (nI b.toNat)), some (.int (nI k))], [.int (nI b.toNat)], (zw_M g gl (va_up (va_up (va_up a 9 f1) 10 f2) 11 f3) al))) 1 rfl ?_
    exact zr_ret rfl (zb_ok b) ⟨by rw [hb, show k = np by omega]; rfl, f1, f2, f3, rfl⟩
  · skip
    refine zr_go (t := (18, [some (.ref 0), some (.int (nI p)), some (.int (nI b.toNat)), some (.int (nI k))], [.int (nI b.toNat)], (zw_M g gl (va_up (va_up (va_up a 9 f1) 10 f2) 11 f3) al))) 1 rfl ?_
    have hb1 := zb_le b
    refine zr_ieq (x := nI b.toNat) (y := 0) b.toNat 0 rfl rfl (by omega) (by omega) (t := (42, [some (.ref 0), some (.int (nI p)), some (.int (nI b.toNat)), some (.int (nI k))], [], (zw_M g gl (va_up (va_up (va_up a 9 f1) 10 f2) 11 f3) al))) (f := (21, [some (.ref 0), some (.int (nI p)), some (.int (nI b.toNat)), some (.int (nI k))], [], (zw_M g gl (va_up (va_up (va_up a 9 f1) 10 f2) 11 f3) al))) rfl (fun h2 => ?_) (fun h2 => ?_)
    · skip
      refine zr_go (t := (43, [some (.ref 0), some (.int (nI p)), some (.int (nI b.toNat)), some (.int (nI k))], [.int (nI b.toNat)], (zw_M g gl (va_up (va_up (va_up a 9 f1) 10 f2) 11 f3) al))) 1 rfl ?_
      have e0 := zb_0 h2
      exact zr_ret rfl (zb_ok b) ⟨by rw [e0] at hb ⊢; rw [show zv_isS P N c np y o p = false from (Bool.and_eq_false_iff.mp hb.symm).elim (fun e => by unfold zv_isS; rw [e]; rfl) (fun e => by unfold zv_isS; rw [zA_no e hk, Bool.and_false])], f1, f2, f3, rfl⟩
    · skip
      refine zr_go (t := (24, [some (.ref 0), some (.int (nI p)), some (.int (nI b.toNat)), some (.int (nI k))], [.int (nI k), .int (nI p), .ref 0], (zw_M g gl (va_up (va_up (va_up a 9 f1) 10 f2) 11 f3) al))) 3 rfl ?_
      refine zr_call (t := (27, [some (.ref 0), some (.int (nI p)), some (.int (nI b.toNat)), some (.int (nI k))], [], (zw_M g gl (va_up (va_up (va_up a 9 f1) 10 f2) 11 f3) al))) rfl (Nat.le_of_ble_eq_true rfl : 3 ≤ 3) (zs_M_polarAt g gl (va_up (va_up (va_up a 9 f1) 10 f2) 11 f3) al P N c hF p k (by omega) (by omega) (y p) (y k) (fun i hi => hy p i (by omega) hi) (fun i hi => hy4 p i (by omega) hi) (fun i hi => hy k i (by omega) hi) (fun i hi => hy4 k i (by omega) hi)) ?_
      rintro _ _ ⟨rfl, e1, e2, e3, rfl⟩
      show zm_Run zt_get 3 zt_M_isSingular (27, [some (.ref 0), some (.int (nI p)), some (.int (nI b.toNat)), some (.int (nI k))], [.int (nI (zv_pol P N c (y p) (y k)))], (zw_M g gl (va_up (va_up (va_up a 9 e1) 10 e2) 11 e3) al)) _
      have hpl := zv_pol_lt (N := N) (c := c) (x := y p) (y := y k) hP0
      have hbt := zb_1 h2
      refine zr_ine (x := nI (zv_pol P N c (y p) (y k))) (y := 0) (zv_pol P N c (y p) (y k)) 0 rfl rfl (by omega) (by omega) (t := (34, [some (.ref 0), some (.int (nI p)), some (.int (nI b.toNat)), some (.int (nI k))], [], (zw_M g gl (va_up (va_up (va_up a 9 e1) 10 e2) 11 e3) al))) (f := (30, [some (.ref 0), some (.int (nI p)), some (.int (nI b.toNat)), some (.int (nI k))], [], (zw_M g gl (va_up (va_up (va_up a 9 e1) 10 e2) 11 e3) al))) rfl (fun h3 => ?_) (fun h3 => ?_)
      · skip
        refine zr_go (t := (9, [some (.ref 0), some (.int (nI p)), some (.int 0), some (.int ((nI k) + 1))], [], (zw_M g gl (va_up (va_up (va_up a 9 e1) 10 e2) 11 e3) al))) 4 rfl ?_
        rw [show (0 : Int32) = nI (false).toNat from rfl]
        rw [show (nI k) + 1 = nI (k + 1) from (zn_add rfl rfl)]
        exact ih (k + 1, false, e1, e2, e3) ⟨by omega, by rw [hbt] at hb; show false = (o p && (zA _ k && _)); rw [← Bool.and_assoc, ← hb]; simp [h3]⟩ (by omega)
      · skip
        refine zr_go (t := (9, [some (.ref 0), some (.int (nI p)), some (.int 1), some (.int ((nI k) + 1))], [], (zw_M g gl (va_up (va_up (va_up a 9 e1) 10 e2) 11 e3) al))) 5 rfl ?_
        rw [show some (Value.int 1) = some (Value.int (nI (true).toNat)) from rfl]
        rw [show (nI k) + 1 = nI (k + 1) from (zn_add rfl rfl)]
        exact ih (k + 1, true, e1, e2, e3) ⟨by omega, by rw [hbt] at hb; show true = (o p && (zA _ k && _)); rw [← Bool.and_assoc, ← hb]; simp [h3]⟩ (by omega)
theorem zs_M_isInSection (g : Nat → Int32) (gl : Nat → Int64) (a : Nat → Nat → Int32) (al : Nat → Nat → Int64) (P N : Nat) (c : Nat → Nat) (hF : zc_F g a P N c) (np : Nat) (y : Nat → Nat → Nat) (hR : zc_R g a np y) (h p : Nat) (hh : h < np) (hp : p < np) : zm_Ev zt_get 1 166 [.ref 0, .int (nI h), .int (nI p)] (zw_M g gl a al) (fun v w => v = some (.int (nI (zv_dot N (y h) (y p) % P == 0).toNat)) ∧ w = (zw_M g gl a al)) := by
  obtain ⟨hP, hN, hP0, hP5, hN6, hc, hc4⟩ := id hF
  obtain ⟨hnp, hnp1, hy, hy4⟩ := id hR
  refine zr_ev zt_M_isInSection rfl rfl ?_
  show zm_Run zt_get 0 zt_M_isInSection (0, [some (.ref 0), some (.int (nI h)), some (.int (nI p)), none, none], [], (zw_M g gl a al)) _
  refine zr_go (t := (5, [some (.ref 0), some (.int (nI h)), some (.int (nI p)), some (.int 0), some (.int 0)], [], (zw_M g gl a al))) 4 rfl ?_
  refine zr_loop (fun q : Nat × Nat => (5, [some (.ref 0), some (.int (nI h)), some (.int (nI p)), some (.int (nI q.2)), some (.int (nI q.1))], [], (zw_M g gl a al))) (fun q => q.1 ≤ N ∧ q.2 = zv_dot q.1 (y h) (y p)) (fun q => N - q.1) ?_ (0, 0) ⟨by omega, rfl⟩
  rintro ⟨i, S⟩ ⟨hi, hS⟩ ih
  try dsimp only at *
  refine zr_go (t := (11, [some (.ref 0), some (.int (nI h)), some (.int (nI p)), some (.int (nI S)), some (.int (nI i))], [.int (g 1), .int (nI i)], (zw_M g gl a al))) 3 rfl ?_
  refine zr_ige (x := nI i) (y := g 1) i N rfl hN (by omega) (by omega) (t := (48, [some (.ref 0), some (.int (nI h)), some (.int (nI p)), some (.int (nI S)), some (.int (nI i))], [], (zw_M g gl a al))) (f := (14, [some (.ref 0), some (.int (nI h)), some (.int (nI p)), some (.int (nI S)), some (.int (nI i))], [], (zw_M g gl a al))) rfl (fun h1 => ?_) (fun h1 => ?_)
  · skip
    have hS2 := zv_dot_le (N := N) hN6 (hy4 h · hh) (hy4 p · hp)
    have e6 : i = N := by omega
    subst e6
    rw [← hS] at hS2
    refine zr_go (t := (53, [some (.ref 0), some (.int (nI h)), some (.int (nI p)), some (.int (nI S)), some (.int (nI i))], [.int (g 0), .int (nI S)], (zw_M g gl a al))) 3 rfl ?_
    refine zr_cd (t := (54, [some (.ref 0), some (.int (nI h)), some (.int (nI p)), some (.int (nI S)), some (.int (nI i))], [.int ((nI S) - (nI S) / (g 0) * (g 0))], (zw_M g gl a al))) rfl (zn_ne0 hP (by omega) (by omega)) ?_
    rw [show (nI S) - (nI S) / (g 0) * (g 0) = nI (S % P) from (zn_rem rfl hP (by omega) (by omega) (by omega))]
    have hm : S % P < P := Nat.mod_lt _ hP0
    refine zr_ine (x := nI (S % P)) (y := 0) (S % P) 0 rfl rfl (by omega) (by omega) (t := (61, [some (.ref 0), some (.int (nI h)), some (.int (nI p)), some (.int (nI S)), some (.int (nI i))], [], (zw_M g gl a al))) (f := (57, [some (.ref 0), some (.int (nI h)), some (.int (nI p)), some (.int (nI S)), some (.int (nI i))], [], (zw_M g gl a al))) rfl (fun h2 => ?_) (fun h2 => ?_)
    · skip
      refine zr_go (t := (62, [some (.ref 0), some (.int (nI h)), some (.int (nI p)), some (.int (nI S)), some (.int (nI i))], [.int 0], (zw_M g gl a al))) 1 rfl ?_
      exact zr_ret rfl (Or.inl rfl) ⟨by rw [← hS, zb_ne0 h2]; rfl, rfl⟩
    · skip
      refine zr_go (t := (62, [some (.ref 0), some (.int (nI h)), some (.int (nI p)), some (.int (nI S)), some (.int (nI i))], [.int 1], (zw_M g gl a al))) 2 rfl ?_
      exact zr_ret rfl (Or.inr rfl) ⟨by rw [← hS, zb_eq0 h2]; rfl, rfl⟩
  · skip
    refine zr_go (t := (26, [some (.ref 0), some (.int (nI h)), some (.int (nI p)), some (.int (nI S)), some (.int (nI i))], [.int ((6 * (nI h)) + (nI i)), .ref 3, .int (nI S)], (zw_M g gl a al))) 8 rfl ?_
    refine zr_cd (t := (27, [some (.ref 0), some (.int (nI h)), some (.int (nI p)), some (.int (nI S)), some (.int (nI i))], [.int ((a 3) ((6 * (nI h)) + (nI i)).toNatClampNeg), .int (nI S)], (zw_M g gl a al))) rfl (pk_in ((6 * h) + i) 936 (by omega) (zn_add (zn_mul rfl rfl) rfl) (by omega)) ?_
    rw [pk_cl (x := (6 * (nI h)) + (nI i)) ((6 * h) + i) (zn_add (zn_mul rfl rfl) rfl) (by omega)]
    rw [show (a 3) ((6 * h) + i) = nI (y h i) from hy h i hh (by omega)]
    refine zr_go (t := (38, [some (.ref 0), some (.int (nI h)), some (.int (nI p)), some (.int (nI S)), some (.int (nI i))], [.int ((6 * (nI p)) + (nI i)), .ref 3, .int (nI (y h i)), .int (nI S)], (zw_M g gl a al))) 7 rfl ?_
    refine zr_cd (t := (39, [some (.ref 0), some (.int (nI h)), some (.int (nI p)), some (.int (nI S)), some (.int (nI i))], [.int ((a 3) ((6 * (nI p)) + (nI i)).toNatClampNeg), .int (nI (y h i)), .int (nI S)], (zw_M g gl a al))) rfl (pk_in ((6 * p) + i) 936 (by omega) (zn_add (zn_mul rfl rfl) rfl) (by omega)) ?_
    rw [pk_cl (x := (6 * (nI p)) + (nI i)) ((6 * p) + i) (zn_add (zn_mul rfl rfl) rfl) (by omega)]
    rw [show (a 3) ((6 * p) + i) = nI (y p i) from hy p i hp (by omega)]
    refine zr_go (t := (5, [some (.ref 0), some (.int (nI h)), some (.int (nI p)), some (.int ((nI S) + ((nI (y h i)) * (nI (y p i))))), some (.int ((nI i) + 1))], [], (zw_M g gl a al))) 5 rfl ?_
    rw [show (nI i) + 1 = nI (i + 1) from (zn_add rfl rfl)]
    rw [show (nI S) + ((nI (y h i)) * (nI (y p i))) = nI (S + ((y h i) * (y p i))) from (zn_add rfl (zn_mul rfl rfl))]
    exact ih (i + 1, S + y h i * y p i) ⟨by omega, by rw [hS]; rfl⟩ (by omega)
/-- how many of the first n -/
def zC (f : Nat → Bool) : Nat → Nat
  | 0 => 0
  | n + 1 => zC f n + (f n).toNat
theorem zC_le (f : Nat → Bool) (n : Nat) : zC f n ≤ n := by
  induction n with
  | zero => exact Nat.le_refl _
  | succ n ih => have := zb_le (f n); show zC f n + _ ≤ _; omega
theorem zC_mono (f : Nat → Bool) {k n : Nat} (h : k ≤ n) : zC f k ≤ zC f n := by
  induction h with
  | refl => exact Nat.le_refl _
  | step _ ih => exact Nat.le_trans ih (Nat.le_add_right _ _)
theorem zs_M_sectionOn (g : Nat → Int32) (gl : Nat → Int64) (a : Nat → Nat → Int32) (al : Nat → Nat → Int64) (P N : Nat) (c : Nat → Nat) (hF : zc_F g a P N c) (np : Nat) (y : Nat → Nat → Nat) (hR : zc_R g a np y) (o : Nat → Bool) (hO : zc_O a np o) (h : Nat) (hh : h < np) : zm_Ev zt_get 2 167 [.ref 0, .int (nI h)] (zw_M g gl a al) (fun v w => v = some (.int (nI (zC (fun k => o k && zv_dot N (y h) (y k) % P == 0) np))) ∧ w = (zw_M g gl a al)) := by
  obtain ⟨hP, hN, hP0, hP5, hN6, hc, hc4⟩ := id hF
  obtain ⟨hnp, hnp1, hy, hy4⟩ := id hR
  refine zr_ev zt_M_sectionOn rfl rfl ?_
  show zm_Run zt_get 1 zt_M_sectionOn (0, [some (.ref 0), some (.int (nI h)), none, none], [], (zw_M g gl a al)) _
  refine zr_go (t := (4, [some (.ref 0), some (.int (nI h)), some (.int 0), some (.int 0)], [], (zw_M g gl a al))) 4 rfl ?_
  refine zr_loop (fun q : Nat × Nat => (4, [some (.ref 0), some (.int (nI h)), some (.int (nI q.2)), some (.int (nI q.1))], [], (zw_M g gl a al))) (fun q => q.1 ≤ np ∧ q.2 = zC (fun t => o t && zv_dot N (y h) (y t) % P == 0) q.1) (fun q => np - q.1) ?_ (0, 0) ⟨by omega, rfl⟩
  rintro ⟨k, S⟩ ⟨hk, hS⟩ ih
  try dsimp only at *
  refine zr_go (t := (9, [some (.ref 0), some (.int (nI h)), some (.int (nI S)), some (.int (nI k))], [.int (g 6), .int (nI k)], (zw_M g gl a al))) 3 rfl ?_
  refine zr_ige (x := nI k) (y := g 6) k np rfl hnp (by omega) (by omega) (t := (44, [some (.ref 0), some (.int (nI h)), some (.int (nI S)), some (.int (nI k))], [], (zw_M g gl a al))) (f := (12, [some (.ref 0), some (.int (nI h)), some (.int (nI S)), some (.int (nI k))], [], (zw_M g gl a al))) rfl (fun h1 => ?_) (fun h1 => ?_)
  · skip
    refine zr_go (t := (45, [some (.ref 0), some (.int (nI h)), some (.int (nI S)), some (.int (nI k))], [.int (nI S)], (zw_M g gl a al))) 1 rfl ?_
    exact zr_ret rfl trivial ⟨by rw [hS, show k = np by omega], rfl⟩
  · skip
    refine zr_go (t := (18, [some (.ref 0), some (.int (nI h)), some (.int (nI S)), some (.int (nI k))], [.int (nI k), .ref 5, .int (nI S)], (zw_M g gl a al))) 4 rfl ?_
    refine zr_cd (t := (19, [some (.ref 0), some (.int (nI h)), some (.int (nI S)), some (.int (nI k))], [.int ((a 5) (nI k).toNatClampNeg), .int (nI S)], (zw_M g gl a al))) rfl (pk_in k 156 (by omega) rfl (by omega)) ?_
    rw [pk_cl (x := nI k) k rfl (by omega)]
    rw [show (a 5) k = nI ((o k).toNat) from hO k (by omega)]
    have ho1 := zb_le (o k)
    refine zr_ieq (x := nI ((o k).toNat)) (y := 0) ((o k).toNat) 0 rfl rfl (by omega) (by omega) (t := (35, [some (.ref 0), some (.int (nI h)), some (.int (nI S)), some (.int (nI k))], [.int (nI S)], (zw_M g gl a al))) (f := (22, [some (.ref 0), some (.int (nI h)), some (.int (nI S)), some (.int (nI k))], [.int (nI S)], (zw_M g gl a al))) rfl (fun h2 => ?_) (fun h2 => ?_)
    · skip
      refine zr_go (t := (4, [some (.ref 0), some (.int (nI h)), some (.int ((nI S) + 0)), some (.int ((nI k) + 1))], [], (zw_M g gl a al))) 5 rfl ?_
      rw [show (nI k) + 1 = nI (k + 1) from (zn_add rfl rfl)]
      rw [show (nI S) + 0 = nI (S + 0) from (zn_add rfl rfl)]
      exact ih (k + 1, S + 0) ⟨by omega, by rw [hS]; show _ = _ + _; simp [zb_0 h2]⟩ (by omega)
    · skip
      refine zr_go (t := (25, [some (.ref 0), some (.int (nI h)), some (.int (nI S)), some (.int (nI k))], [.int (nI k), .int (nI h), .ref 0, .int (nI S)], (zw_M g gl a al))) 3 rfl ?_
      refine zr_call (t := (28, [some (.ref 0), some (.int (nI h)), some (.int (nI S)), some (.int (nI k))], [.int (nI S)], (zw_M g gl a al))) rfl (Nat.le_of_ble_eq_true rfl : 1 ≤ 1) (zs_M_isInSection g gl a al P N c hF np y hR h k hh (by omega)) ?_
      rintro _ _ ⟨rfl, rfl⟩
      show zm_Run zt_get 1 zt_M_sectionOn (28, [some (.ref 0), some (.int (nI h)), some (.int (nI S)), some (.int (nI k))], [.int (nI ((zv_dot N (y h) (y k) % P == 0).toNat)), .int (nI S)], (zw_M g gl a al)) _
      have hd1 := zb_le (zv_dot N (y h) (y k) % P == 0)
      refine zr_ieq (x := nI ((zv_dot N (y h) (y k) % P == 0).toNat)) (y := 0) ((zv_dot N (y h) (y k) % P == 0).toNat) 0 rfl rfl (by omega) (by omega) (t := (35, [some (.ref 0), some (.int (nI h)), some (.int (nI S)), some (.int (nI k))], [.int (nI S)], (zw_M g gl a al))) (f := (31, [some (.ref 0), some (.int (nI h)), some (.int (nI S)), some (.int (nI k))], [.int (nI S)], (zw_M g gl a al))) rfl (fun h3 => ?_) (fun h3 => ?_)
      · skip
        refine zr_go (t := (4, [some (.ref 0), some (.int (nI h)), some (.int ((nI S) + 0)), some (.int ((nI k) + 1))], [], (zw_M g gl a al))) 5 rfl ?_
        rw [show (nI k) + 1 = nI (k + 1) from (zn_add rfl rfl)]
        rw [show (nI S) + 0 = nI (S + 0) from (zn_add rfl rfl)]
        exact ih (k + 1, S + 0) ⟨by omega, by rw [hS]; show _ = _ + _; have := zb_0 h3; simp_all⟩ (by omega)
      · skip
        refine zr_go (t := (4, [some (.ref 0), some (.int (nI h)), some (.int ((nI S) + 1)), some (.int ((nI k) + 1))], [], (zw_M g gl a al))) 6 rfl ?_
        rw [show (nI k) + 1 = nI (k + 1) from (zn_add rfl rfl)]
        rw [show (nI S) + 1 = nI (S + 1) from (zn_add rfl rfl)]
        exact ih (k + 1, S + 1) ⟨by omega, by rw [hS]; show _ = _ + _; have := zb_1 h3; have := zb_1 h2; simp_all⟩ (by omega)
def zv_tch (P N : Nat) (c : Nat → Nat) (np : Nat) (y : Nat → Nat → Nat) (o : Nat → Bool) (h p : Nat) : Bool := (o p && !zv_isS P N c np y o p) && zA (fun k => (zv_dot N (y h) (y k) % P == 0) == (zv_pol P N c (y p) (y k) == 0)) np
theorem zs_M_isTouched (g : Nat → Int32) (gl : Nat → Int64) (a : Nat → Nat → Int32) (al : Nat → Nat → Int64) (P N : Nat) (c : Nat → Nat) (hF : zc_F g a P N c) (np : Nat) (y : Nat → Nat → Nat) (hR : zc_R g a np y) (o : Nat → Bool) (hO : zc_O a np o) (h p : Nat) (hh : h < np) (hp : p < np) : zm_Ev zt_get 5 168 [.ref 0, .int (nI h), .int (nI p)] (zw_M g gl a al) (fun v w => v = some (.int (nI (zv_tch P N c np y o h p).toNat)) ∧ ∃ f1 f2 f3, w = (zw_M g gl (va_up (va_up (va_up a 9 f1) 10 f2) 11 f3) al)) := by
  obtain ⟨hP, hN, hP0, hP5, hN6, hc, hc4⟩ := id hF
  obtain ⟨hnp, hnp1, hy, hy4⟩ := id hR
  refine zr_ev zt_M_isTouched rfl rfl ?_
  show zm_Run zt_get 4 zt_M_isTouched (0, [some (.ref 0), some (.int (nI h)), some (.int (nI p)), none, none], [], (zw_M g gl a al)) _
  have tail : ∀ (b0 : Bool) (g1 g2 g3 : Nat → Int32), b0 = (o p && !zv_isS P N c np y o p) → zm_Run zt_get 4 zt_M_isTouched (23, [some (.ref 0), some (.int (nI h)), some (.int (nI p)), some (.int (nI b0.toNat)), none], [], (zw_M g gl (va_up (va_up (va_up a 9 g1) 10 g2) 11 g3) al)) (fun v w => v = some (.int (nI (zv_tch P N c np y o h p).toNat)) ∧ ∃ f1 f2 f3, w = (zw_M g gl (va_up (va_up (va_up a 9 f1) 10 f2) 11 f3) al)) := by
    intro b0 g1 g2 g3 hb0
    refine zr_go (t := (26, [some (.ref 0), some (.int (nI h)), some (.int (nI p)), some (.int (nI b0.toNat)), some (.int 0)], [], (zw_M g gl (va_up (va_up (va_up a 9 g1) 10 g2) 11 g3) al))) 2 rfl ?_
    refine zr_loop (fun q : Nat × Bool × (Nat → Int32) × (Nat → Int32) × (Nat → Int32) => (26, [some (.ref 0), some (.int (nI h)), some (.int (nI p)), some (.int (nI q.2.1.toNat)), some (.int (nI q.1))], [], (zw_M g gl (va_up (va_up (va_up a 9 q.2.2.1) 10 q.2.2.2.1) 11 q.2.2.2.2) al))) (fun q => q.1 ≤ np ∧ q.2.1 = (b0 && zA (fun t => (zv_dot N (y h) (y t) % P == 0) == (zv_pol P N c (y p) (y t) == 0)) q.1)) (fun q => np - q.1) ?_ (0, b0, g1, g2, g3) ⟨by omega, by simp [zA]⟩
    rintro ⟨k, b, f1, f2, f3⟩ ⟨hk, hb⟩ ih
    try dsimp only at *
    refine zr_go (t := (32, [some (.ref 0), some (.int (nI h)), some (.int (nI p)), some (.int (nI b.toNat)), some (.int (nI k))], [.int (g 6), .int (nI k)], (zw_M g gl (va_up (va_up (va_up a 9 f1) 10 f2) 11 f3) al))) 3 rfl ?_
    refine zr_ige (x := nI k) (y := g 6) k np rfl hnp (by omega) (by omega) (t := (76, [some (.ref 0), some (.int (nI h)), some (.int (nI p)), some (.int (nI b.toNat)), some (.int (nI k))], [], (zw_M g gl (va_up (va_up (va_up a 9 f1) 10 f2) 11 f3) al))) (f := (35, [some (.ref 0), some (.int (nI h)), some (.int (nI p)), some (.int (nI b.toNat)), some (.int (nI k))], [], (zw_M g gl (va_up (va_up (va_up a 9 f1) 10 f2) 11 f3) al))) rfl (fun h1 => ?_) (fun h1 => ?_)
    · skip
      refine zr_go (t := (77, [some (.ref 0), some (.int (nI h)), some (.int (nI p)), some (.int (nI b.toNat)), some (.int (nI k))], [.int (nI b.toNat)], (zw_M g gl (va_up (va_up (va_up a 9 f1) 10 f2) 11 f3) al))) 1 rfl ?_
      exact zr_ret rfl (zb_ok b) ⟨by rw [hb, hb0, show k = np by omega]; rfl, f1, f2, f3, rfl⟩
    · skip
      refine zr_go (t := (36, [some (.ref 0), some (.int (nI h)), some (.int (nI p)), some (.int (nI b.toNat)), some (.int (nI k))], [.int (nI b.toNat)], (zw_M g gl (va_up (va_up (va_up a 9 f1) 10 f2) 11 f3) al))) 1 rfl ?_
      have hb1 := zb_le b
      refine zr_ieq (x := nI b.toNat) (y := 0) b.toNat 0 rfl rfl (by omega) (by omega) (t := (76, [some (.ref 0), some (.int (nI h)), some (.int (nI p)), some (.int (nI b.toNat)), some (.int (nI k))], [], (zw_M g gl (va_up (va_up (va_up a 9 f1) 10 f2) 11 f3) al))) (f := (39, [some (.ref 0), some (.int (nI h)), some (.int (nI p)), some (.int (nI b.toNat)), some (.int (nI k))], [], (zw_M g gl (va_up (va_up (va_up a 9 f1) 10 f2) 11 f3) al))) rfl (fun h2 => ?_) (fun h2 => ?_)
      · skip
        refine zr_go (t := (77, [some (.ref 0), some (.int (nI h)), some (.int (nI p)), some (.int (nI b.toNat)), some (.int (nI k))], [.int (nI b.toNat)], (zw_M g gl (va_up (va_up (va_up a 9 f1) 10 f2) 11 f3) al))) 1 rfl ?_
        have e0 := zb_0 h2
        exact zr_ret rfl (zb_ok b) ⟨by rw [e0] at hb ⊢; rw [show zv_tch P N c np y o h p = false from (Bool.and_eq_false_iff.mp hb.symm).elim (fun e => by unfold zv_tch; rw [← hb0, e]; rfl) (fun e => by unfold zv_tch; rw [zA_no e hk, Bool.and_false])], f1, f2, f3, rfl⟩
      · skip
        refine zr_go (t := (43, [some (.ref 0), some (.int (nI h)), some (.int (nI p)), some (.int (nI b.toNat)), some (.int (nI k))], [.int (nI k), .int (nI h), .ref 0], (zw_M g gl (va_up (va_up (va_up a 9 f1) 10 f2) 11 f3) al))) 3 rfl ?_
        have hbt := zb_1 h2
        refine zr_call (t := (46, [some (.ref 0), some (.int (nI h)), some (.int (nI p)), some (.int (nI b.toNat)), some (.int (nI k))], [], (zw_M g gl (va_up (va_up (va_up a 9 f1) 10 f2) 11 f3) al))) rfl (Nat.le_of_ble_eq_true rfl : 1 ≤ 4) (zs_M_isInSection g gl (va_up (va_up (va_up a 9 f1) 10 f2) 11 f3) al P N c hF np y hR h k hh (by omega)) ?_
        rintro _ _ ⟨rfl, rfl⟩
        show zm_Run zt_get 4 zt_M_isTouched (46, [some (.ref 0), some (.int (nI h)), some (.int (nI p)), some (.int (nI b.toNat)), some (.int (nI k))], [.int (nI ((zv_dot N (y h) (y k) % P == 0).toNat))], (zw_M g gl (va_up (va_up (va_up a 9 f1) 10 f2) 11 f3) al)) _
        refine zr_go (t := (50, [some (.ref 0), some (.int (nI h)), some (.int (nI p)), some (.int (nI b.toNat)), some (.int (nI k))], [.int (nI k), .int (nI p), .ref 0, .int (nI ((zv_dot N (y h) (y k) % P == 0).toNat))], (zw_M g gl (va_up (va_up (va_up a 9 f1) 10 f2) 11 f3) al))) 3 rfl ?_
        refine zr_call (t := (53, [some (.ref 0), some (.int (nI h)), some (.int (nI p)), some (.int (nI b.toNat)), some (.int (nI k))], [.int (nI ((zv_dot N (y h) (y k) % P == 0).toNat))], (zw_M g gl (va_up (va_up (va_up a 9 f1) 10 f2) 11 f3) al))) rfl (Nat.le_of_ble_eq_true rfl : 3 ≤ 4) (zs_M_polarAt g gl (va_up (va_up (va_up a 9 f1) 10 f2) 11 f3) al P N c hF p k (by omega) (by omega) (y p) (y k) (fun i hi => hy p i (by omega) hi) (fun i hi => hy4 p i (by omega) hi) (fun i hi => hy k i (by omega) hi) (fun i hi => hy4 k i (by omega) hi)) ?_
        rintro _ _ ⟨rfl, e1, e2, e3, rfl⟩
        show zm_Run zt_get 4 zt_M_isTouched (53, [some (.ref 0), some (.int (nI h)), some (.int (nI p)), some (.int (nI b.toNat)), some (.int (nI k))], [.int (nI (zv_pol P N c (y p) (y k))), .int (nI ((zv_dot N (y h) (y k) % P == 0).toNat))], (zw_M g gl (va_up (va_up (va_up a 9 e1) 10 e2) 11 e3) al)) _
        have hpl := zv_pol_lt (N := N) (c := c) (x := y p) (y := y k) hP0
        have hd1 := zb_le (zv_dot N (y h) (y k) % P == 0)
        refine zr_ine (x := nI (zv_pol P N c (y p) (y k))) (y := 0) (zv_pol P N c (y p) (y k)) 0 rfl rfl (by omega) (by omega) (t := (60, [some (.ref 0), some (.int (nI h)), some (.int (nI p)), some (.int (nI b.toNat)), some (.int (nI k))], [.int (nI ((zv_dot N (y h) (y k) % P == 0).toNat))], (zw_M g gl (va_up (va_up (va_up a 9 e1) 10 e2) 11 e3) al))) (f := (56, [some (.ref 0), some (.int (nI h)), some (.int (nI p)), some (.int (nI b.toNat)), some (.int (nI k))], [.int (nI ((zv_dot N (y h) (y k) % P == 0).toNat))], (zw_M g gl (va_up (va_up (va_up a 9 e1) 10 e2) 11 e3) al))) rfl (fun h3 => ?_) (fun h3 => ?_)
        · skip
          refine zr_go (t := (61, [some (.ref 0), some (.int (nI h)), some (.int (nI p)), some (.int (nI b.toNat)), some (.int (nI k))], [.int 0, .int (nI ((zv_dot N (y h) (y k) % P == 0).toNat))], (zw_M g gl (va_up (va_up (va_up a 9 e1) 10 e2) 11 e3) al))) 1 rfl ?_
          refine zr_ine (x := nI ((zv_dot N (y h) (y k) % P == 0).toNat)) (y := 0) ((zv_dot N (y h) (y k) % P == 0).toNat) 0 rfl rfl (by omega) (by omega) (t := (68, [some (.ref 0), some (.int (nI h)), some (.int (nI p)), some (.int (nI b.toNat)), some (.int (nI k))], [], (zw_M g gl (va_up (va_up (va_up a 9 e1) 10 e2) 11 e3) al))) (f := (64, [some (.ref 0), some (.int (nI h)), some (.int (nI p)), some (.int (nI b.toNat)), some (.int (nI k))], [], (zw_M g gl (va_up (va_up (va_up a 9 e1) 10 e2) 11 e3) al))) rfl (fun h4 => ?_) (fun h4 => ?_)
          · skip
            refine zr_go (t := (26, [some (.ref 0), some (.int (nI h)), some (.int (nI p)), some (.int 0), some (.int ((nI k) + 1))], [], (zw_M g gl (va_up (va_up (va_up a 9 e1) 10 e2) 11 e3) al))) 4 rfl ?_
            rw [show some (Value.int 0) = some (Value.int (nI (false).toNat)) from rfl]
            rw [show (nI k) + 1 = nI (k + 1) from (zn_add rfl rfl)]
            exact ih (k + 1, false, e1, e2, e3) ⟨by omega, by rw [hbt] at hb; show false = (b0 && (zA _ k && _)); rw [← Bool.and_assoc, ← hb]; dsimp only; generalize (zv_dot N (y h) (y k) % P == 0) = z at h4 ⊢; cases z <;> simp_all⟩ (by omega)
          · skip
            refine zr_go (t := (26, [some (.ref 0), some (.int (nI h)), some (.int (nI p)), some (.int 1), some (.int ((nI k) + 1))], [], (zw_M g gl (va_up (va_up (va_up a 9 e1) 10 e2) 11 e3) al))) 5 rfl ?_
            rw [show some (Value.int 1) = some (Value.int (nI (true).toNat)) from rfl]
            rw [show (nI k) + 1 = nI (k + 1) from (zn_add rfl rfl)]
            exact ih (k + 1, true, e1, e2, e3) ⟨by omega, by rw [hbt] at hb; show true = (b0 && (zA _ k && _)); rw [← Bool.and_assoc, ← hb]; dsimp only; generalize (zv_dot N (y h) (y k) % P == 0) = z at h4 ⊢; cases z <;> simp_all⟩ (by omega)
        · skip
          refine zr_go (t := (61, [some (.ref 0), some (.int (nI h)), some (.int (nI p)), some (.int (nI b.toNat)), some (.int (nI k))], [.int 1, .int (nI ((zv_dot N (y h) (y k) % P == 0).toNat))], (zw_M g gl (va_up (va_up (va_up a 9 e1) 10 e2) 11 e3) al))) 2 rfl ?_
          refine zr_ine (x := nI ((zv_dot N (y h) (y k) % P == 0).toNat)) (y := 1) ((zv_dot N (y h) (y k) % P == 0).toNat) 1 rfl rfl (by omega) (by omega) (t := (68, [some (.ref 0), some (.int (nI h)), some (.int (nI p)), some (.int (nI b.toNat)), some (.int (nI k))], [], (zw_M g gl (va_up (va_up (va_up a 9 e1) 10 e2) 11 e3) al))) (f := (64, [some (.ref 0), some (.int (nI h)), some (.int (nI p)), some (.int (nI b.toNat)), some (.int (nI k))], [], (zw_M g gl (va_up (va_up (va_up a 9 e1) 10 e2) 11 e3) al))) rfl (fun h4 => ?_) (fun h4 => ?_)
          · skip
            refine zr_go (t := (26, [some (.ref 0), some (.int (nI h)), some (.int (nI p)), some (.int 0), some (.int ((nI k) + 1))], [], (zw_M g gl (va_up (va_up (va_up a 9 e1) 10 e2) 11 e3) al))) 4 rfl ?_
            rw [show some (Value.int 0) = some (Value.int (nI (false).toNat)) from rfl]
            rw [show (nI k) + 1 = nI (k + 1) from (zn_add rfl rfl)]
            exact ih (k + 1, false, e1, e2, e3) ⟨by omega, by rw [hbt] at hb; show false = (b0 && (zA _ k && _)); rw [← Bool.and_assoc, ← hb]; dsimp only; generalize (zv_dot N (y h) (y k) % P == 0) = z at h4 ⊢; cases z <;> simp_all⟩ (by omega)
          · skip
            refine zr_go (t := (26, [some (.ref 0), some (.int (nI h)), some (.int (nI p)), some (.int 1), some (.int ((nI k) + 1))], [], (zw_M g gl (va_up (va_up (va_up a 9 e1) 10 e2) 11 e3) al))) 5 rfl ?_
            rw [show some (Value.int 1) = some (Value.int (nI (true).toNat)) from rfl]
            rw [show (nI k) + 1 = nI (k + 1) from (zn_add rfl rfl)]
            exact ih (k + 1, true, e1, e2, e3) ⟨by omega, by rw [hbt] at hb; show true = (b0 && (zA _ k && _)); rw [← Bool.and_assoc, ← hb]; dsimp only; generalize (zv_dot N (y h) (y k) % P == 0) = z at h4 ⊢; cases z <;> simp_all⟩ (by omega)
  refine zr_go (t := (5, [some (.ref 0), some (.int (nI h)), some (.int (nI p)), none, none], [.int (nI p), .ref 5], (zw_M g gl a al))) 3 rfl ?_
  refine zr_cd (t := (6, [some (.ref 0), some (.int (nI h)), some (.int (nI p)), none, none], [.int ((a 5) (nI p).toNatClampNeg)], (zw_M g gl a al))) rfl (pk_in p 156 (by omega) rfl (by omega)) ?_
  rw [pk_cl (x := nI p) p rfl (by omega)]
  rw [show (a 5) p = nI ((o p).toNat) from hO p (by omega)]
  have ho1 := zb_le (o p)
  refine zr_ieq (x := nI ((o p).toNat)) (y := 0) ((o p).toNat) 0 rfl rfl (by omega) (by omega) (t := (21, [some (.ref 0), some (.int (nI h)), some (.int (nI p)), none, none], [], (zw_M g gl a al))) (f := (9, [some (.ref 0), some (.int (nI h)), some (.int (nI p)), none, none], [], (zw_M g gl a al))) rfl (fun h2 => ?_) (fun h2 => ?_)
  · skip
    refine zr_go (t := (23, [some (.ref 0), some (.int (nI h)), some (.int (nI p)), some (.int 0), none], [], (zw_M g gl a al))) 2 rfl ?_
    exact tail false (a 9) (a 10) (a 11) (by simp [zb_0 h2])
  · skip
    refine zr_go (t := (11, [some (.ref 0), some (.int (nI h)), some (.int (nI p)), none, none], [.int (nI p), .ref 0], (zw_M g gl a al))) 2 rfl ?_
    refine zr_call (t := (14, [some (.ref 0), some (.int (nI h)), some (.int (nI p)), none, none], [], (zw_M g gl a al))) rfl (Nat.le_of_ble_eq_true rfl : 4 ≤ 4) (zs_M_isSingular g gl a al P N c hF np y hR o hO p hp) ?_
    rintro _ _ ⟨rfl, g1, g2, g3, rfl⟩
    show zm_Run zt_get 4 zt_M_isTouched (14, [some (.ref 0), some (.int (nI h)), some (.int (nI p)), none, none], [.int (nI ((zv_isS P N c np y o p).toNat))], (zw_M g gl (va_up (va_up (va_up a 9 g1) 10 g2) 11 g3) al)) _
    have hs1 := zb_le (zv_isS P N c np y o p)
    refine zr_ine (x := nI ((zv_isS P N c np y o p).toNat)) (y := 0) ((zv_isS P N c np y o p).toNat) 0 rfl rfl (by omega) (by omega) (t := (21, [some (.ref 0), some (.int (nI h)), some (.int (nI p)), none, none], [], (zw_M g gl (va_up (va_up (va_up a 9 g1) 10 g2) 11 g3) al))) (f := (17, [some (.ref 0), some (.int (nI h)), some (.int (nI p)), none, none], [], (zw_M g gl (va_up (va_up (va_up a 9 g1) 10 g2) 11 g3) al))) rfl (fun h3 => ?_) (fun h3 => ?_)
    · skip
      refine zr_go (t := (23, [some (.ref 0), some (.int (nI h)), some (.int (nI p)), some (.int 0), none], [], (zw_M g gl (va_up (va_up (va_up a 9 g1) 10 g2) 11 g3) al))) 2 rfl ?_
      exact tail false g1 g2 g3 (by simp [zb_1 h3])
    · skip
      refine zr_go (t := (23, [some (.ref 0), some (.int (nI h)), some (.int (nI p)), some (.int 1), none], [], (zw_M g gl (va_up (va_up (va_up a 9 g1) 10 g2) 11 g3) al))) 3 rfl ?_
      exact tail true g1 g2 g3 (by simp [zb_0 h3, zb_1 h2])
/-- the first of n numbers with a property, n if there is none -/
def zM (f : Nat → Bool) : Nat → Nat → Nat
  | k, 0 => k
  | k, n + 1 => if f k then k else zM f (k + 1) n
theorem zs_M_touches (g : Nat → Int32) (gl : Nat → Int64) (a : Nat → Nat → Int32) (al : Nat → Nat → Int64) (P N : Nat) (c : Nat → Nat) (hF : zc_F g a P N c) (np : Nat) (y : Nat → Nat → Nat) (hR : zc_R g a np y) (o : Nat → Bool) (hO : zc_O a np o) (h : Nat) (hh : h < np) : zm_Ev zt_get 6 169 [.ref 0, .int (nI h)] (zw_M g gl a al) (fun v w => v = some (.int (if zM (zv_tch P N c np y o h) 0 np < np then nI (zM (zv_tch P N c np y o h) 0 np) else -1)) ∧ ∃ f1 f2 f3, w = (zw_M g gl (va_up (va_up (va_up a 9 f1) 10 f2) 11 f3) al)) := by
  obtain ⟨hP, hN, hP0, hP5, hN6, hc, hc4⟩ := id hF
  obtain ⟨hnp, hnp1, hy, hy4⟩ := id hR
  refine zr_ev zt_M_touches rfl rfl ?_
  show zm_Run zt_get 5 zt_M_touches (0, [some (.ref 0), some (.int (nI h)), none], [], (zw_M g gl a al)) _
  refine zr_go (t := (2, [some (.ref 0), some (.int (nI h)), some (.int 0)], [], (zw_M g gl a al))) 2 rfl ?_
  refine zr_loop (fun q : Nat × (Nat → Int32) × (Nat → Int32) × (Nat → Int32) => (2, [some (.ref 0), some (.int (nI h)), some (.int (nI q.1))], [], (zw_M g gl (va_up (va_up (va_up a 9 q.2.1) 10 q.2.2.1) 11 q.2.2.2) al))) (fun q => q.1 ≤ np ∧ zM (zv_tch P N c np y o h) q.1 (np - q.1) = zM (zv_tch P N c np y o h) 0 np) (fun q => np - q.1) ?_ (0, a 9, a 10, a 11) ⟨by omega, rfl⟩
  rintro ⟨k, f1, f2, f3⟩ ⟨hk, hm⟩ ih
  try dsimp only at *
  refine zr_go (t := (7, [some (.ref 0), some (.int (nI h)), some (.int (nI k))], [.int (g 6), .int (nI k)], (zw_M g gl (va_up (va_up (va_up a 9 f1) 10 f2) 11 f3) al))) 3 rfl ?_
  refine zr_ige (x := nI k) (y := g 6) k np rfl hnp (by omega) (by omega) (t := (25, [some (.ref 0), some (.int (nI h)), some (.int (nI k))], [], (zw_M g gl (va_up (va_up (va_up a 9 f1) 10 f2) 11 f3) al))) (f := (10, [some (.ref 0), some (.int (nI h)), some (.int (nI k))], [], (zw_M g gl (va_up (va_up (va_up a 9 f1) 10 f2) 11 f3) al))) rfl (fun h1 => ?_) (fun h1 => ?_)
  · skip
    have e6 : zM (zv_tch P N c np y o h) 0 np = k := by rw [← hm, show np - k = 0 by omega]; rfl
    refine zr_go (t := (30, [some (.ref 0), some (.int (nI h)), some (.int (nI k))], [.int (g 6), .int (nI k)], (zw_M g gl (va_up (va_up (va_up a 9 f1) 10 f2) 11 f3) al))) 3 rfl ?_
    refine zr_ige (x := nI k) (y := g 6) k np rfl hnp (by omega) (by omega) (t := (37, [some (.ref 0), some (.int (nI h)), some (.int (nI k))], [], (zw_M g gl (va_up (va_up (va_up a 9 f1) 10 f2) 11 f3) al))) (f := (33, [some (.ref 0), some (.int (nI h)), some (.int (nI k))], [], (zw_M g gl (va_up (va_up (va_up a 9 f1) 10 f2) 11 f3) al))) rfl (fun h2 => ?_) (fun h2 => ?_)
    · skip
      refine zr_go (t := (38, [some (.ref 0), some (.int (nI h)), some (.int (nI k))], [.int (-1)], (zw_M g gl (va_up (va_up (va_up a 9 f1) 10 f2) 11 f3) al))) 1 rfl ?_
      exact zr_ret rfl trivial ⟨by rw [e6, if_neg (by omega)], f1, f2, f3, rfl⟩
    · skip
      exfalso; omega
  · skip
    refine zr_go (t := (13, [some (.ref 0), some (.int (nI h)), some (.int (nI k))], [.int (nI k), .int (nI h), .ref 0], (zw_M g gl (va_up (va_up (va_up a 9 f1) 10 f2) 11 f3) al))) 3 rfl ?_
    refine zr_call (t := (16, [some (.ref 0), some (.int (nI h)), some (.int (nI k))], [], (zw_M g gl (va_up (va_up (va_up a 9 f1) 10 f2) 11 f3) al))) rfl (Nat.le_of_ble_eq_true rfl : 5 ≤ 5) (zs_M_isTouched g gl (va_up (va_up (va_up a 9 f1) 10 f2) 11 f3) al P N c hF np y hR o hO h k hh (by omega)) ?_
    rintro _ _ ⟨rfl, e1, e2, e3, rfl⟩
    show zm_Run zt_get 5 zt_M_touches (16, [some (.ref 0), some (.int (nI h)), some (.int (nI k))], [.int (nI ((zv_tch P N c np y o h k).toNat))], (zw_M g gl (va_up (va_up (va_up a 9 e1) 10 e2) 11 e3) al)) _
    have ht1 := zb_le (zv_tch P N c np y o h k)
    refine zr_ine (x := nI ((zv_tch P N c np y o h k).toNat)) (y := 0) ((zv_tch P N c np y o h k).toNat) 0 rfl rfl (by omega) (by omega) (t := (25, [some (.ref 0), some (.int (nI h)), some (.int (nI k))], [], (zw_M g gl (va_up (va_up (va_up a 9 e1) 10 e2) 11 e3) al))) (f := (19, [some (.ref 0), some (.int (nI h)), some (.int (nI k))], [], (zw_M g gl (va_up (va_up (va_up a 9 e1) 10 e2) 11 e3) al))) rfl (fun h2 => ?_) (fun h2 => ?_)
    · skip
      have e6 : zM (zv_tch P N c np y o h) 0 np = k := by rw [← hm, show np - k = (np - k - 1) + 1 by omega]; exact if_pos (zb_1 h2)
      refine zr_go (t := (30, [some (.ref 0), some (.int (nI h)), some (.int (nI k))], [.int (g 6), .int (nI k)], (zw_M g gl (va_up (va_up (va_up a 9 e1) 10 e2) 11 e3) al))) 3 rfl ?_
      refine zr_ige (x := nI k) (y := g 6) k np rfl hnp (by omega) (by omega) (t := (37, [some (.ref 0), some (.int (nI h)), some (.int (nI k))], [], (zw_M g gl (va_up (va_up (va_up a 9 e1) 10 e2) 11 e3) al))) (f := (33, [some (.ref 0), some (.int (nI h)), some (.int (nI k))], [], (zw_M g gl (va_up (va_up (va_up a 9 e1) 10 e2) 11 e3) al))) rfl (fun h3 => ?_) (fun h3 => ?_)
      · skip
        exfalso; omega
      · skip
        refine zr_go (t := (38, [some (.ref 0), some (.int (nI h)), some (.int (nI k))], [.int (nI k)], (zw_M g gl (va_up (va_up (va_up a 9 e1) 10 e2) 11 e3) al))) 2 rfl ?_
        exact zr_ret rfl trivial ⟨by rw [e6, if_pos (by omega)], e1, e2, e3, rfl⟩
    · skip
      refine zr_go (t := (2, [some (.ref 0), some (.int (nI h)), some (.int ((nI k) + 1))], [], (zw_M g gl (va_up (va_up (va_up a 9 e1) 10 e2) 11 e3) al))) 2 rfl ?_
      rw [show (nI k) + 1 = nI (k + 1) from (zn_add rfl rfl)]
      exact ih (k + 1, e1, e2, e3) ⟨by omega, by rw [← hm, show np - k = (np - (k + 1)) + 1 by omega]; exact (if_neg (by rw [zb_0 h2]; decide)).symm⟩ (by omega)
