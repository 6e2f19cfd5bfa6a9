/-! the reference: what follows from a form (written by wip/whole/gen_m9.py) -/
theorem zv_nn7 {P : Nat} (hPP : P = 2 ∨ P = 3 ∨ P = 5) : 7 ≤ P + 2 + (P + 1) * (P - 1) := by rcases hPP with rfl | rfl | rfl <;> decide
/-- a point of a number and a line of a number: a plane -/
def zv_gq (P N np : Nat) (y : Nat → Nat → Nat) (o : Nat → Bool) (p0 q0 : Nat → Nat) (s : Nat) : Bool := o (s % np) && zv_gp P N y o (p0 (s / np)) (q0 (s / np)) (s % np)
/-- the number of the one that has l such before it -/
def zX (f : Nat → Bool) (n l : Nat) : Nat := zM (fun t => f t && zC f t == l) 0 n
theorem zM_is {f : Nat → Bool} {t : Nat} (ht : f t = true) : ∀ n k, k ≤ t → t < k + n → (∀ s, k ≤ s → s < t → f s = false) → zM f k n = t := by
  intro n
  induction n with
  | zero => intro k h1 h2; omega
  | succ n ih =>
    intro k h1 h2 h3
    unfold zM
    by_cases e : k = t
    · subst e; rw [if_pos ht]
    · rw [if_neg (by rw [h3 k (Nat.le_refl _) (by omega)]; decide)]
      exact ih (k + 1) (by omega) (by omega) (fun s h4 h5 => h3 s (by omega) h5)
theorem zX_at {f : Nat → Bool} {n t : Nat} (ht : f t = true) (hn : t < n) : zX f n (zC f t) = t := by
  refine zM_is (by simp [ht]) n 0 (Nat.zero_le _) (by omega) (fun s _ hs => ?_)
  cases hf : f s with
  | false => rfl
  | true =>
    have := zC_lt hf hs
    have h2 : ¬ zC f s = zC f t := by omega
    simp [h2]
theorem zC_ex {f : Nat → Bool} {n l : Nat} (h : l < zC f n) : ∃ t, t < n ∧ f t = true ∧ zC f t = l := by
  induction n with
  | zero => exact absurd h (Nat.not_lt_zero _)
  | succ n ih =>
    have h1 : l < zC f n + (f n).toNat := h
    by_cases e : l < zC f n
    · obtain ⟨t, a1, a2, a3⟩ := ih e
      exact ⟨t, by omega, a2, a3⟩
    · cases hf : f n with
      | false => rw [hf] at h1; exact absurd h1 e
      | true => rw [hf] at h1; exact ⟨n, Nat.lt_succ_self _, hf, by have : (true).toNat = 1 := rfl; omega⟩
theorem zX_ok {f : Nat → Bool} {n l : Nat} (h : l < zC f n) : zX f n l < n ∧ f (zX f n l) = true ∧ zC f (zX f n l) = l := by
  obtain ⟨t, a1, a2, a3⟩ := zC_ex h
  have e : zX f n l = t := by rw [← a3]; exact zX_at a2 a1
  rw [e]; exact ⟨a1, a2, a3⟩
theorem zs_M_layPlanes (g : Nat → Int32) (gl : Nat → Int64) (a : Nat → Nat → Int32) (al : Nat → Nat → Int64) (P N : Nat) (hP : g 0 = nI P) (hN : g 1 = nI N) (hPP : P = 2 ∨ P = 3 ∨ P = 5) (hN6 : N ≤ 6) (hA : P ^ N ≤ 729) (hnum : ∀ t, 1 ≤ t → t < P ^ N → a 4 t = if zv_l1 P N t then nI (zv_cnt P N t) else -1) (np : Nat) (y : Nat → Nat → Nat) (hR : zc_R g a np y) (o : Nat → Bool) (hO : zc_O a np o) (hv : ∀ p q b, p < np → q < np → p ≠ q → b < P → zv_vec P N (zv_mx P b 1 (y p) (y q)) ∧ zv_pt P N (zv_mx P b 1 (y p) (y q)) < np) (Ln : Nat) (hLn : g 12 = nI Ln) (hLn1 : Ln ≤ 128) (hnp0 : 0 < np) (p0 q0 : Nat → Nat) (hl : ∀ l, l < Ln → (∀ k, k < P + 1 → a 6 (6 * l + k) = nI (zv_lnf P N y (p0 l) (q0 l) P k)) ∧ zv_lnf P N y (p0 l) (q0 l) P 0 = p0 l ∧ zv_lnf P N y (p0 l) (q0 l) P 1 = q0 l ∧ p0 l < np ∧ q0 l < np ∧ p0 l ≠ q0 l) (hPB : zC (zv_gq P N np y o p0 q0) (np * Ln) ≤ 30) : zm_Ev zt_get 6 138 [.ref 0] (zw_M g gl a al) (fun v w => v = none ∧ ∃ x25 fp f12 f13 f14, w = (zw_M (upd (upd g 14 (nI (zC (zv_gq P N np y o p0 q0) (np * Ln)))) 25 x25) gl (va_up (va_up (va_up (va_up a 7 fp) 12 f12) 13 f13) 14 f14) al) ∧ ∀ s, s < np * Ln → (zv_gq P N np y o p0 q0) s = true → ∀ k, k < 7 → fp (7 * zC (zv_gq P N np y o p0 q0) s + k) = nI (zv_wf P N y (zv_lnf P N y (p0 (s / np)) (q0 (s / np)) P) (s % np) ((P + 1) * (P - 1)) k)) := by
  obtain ⟨hP0, hP5⟩ := zv_P5 hPP
  obtain ⟨hnp, hnp1, hy, hy4⟩ := id hR
  obtain ⟨hn31, hn2⟩ := zv_nn hPP
  refine zr_ev zt_M_layPlanes rfl rfl ?_
  show zm_Run zt_get 5 zt_M_layPlanes (0, [some (.ref 0), none, none], [], (zw_M g gl a al)) _
  refine zr_go (t := (7, [some (.ref 0), some (.int 0), none], [], (zw_M (upd g 14 0) gl a al))) 5 rfl ?_
  refine zr_loop (fun zq : Nat × Nat × Int32 × (Nat → Int32) × (Nat → Int32) × (Nat → Int32) × (Nat → Int32) => (7, [some (.ref 0), some (.int (nI zq.1)), none], [], (zw_M (upd (upd g 14 (nI zq.2.1)) 25 zq.2.2.1) gl (va_up (va_up (va_up (va_up a 7 zq.2.2.2.1) 12 zq.2.2.2.2.1) 13 zq.2.2.2.2.2.1) 14 zq.2.2.2.2.2.2) al))) (fun zq => zq.1 ≤ Ln ∧ zq.2.1 = zC (zv_gq P N np y o p0 q0) (np * zq.1) ∧ ∀ s, s < np * zq.1 → (zv_gq P N np y o p0 q0) s = true → ∀ k, k < 7 → zq.2.2.2.1 (7 * zC (zv_gq P N np y o p0 q0) s + k) = nI (zv_wf P N y (zv_lnf P N y (p0 (s / np)) (q0 (s / np)) P) (s % np) ((P + 1) * (P - 1)) k)) (fun zq => Ln - zq.1) ?_ (0, 0, g 25, a 7, a 12, a 13, a 14) ⟨by omega, rfl, fun s h => absurd h (Nat.not_lt_zero s)⟩
  rintro ⟨l, L, x25, fp, f12, f13, f14⟩ ⟨hl1, hL, hfp⟩ ih
  try dsimp only at *
  refine zr_go (t := (12, [some (.ref 0), some (.int (nI l)), none], [.int (g 12), .int (nI l)], (zw_M (upd (upd g 14 (nI L)) 25 x25) gl (va_up (va_up (va_up (va_up a 7 fp) 12 f12) 13 f13) 14 f14) al))) 3 rfl ?_
  refine zr_ige (x := nI l) (y := g 12) l Ln rfl hLn (by omega) (by omega) (t := (52, [some (.ref 0), some (.int (nI l)), none], [], (zw_M (upd (upd g 14 (nI L)) 25 x25) gl (va_up (va_up (va_up (va_up a 7 fp) 12 f12) 13 f13) 14 f14) al))) (f := (15, [some (.ref 0), some (.int (nI l)), none], [], (zw_M (upd (upd g 14 (nI L)) 25 x25) gl (va_up (va_up (va_up (va_up a 7 fp) 12 f12) 13 f13) 14 f14) al))) rfl (fun h1 => ?_) (fun h1 => ?_)
  · skip
    have e1 : Ln = l := by omega
    subst e1
    subst hL
    exact zr_ret rfl trivial ⟨rfl, x25, fp, f12, f13, f14, rfl, hfp⟩
  · skip
    obtain ⟨c1, c2, c3, c4, c5, c6⟩ := hl l h1
    have hml : np * l + np ≤ np * Ln := by have := Nat.mul_le_mul_left np (show l + 1 ≤ Ln by omega); rw [Nat.mul_add, Nat.mul_one] at this; exact this
    refine zr_go (t := (17, [some (.ref 0), some (.int (nI l)), some (.int 0)], [], (zw_M (upd (upd g 14 (nI L)) 25 x25) gl (va_up (va_up (va_up (va_up a 7 fp) 12 f12) 13 f13) 14 f14) al))) 2 rfl ?_
    refine zr_loop (fun zq : Nat × Nat × Int32 × (Nat → Int32) × (Nat → Int32) × (Nat → Int32) × (Nat → Int32) => (17, [some (.ref 0), some (.int (nI l)), some (.int (nI zq.1))], [], (zw_M (upd (upd g 14 (nI zq.2.1)) 25 zq.2.2.1) gl (va_up (va_up (va_up (va_up a 7 zq.2.2.2.1) 12 zq.2.2.2.2.1) 13 zq.2.2.2.2.2.1) 14 zq.2.2.2.2.2.2) al))) (fun zq => zq.1 ≤ np ∧ zq.2.1 = zC (zv_gq P N np y o p0 q0) (np * l + zq.1) ∧ ∀ s, s < np * l + zq.1 → (zv_gq P N np y o p0 q0) s = true → ∀ k, k < 7 → zq.2.2.2.1 (7 * zC (zv_gq P N np y o p0 q0) s + k) = nI (zv_wf P N y (zv_lnf P N y (p0 (s / np)) (q0 (s / np)) P) (s % np) ((P + 1) * (P - 1)) k)) (fun zq => np - zq.1) ?_ (0, L, x25, fp, f12, f13, f14) ⟨by omega, hL, hfp⟩
    rintro ⟨p, L2, z25, ep, e12, e13, e14⟩ ⟨hp, hL2, hep⟩ ih2
    try dsimp only at *
    refine zr_go (t := (22, [some (.ref 0), some (.int (nI l)), some (.int (nI p))], [.int (g 6), .int (nI p)], (zw_M (upd (upd g 14 (nI L2)) 25 z25) gl (va_up (va_up (va_up (va_up a 7 ep) 12 e12) 13 e13) 14 e14) al))) 3 rfl ?_
    refine zr_ige (x := nI p) (y := g 6) p np rfl hnp (by omega) (by omega) (t := (46, [some (.ref 0), some (.int (nI l)), some (.int (nI p))], [], (zw_M (upd (upd g 14 (nI L2)) 25 z25) gl (va_up (va_up (va_up (va_up a 7 ep) 12 e12) 13 e13) 14 e14) al))) (f := (25, [some (.ref 0), some (.int (nI l)), some (.int (nI p))], [], (zw_M (upd (upd g 14 (nI L2)) 25 z25) gl (va_up (va_up (va_up (va_up a 7 ep) 12 e12) 13 e13) 14 e14) al))) rfl (fun h2 => ?_) (fun h2 => ?_)
    · skip
      have e1 : np = p := by omega
      subst e1
      refine zr_go (t := (7, [some (.ref 0), some (.int ((nI l) + 1)), some (.int (nI np))], [], (zw_M (upd (upd g 14 (nI L2)) 25 z25) gl (va_up (va_up (va_up (va_up a 7 ep) 12 e12) 13 e13) 14 e14) al))) 2 rfl ?_
      rw [show (nI l) + 1 = nI (l + 1) from (zn_add rfl rfl)]
      refine zr_forget [some (.ref 0), some (.int (nI (l + 1))), none] ⟨Or.inr rfl, Or.inr rfl, Or.inl rfl, trivial⟩ ?_
      exact ih (l + 1, L2, z25, ep, e12, e13, e14) ⟨by omega, hL2, hep⟩ (by omega)
    · skip
      obtain ⟨d1, d2⟩ := zv_dm (k := l) h2
      have hgq : (zv_gq P N np y o p0 q0) (np * l + p) = (o p && zv_gp P N y o (p0 l) (q0 l) p) := by unfold zv_gq; rw [d1, d2]
      have hC1 : zC (zv_gq P N np y o p0 q0) (np * l + (p + 1)) = L2 + ((zv_gq P N np y o p0 q0) (np * l + p)).toNat := by rw [hL2]; rfl
      have hC2 : L2 + ((zv_gq P N np y o p0 q0) (np * l + p)).toNat ≤ 30 := by rw [← hC1]; exact Nat.le_trans (zC_mono _ (by omega)) hPB
      refine zr_go (t := (30, [some (.ref 0), some (.int (nI l)), some (.int (nI p))], [.int (nI p), .ref 5], (zw_M (upd (upd g 14 (nI L2)) 25 z25) gl (va_up (va_up (va_up (va_up a 7 ep) 12 e12) 13 e13) 14 e14) al))) 3 rfl ?_
      refine zr_cd (t := (31, [some (.ref 0), some (.int (nI l)), some (.int (nI p))], [.int ((a 5) (nI p).toNatClampNeg)], (zw_M (upd (upd g 14 (nI L2)) 25 z25) gl (va_up (va_up (va_up (va_up a 7 ep) 12 e12) 13 e13) 14 e14) al))) rfl (pk_in p 156 (by omega) rfl (by omega)) ?_
      rw [pk_cl (x := (nI p)) p rfl (by omega)]
      rw [show (a 5) p = nI ((o p).toNat) from hO p (by omega)]
      have ho1 := zb_le (o p)
      refine zr_ieq (x := nI ((o p).toNat)) (y := 0) ((o p).toNat) 0 rfl rfl (by omega) (by omega) (t := (40, [some (.ref 0), some (.int (nI l)), some (.int (nI p))], [], (zw_M (upd (upd g 14 (nI L2)) 25 z25) gl (va_up (va_up (va_up (va_up a 7 ep) 12 e12) 13 e13) 14 e14) al))) (f := (34, [some (.ref 0), some (.int (nI l)), some (.int (nI p))], [], (zw_M (upd (upd g 14 (nI L2)) 25 z25) gl (va_up (va_up (va_up (va_up a 7 ep) 12 e12) 13 e13) 14 e14) al))) rfl (fun h3 => ?_) (fun h3 => ?_)
      · skip
        rw [zb_0 h3, Bool.false_and] at hgq
        refine zr_go (t := (17, [some (.ref 0), some (.int (nI l)), some (.int ((nI p) + 1))], [], (zw_M (upd (upd g 14 (nI L2)) 25 z25) gl (va_up (va_up (va_up (va_up a 7 ep) 12 e12) 13 e13) 14 e14) al))) 2 rfl ?_
        rw [show (nI p) + 1 = nI (p + 1) from (zn_add rfl rfl)]
        exact ih2 (p + 1, L2, z25, ep, e12, e13, e14) ⟨by omega, by rw [hgq] at hC1; exact hC1.symm, fun s (hs : s < np * l + (p + 1)) h7 => hep s (by have : s ≠ np * l + p := (fun q => by rw [q, hgq] at h7; cases h7); omega) h7⟩ (by omega)
      · skip
        rw [zb_1 h3, Bool.true_and] at hgq
        rw [hgq] at hC1 hC2
        refine zr_go (t := (37, [some (.ref 0), some (.int (nI l)), some (.int (nI p))], [.int (nI p), .int (nI l), .ref 0], (zw_M (upd (upd g 14 (nI L2)) 25 z25) gl (va_up (va_up (va_up (va_up a 7 ep) 12 e12) 13 e13) 14 e14) al))) 3 rfl ?_
        refine zr_call (t := (40, [some (.ref 0), some (.int (nI l)), some (.int (nI p))], [], (zw_M (upd (upd g 14 (nI L2)) 25 z25) gl (va_up (va_up (va_up (va_up a 7 ep) 12 e12) 13 e13) 14 e14) al))) rfl (Nat.le_of_ble_eq_true rfl : 5 ≤ 5) (zs_M_layPlane (upd g 25 z25) gl (va_up (va_up (va_up (va_up a 7 ep) 12 e12) 13 e13) 14 e14) al P N hP hN hPP hN6 hA hnum np y hR o hO hv L2 l (p0 l) (q0 l) p (fun q => by rw [q] at hC2; exact hC2) (by omega) c1 (by omega) c2 c3 c4 c5 c6 (by omega)) ?_
        rintro _ _ ⟨rfl, w25, d7, d12, d13, d14, rfl, hd7, hd8⟩
        show zm_Run zt_get 5 zt_M_layPlanes (40, [some (.ref 0), some (.int (nI l)), some (.int (nI p))], [], (zw_M (upd (upd g 14 (nI (L2 + (zv_gp P N y o (p0 l) (q0 l) p).toNat))) 25 w25) gl (va_up (va_up (va_up (va_up a 7 d7) 12 d12) 13 d13) 14 d14) al)) _
        refine zr_go (t := (17, [some (.ref 0), some (.int (nI l)), some (.int ((nI p) + 1))], [], (zw_M (upd (upd g 14 (nI (L2 + (zv_gp P N y o (p0 l) (q0 l) p).toNat))) 25 w25) gl (va_up (va_up (va_up (va_up a 7 d7) 12 d12) 13 d13) 14 d14) al))) 2 rfl ?_
        rw [show (nI p) + 1 = nI (p + 1) from (zn_add rfl rfl)]
        exact ih2 (p + 1, L2 + (zv_gp P N y o (p0 l) (q0 l) p).toNat, w25, d7, d12, d13, d14) ⟨by omega, hC1.symm, fun s (hs : s < np * l + (p + 1)) h7 k hk => if e : s = np * l + p then by subst e; rw [← hL2, d1, d2]; exact hd7 (hgq ▸ h7) k (Nat.lt_of_lt_of_le hk (zv_nn7 hPP)) else (hd8 _ (by have h10 : zC (zv_gq P N np y o p0 q0) s + 1 ≤ zC (zv_gq P N np y o p0 q0) (np * l + p) := zC_lt h7 (by omega); omega)).trans (hep s (by omega) h7 k hk)⟩ (by omega)
/-- the points on the quadric; the first two points of a line by its number -/
def zv_oo (P N : Nat) (c : Nat → Nat) (y : Nat → Nat → Nat) (k : Nat) : Bool := zv_val P N c (y k) == 0
def zv_lp0 (P N : Nat) (c : Nat → Nat) (np : Nat) (y : Nat → Nat → Nat) (l : Nat) : Nat := zX (zv_gl P N np y (zv_oo P N c y)) (np * np) l / np
def zv_lq0 (P N : Nat) (c : Nat → Nat) (np : Nat) (y : Nat → Nat → Nat) (l : Nat) : Nat := zX (zv_gl P N np y (zv_oo P N c y)) (np * np) l % np
/-- how many lines, how many planes -/
def zv_nl (P N : Nat) (c : Nat → Nat) (np : Nat) (y : Nat → Nat → Nat) : Nat := zC (zv_gl P N np y (zv_oo P N c y)) (np * np)
def zv_npl (P N : Nat) (c : Nat → Nat) (np : Nat) (y : Nat → Nat → Nat) : Nat := zC (zv_gq P N np y (zv_oo P N c y) (zv_lp0 P N c np y) (zv_lq0 P N c np y)) (np * zv_nl P N c np y)
def zv_ns (P N : Nat) (c : Nat → Nat) (np : Nat) (y : Nat → Nat → Nat) : Nat := zC (zv_isS P N c np y (zv_oo P N c y)) np
/-- the l-th line's points; the l-th plane's -/
def zv_line (P N : Nat) (c : Nat → Nat) (np : Nat) (y : Nat → Nat → Nat) (l : Nat) : Nat → Nat := zv_lnf P N y (zv_lp0 P N c np y l) (zv_lq0 P N c np y l) P
def zv_plane (P N : Nat) (c : Nat → Nat) (np : Nat) (y : Nat → Nat → Nat) (l : Nat) : Nat → Nat :=
  let s := zX (zv_gq P N np y (zv_oo P N c y) (zv_lp0 P N c np y) (zv_lq0 P N c np y)) (np * zv_nl P N c np y) l
  zv_wf P N y (zv_line P N c np y (s / np)) (s % np) ((P + 1) * (P - 1))
theorem zv_line_ok {P N np : Nat} {c : Nat → Nat} {y : Nat → Nat → Nat} (hnp0 : 0 < np) {l : Nat} (h : l < zv_nl P N c np y) : zv_line P N c np y l 0 = zv_lp0 P N c np y l ∧ zv_line P N c np y l 1 = zv_lq0 P N c np y l ∧ zv_lp0 P N c np y l < np ∧ zv_lq0 P N c np y l < np ∧ zv_lp0 P N c np y l ≠ zv_lq0 P N c np y l ∧ ∀ k, k < P + 1 → zv_oo P N c y (zv_line P N c np y l k) = true := by
  obtain ⟨h1, h2, -⟩ := zX_ok h
  have h3 : zv_gl P N np y (zv_oo P N c y) (zX (zv_gl P N np y (zv_oo P N c y)) (np * np) l) = true := h2
  unfold zv_gl at h3
  simp only [Bool.and_eq_true, decide_eq_true_eq, beq_iff_eq] at h3
  exact ⟨h3.2.2.2.1, h3.2.2.2.2.1, Nat.div_lt_of_lt_mul h1, Nat.mod_lt _ hnp0, Nat.ne_of_lt h3.1, zA_iff.mp h3.2.2.2.2.2⟩
theorem zs_M_layForm (g : Nat → Int32) (gl : Nat → Int64) (a : Nat → Nat → Int32) (al : Nat → Nat → Int64) (P N : Nat) (c : Nat → Nat) (hF : zc_F g a P N c) (hPP : P = 2 ∨ P = 3 ∨ P = 5) (hA : P ^ N ≤ 729) (hnum : ∀ t, 1 ≤ t → t < P ^ N → a 4 t = if zv_l1 P N t then nI (zv_cnt P N t) else -1) (np : Nat) (y : Nat → Nat → Nat) (hR : zc_R g a np y) (hv : ∀ p q b, p < np → q < np → p ≠ q → b < P → zv_vec P N (zv_mx P b 1 (y p) (y q)) ∧ zv_pt P N (zv_mx P b 1 (y p) (y q)) < np) (hnp0 : 0 < np) (hB1 : zv_ns P N c np y = 0 → zv_nl P N c np y ≤ 128) (hB2 : zv_ns P N c np y = 0 → zv_npl P N c np y ≤ 30) : zm_Ev zt_get 7 139 [.ref 0] (zw_M g gl a al) (fun v w => v = none ∧ ∃ (x25 : Int32) (fo f6 f7 f9 f10 f11 f12 f13 f14 : Nat → Int32) (nl npl : Nat), w = (zw_M (upd (upd (upd (upd (upd g 10 (nI (zC (zv_oo P N c y) np))) 11 (nI (zv_ns P N c np y))) 12 (nI nl)) 14 (nI npl)) 25 x25) gl (va_up (va_up (va_up (va_up (va_up (va_up (va_up (va_up (va_up a 5 fo) 6 f6) 7 f7) 9 f9) 10 f10) 11 f11) 12 f12) 13 f13) 14 f14) al) ∧ (∀ p, p < np → fo p = nI (zv_oo P N c y p).toNat) ∧ (zv_ns P N c np y ≠ 0 → nl = 0 ∧ npl = 0) ∧ (zv_ns P N c np y = 0 → nl = zv_nl P N c np y ∧ npl = zv_npl P N c np y ∧ (∀ l, l < nl → ∀ k, k < P + 1 → f6 (6 * l + k) = nI (zv_line P N c np y l k)) ∧ ∀ l, l < npl → ∀ k, k < 7 → f7 (7 * l + k) = nI (zv_plane P N c np y l k))) := by
  obtain ⟨hP, hN, hP0, hP5, hN6, hc, hc4⟩ := id hF
  obtain ⟨hnp, hnp1, hy, hy4⟩ := id hR
  refine zr_ev zt_M_layForm rfl rfl ?_
  show zm_Run zt_get 6 zt_M_layForm (0, [some (.ref 0), none], [], (zw_M g gl a al)) _
  refine zr_go (t := (22, [some (.ref 0), some (.int 0)], [], (zw_M (upd (upd (upd (upd g 10 0) 11 0) 12 0) 14 0) gl a al))) 14 rfl ?_
  refine zr_loop (fun zq : Nat × Nat × (Nat → Int32) × (Nat → Int32) => (22, [some (.ref 0), some (.int (nI zq.1))], [], (zw_M (upd (upd (upd (upd g 10 (nI zq.2.1)) 11 0) 12 0) 14 0) gl (va_up (va_up a 5 zq.2.2.1) 9 zq.2.2.2) al))) (fun zq => zq.1 ≤ np ∧ zq.2.1 = zC (zv_oo P N c y) zq.1 ∧ ∀ t, t < zq.1 → zq.2.2.1 t = nI ((zv_oo P N c y) t).toNat) (fun zq => np - zq.1) ?_ (0, 0, a 5, a 9) ⟨by omega, rfl, fun t h => absurd h (Nat.not_lt_zero t)⟩
  rintro ⟨k, M, fo, f9⟩ ⟨hk, hM, hfo⟩ ih
  try dsimp only at *
  refine zr_go (t := (27, [some (.ref 0), some (.int (nI k))], [.int (g 6), .int (nI k)], (zw_M (upd (upd (upd (upd g 10 (nI M)) 11 0) 12 0) 14 0) gl (va_up (va_up a 5 fo) 9 f9) al))) 3 rfl ?_
  refine zr_ige (x := nI k) (y := g 6) k np rfl hnp (by omega) (by omega) (t := (78, [some (.ref 0), some (.int (nI k))], [], (zw_M (upd (upd (upd (upd g 10 (nI M)) 11 0) 12 0) 14 0) gl (va_up (va_up a 5 fo) 9 f9) al))) (f := (30, [some (.ref 0), some (.int (nI k))], [], (zw_M (upd (upd (upd (upd g 10 (nI M)) 11 0) 12 0) 14 0) gl (va_up (va_up a 5 fo) 9 f9) al))) rfl (fun h1 => ?_) (fun h1 => ?_)
  · skip
    have e1 : np = k := by omega
    subst e1
    subst hM
    refine zr_go (t := (80, [some (.ref 0), some (.int 0)], [], (zw_M (upd (upd (upd (upd g 10 (nI (zC (zv_oo P N c y) np))) 11 0) 12 0) 14 0) gl (va_up (va_up a 5 fo) 9 f9) al))) 2 rfl ?_
    refine zr_loop (fun zq : Nat × Nat × (Nat → Int32) × (Nat → Int32) × (Nat → Int32) => (80, [some (.ref 0), some (.int (nI zq.1))], [], (zw_M (upd (upd (upd (upd g 10 (nI (zC (zv_oo P N c y) np))) 11 (nI zq.2.1)) 12 0) 14 0) gl (va_up (va_up (va_up (va_up a 5 fo) 9 zq.2.2.1) 10 zq.2.2.2.1) 11 zq.2.2.2.2) al))) (fun zq => zq.1 ≤ np ∧ zq.2.1 = zC (zv_isS P N c np y (zv_oo P N c y)) zq.1) (fun zq => np - zq.1) ?_ (0, 0, f9, a 10, a 11) ⟨by omega, rfl⟩
    rintro ⟨k, S, d9, d10, d11⟩ ⟨hk2, hS⟩ ih2
    try dsimp only at *
    refine zr_go (t := (85, [some (.ref 0), some (.int (nI k))], [.int (g 6), .int (nI k)], (zw_M (upd (upd (upd (upd g 10 (nI (zC (zv_oo P N c y) np))) 11 (nI S)) 12 0) 14 0) gl (va_up (va_up (va_up (va_up a 5 fo) 9 d9) 10 d10) 11 d11) al))) 3 rfl ?_
    refine zr_ige (x := nI k) (y := g 6) k np rfl hnp (by omega) (by omega) (t := (116, [some (.ref 0), some (.int (nI k))], [], (zw_M (upd (upd (upd (upd g 10 (nI (zC (zv_oo P N c y) np))) 11 (nI S)) 12 0) 14 0) gl (va_up (va_up (va_up (va_up a 5 fo) 9 d9) 10 d10) 11 d11) al))) (f := (88, [some (.ref 0), some (.int (nI k))], [], (zw_M (upd (upd (upd (upd g 10 (nI (zC (zv_oo P N c y) np))) 11 (nI S)) 12 0) 14 0) gl (va_up (va_up (va_up (va_up a 5 fo) 9 d9) 10 d10) 11 d11) al))) rfl (fun h2 => ?_) (fun h2 => ?_)
    · skip
      have e2 : np = k := by omega
      subst e2
      have hS2 : S = zv_ns P N c np y := hS
      subst hS2
      have hSl : zv_ns P N c np y ≤ np := zC_le _ _
      refine zr_go (t := (120, [some (.ref 0), some (.int (nI np))], [.int (nI (zv_ns P N c np y))], (zw_M (upd (upd (upd (upd g 10 (nI (zC (zv_oo P N c y) np))) 11 (nI (zv_ns P N c np y))) 12 0) 14 0) gl (va_up (va_up (va_up (va_up a 5 fo) 9 d9) 10 d10) 11 d11) al))) 2 rfl ?_
      refine zr_ine (x := nI (zv_ns P N c np y)) (y := 0) (zv_ns P N c np y) 0 rfl rfl (by omega) (by omega) (t := (131, [some (.ref 0), some (.int (nI np))], [], (zw_M (upd (upd (upd (upd g 10 (nI (zC (zv_oo P N c y) np))) 11 (nI (zv_ns P N c np y))) 12 0) 14 0) gl (va_up (va_up (va_up (va_up a 5 fo) 9 d9) 10 d10) 11 d11) al))) (f := (123, [some (.ref 0), some (.int (nI np))], [], (zw_M (upd (upd (upd (upd g 10 (nI (zC (zv_oo P N c y) np))) 11 (nI (zv_ns P N c np y))) 12 0) 14 0) gl (va_up (va_up (va_up (va_up a 5 fo) 9 d9) 10 d10) 11 d11) al))) rfl (fun h3 => ?_) (fun h3 => ?_)
      · skip
        exact zr_ret rfl trivial ⟨rfl, g 25, fo, a 6, a 7, d9, d10, d11, a 12, a 13, a 14, 0, 0, rfl, hfo, fun _ => ⟨rfl, rfl⟩, fun q => absurd q h3⟩
      · skip
        refine zr_go (t := (124, [some (.ref 0), some (.int (nI np))], [.ref 0], (zw_M (upd (upd (upd (upd g 10 (nI (zC (zv_oo P N c y) np))) 11 (nI (zv_ns P N c np y))) 12 0) 14 0) gl (va_up (va_up (va_up (va_up a 5 fo) 9 d9) 10 d10) 11 d11) al))) 1 rfl ?_
        refine zr_call (t := (127, [some (.ref 0), some (.int (nI np))], [], (zw_M (upd (upd (upd (upd g 10 (nI (zC (zv_oo P N c y) np))) 11 (nI (zv_ns P N c np y))) 12 0) 14 0) gl (va_up (va_up (va_up (va_up a 5 fo) 9 d9) 10 d10) 11 d11) al))) rfl (Nat.le_of_ble_eq_true rfl : 5 ≤ 6) (zs_M_layLines (upd (upd (upd (upd g 10 (nI (zC (zv_oo P N c y) np))) 11 (nI (zv_ns P N c np y))) 12 0) 14 0) gl (va_up (va_up (va_up (va_up a 5 fo) 9 d9) 10 d10) 11 d11) al P N hP hN hPP hN6 hA hnum np y hR (zv_oo P N c y) hfo hnp0 (hB1 h3) hv) ?_
        rintro _ _ ⟨rfl, x25, l6, l12, l13, rfl, hl6⟩
        show zm_Run zt_get 6 zt_M_layForm (127, [some (.ref 0), some (.int (nI np))], [], (zw_M (upd (upd (upd (upd (upd g 10 (nI (zC (zv_oo P N c y) np))) 11 (nI (zv_ns P N c np y))) 12 (nI (zv_nl P N c np y))) 14 0) 25 x25) gl (va_up (va_up (va_up (va_up (va_up (va_up (va_up a 5 fo) 6 l6) 9 d9) 10 d10) 11 d11) 12 l12) 13 l13) al)) _
        have hl7 : ∀ l, l < zv_nl P N c np y → ∀ k, k < P + 1 → l6 (6 * l + k) = nI (zv_line P N c np y l k) := by
          intro l hl k hk
          obtain ⟨z1, z2, z3⟩ := zX_ok hl
          have z4 := hl6 _ z1 z2 k hk
          rw [z3] at z4
          exact z4
        refine zr_go (t := (128, [some (.ref 0), some (.int (nI np))], [.ref 0], (zw_M (upd (upd (upd (upd (upd g 10 (nI (zC (zv_oo P N c y) np))) 11 (nI (zv_ns P N c np y))) 12 (nI (zv_nl P N c np y))) 14 0) 25 x25) gl (va_up (va_up (va_up (va_up (va_up (va_up (va_up a 5 fo) 6 l6) 9 d9) 10 d10) 11 d11) 12 l12) 13 l13) al))) 1 rfl ?_
        refine zr_call (t := (131, [some (.ref 0), some (.int (nI np))], [], (zw_M (upd (upd (upd (upd (upd g 10 (nI (zC (zv_oo P N c y) np))) 11 (nI (zv_ns P N c np y))) 12 (nI (zv_nl P N c np y))) 14 0) 25 x25) gl (va_up (va_up (va_up (va_up (va_up (va_up (va_up a 5 fo) 6 l6) 9 d9) 10 d10) 11 d11) 12 l12) 13 l13) al))) rfl (Nat.le_of_ble_eq_true rfl : 6 ≤ 6) (zs_M_layPlanes (upd (upd (upd (upd (upd g 10 (nI (zC (zv_oo P N c y) np))) 11 (nI (zv_ns P N c np y))) 12 (nI (zv_nl P N c np y))) 14 0) 25 x25) gl (va_up (va_up (va_up (va_up (va_up (va_up (va_up a 5 fo) 6 l6) 9 d9) 10 d10) 11 d11) 12 l12) 13 l13) al P N hP hN hPP hN6 hA hnum np y hR (zv_oo P N c y) hfo hv (zv_nl P N c np y) rfl (hB1 h3) hnp0 (zv_lp0 P N c np y) (zv_lq0 P N c np y) (fun l hl => ⟨hl7 l hl, (zv_line_ok hnp0 hl).1, (zv_line_ok hnp0 hl).2.1, (zv_line_ok hnp0 hl).2.2.1, (zv_line_ok hnp0 hl).2.2.2.1, (zv_line_ok hnp0 hl).2.2.2.2.1⟩) (hB2 h3)) ?_
        rintro _ _ ⟨rfl, y25, p7, p12, p13, p14, rfl, hp7⟩
        show zm_Run zt_get 6 zt_M_layForm (131, [some (.ref 0), some (.int (nI np))], [], (zw_M (upd (upd (upd (upd (upd g 10 (nI (zC (zv_oo P N c y) np))) 11 (nI (zv_ns P N c np y))) 12 (nI (zv_nl P N c np y))) 14 (nI (zv_npl P N c np y))) 25 y25) gl (va_up (va_up (va_up (va_up (va_up (va_up (va_up (va_up (va_up a 5 fo) 6 l6) 7 p7) 9 d9) 10 d10) 11 d11) 12 p12) 13 p13) 14 p14) al)) _
        exact zr_ret rfl trivial ⟨rfl, y25, fo, l6, p7, d9, d10, d11, p12, p13, p14, _, _, rfl, hfo, fun q => absurd h3 q, fun _ => ⟨rfl, rfl, hl7, fun l hl k hk => by obtain ⟨z1, z2, z3⟩ := zX_ok hl; have z4 := hp7 _ z1 z2 k hk; rw [z3] at z4; exact z4⟩⟩
    · skip
      refine zr_go (t := (95, [some (.ref 0), some (.int (nI k))], [.int (nI k), .ref 0, .int (nI S), .ref 0], (zw_M (upd (upd (upd (upd g 10 (nI (zC (zv_oo P N c y) np))) 11 (nI S)) 12 0) 14 0) gl (va_up (va_up (va_up (va_up a 5 fo) 9 d9) 10 d10) 11 d11) al))) 5 rfl ?_
      refine zr_call (t := (98, [some (.ref 0), some (.int (nI k))], [.int (nI S), .ref 0], (zw_M (upd (upd (upd (upd g 10 (nI (zC (zv_oo P N c y) np))) 11 (nI S)) 12 0) 14 0) gl (va_up (va_up (va_up (va_up a 5 fo) 9 d9) 10 d10) 11 d11) al))) rfl (Nat.le_of_ble_eq_true rfl : 4 ≤ 6) (zs_M_isSingular (upd (upd (upd (upd g 10 (nI (zC (zv_oo P N c y) np))) 11 (nI S)) 12 0) 14 0) gl (va_up (va_up (va_up (va_up a 5 fo) 9 d9) 10 d10) 11 d11) al P N c hF np y hR (zv_oo P N c y) hfo k h2) ?_
      rintro _ _ ⟨rfl, e9, e10, e11, rfl⟩
      show zm_Run zt_get 6 zt_M_layForm (98, [some (.ref 0), some (.int (nI k))], [.int (nI (((zv_isS P N c np y (zv_oo P N c y)) k).toNat)), .int (nI S), .ref 0], (zw_M (upd (upd (upd (upd g 10 (nI (zC (zv_oo P N c y) np))) 11 (nI S)) 12 0) 14 0) gl (va_up (va_up (va_up (va_up a 5 fo) 9 e9) 10 e10) 11 e11) al)) _
      have hs1 := zb_le ((zv_isS P N c np y (zv_oo P N c y)) k)
      refine zr_ieq (x := nI (((zv_isS P N c np y (zv_oo P N c y)) k).toNat)) (y := 0) (((zv_isS P N c np y (zv_oo P N c y)) k).toNat) 0 rfl rfl (by omega) (by omega) (t := (105, [some (.ref 0), some (.int (nI k))], [.int (nI S), .ref 0], (zw_M (upd (upd (upd (upd g 10 (nI (zC (zv_oo P N c y) np))) 11 (nI S)) 12 0) 14 0) gl (va_up (va_up (va_up (va_up a 5 fo) 9 e9) 10 e10) 11 e11) al))) (f := (101, [some (.ref 0), some (.int (nI k))], [.int (nI S), .ref 0], (zw_M (upd (upd (upd (upd g 10 (nI (zC (zv_oo P N c y) np))) 11 (nI S)) 12 0) 14 0) gl (va_up (va_up (va_up (va_up a 5 fo) 9 e9) 10 e10) 11 e11) al))) rfl (fun h3 => ?_) (fun h3 => ?_)
      · skip
        refine zr_go (t := (80, [some (.ref 0), some (.int ((nI k) + 1))], [], (zw_M (upd (upd (upd (upd g 10 (nI (zC (zv_oo P N c y) np))) 11 ((nI S) + 0)) 12 0) 14 0) gl (va_up (va_up (va_up (va_up a 5 fo) 9 e9) 10 e10) 11 e11) al))) 5 rfl ?_
        rw [show (nI k) + 1 = nI (k + 1) from (zn_add rfl rfl)]
        rw [show (nI S) + 0 = nI (S + 0) from (zn_add rfl rfl)]
        exact ih2 (k + 1, S + 0, e9, e10, e11) ⟨by omega, by rw [hS]; show _ = _ + ((zv_isS P N c np y (zv_oo P N c y)) k).toNat; rw [zb_0 h3]; rfl⟩ (by omega)
      · skip
        refine zr_go (t := (80, [some (.ref 0), some (.int ((nI k) + 1))], [], (zw_M (upd (upd (upd (upd g 10 (nI (zC (zv_oo P N c y) np))) 11 ((nI S) + 1)) 12 0) 14 0) gl (va_up (va_up (va_up (va_up a 5 fo) 9 e9) 10 e10) 11 e11) al))) 6 rfl ?_
        rw [show (nI k) + 1 = nI (k + 1) from (zn_add rfl rfl)]
        rw [show (nI S) + 1 = nI (S + 1) from (zn_add rfl rfl)]
        exact ih2 (k + 1, S + 1, e9, e10, e11) ⟨by omega, by rw [hS]; show _ = _ + ((zv_isS P N c np y (zv_oo P N c y)) k).toNat; rw [zb_1 h3]; rfl⟩ (by omega)
  · skip
    refine zr_go (t := (37, [some (.ref 0), some (.int (nI k))], [.int (nI k), .ref 0, .int (nI k), .ref 5], (zw_M (upd (upd (upd (upd g 10 (nI M)) 11 0) 12 0) 14 0) gl (va_up (va_up a 5 fo) 9 f9) al))) 5 rfl ?_
    refine zr_call (t := (40, [some (.ref 0), some (.int (nI k))], [.int (nI k), .ref 5], (zw_M (upd (upd (upd (upd g 10 (nI M)) 11 0) 12 0) 14 0) gl (va_up (va_up a 5 fo) 9 f9) al))) rfl (Nat.le_of_ble_eq_true rfl : 2 ≤ 6) (zs_M_valueAt (upd (upd (upd (upd g 10 (nI M)) 11 0) 12 0) 14 0) gl (va_up (va_up a 5 fo) 9 f9) al P N c hF k (by omega) (y k) (fun i hi => hy k i h1 hi) (fun i hi => hy4 k i h1 hi)) ?_
    rintro _ _ ⟨rfl, e9, rfl⟩
    show zm_Run zt_get 6 zt_M_layForm (40, [some (.ref 0), some (.int (nI k))], [.int (nI (zv_val P N c (y k))), .int (nI k), .ref 5], (zw_M (upd (upd (upd (upd g 10 (nI M)) 11 0) 12 0) 14 0) gl (va_up (va_up a 5 fo) 9 e9) al)) _
    have hvl : zv_val P N c (y k) < P := zv_val_lt hP0
    refine zr_ine (x := nI (zv_val P N c (y k))) (y := 0) (zv_val P N c (y k)) 0 rfl rfl (by omega) (by omega) (t := (47, [some (.ref 0), some (.int (nI k))], [.int (nI k), .ref 5], (zw_M (upd (upd (upd (upd g 10 (nI M)) 11 0) 12 0) 14 0) gl (va_up (va_up a 5 fo) 9 e9) al))) (f := (43, [some (.ref 0), some (.int (nI k))], [.int (nI k), .ref 5], (zw_M (upd (upd (upd (upd g 10 (nI M)) 11 0) 12 0) 14 0) gl (va_up (va_up a 5 fo) 9 e9) al))) rfl (fun h2 => ?_) (fun h2 => ?_)
    · skip
      have hoo : (zv_oo P N c y) k = false := zb_ne0 h2
      refine zr_go (t := (48, [some (.ref 0), some (.int (nI k))], [.int 0, .int (nI k), .ref 5], (zw_M (upd (upd (upd (upd g 10 (nI M)) 11 0) 12 0) 14 0) gl (va_up (va_up a 5 fo) 9 e9) al))) 1 rfl ?_
      refine zr_cd (t := (49, [some (.ref 0), some (.int (nI k))], [], (zw_M (upd (upd (upd (upd g 10 (nI M)) 11 0) 12 0) 14 0) gl (va_up (va_up a 5 (upd fo ((nI k).toNatClampNeg) (vp_nar .boolean 0))) 9 e9) al))) rfl (pk_in k 156 (by omega) rfl (by omega)) ?_
      rw [pk_cl (x := (nI k)) k rfl (by omega)]
      rw [show vp_nar .boolean 0 = nI (false).toNat from by decide]
      refine zr_go (t := (59, [some (.ref 0), some (.int (nI k))], [.int (nI k), .ref 5, .int (nI M), .ref 0], (zw_M (upd (upd (upd (upd g 10 (nI M)) 11 0) 12 0) 14 0) gl (va_up (va_up a 5 (upd fo k (nI (false).toNat))) 9 e9) al))) 6 rfl ?_
      refine zr_cd (t := (60, [some (.ref 0), some (.int (nI k))], [.int ((upd fo k (nI (false).toNat)) (nI k).toNatClampNeg), .int (nI M), .ref 0], (zw_M (upd (upd (upd (upd g 10 (nI M)) 11 0) 12 0) 14 0) gl (va_up (va_up a 5 (upd fo k (nI (false).toNat))) 9 e9) al))) rfl (pk_in k 156 (by omega) rfl (by omega)) ?_
      rw [pk_cl (x := (nI k)) k rfl (by omega)]
      rw [show (upd fo k (nI (false).toNat)) k = nI ((false).toNat) from pk_us]
      have htf : (false).toNat ≤ 1 := by decide
      refine zr_ieq (x := nI ((false).toNat)) (y := 0) ((false).toNat) 0 rfl rfl (by omega) (by omega) (t := (67, [some (.ref 0), some (.int (nI k))], [.int (nI M), .ref 0], (zw_M (upd (upd (upd (upd g 10 (nI M)) 11 0) 12 0) 14 0) gl (va_up (va_up a 5 (upd fo k (nI (false).toNat))) 9 e9) al))) (f := (63, [some (.ref 0), some (.int (nI k))], [.int (nI M), .ref 0], (zw_M (upd (upd (upd (upd g 10 (nI M)) 11 0) 12 0) 14 0) gl (va_up (va_up a 5 (upd fo k (nI (false).toNat))) 9 e9) al))) rfl (fun h3 => ?_) (fun h3 => ?_)
      · skip
        refine zr_go (t := (22, [some (.ref 0), some (.int ((nI k) + 1))], [], (zw_M (upd (upd (upd (upd g 10 ((nI M) + 0)) 11 0) 12 0) 14 0) gl (va_up (va_up a 5 (upd fo k (nI (false).toNat))) 9 e9) al))) 5 rfl ?_
        rw [show (nI k) + 1 = nI (k + 1) from (zn_add rfl rfl)]
        rw [show (nI M) + 0 = nI (M + 0) from (zn_add rfl rfl)]
        exact ih (k + 1, M + 0, (upd fo k (nI (false).toNat)), e9) ⟨by omega, by rw [hM]; show _ = _ + ((zv_oo P N c y) k).toNat; rw [hoo]; rfl, lt_s (fun t ht => (pk_un (Nat.ne_of_lt ht)).trans (hfo t ht)) (by rw [hoo]; exact pk_us)⟩ (by omega)
      · skip
        exact absurd h3 (by decide)
    · skip
      have hoo : (zv_oo P N c y) k = true := zb_eq0 h2
      refine zr_go (t := (48, [some (.ref 0), some (.int (nI k))], [.int 1, .int (nI k), .ref 5], (zw_M (upd (upd (upd (upd g 10 (nI M)) 11 0) 12 0) 14 0) gl (va_up (va_up a 5 fo) 9 e9) al))) 2 rfl ?_
      refine zr_cd (t := (49, [some (.ref 0), some (.int (nI k))], [], (zw_M (upd (upd (upd (upd g 10 (nI M)) 11 0) 12 0) 14 0) gl (va_up (va_up a 5 (upd fo ((nI k).toNatClampNeg) (vp_nar .boolean 1))) 9 e9) al))) rfl (pk_in k 156 (by omega) rfl (by omega)) ?_
      rw [pk_cl (x := (nI k)) k rfl (by omega)]
      rw [show vp_nar .boolean 1 = nI (true).toNat from by decide]
      refine zr_go (t := (59, [some (.ref 0), some (.int (nI k))], [.int (nI k), .ref 5, .int (nI M), .ref 0], (zw_M (upd (upd (upd (upd g 10 (nI M)) 11 0) 12 0) 14 0) gl (va_up (va_up a 5 (upd fo k (nI (true).toNat))) 9 e9) al))) 6 rfl ?_
      refine zr_cd (t := (60, [some (.ref 0), some (.int (nI k))], [.int ((upd fo k (nI (true).toNat)) (nI k).toNatClampNeg), .int (nI M), .ref 0], (zw_M (upd (upd (upd (upd g 10 (nI M)) 11 0) 12 0) 14 0) gl (va_up (va_up a 5 (upd fo k (nI (true).toNat))) 9 e9) al))) rfl (pk_in k 156 (by omega) rfl (by omega)) ?_
      rw [pk_cl (x := (nI k)) k rfl (by omega)]
      rw [show (upd fo k (nI (true).toNat)) k = nI ((true).toNat) from pk_us]
      have htf : (true).toNat ≤ 1 := by decide
      refine zr_ieq (x := nI ((true).toNat)) (y := 0) ((true).toNat) 0 rfl rfl (by omega) (by omega) (t := (67, [some (.ref 0), some (.int (nI k))], [.int (nI M), .ref 0], (zw_M (upd (upd (upd (upd g 10 (nI M)) 11 0) 12 0) 14 0) gl (va_up (va_up a 5 (upd fo k (nI (true).toNat))) 9 e9) al))) (f := (63, [some (.ref 0), some (.int (nI k))], [.int (nI M), .ref 0], (zw_M (upd (upd (upd (upd g 10 (nI M)) 11 0) 12 0) 14 0) gl (va_up (va_up a 5 (upd fo k (nI (true).toNat))) 9 e9) al))) rfl (fun h3 => ?_) (fun h3 => ?_)
      · skip
        exact absurd h3 (by decide)
      · skip
        refine zr_go (t := (22, [some (.ref 0), some (.int ((nI k) + 1))], [], (zw_M (upd (upd (upd (upd g 10 ((nI M) + 1)) 11 0) 12 0) 14 0) gl (va_up (va_up a 5 (upd fo k (nI (true).toNat))) 9 e9) al))) 6 rfl ?_
        rw [show (nI k) + 1 = nI (k + 1) from (zn_add rfl rfl)]
        rw [show (nI M) + 1 = nI (M + 1) from (zn_add rfl rfl)]
        exact ih (k + 1, M + 1, (upd fo k (nI (true).toNat)), e9) ⟨by omega, by rw [hM]; show _ = _ + ((zv_oo P N c y) k).toNat; rw [hoo]; rfl, lt_s (fun t ht => (pk_un (Nat.ne_of_lt ht)).trans (hfo t ht)) (by rw [hoo]; exact pk_us)⟩ (by omega)
theorem zs_M_layNew (g : Nat → Int32) (gl : Nat → Int64) (a : Nat → Nat → Int32) (al : Nat → Nat → Int64) (P N : Nat) (c : Nat → Nat) (hF : zc_F g a P N c) (hPP : P = 2 ∨ P = 3 ∨ P = 5) (hA : P ^ N ≤ 729) (hnum : ∀ t, 1 ≤ t → t < P ^ N → a 4 t = if zv_l1 P N t then nI (zv_cnt P N t) else -1) (np : Nat) (y : Nat → Nat → Nat) (hR : zc_R g a np y) (hv : ∀ p q b, p < np → q < np → p ≠ q → b < P → zv_vec P N (zv_mx P b 1 (y p) (y q)) ∧ zv_pt P N (zv_mx P b 1 (y p) (y q)) < np) (hnp0 : 0 < np) (hB1 : zv_ns P N c np y = 0 → zv_nl P N c np y ≤ 128) (hB2 : zv_ns P N c np y = 0 → zv_npl P N c np y ≤ 30) : zm_Ev zt_get 8 140 [.ref 0] (zw_M g gl a al) (fun v w => v = none ∧ ∃ (x25 : Int32) (fo f6 f7 f9 f10 f11 f12 f13 f14 f16 : Nat → Int32) (nl npl : Nat), w = (zw_M (upd (upd (upd (upd (upd g 10 (nI (zC (zv_oo P N c y) np))) 11 (nI (zv_ns P N c np y))) 12 (nI nl)) 14 (nI npl)) 25 x25) gl (va_up (va_up (va_up (va_up (va_up (va_up (va_up (va_up (va_up (va_up a 5 fo) 6 f6) 7 f7) 9 f9) 10 f10) 11 f11) 12 f12) 13 f13) 14 f14) 16 f16) al) ∧ (f16 0 = 0 ∧ f16 1 = 0) ∧ (∀ p, p < np → fo p = nI (zv_oo P N c y p).toNat) ∧ (zv_ns P N c np y ≠ 0 → nl = 0 ∧ npl = 0) ∧ (zv_ns P N c np y = 0 → nl = zv_nl P N c np y ∧ npl = zv_npl P N c np y ∧ (∀ l, l < nl → ∀ k, k < P + 1 → f6 (6 * l + k) = nI (zv_line P N c np y l k)) ∧ ∀ l, l < npl → ∀ k, k < 7 → f7 (7 * l + k) = nI (zv_plane P N c np y l k))) := by
  refine zr_ev zt_M_layNew rfl rfl ?_
  show zm_Run zt_get 7 zt_M_layNew (0, [some (.ref 0)], [], (zw_M g gl a al)) _
  refine zr_go (t := (1, [some (.ref 0)], [.ref 0], (zw_M g gl a al))) 1 rfl ?_
  refine zr_call (t := (4, [some (.ref 0)], [], (zw_M g gl a al))) rfl (Nat.le_of_ble_eq_true rfl : 7 ≤ 7) (zs_M_layForm g gl a al P N c hF hPP hA hnum np y hR hv hnp0 hB1 hB2) ?_
  rintro _ _ ⟨rfl, x25, fo, f6, f7, f9, f10, f11, f12, f13, f14, nl, npl, rfl, hpost⟩
  show zm_Run zt_get 7 zt_M_layNew (4, [some (.ref 0)], [], (zw_M (upd (upd (upd (upd (upd g 10 (nI (zC (zv_oo P N c y) np))) 11 (nI (zv_ns P N c np y))) 12 (nI nl)) 14 (nI npl)) 25 x25) gl (va_up (va_up (va_up (va_up (va_up (va_up (va_up (va_up (va_up a 5 fo) 6 f6) 7 f7) 9 f9) 10 f10) 11 f11) 12 f12) 13 f13) 14 f14) al)) _
  refine zr_go (t := (10, [some (.ref 0)], [.int 0, .int 0, .ref 16], (zw_M (upd (upd (upd (upd (upd g 10 (nI (zC (zv_oo P N c y) np))) 11 (nI (zv_ns P N c np y))) 12 (nI nl)) 14 (nI npl)) 25 x25) gl (va_up (va_up (va_up (va_up (va_up (va_up (va_up (va_up (va_up a 5 fo) 6 f6) 7 f7) 9 f9) 10 f10) 11 f11) 12 f12) 13 f13) 14 f14) al))) 4 rfl ?_
  refine zr_cd (t := (11, [some (.ref 0)], [], (zw_M (upd (upd (upd (upd (upd g 10 (nI (zC (zv_oo P N c y) np))) 11 (nI (zv_ns P N c np y))) 12 (nI nl)) 14 (nI npl)) 25 x25) gl (va_up (va_up (va_up (va_up (va_up (va_up (va_up (va_up (va_up (va_up a 5 fo) 6 f6) 7 f7) 9 f9) 10 f10) 11 f11) 12 f12) 13 f13) 14 f14) 16 (upd (a 16) ((0 : Int32).toNatClampNeg) 0)) al))) rfl (pk_in 0 2 (by omega) rfl (by omega)) ?_
  rw [pk_cl (x := (0 : Int32)) 0 rfl (by omega)]
  refine zr_go (t := (17, [some (.ref 0)], [.int 0, .int 1, .ref 16], (zw_M (upd (upd (upd (upd (upd g 10 (nI (zC (zv_oo P N c y) np))) 11 (nI (zv_ns P N c np y))) 12 (nI nl)) 14 (nI npl)) 25 x25) gl (va_up (va_up (va_up (va_up (va_up (va_up (va_up (va_up (va_up (va_up a 5 fo) 6 f6) 7 f7) 9 f9) 10 f10) 11 f11) 12 f12) 13 f13) 14 f14) 16 (upd (a 16) 0 0)) al))) 4 rfl ?_
  refine zr_cd (t := (18, [some (.ref 0)], [], (zw_M (upd (upd (upd (upd (upd g 10 (nI (zC (zv_oo P N c y) np))) 11 (nI (zv_ns P N c np y))) 12 (nI nl)) 14 (nI npl)) 25 x25) gl (va_up (va_up (va_up (va_up (va_up (va_up (va_up (va_up (va_up (va_up a 5 fo) 6 f6) 7 f7) 9 f9) 10 f10) 11 f11) 12 f12) 13 f13) 14 f14) 16 (upd (upd (a 16) 0 0) ((1 : Int32).toNatClampNeg) 0)) al))) rfl (pk_in 1 2 (by omega) rfl (by omega)) ?_
  rw [pk_cl (x := (1 : Int32)) 1 rfl (by omega)]
  exact zr_ret rfl trivial ⟨rfl, x25, fo, f6, f7, f9, f10, f11, f12, f13, f14, (upd (upd (a 16) 0 0) 1 0), nl, npl, rfl, ⟨rfl, rfl⟩, hpost⟩
