/-! the reference: all planes (written by wip/whole/gen_m8.py) -/
theorem zE_no {f : Nat → Bool} {n k : Nat} (h : zE f n = false) (hk : k < n) : f k = false := by
  induction n with
  | zero => omega
  | succ n ih =>
    obtain ⟨h1, h2⟩ := Bool.or_eq_false_iff.mp (show (zE f n || f n) = false from h)
    by_cases e : k = n
    · rw [e]; exact h2
    · exact ih h1 (by omega)
/-- a point behind the line's first two makes a plane with it that is all on, and is the least of it beside the line -/
def zv_gp (P N : Nat) (y : Nat → Nat → Nat) (o : Nat → Bool) (p0 q0 p : Nat) : Bool := !zE (fun k => zv_lnf P N y p0 q0 P k == p) (P + 1) && ((((zv_wf P N y (zv_lnf P N y p0 q0 P) p ((P + 1) * (P - 1)) 0 == p0) && (zv_wf P N y (zv_lnf P N y p0 q0 P) p ((P + 1) * (P - 1)) 1 == q0)) && zA (fun k => decide (p ≤ zv_wf P N y (zv_lnf P N y p0 q0 P) p ((P + 1) * (P - 1)) k) || zE (fun t => zv_lnf P N y p0 q0 P t == zv_wf P N y (zv_lnf P N y p0 q0 P) p ((P + 1) * (P - 1)) k) (P + 1)) (P + 2 + (P + 1) * (P - 1))) && zA (fun k => o (zv_wf P N y (zv_lnf P N y p0 q0 P) p ((P + 1) * (P - 1)) k)) (P + 2 + (P + 1) * (P - 1)))
theorem zv_nn {P : Nat} (hPP : P = 2 ∨ P = 3 ∨ P = 5) : (P + 2 + (P + 1) * (P - 1)) ≤ 31 ∧ 2 ≤ (P + 2 + (P + 1) * (P - 1)) := by rcases hPP with rfl | rfl | rfl <;> decide
theorem zv_sb {P s : Nat} (hPP : P = 2 ∨ P = 3 ∨ P = 5) (h : s < ((P + 1) * (P - 1))) : s % (P - 1) + 1 < P ∧ s / (P - 1) < P + 1 := by
  have h0 : 0 < P - 1 := by omega
  exact ⟨by have := Nat.mod_lt s h0; omega, Nat.div_lt_of_lt_mul (by rw [Nat.mul_comm]; exact h)⟩
theorem zs_M_layPlane (g : Nat → Int32) (gl : Nat → Int64) (a : Nat → Nat → Int32) (al : Nat → Nat → Int64) (P N : Nat) (hP : g 0 = nI P) (hN : g 1 = nI N) (hPP : P = 2 ∨ P = 3 ∨ P = 5) (hN6 : N ≤ 6) (hA : P ^ N ≤ 729) (hnum : ∀ t, 1 ≤ t → t < P ^ N → a 4 t = if zv_l1 P N t then nI (zv_cnt P N t) else -1) (np : Nat) (y : Nat → Nat → Nat) (hR : zc_R g a np y) (o : Nat → Bool) (hO : zc_O a np o) (hv : ∀ p q b, p < np → q < np → p ≠ q → b < P → zv_vec P N (zv_mx P b 1 (y p) (y q)) ∧ zv_pt P N (zv_mx P b 1 (y p) (y q)) < np) (L l p0 q0 p : Nat) (hL : zv_gp P N y o p0 q0 p = true → L + 1 ≤ 30) (hL30 : L ≤ 30) (hl : ∀ k, k < P + 1 → a 6 (6 * l + k) = nI (zv_lnf P N y p0 q0 P k)) (hl128 : l < 128) (hl0 : zv_lnf P N y p0 q0 P 0 = p0) (hl1 : zv_lnf P N y p0 q0 P 1 = q0) (hp0 : p0 < np) (hq0 : q0 < np) (hpq : p0 ≠ q0) (hp : p < np) : zm_Ev zt_get 5 136 [.ref 0, .int (nI l), .int (nI p)] (zw_M (upd g 14 (nI L)) gl a al) (fun v w => v = none ∧ ∃ x25 fp f12 f13 f14, w = (zw_M (upd (upd g 14 (nI (L + (zv_gp P N y o p0 q0 p).toNat))) 25 x25) gl (va_up (va_up (va_up (va_up a 7 fp) 12 f12) 13 f13) 14 f14) al) ∧ (zv_gp P N y o p0 q0 p = true → ∀ k, k < (P + 2 + (P + 1) * (P - 1)) → fp (7 * L + k) = nI (zv_wf P N y (zv_lnf P N y p0 q0 P) p ((P + 1) * (P - 1)) k)) ∧ ∀ t, t < 7 * L → fp t = a 7 t) := by
  obtain ⟨hP0, hP5⟩ := zv_P5 hPP
  obtain ⟨hnp, hnp1, hy, hy4⟩ := id hR
  obtain ⟨hn31, hn2⟩ := zv_nn hPP
  have hvv := fun b hb => hv p0 q0 b hp0 hq0 hpq hb
  have hlt := zv_lnf_lt hp0 P (fun b hb => (hvv b hb).2)
  refine zr_ev zt_M_layPlane rfl rfl ?_
  show zm_Run zt_get 4 zt_M_layPlane (0, [some (.ref 0), some (.int (nI l)), some (.int (nI p)), none, none], [], (zw_M (upd g 14 (nI L)) gl a al)) _
  refine zr_go (t := (9, [some (.ref 0), some (.int (nI l)), some (.int (nI p)), none, none], [.int (6 * (nI l)), .ref 6, .ref 0], (zw_M (upd g 14 (nI L)) gl a al))) 6 rfl ?_
  refine zr_cd (t := (10, [some (.ref 0), some (.int (nI l)), some (.int (nI p)), none, none], [.int ((a 6) (6 * (nI l)).toNatClampNeg), .ref 0], (zw_M (upd g 14 (nI L)) gl a al))) rfl (pk_in (6 * l) 768 (by omega) (zn_mul rfl rfl) (by omega)) ?_
  rw [pk_cl (x := (6 * (nI l))) (6 * l) (zn_mul rfl rfl) (by omega)]
  rw [show (a 6) (6 * l) = nI p0 from (hl 0 (by omega)).trans (congrArg nI hl0)]
  refine zr_go (t := (20, [some (.ref 0), some (.int (nI l)), some (.int (nI p)), none, none], [.int ((6 * (nI l)) + 1), .ref 6, .int (nI p0), .ref 0], (zw_M (upd g 14 (nI L)) gl a al))) 7 rfl ?_
  refine zr_cd (t := (21, [some (.ref 0), some (.int (nI l)), some (.int (nI p)), none, none], [.int ((a 6) ((6 * (nI l)) + 1).toNatClampNeg), .int (nI p0), .ref 0], (zw_M (upd g 14 (nI L)) gl a al))) rfl (pk_in ((6 * l) + 1) 768 (by omega) (zn_add (zn_mul rfl rfl) rfl) (by omega)) ?_
  rw [pk_cl (x := ((6 * (nI l)) + 1)) ((6 * l) + 1) (zn_add (zn_mul rfl rfl) rfl) (by omega)]
  rw [show (a 6) ((6 * l) + 1) = nI q0 from (hl 1 (by omega)).trans (congrArg nI hl1)]
  refine zr_call (t := (24, [some (.ref 0), some (.int (nI l)), some (.int (nI p)), none, none], [], (zw_M (upd g 14 (nI L)) gl a al))) rfl (Nat.le_of_ble_eq_true rfl : 4 ≤ 4) (zs_M_layLine (upd g 14 (nI L)) gl a al P N hP hN hPP hN6 hA hnum np y hR p0 q0 hp0 hq0 hvv) ?_
  rintro _ _ ⟨rfl, e12, h, rfl, hh⟩
  show zm_Run zt_get 4 zt_M_layPlane (24, [some (.ref 0), some (.int (nI l)), some (.int (nI p)), none, none], [], (zw_M (upd (upd g 14 (nI L)) 25 (nI (P + 1))) gl (va_up (va_up a 12 e12) 13 h) al)) _
  refine zr_go (t := (26, [some (.ref 0), some (.int (nI l)), some (.int (nI p)), none, none], [.int (nI p), .ref 0], (zw_M (upd (upd g 14 (nI L)) 25 (nI (P + 1))) gl (va_up (va_up a 12 e12) 13 h) al))) 2 rfl ?_
  refine zr_call (t := (29, [some (.ref 0), some (.int (nI l)), some (.int (nI p)), none, none], [], (zw_M (upd (upd g 14 (nI L)) 25 (nI (P + 1))) gl (va_up (va_up a 12 e12) 13 h) al))) rfl (Nat.le_of_ble_eq_true rfl : 1 ≤ 4) (zs_M_isIn (upd (upd g 14 (nI L)) 25 (nI (P + 1))) gl (va_up (va_up a 12 e12) 13 h) al p (by omega) (P + 1) (zv_lnf P N y p0 q0 P) rfl hh (by omega) (fun k hk => Nat.lt_of_lt_of_le (hlt k hk) (by omega))) ?_
  rintro _ _ ⟨rfl, rfl⟩
  show zm_Run zt_get 4 zt_M_layPlane (29, [some (.ref 0), some (.int (nI l)), some (.int (nI p)), none, none], [.int (nI ((zE (fun k => zv_lnf P N y p0 q0 P k == p) (P + 1)).toNat))], (zw_M (upd (upd g 14 (nI L)) 25 (nI (P + 1))) gl (va_up (va_up a 12 e12) 13 h) al)) _
  have hz1 := zb_le (zE (fun k => zv_lnf P N y p0 q0 P k == p) (P + 1))
  refine zr_ieq (x := nI ((zE (fun k => zv_lnf P N y p0 q0 P k == p) (P + 1)).toNat)) (y := 0) ((zE (fun k => zv_lnf P N y p0 q0 P k == p) (P + 1)).toNat) 0 rfl rfl (by omega) (by omega) (t := (33, [some (.ref 0), some (.int (nI l)), some (.int (nI p)), none, none], [], (zw_M (upd (upd g 14 (nI L)) 25 (nI (P + 1))) gl (va_up (va_up a 12 e12) 13 h) al))) (f := (32, [some (.ref 0), some (.int (nI l)), some (.int (nI p)), none, none], [], (zw_M (upd (upd g 14 (nI L)) 25 (nI (P + 1))) gl (va_up (va_up a 12 e12) 13 h) al))) rfl (fun h1 => ?_) (fun h1 => ?_)
  · skip
    have hz := zb_0 h1
    have hvw : ∀ s, s < ((P + 1) * (P - 1)) → zv_vec P N (zv_mx P (s % (P - 1) + 1) 1 (y (zv_lnf P N y p0 q0 P (s / (P - 1)))) (y p)) ∧ zv_pt P N (zv_mx P (s % (P - 1) + 1) 1 (y (zv_lnf P N y p0 q0 P (s / (P - 1)))) (y p)) < np := by
      intro s hs
      obtain ⟨b1, b2⟩ := zv_sb hPP hs
      exact hv _ p _ (hlt _ b2) hp (fun q => by have := zE_no hz b2; simp [q] at this) b1
    have hwt := zv_wf_lt hlt hp ((P + 1) * (P - 1)) (fun s hs => (hvw s hs).2)
    refine zr_go (t := (35, [some (.ref 0), some (.int (nI l)), some (.int (nI p)), none, none], [.int (nI p), .ref 0], (zw_M (upd (upd g 14 (nI L)) 25 (nI (P + 1))) gl (va_up (va_up a 12 e12) 13 h) al))) 2 rfl ?_
    refine zr_call (t := (38, [some (.ref 0), some (.int (nI l)), some (.int (nI p)), none, none], [], (zw_M (upd (upd g 14 (nI L)) 25 (nI (P + 1))) gl (va_up (va_up a 12 e12) 13 h) al))) rfl (Nat.le_of_ble_eq_true rfl : 4 ≤ 4) (zs_M_widen (upd (upd g 14 (nI L)) 25 (nI (P + 1))) gl (va_up (va_up a 12 e12) 13 h) al P N hP hN hPP hN6 hA hnum np y hR p hp (zv_lnf P N y p0 q0 P) rfl hh hlt hvw) ?_
    rintro _ _ ⟨rfl, d12, d13, d14, rfl, hd13⟩
    show zm_Run zt_get 4 zt_M_layPlane (38, [some (.ref 0), some (.int (nI l)), some (.int (nI p)), none, none], [], (zw_M (upd (upd g 14 (nI L)) 25 (nI (P + 2 + (P + 1) * (P - 1)))) gl (va_up (va_up (va_up a 12 d12) 13 d13) 14 d14) al)) _
    have hw0 := hwt 0 (by omega)
    have hw1 := hwt 1 (by omega)
    have tail : ∀ b0 : Bool, b0 = ((zv_wf P N y (zv_lnf P N y p0 q0 P) p ((P + 1) * (P - 1)) 0 == p0) && (zv_wf P N y (zv_lnf P N y p0 q0 P) p ((P + 1) * (P - 1)) 1 == q0)) → zm_Run zt_get 4 zt_M_layPlane (82, [some (.ref 0), some (.int (nI l)), some (.int (nI p)), some (.int (nI b0.toNat)), none], [], (zw_M (upd (upd g 14 (nI L)) 25 (nI (P + 2 + (P + 1) * (P - 1)))) gl (va_up (va_up (va_up a 12 d12) 13 d13) 14 d14) al)) (fun v w => v = none ∧ ∃ x25 fp f12 f13 f14, w = (zw_M (upd (upd g 14 (nI (L + (zv_gp P N y o p0 q0 p).toNat))) 25 x25) gl (va_up (va_up (va_up (va_up a 7 fp) 12 f12) 13 f13) 14 f14) al) ∧ (zv_gp P N y o p0 q0 p = true → ∀ k, k < (P + 2 + (P + 1) * (P - 1)) → fp (7 * L + k) = nI (zv_wf P N y (zv_lnf P N y p0 q0 P) p ((P + 1) * (P - 1)) k)) ∧ ∀ t, t < 7 * L → fp t = a 7 t) := by
      intro b0 hb0
      refine zr_go (t := (85, [some (.ref 0), some (.int (nI l)), some (.int (nI p)), some (.int (nI b0.toNat)), some (.int 0)], [], (zw_M (upd (upd g 14 (nI L)) 25 (nI (P + 2 + (P + 1) * (P - 1)))) gl (va_up (va_up (va_up a 12 d12) 13 d13) 14 d14) al))) 2 rfl ?_
      refine zr_loop (fun zq : Nat × Bool => (85, [some (.ref 0), some (.int (nI l)), some (.int (nI p)), some (.int (nI zq.2.toNat)), some (.int (nI zq.1))], [], (zw_M (upd (upd g 14 (nI L)) 25 (nI (P + 2 + (P + 1) * (P - 1)))) gl (va_up (va_up (va_up a 12 d12) 13 d13) 14 d14) al))) (fun zq => zq.1 ≤ (P + 2 + (P + 1) * (P - 1)) ∧ zq.2 = (b0 && zA (fun s => decide (p ≤ zv_wf P N y (zv_lnf P N y p0 q0 P) p ((P + 1) * (P - 1)) s) || zE (fun t => zv_lnf P N y p0 q0 P t == zv_wf P N y (zv_lnf P N y p0 q0 P) p ((P + 1) * (P - 1)) s) (P + 1)) zq.1)) (fun zq => (P + 2 + (P + 1) * (P - 1)) - zq.1) ?_ (0, b0) ⟨by omega, by simp [zA]⟩
      rintro ⟨k, b⟩ ⟨hk, hb⟩ ih
      try dsimp only at *
      refine zr_go (t := (91, [some (.ref 0), some (.int (nI l)), some (.int (nI p)), some (.int (nI b.toNat)), some (.int (nI k))], [.int (nI (P + 2 + (P + 1) * (P - 1))), .int (nI k)], (zw_M (upd (upd g 14 (nI L)) 25 (nI (P + 2 + (P + 1) * (P - 1)))) gl (va_up (va_up (va_up a 12 d12) 13 d13) 14 d14) al))) 3 rfl ?_
      refine zr_ige (x := nI k) (y := nI (P + 2 + (P + 1) * (P - 1))) k (P + 2 + (P + 1) * (P - 1)) rfl rfl (by omega) (by omega) (t := (136, [some (.ref 0), some (.int (nI l)), some (.int (nI p)), some (.int (nI b.toNat)), some (.int (nI k))], [], (zw_M (upd (upd g 14 (nI L)) 25 (nI (P + 2 + (P + 1) * (P - 1)))) gl (va_up (va_up (va_up a 12 d12) 13 d13) 14 d14) al))) (f := (94, [some (.ref 0), some (.int (nI l)), some (.int (nI p)), some (.int (nI b.toNat)), some (.int (nI k))], [], (zw_M (upd (upd g 14 (nI L)) 25 (nI (P + 2 + (P + 1) * (P - 1)))) gl (va_up (va_up (va_up a 12 d12) 13 d13) 14 d14) al))) rfl (fun h2 => ?_) (fun h2 => ?_)
      · skip
        have ek : k = (P + 2 + (P + 1) * (P - 1)) := by omega
        subst ek
        have hb1 := zb_le b
        refine zr_go (t := (137, [some (.ref 0), some (.int (nI l)), some (.int (nI p)), some (.int (nI b.toNat)), some (.int (nI (P + 2 + (P + 1) * (P - 1))))], [.int (nI b.toNat)], (zw_M (upd (upd g 14 (nI L)) 25 (nI (P + 2 + (P + 1) * (P - 1)))) gl (va_up (va_up (va_up a 12 d12) 13 d13) 14 d14) al))) 1 rfl ?_
        refine zr_ieq (x := nI b.toNat) (y := 0) b.toNat 0 rfl rfl (by omega) (by omega) (t := (197, [some (.ref 0), some (.int (nI l)), some (.int (nI p)), some (.int (nI b.toNat)), some (.int (nI (P + 2 + (P + 1) * (P - 1))))], [], (zw_M (upd (upd g 14 (nI L)) 25 (nI (P + 2 + (P + 1) * (P - 1)))) gl (va_up (va_up (va_up a 12 d12) 13 d13) 14 d14) al))) (f := (140, [some (.ref 0), some (.int (nI l)), some (.int (nI p)), some (.int (nI b.toNat)), some (.int (nI (P + 2 + (P + 1) * (P - 1))))], [], (zw_M (upd (upd g 14 (nI L)) 25 (nI (P + 2 + (P + 1) * (P - 1)))) gl (va_up (va_up (va_up a 12 d12) 13 d13) 14 d14) al))) rfl (fun h3 => ?_) (fun h3 => ?_)
        · skip
          have hg0 : zv_gp P N y o p0 q0 p = false := by unfold zv_gp; rw [← hb0, ← hb, zb_0 h3]; simp
          exact zr_ret rfl trivial ⟨rfl, nI (P + 2 + (P + 1) * (P - 1)), a 7, d12, d13, d14, by rw [hg0]; rfl, fun q => absurd q (by rw [hg0]; decide), fun t _ => rfl⟩
        · skip
          refine zr_go (t := (141, [some (.ref 0), some (.int (nI l)), some (.int (nI p)), some (.int (nI b.toNat)), some (.int (nI (P + 2 + (P + 1) * (P - 1))))], [.ref 0], (zw_M (upd (upd g 14 (nI L)) 25 (nI (P + 2 + (P + 1) * (P - 1)))) gl (va_up (va_up (va_up a 12 d12) 13 d13) 14 d14) al))) 1 rfl ?_
          refine zr_call (t := (144, [some (.ref 0), some (.int (nI l)), some (.int (nI p)), some (.int (nI b.toNat)), some (.int (nI (P + 2 + (P + 1) * (P - 1))))], [], (zw_M (upd (upd g 14 (nI L)) 25 (nI (P + 2 + (P + 1) * (P - 1)))) gl (va_up (va_up (va_up a 12 d12) 13 d13) 14 d14) al))) rfl (Nat.le_of_ble_eq_true rfl : 1 ≤ 4) (zs_M_areOn (upd (upd g 14 (nI L)) 25 (nI (P + 2 + (P + 1) * (P - 1)))) gl (va_up (va_up (va_up a 12 d12) 13 d13) 14 d14) al np hnp1 o hO (P + 2 + (P + 1) * (P - 1)) (zv_wf P N y (zv_lnf P N y p0 q0 P) p ((P + 1) * (P - 1))) rfl hd13 hn31 hwt) ?_
          rintro _ _ ⟨rfl, rfl⟩
          show zm_Run zt_get 4 zt_M_layPlane (144, [some (.ref 0), some (.int (nI l)), some (.int (nI p)), some (.int (nI b.toNat)), some (.int (nI (P + 2 + (P + 1) * (P - 1))))], [.int (nI ((zA (fun k => o (zv_wf P N y (zv_lnf P N y p0 q0 P) p ((P + 1) * (P - 1)) k)) (P + 2 + (P + 1) * (P - 1))).toNat))], (zw_M (upd (upd g 14 (nI L)) 25 (nI (P + 2 + (P + 1) * (P - 1)))) gl (va_up (va_up (va_up a 12 d12) 13 d13) 14 d14) al)) _
          have ho1 := zb_le (zA (fun k => o (zv_wf P N y (zv_lnf P N y p0 q0 P) p ((P + 1) * (P - 1)) k)) (P + 2 + (P + 1) * (P - 1)))
          refine zr_ieq (x := nI ((zA (fun k => o (zv_wf P N y (zv_lnf P N y p0 q0 P) p ((P + 1) * (P - 1)) k)) (P + 2 + (P + 1) * (P - 1))).toNat)) (y := 0) ((zA (fun k => o (zv_wf P N y (zv_lnf P N y p0 q0 P) p ((P + 1) * (P - 1)) k)) (P + 2 + (P + 1) * (P - 1))).toNat) 0 rfl rfl (by omega) (by omega) (t := (197, [some (.ref 0), some (.int (nI l)), some (.int (nI p)), some (.int (nI b.toNat)), some (.int (nI (P + 2 + (P + 1) * (P - 1))))], [], (zw_M (upd (upd g 14 (nI L)) 25 (nI (P + 2 + (P + 1) * (P - 1)))) gl (va_up (va_up (va_up a 12 d12) 13 d13) 14 d14) al))) (f := (147, [some (.ref 0), some (.int (nI l)), some (.int (nI p)), some (.int (nI b.toNat)), some (.int (nI (P + 2 + (P + 1) * (P - 1))))], [], (zw_M (upd (upd g 14 (nI L)) 25 (nI (P + 2 + (P + 1) * (P - 1)))) gl (va_up (va_up (va_up a 12 d12) 13 d13) 14 d14) al))) rfl (fun h4 => ?_) (fun h4 => ?_)
          · skip
            have hg0 : zv_gp P N y o p0 q0 p = false := by unfold zv_gp; rw [zb_0 h4]; simp
            exact zr_ret rfl trivial ⟨rfl, nI (P + 2 + (P + 1) * (P - 1)), a 7, d12, d13, d14, by rw [hg0]; rfl, fun q => absurd q (by rw [hg0]; decide), fun t _ => rfl⟩
          · skip
            have hg1 : zv_gp P N y o p0 q0 p = true := by unfold zv_gp; rw [← hb0, ← hb, zb_1 h3, zb_1 h4, hz]; rfl
            have hL2 := hL hg1
            refine zr_go (t := (150, [some (.ref 0), some (.int (nI l)), some (.int (nI p)), some (.int (nI b.toNat)), some (.int 0)], [], (zw_M (upd (upd g 14 (nI L)) 25 (nI (P + 2 + (P + 1) * (P - 1)))) gl (va_up (va_up (va_up a 12 d12) 13 d13) 14 d14) al))) 2 rfl ?_
            refine zr_forget [some (.ref 0), some (.int (nI l)), some (.int (nI p)), none, some (.int 0)] ⟨Or.inr rfl, Or.inr rfl, Or.inr rfl, Or.inl rfl, Or.inr rfl, trivial⟩ ?_
            refine zr_loop (fun zq : Nat × (Nat → Int32) => (150, [some (.ref 0), some (.int (nI l)), some (.int (nI p)), none, some (.int (nI zq.1))], [], (zw_M (upd (upd g 14 (nI L)) 25 (nI (P + 2 + (P + 1) * (P - 1)))) gl (va_up (va_up (va_up (va_up a 7 zq.2) 12 d12) 13 d13) 14 d14) al))) (fun zq => zq.1 ≤ (P + 2 + (P + 1) * (P - 1)) ∧ (∀ s, s < 7 * L → zq.2 s = a 7 s) ∧ ∀ s, s < zq.1 → zq.2 (7 * L + s) = nI (zv_wf P N y (zv_lnf P N y p0 q0 P) p ((P + 1) * (P - 1)) s)) (fun zq => (P + 2 + (P + 1) * (P - 1)) - zq.1) ?_ (0, a 7) ⟨by omega, fun s _ => rfl, fun s h => absurd h (Nat.not_lt_zero s)⟩
            rintro ⟨k, fs⟩ ⟨hk5, hs1, hs2⟩ ih3
            try dsimp only at *
            refine zr_go (t := (156, [some (.ref 0), some (.int (nI l)), some (.int (nI p)), none, some (.int (nI k))], [.int (nI (P + 2 + (P + 1) * (P - 1))), .int (nI k)], (zw_M (upd (upd g 14 (nI L)) 25 (nI (P + 2 + (P + 1) * (P - 1)))) gl (va_up (va_up (va_up (va_up a 7 fs) 12 d12) 13 d13) 14 d14) al))) 3 rfl ?_
            refine zr_ige (x := nI k) (y := nI (P + 2 + (P + 1) * (P - 1))) k (P + 2 + (P + 1) * (P - 1)) rfl rfl (by omega) (by omega) (t := (187, [some (.ref 0), some (.int (nI l)), some (.int (nI p)), none, some (.int (nI k))], [], (zw_M (upd (upd g 14 (nI L)) 25 (nI (P + 2 + (P + 1) * (P - 1)))) gl (va_up (va_up (va_up (va_up a 7 fs) 12 d12) 13 d13) 14 d14) al))) (f := (159, [some (.ref 0), some (.int (nI l)), some (.int (nI p)), none, some (.int (nI k))], [], (zw_M (upd (upd g 14 (nI L)) 25 (nI (P + 2 + (P + 1) * (P - 1)))) gl (va_up (va_up (va_up (va_up a 7 fs) 12 d12) 13 d13) 14 d14) al))) rfl (fun h5 => ?_) (fun h5 => ?_)
            · skip
              refine zr_go (t := (197, [some (.ref 0), some (.int (nI l)), some (.int (nI p)), none, some (.int (nI k))], [], (zw_M (upd (upd g 14 ((nI L) + 1)) 25 (nI (P + 2 + (P + 1) * (P - 1)))) gl (va_up (va_up (va_up (va_up a 7 fs) 12 d12) 13 d13) 14 d14) al))) 6 rfl ?_
              rw [show (nI L) + 1 = nI (L + 1) from (zn_add rfl rfl)]
              exact zr_ret rfl trivial ⟨rfl, nI (P + 2 + (P + 1) * (P - 1)), fs, d12, d13, d14, by rw [hg1]; rfl, fun _ k hk => hs2 k (by omega), hs1⟩
            · skip
              refine zr_go (t := (179, [some (.ref 0), some (.int (nI l)), some (.int (nI p)), none, some (.int (nI k))], [.int (nI k), .ref 13, .int ((7 * (nI L)) + (nI k)), .ref 7], (zw_M (upd (upd g 14 (nI L)) 25 (nI (P + 2 + (P + 1) * (P - 1)))) gl (va_up (va_up (va_up (va_up a 7 fs) 12 d12) 13 d13) 14 d14) al))) 11 rfl ?_
              refine zr_cd (t := (180, [some (.ref 0), some (.int (nI l)), some (.int (nI p)), none, some (.int (nI k))], [.int (d13 (nI k).toNatClampNeg), .int ((7 * (nI L)) + (nI k)), .ref 7], (zw_M (upd (upd g 14 (nI L)) 25 (nI (P + 2 + (P + 1) * (P - 1)))) gl (va_up (va_up (va_up (va_up a 7 fs) 12 d12) 13 d13) 14 d14) al))) rfl (pk_in k 31 (by omega) rfl (by omega)) ?_
              rw [pk_cl (x := (nI k)) k rfl (by omega)]
              rw [show d13 k = nI (zv_wf P N y (zv_lnf P N y p0 q0 P) p ((P + 1) * (P - 1)) k) from hd13 k (by omega)]
              refine zr_cd (t := (181, [some (.ref 0), some (.int (nI l)), some (.int (nI p)), none, some (.int (nI k))], [], (zw_M (upd (upd g 14 (nI L)) 25 (nI (P + 2 + (P + 1) * (P - 1)))) gl (va_up (va_up (va_up (va_up a 7 (upd fs (((7 * (nI L)) + (nI k)).toNatClampNeg) (nI (zv_wf P N y (zv_lnf P N y p0 q0 P) p ((P + 1) * (P - 1)) k)))) 12 d12) 13 d13) 14 d14) al))) rfl (pk_in ((7 * L) + k) 280 (by omega) (zn_add (zn_mul rfl rfl) rfl) (by omega)) ?_
              rw [pk_cl (x := ((7 * (nI L)) + (nI k))) ((7 * L) + k) (zn_add (zn_mul rfl rfl) rfl) (by omega)]
              refine zr_go (t := (150, [some (.ref 0), some (.int (nI l)), some (.int (nI p)), none, some (.int ((nI k) + 1))], [], (zw_M (upd (upd g 14 (nI L)) 25 (nI (P + 2 + (P + 1) * (P - 1)))) gl (va_up (va_up (va_up (va_up a 7 (upd fs ((7 * L) + k) (nI (zv_wf P N y (zv_lnf P N y p0 q0 P) p ((P + 1) * (P - 1)) k)))) 12 d12) 13 d13) 14 d14) al))) 2 rfl ?_
              rw [show (nI k) + 1 = nI (k + 1) from (zn_add rfl rfl)]
              exact ih3 (k + 1, (upd fs ((7 * L) + k) (nI (zv_wf P N y (zv_lnf P N y p0 q0 P) p ((P + 1) * (P - 1)) k)))) ⟨by omega, fun s h => (pk_un (by omega)).trans (hs1 s h), fun s h => if e : s = k then by subst e; exact pk_us else (pk_un (by omega)).trans (hs2 s (by omega))⟩ (by omega)
      · skip
        refine zr_go (t := (95, [some (.ref 0), some (.int (nI l)), some (.int (nI p)), some (.int (nI b.toNat)), some (.int (nI k))], [.int (nI b.toNat)], (zw_M (upd (upd g 14 (nI L)) 25 (nI (P + 2 + (P + 1) * (P - 1)))) gl (va_up (va_up (va_up a 12 d12) 13 d13) 14 d14) al))) 1 rfl ?_
        have hb1 := zb_le b
        have hwk := hwt k h2
        refine zr_ieq (x := nI b.toNat) (y := 0) b.toNat 0 rfl rfl (by omega) (by omega) (t := (128, [some (.ref 0), some (.int (nI l)), some (.int (nI p)), some (.int (nI b.toNat)), some (.int (nI k))], [], (zw_M (upd (upd g 14 (nI L)) 25 (nI (P + 2 + (P + 1) * (P - 1)))) gl (va_up (va_up (va_up a 12 d12) 13 d13) 14 d14) al))) (f := (98, [some (.ref 0), some (.int (nI l)), some (.int (nI p)), some (.int (nI b.toNat)), some (.int (nI k))], [], (zw_M (upd (upd g 14 (nI L)) 25 (nI (P + 2 + (P + 1) * (P - 1)))) gl (va_up (va_up (va_up a 12 d12) 13 d13) 14 d14) al))) rfl (fun h3 => ?_) (fun h3 => ?_)
        · skip
          refine zr_go (t := (85, [some (.ref 0), some (.int (nI l)), some (.int (nI p)), some (.int 0), some (.int ((nI k) + 1))], [], (zw_M (upd (upd g 14 (nI L)) 25 (nI (P + 2 + (P + 1) * (P - 1)))) gl (va_up (va_up (va_up a 12 d12) 13 d13) 14 d14) al))) 4 rfl ?_
          rw [show some (Value.int 0) = some (Value.int (nI (false).toNat)) from rfl]
          rw [show (nI k) + 1 = nI (k + 1) from (zn_add rfl rfl)]
          exact ih (k + 1, false) ⟨by omega, by show false = (b0 && (zA _ k && _)); rw [← Bool.and_assoc, ← hb, zb_0 h3]; rfl⟩ (by omega)
        · skip
          refine zr_go (t := (104, [some (.ref 0), some (.int (nI l)), some (.int (nI p)), some (.int (nI b.toNat)), some (.int (nI k))], [.int (nI k), .ref 13], (zw_M (upd (upd g 14 (nI L)) 25 (nI (P + 2 + (P + 1) * (P - 1)))) gl (va_up (va_up (va_up a 12 d12) 13 d13) 14 d14) al))) 3 rfl ?_
          refine zr_cd (t := (105, [some (.ref 0), some (.int (nI l)), some (.int (nI p)), some (.int (nI b.toNat)), some (.int (nI k))], [.int (d13 (nI k).toNatClampNeg)], (zw_M (upd (upd g 14 (nI L)) 25 (nI (P + 2 + (P + 1) * (P - 1)))) gl (va_up (va_up (va_up a 12 d12) 13 d13) 14 d14) al))) rfl (pk_in k 31 (by omega) rfl (by omega)) ?_
          rw [pk_cl (x := (nI k)) k rfl (by omega)]
          rw [show d13 k = nI (zv_wf P N y (zv_lnf P N y p0 q0 P) p ((P + 1) * (P - 1)) k) from hd13 k (by omega)]
          refine zr_go (t := (106, [some (.ref 0), some (.int (nI l)), some (.int (nI p)), some (.int (nI b.toNat)), some (.int (nI k))], [.int (nI p), .int (nI (zv_wf P N y (zv_lnf P N y p0 q0 P) p ((P + 1) * (P - 1)) k))], (zw_M (upd (upd g 14 (nI L)) 25 (nI (P + 2 + (P + 1) * (P - 1)))) gl (va_up (va_up (va_up a 12 d12) 13 d13) 14 d14) al))) 1 rfl ?_
          refine zr_ige (x := nI (zv_wf P N y (zv_lnf P N y p0 q0 P) p ((P + 1) * (P - 1)) k)) (y := nI p) (zv_wf P N y (zv_lnf P N y p0 q0 P) p ((P + 1) * (P - 1)) k) p rfl rfl (by omega) (by omega) (t := (124, [some (.ref 0), some (.int (nI l)), some (.int (nI p)), some (.int (nI b.toNat)), some (.int (nI k))], [], (zw_M (upd (upd g 14 (nI L)) 25 (nI (P + 2 + (P + 1) * (P - 1)))) gl (va_up (va_up (va_up a 12 d12) 13 d13) 14 d14) al))) (f := (109, [some (.ref 0), some (.int (nI l)), some (.int (nI p)), some (.int (nI b.toNat)), some (.int (nI k))], [], (zw_M (upd (upd g 14 (nI L)) 25 (nI (P + 2 + (P + 1) * (P - 1)))) gl (va_up (va_up (va_up a 12 d12) 13 d13) 14 d14) al))) rfl (fun h4 => ?_) (fun h4 => ?_)
          · skip
            refine zr_go (t := (85, [some (.ref 0), some (.int (nI l)), some (.int (nI p)), some (.int 1), some (.int ((nI k) + 1))], [], (zw_M (upd (upd g 14 (nI L)) 25 (nI (P + 2 + (P + 1) * (P - 1)))) gl (va_up (va_up (va_up a 12 d12) 13 d13) 14 d14) al))) 5 rfl ?_
            rw [show some (Value.int 1) = some (Value.int (nI (true).toNat)) from rfl]
            rw [show (nI k) + 1 = nI (k + 1) from (zn_add rfl rfl)]
            exact ih (k + 1, true) ⟨by omega, by show true = (b0 && (zA _ k && _)); rw [← Bool.and_assoc, ← hb, zb_1 h3]; simp [h4]⟩ (by omega)
          · skip
            refine zr_go (t := (117, [some (.ref 0), some (.int (nI l)), some (.int (nI p)), some (.int (nI b.toNat)), some (.int (nI k))], [.int (nI k), .ref 13, .int (nI l), .ref 0], (zw_M (upd (upd g 14 (nI L)) 25 (nI (P + 2 + (P + 1) * (P - 1)))) gl (va_up (va_up (va_up a 12 d12) 13 d13) 14 d14) al))) 5 rfl ?_
            refine zr_cd (t := (118, [some (.ref 0), some (.int (nI l)), some (.int (nI p)), some (.int (nI b.toNat)), some (.int (nI k))], [.int (d13 (nI k).toNatClampNeg), .int (nI l), .ref 0], (zw_M (upd (upd g 14 (nI L)) 25 (nI (P + 2 + (P + 1) * (P - 1)))) gl (va_up (va_up (va_up a 12 d12) 13 d13) 14 d14) al))) rfl (pk_in k 31 (by omega) rfl (by omega)) ?_
            rw [pk_cl (x := (nI k)) k rfl (by omega)]
            rw [show d13 k = nI (zv_wf P N y (zv_lnf P N y p0 q0 P) p ((P + 1) * (P - 1)) k) from hd13 k (by omega)]
            refine zr_call (t := (121, [some (.ref 0), some (.int (nI l)), some (.int (nI p)), some (.int (nI b.toNat)), some (.int (nI k))], [], (zw_M (upd (upd g 14 (nI L)) 25 (nI (P + 2 + (P + 1) * (P - 1)))) gl (va_up (va_up (va_up a 12 d12) 13 d13) 14 d14) al))) rfl (Nat.le_of_ble_eq_true rfl : 1 ≤ 4) (zs_M_isOfLine (upd (upd g 14 (nI L)) 25 (nI (P + 2 + (P + 1) * (P - 1)))) gl (va_up (va_up (va_up a 12 d12) 13 d13) 14 d14) al P hP hP5 l (zv_wf P N y (zv_lnf P N y p0 q0 P) p ((P + 1) * (P - 1)) k) hl128 (by omega) (zv_lnf P N y p0 q0 P) hl (fun t ht => Nat.lt_of_lt_of_le (hlt t ht) (by omega))) ?_
            rintro _ _ ⟨rfl, rfl⟩
            show zm_Run zt_get 4 zt_M_layPlane (121, [some (.ref 0), some (.int (nI l)), some (.int (nI p)), some (.int (nI b.toNat)), some (.int (nI k))], [.int (nI ((zE (fun t => zv_lnf P N y p0 q0 P t == zv_wf P N y (zv_lnf P N y p0 q0 P) p ((P + 1) * (P - 1)) k) (P + 1)).toNat))], (zw_M (upd (upd g 14 (nI L)) 25 (nI (P + 2 + (P + 1) * (P - 1)))) gl (va_up (va_up (va_up a 12 d12) 13 d13) 14 d14) al)) _
            have hz2 := zb_le (zE (fun t => zv_lnf P N y p0 q0 P t == zv_wf P N y (zv_lnf P N y p0 q0 P) p ((P + 1) * (P - 1)) k) (P + 1))
            refine zr_ieq (x := nI ((zE (fun t => zv_lnf P N y p0 q0 P t == zv_wf P N y (zv_lnf P N y p0 q0 P) p ((P + 1) * (P - 1)) k) (P + 1)).toNat)) (y := 0) ((zE (fun t => zv_lnf P N y p0 q0 P t == zv_wf P N y (zv_lnf P N y p0 q0 P) p ((P + 1) * (P - 1)) k) (P + 1)).toNat) 0 rfl rfl (by omega) (by omega) (t := (128, [some (.ref 0), some (.int (nI l)), some (.int (nI p)), some (.int (nI b.toNat)), some (.int (nI k))], [], (zw_M (upd (upd g 14 (nI L)) 25 (nI (P + 2 + (P + 1) * (P - 1)))) gl (va_up (va_up (va_up a 12 d12) 13 d13) 14 d14) al))) (f := (124, [some (.ref 0), some (.int (nI l)), some (.int (nI p)), some (.int (nI b.toNat)), some (.int (nI k))], [], (zw_M (upd (upd g 14 (nI L)) 25 (nI (P + 2 + (P + 1) * (P - 1)))) gl (va_up (va_up (va_up a 12 d12) 13 d13) 14 d14) al))) rfl (fun h5 => ?_) (fun h5 => ?_)
            · skip
              refine zr_go (t := (85, [some (.ref 0), some (.int (nI l)), some (.int (nI p)), some (.int 0), some (.int ((nI k) + 1))], [], (zw_M (upd (upd g 14 (nI L)) 25 (nI (P + 2 + (P + 1) * (P - 1)))) gl (va_up (va_up (va_up a 12 d12) 13 d13) 14 d14) al))) 4 rfl ?_
              rw [show some (Value.int 0) = some (Value.int (nI (false).toNat)) from rfl]
              rw [show (nI k) + 1 = nI (k + 1) from (zn_add rfl rfl)]
              exact ih (k + 1, false) ⟨by omega, by show false = (b0 && (zA _ k && _)); rw [← Bool.and_assoc, ← hb, zb_1 h3]; dsimp only; rw [zb_0 h5, decide_eq_false (by omega)]; rfl⟩ (by omega)
            · skip
              refine zr_go (t := (85, [some (.ref 0), some (.int (nI l)), some (.int (nI p)), some (.int 1), some (.int ((nI k) + 1))], [], (zw_M (upd (upd g 14 (nI L)) 25 (nI (P + 2 + (P + 1) * (P - 1)))) gl (va_up (va_up (va_up a 12 d12) 13 d13) 14 d14) al))) 5 rfl ?_
              rw [show some (Value.int 1) = some (Value.int (nI (true).toNat)) from rfl]
              rw [show (nI k) + 1 = nI (k + 1) from (zn_add rfl rfl)]
              exact ih (k + 1, true) ⟨by omega, by show true = (b0 && (zA _ k && _)); rw [← Bool.and_assoc, ← hb, zb_1 h3]; dsimp only; rw [zb_1 h5, decide_eq_false (by omega)]; rfl⟩ (by omega)
    refine zr_go (t := (43, [some (.ref 0), some (.int (nI l)), some (.int (nI p)), none, none], [.int 0, .ref 13], (zw_M (upd (upd g 14 (nI L)) 25 (nI (P + 2 + (P + 1) * (P - 1)))) gl (va_up (va_up (va_up a 12 d12) 13 d13) 14 d14) al))) 3 rfl ?_
    refine zr_cd (t := (44, [some (.ref 0), some (.int (nI l)), some (.int (nI p)), none, none], [.int (d13 (0 : Int32).toNatClampNeg)], (zw_M (upd (upd g 14 (nI L)) 25 (nI (P + 2 + (P + 1) * (P - 1)))) gl (va_up (va_up (va_up a 12 d12) 13 d13) 14 d14) al))) rfl (pk_in 0 31 (by omega) rfl (by omega)) ?_
    rw [pk_cl (x := (0 : Int32)) 0 rfl (by omega)]
    rw [show d13 0 = nI (zv_wf P N y (zv_lnf P N y p0 q0 P) p ((P + 1) * (P - 1)) 0) from hd13 0 (by omega)]
    refine zr_go (t := (52, [some (.ref 0), some (.int (nI l)), some (.int (nI p)), none, none], [.int (6 * (nI l)), .ref 6, .int (nI (zv_wf P N y (zv_lnf P N y p0 q0 P) p ((P + 1) * (P - 1)) 0))], (zw_M (upd (upd g 14 (nI L)) 25 (nI (P + 2 + (P + 1) * (P - 1)))) gl (va_up (va_up (va_up a 12 d12) 13 d13) 14 d14) al))) 5 rfl ?_
    refine zr_cd (t := (53, [some (.ref 0), some (.int (nI l)), some (.int (nI p)), none, none], [.int ((a 6) (6 * (nI l)).toNatClampNeg), .int (nI (zv_wf P N y (zv_lnf P N y p0 q0 P) p ((P + 1) * (P - 1)) 0))], (zw_M (upd (upd g 14 (nI L)) 25 (nI (P + 2 + (P + 1) * (P - 1)))) gl (va_up (va_up (va_up a 12 d12) 13 d13) 14 d14) al))) rfl (pk_in (6 * l) 768 (by omega) (zn_mul rfl rfl) (by omega)) ?_
    rw [pk_cl (x := (6 * (nI l))) (6 * l) (zn_mul rfl rfl) (by omega)]
    rw [show (a 6) (6 * l) = nI p0 from (hl 0 (by omega)).trans (congrArg nI hl0)]
    refine zr_ine (x := nI (zv_wf P N y (zv_lnf P N y p0 q0 P) p ((P + 1) * (P - 1)) 0)) (y := nI p0) (zv_wf P N y (zv_lnf P N y p0 q0 P) p ((P + 1) * (P - 1)) 0) p0 rfl rfl (by omega) (by omega) (t := (80, [some (.ref 0), some (.int (nI l)), some (.int (nI p)), none, none], [], (zw_M (upd (upd g 14 (nI L)) 25 (nI (P + 2 + (P + 1) * (P - 1)))) gl (va_up (va_up (va_up a 12 d12) 13 d13) 14 d14) al))) (f := (56, [some (.ref 0), some (.int (nI l)), some (.int (nI p)), none, none], [], (zw_M (upd (upd g 14 (nI L)) 25 (nI (P + 2 + (P + 1) * (P - 1)))) gl (va_up (va_up (va_up a 12 d12) 13 d13) 14 d14) al))) rfl (fun h2 => ?_) (fun h2 => ?_)
    · skip
      refine zr_go (t := (82, [some (.ref 0), some (.int (nI l)), some (.int (nI p)), some (.int 0), none], [], (zw_M (upd (upd g 14 (nI L)) 25 (nI (P + 2 + (P + 1) * (P - 1)))) gl (va_up (va_up (va_up a 12 d12) 13 d13) 14 d14) al))) 2 rfl ?_
      exact tail false (by simp [h2])
    · skip
      refine zr_go (t := (61, [some (.ref 0), some (.int (nI l)), some (.int (nI p)), none, none], [.int 1, .ref 13], (zw_M (upd (upd g 14 (nI L)) 25 (nI (P + 2 + (P + 1) * (P - 1)))) gl (va_up (va_up (va_up a 12 d12) 13 d13) 14 d14) al))) 3 rfl ?_
      refine zr_cd (t := (62, [some (.ref 0), some (.int (nI l)), some (.int (nI p)), none, none], [.int (d13 (1 : Int32).toNatClampNeg)], (zw_M (upd (upd g 14 (nI L)) 25 (nI (P + 2 + (P + 1) * (P - 1)))) gl (va_up (va_up (va_up a 12 d12) 13 d13) 14 d14) al))) rfl (pk_in 1 31 (by omega) rfl (by omega)) ?_
      rw [pk_cl (x := (1 : Int32)) 1 rfl (by omega)]
      rw [show d13 1 = nI (zv_wf P N y (zv_lnf P N y p0 q0 P) p ((P + 1) * (P - 1)) 1) from hd13 1 (by omega)]
      refine zr_go (t := (72, [some (.ref 0), some (.int (nI l)), some (.int (nI p)), none, none], [.int ((6 * (nI l)) + 1), .ref 6, .int (nI (zv_wf P N y (zv_lnf P N y p0 q0 P) p ((P + 1) * (P - 1)) 1))], (zw_M (upd (upd g 14 (nI L)) 25 (nI (P + 2 + (P + 1) * (P - 1)))) gl (va_up (va_up (va_up a 12 d12) 13 d13) 14 d14) al))) 7 rfl ?_
      refine zr_cd (t := (73, [some (.ref 0), some (.int (nI l)), some (.int (nI p)), none, none], [.int ((a 6) ((6 * (nI l)) + 1).toNatClampNeg), .int (nI (zv_wf P N y (zv_lnf P N y p0 q0 P) p ((P + 1) * (P - 1)) 1))], (zw_M (upd (upd g 14 (nI L)) 25 (nI (P + 2 + (P + 1) * (P - 1)))) gl (va_up (va_up (va_up a 12 d12) 13 d13) 14 d14) al))) rfl (pk_in ((6 * l) + 1) 768 (by omega) (zn_add (zn_mul rfl rfl) rfl) (by omega)) ?_
      rw [pk_cl (x := ((6 * (nI l)) + 1)) ((6 * l) + 1) (zn_add (zn_mul rfl rfl) rfl) (by omega)]
      rw [show (a 6) ((6 * l) + 1) = nI q0 from (hl 1 (by omega)).trans (congrArg nI hl1)]
      refine zr_ine (x := nI (zv_wf P N y (zv_lnf P N y p0 q0 P) p ((P + 1) * (P - 1)) 1)) (y := nI q0) (zv_wf P N y (zv_lnf P N y p0 q0 P) p ((P + 1) * (P - 1)) 1) q0 rfl rfl (by omega) (by omega) (t := (80, [some (.ref 0), some (.int (nI l)), some (.int (nI p)), none, none], [], (zw_M (upd (upd g 14 (nI L)) 25 (nI (P + 2 + (P + 1) * (P - 1)))) gl (va_up (va_up (va_up a 12 d12) 13 d13) 14 d14) al))) (f := (76, [some (.ref 0), some (.int (nI l)), some (.int (nI p)), none, none], [], (zw_M (upd (upd g 14 (nI L)) 25 (nI (P + 2 + (P + 1) * (P - 1)))) gl (va_up (va_up (va_up a 12 d12) 13 d13) 14 d14) al))) rfl (fun h3 => ?_) (fun h3 => ?_)
      · skip
        refine zr_go (t := (82, [some (.ref 0), some (.int (nI l)), some (.int (nI p)), some (.int 0), none], [], (zw_M (upd (upd g 14 (nI L)) 25 (nI (P + 2 + (P + 1) * (P - 1)))) gl (va_up (va_up (va_up a 12 d12) 13 d13) 14 d14) al))) 2 rfl ?_
        exact tail false (by simp [h3])
      · skip
        refine zr_go (t := (82, [some (.ref 0), some (.int (nI l)), some (.int (nI p)), some (.int 1), none], [], (zw_M (upd (upd g 14 (nI L)) 25 (nI (P + 2 + (P + 1) * (P - 1)))) gl (va_up (va_up (va_up a 12 d12) 13 d13) 14 d14) al))) 3 rfl ?_
        exact tail true (by simp [h2, h3])
  · skip
    have hg0 : zv_gp P N y o p0 q0 p = false := by unfold zv_gp; rw [zb_1 h1]; rfl
    exact zr_ret rfl trivial ⟨rfl, nI (P + 1), a 7, e12, h, a 14, by rw [hg0]; rfl, fun q => absurd q (by rw [hg0]; decide), fun t _ => rfl⟩
