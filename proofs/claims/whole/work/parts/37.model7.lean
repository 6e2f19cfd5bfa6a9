/-! the reference: all lines, all planes (written by wip/whole/gen_m7.py) -/
/-- the points of a plane through a line's points f and a point p, as the reference lays them out -/
def zv_wf (P N : Nat) (y : Nat → Nat → Nat) (f : Nat → Nat) (p : Nat) : Nat → Nat → Nat
  | 0 => zv_ins f p (P + 1)
  | s + 1 => zv_ins (zv_wf P N y f p s) (zv_pt P N (zv_mx P (s % (P - 1) + 1) 1 (y (f (s / (P - 1)))) (y p))) (P + 2 + s)
theorem zv_wf_lt {P N np : Nat} {y : Nat → Nat → Nat} {f : Nat → Nat} {p : Nat} (hf : ∀ k, k < P + 1 → f k < np) (hp : p < np) (s : Nat) (hv : ∀ s', s' < s → zv_pt P N (zv_mx P (s' % (P - 1) + 1) 1 (y (f (s' / (P - 1)))) (y p)) < np) : ∀ k, k < P + 2 + s → zv_wf P N y f p s k < np := by
  induction s with
  | zero => exact zv_ins_lt hf hp
  | succ s ih => exact zv_ins_lt (n := P + 2 + s) (ih (fun b hb => hv b (by omega))) (hv s (by omega))
theorem zv_dm {m k b : Nat} (h : b < m) : (m * k + b) / m = k ∧ (m * k + b) % m = b := by
  refine ⟨?_, ?_⟩
  · rw [Nat.mul_add_div (by omega), Nat.div_eq_of_lt h, Nat.add_zero]
  · rw [Nat.mul_add_mod, Nat.mod_eq_of_lt h]
theorem zv_wb {P k b : Nat} (hPP : P = 2 ∨ P = 3 ∨ P = 5) (hk : k < P + 1) (hb : b < P - 1) : P + 2 + ((P - 1) * k + b) < 31 ∧ (P - 1) * k + b < (P + 1) * (P - 1) := by
  rcases hPP with rfl | rfl | rfl <;> omega
theorem zs_M_widen (g : Nat → Int32) (gl : Nat → Int64) (a : Nat → Nat → Int32) (al : Nat → Nat → Int64) (P N : Nat) (hP : g 0 = nI P) (hN : g 1 = nI N) (hPP : P = 2 ∨ P = 3 ∨ P = 5) (hN6 : N ≤ 6) (hA : P ^ N ≤ 729) (hnum : ∀ t, 1 ≤ t → t < P ^ N → a 4 t = if zv_l1 P N t then nI (zv_cnt P N t) else -1) (np : Nat) (y : Nat → Nat → Nat) (hR : zc_R g a np y) (p : Nat) (hp : p < np) (f : Nat → Nat) (hn : g 25 = nI (P + 1)) (hf : ∀ k, k < P + 1 → a 13 k = nI (f k)) (hf1 : ∀ k, k < P + 1 → f k < np) (hv : ∀ s, s < (P + 1) * (P - 1) → zv_vec P N (zv_mx P (s % (P - 1) + 1) 1 (y (f (s / (P - 1)))) (y p)) ∧ zv_pt P N (zv_mx P (s % (P - 1) + 1) 1 (y (f (s / (P - 1)))) (y p)) < np) : zm_Ev zt_get 4 133 [.ref 0, .int (nI p)] (zw_M g gl a al) (fun v w => v = none ∧ ∃ f12 h f14, w = (zw_M (upd g 25 (nI (P + 2 + (P + 1) * (P - 1)))) gl (va_up (va_up (va_up a 12 f12) 13 h) 14 f14) al) ∧ ∀ k, k < P + 2 + (P + 1) * (P - 1) → h k = nI (zv_wf P N y f p ((P + 1) * (P - 1)) k)) := by
  obtain ⟨hP0, hP5⟩ := zv_P5 hPP
  obtain ⟨hnp, hnp1, hy, hy4⟩ := id hR
  refine zr_ev zt_M_widen rfl rfl ?_
  show zm_Run zt_get 3 zt_M_widen (0, [some (.ref 0), some (.int (nI p)), none, none, none], [], (zw_M g gl a al)) _
  refine zr_go (t := (7, [some (.ref 0), some (.int (nI p)), some (.int (g 25)), some (.int 0), none], [], (zw_M g gl a al))) 5 rfl ?_
  refine zr_fst2 (t := (7, [some (.ref 0), some (.int (nI p)), some (.int (nI (P + 1))), some (.int 0), none], [], (zw_M g gl a al))) (by rw [hn]) ?_
  refine zr_loop (fun zq : Nat × (Nat → Int32) => (7, [some (.ref 0), some (.int (nI p)), some (.int (nI (P + 1))), some (.int (nI zq.1)), none], [], (zw_M g gl (va_up a 14 zq.2) al))) (fun zq => zq.1 ≤ P + 1 ∧ ∀ t, t < zq.1 → zq.2 t = nI (f t)) (fun zq => P + 1 - zq.1) ?_ (0, a 14) ⟨by omega, fun k h => absurd h (Nat.not_lt_zero k)⟩
  rintro ⟨k, f14⟩ ⟨hk, hf14⟩ ih
  try dsimp only at *
  refine zr_go (t := (9, [some (.ref 0), some (.int (nI p)), some (.int (nI (P + 1))), some (.int (nI k)), none], [.int (nI (P + 1)), .int (nI k)], (zw_M g gl (va_up a 14 f14) al))) 2 rfl ?_
  refine zr_ige (x := nI k) (y := nI (P + 1)) k (P + 1) rfl rfl (by omega) (by omega) (t := (30, [some (.ref 0), some (.int (nI p)), some (.int (nI (P + 1))), some (.int (nI k)), none], [], (zw_M g gl (va_up a 14 f14) al))) (f := (12, [some (.ref 0), some (.int (nI p)), some (.int (nI (P + 1))), some (.int (nI k)), none], [], (zw_M g gl (va_up a 14 f14) al))) rfl (fun h1 => ?_) (fun h1 => ?_)
  · skip
    have e1 : k = P + 1 := by omega
    subst e1
    refine zr_go (t := (32, [some (.ref 0), some (.int (nI p)), some (.int (nI (P + 1))), some (.int (nI (P + 1))), none], [.int (nI p), .ref 0], (zw_M g gl (va_up a 14 f14) al))) 2 rfl ?_
    refine zr_call (t := (35, [some (.ref 0), some (.int (nI p)), some (.int (nI (P + 1))), some (.int (nI (P + 1))), none], [], (zw_M g gl (va_up a 14 f14) al))) rfl (Nat.le_of_ble_eq_true rfl : 1 ≤ 3) (zs_M_addTo g gl (va_up a 14 f14) al p (by omega) (P + 1) f hn hf (by omega) (fun k hk => Nat.lt_of_lt_of_le (hf1 k hk) (by omega))) ?_
    rintro _ _ ⟨rfl, h0, rfl, hh0⟩
    show zm_Run zt_get 3 zt_M_widen (35, [some (.ref 0), some (.int (nI p)), some (.int (nI (P + 1))), some (.int (nI (P + 1))), none], [], (zw_M (upd g 25 (nI (P + 1 + 1))) gl (va_up (va_up a 13 h0) 14 f14) al)) _
    refine zr_go (t := (37, [some (.ref 0), some (.int (nI p)), some (.int (nI (P + 1))), some (.int 0), none], [], (zw_M (upd g 25 (nI (P + 1 + 1))) gl (va_up (va_up a 13 h0) 14 f14) al))) 2 rfl ?_
    refine zr_loop (fun zq : Nat × (Nat → Int32) × (Nat → Int32) => (37, [some (.ref 0), some (.int (nI p)), some (.int (nI (P + 1))), some (.int (nI zq.1)), none], [], (zw_M (upd g 25 (nI (P + 2 + (P - 1) * zq.1))) gl (va_up (va_up (va_up a 12 zq.2.1) 13 zq.2.2) 14 f14) al))) (fun zq => zq.1 ≤ P + 1 ∧ ∀ t, t < P + 2 + (P - 1) * zq.1 → zq.2.2 t = nI (zv_wf P N y f p ((P - 1) * zq.1) t)) (fun zq => P + 1 - zq.1) ?_ (0, a 12, h0) ⟨by omega, hh0⟩
    rintro ⟨k, f12, h⟩ ⟨hk2, hh⟩ ih2
    try dsimp only at *
    refine zr_go (t := (39, [some (.ref 0), some (.int (nI p)), some (.int (nI (P + 1))), some (.int (nI k)), none], [.int (nI (P + 1)), .int (nI k)], (zw_M (upd g 25 (nI (P + 2 + (P - 1) * k))) gl (va_up (va_up (va_up a 12 f12) 13 h) 14 f14) al))) 2 rfl ?_
    refine zr_ige (x := nI k) (y := nI (P + 1)) k (P + 1) rfl rfl (by omega) (by omega) (t := (84, [some (.ref 0), some (.int (nI p)), some (.int (nI (P + 1))), some (.int (nI k)), none], [], (zw_M (upd g 25 (nI (P + 2 + (P - 1) * k))) gl (va_up (va_up (va_up a 12 f12) 13 h) 14 f14) al))) (f := (42, [some (.ref 0), some (.int (nI p)), some (.int (nI (P + 1))), some (.int (nI k)), none], [], (zw_M (upd g 25 (nI (P + 2 + (P - 1) * k))) gl (va_up (va_up (va_up a 12 f12) 13 h) 14 f14) al))) rfl (fun h2 => ?_) (fun h2 => ?_)
    · skip
      have e1 : k = P + 1 := by omega
      subst e1
      rw [Nat.mul_comm (P - 1) (P + 1)] at hh ⊢
      exact zr_ret rfl trivial ⟨rfl, f12, h, f14, rfl, hh⟩
    · skip
      refine zr_go (t := (45, [some (.ref 0), some (.int (nI p)), some (.int (nI (P + 1))), some (.int (nI k)), some (.int 1)], [], (zw_M (upd g 25 (nI (P + 2 + (P - 1) * k))) gl (va_up (va_up (va_up a 12 f12) 13 h) 14 f14) al))) 2 rfl ?_
      refine zr_loop (fun zq : Nat × (Nat → Int32) × (Nat → Int32) => (45, [some (.ref 0), some (.int (nI p)), some (.int (nI (P + 1))), some (.int (nI k)), some (.int (nI (zq.1 + 1)))], [], (zw_M (upd g 25 (nI (P + 2 + ((P - 1) * k + zq.1)))) gl (va_up (va_up (va_up a 12 zq.2.1) 13 zq.2.2) 14 f14) al))) (fun zq => zq.1 < P ∧ ∀ t, t < P + 2 + ((P - 1) * k + zq.1) → zq.2.2 t = nI (zv_wf P N y f p ((P - 1) * k + zq.1) t)) (fun zq => P - zq.1) ?_ (0, f12, h) ⟨hP0, hh⟩
      rintro ⟨b, e12, h3⟩ ⟨hb, hh3⟩ ih3
      try dsimp only at *
      refine zr_go (t := (51, [some (.ref 0), some (.int (nI p)), some (.int (nI (P + 1))), some (.int (nI k)), some (.int (nI (b + 1)))], [.int (g 0), .int (nI (b + 1))], (zw_M (upd g 25 (nI (P + 2 + ((P - 1) * k + b)))) gl (va_up (va_up (va_up a 12 e12) 13 h3) 14 f14) al))) 3 rfl ?_
      refine zr_ige (x := nI (b + 1)) (y := g 0) (b + 1) P rfl hP (by omega) (by omega) (t := (78, [some (.ref 0), some (.int (nI p)), some (.int (nI (P + 1))), some (.int (nI k)), some (.int (nI (b + 1)))], [], (zw_M (upd g 25 (nI (P + 2 + ((P - 1) * k + b)))) gl (va_up (va_up (va_up a 12 e12) 13 h3) 14 f14) al))) (f := (54, [some (.ref 0), some (.int (nI p)), some (.int (nI (P + 1))), some (.int (nI k)), some (.int (nI (b + 1)))], [], (zw_M (upd g 25 (nI (P + 2 + ((P - 1) * k + b)))) gl (va_up (va_up (va_up a 12 e12) 13 h3) 14 f14) al))) rfl (fun h4 => ?_) (fun h4 => ?_)
      · skip
        have e2 : b = P - 1 := by omega
        subst e2
        refine zr_go (t := (37, [some (.ref 0), some (.int (nI p)), some (.int (nI (P + 1))), some (.int ((nI k) + 1)), some (.int (nI (P - 1 + 1)))], [], (zw_M (upd g 25 (nI (P + 2 + ((P - 1) * k + (P - 1))))) gl (va_up (va_up (va_up a 12 e12) 13 h3) 14 f14) al))) 2 rfl ?_
        rw [show (P - 1) * k + (P - 1) = (P - 1) * (k + 1) from rfl] at hh3 ⊢
        rw [show (nI k) + 1 = nI (k + 1) from (zn_add rfl rfl)]
        refine zr_forget [some (.ref 0), some (.int (nI p)), some (.int (nI (P + 1))), some (.int (nI (k + 1))), none] ⟨Or.inr rfl, Or.inr rfl, Or.inr rfl, Or.inr rfl, Or.inl rfl, trivial⟩ ?_
        exact ih2 (k + 1, e12, h3) ⟨by omega, hh3⟩ (by omega)
      · skip
        obtain ⟨hw1, hw2⟩ := zv_wb hPP (by omega : k < P + 1) (by omega : b < P - 1)
        obtain ⟨hd1, hd2⟩ := zv_dm (k := k) (by omega : b < P - 1)
        obtain ⟨hv1, hv2⟩ := hv _ hw2
        rw [hd1, hd2] at hv1 hv2
        refine zr_go (t := (61, [some (.ref 0), some (.int (nI p)), some (.int (nI (P + 1))), some (.int (nI k)), some (.int (nI (b + 1)))], [.int (nI k), .ref 14, .ref 0, .ref 0], (zw_M (upd g 25 (nI (P + 2 + ((P - 1) * k + b)))) gl (va_up (va_up (va_up a 12 e12) 13 h3) 14 f14) al))) 5 rfl ?_
        refine zr_cd (t := (62, [some (.ref 0), some (.int (nI p)), some (.int (nI (P + 1))), some (.int (nI k)), some (.int (nI (b + 1)))], [.int (f14 (nI k).toNatClampNeg), .ref 0, .ref 0], (zw_M (upd g 25 (nI (P + 2 + ((P - 1) * k + b)))) gl (va_up (va_up (va_up a 12 e12) 13 h3) 14 f14) al))) rfl (pk_in k 6 (by omega) rfl (by omega)) ?_
        rw [pk_cl (x := (nI k)) k rfl (by omega)]
        rw [show f14 k = nI (f k) from hf14 k (by omega)]
        refine zr_go (t := (66, [some (.ref 0), some (.int (nI p)), some (.int (nI (P + 1))), some (.int (nI k)), some (.int (nI (b + 1)))], [.int 1, .int (nI p), .int (nI (b + 1)), .int (nI (f k)), .ref 0, .ref 0], (zw_M (upd g 25 (nI (P + 2 + ((P - 1) * k + b)))) gl (va_up (va_up (va_up a 12 e12) 13 h3) 14 f14) al))) 3 rfl ?_
        refine zr_call (t := (69, [some (.ref 0), some (.int (nI p)), some (.int (nI (P + 1))), some (.int (nI k)), some (.int (nI (b + 1)))], [.ref 0], (zw_M (upd g 25 (nI (P + 2 + ((P - 1) * k + b)))) gl (va_up (va_up (va_up a 12 e12) 13 h3) 14 f14) al))) rfl (Nat.le_of_ble_eq_true rfl : 3 ≤ 3) (zs_M_mix (upd g 25 (nI (P + 2 + ((P - 1) * k + b)))) gl (va_up (va_up (va_up a 12 e12) 13 h3) 14 f14) al P N hP hN hPP hN6 hA hnum np y hR (f k) (b + 1) p 1 (hf1 k (by omega)) (by omega) hp (by omega) hv1) ?_
        rintro _ _ ⟨rfl, d12, rfl⟩
        show zm_Run zt_get 3 zt_M_widen (69, [some (.ref 0), some (.int (nI p)), some (.int (nI (P + 1))), some (.int (nI k)), some (.int (nI (b + 1)))], [.int (nI (zv_pt P N (zv_mx P (b + 1) 1 (y (f k)) (y p)))), .ref 0], (zw_M (upd g 25 (nI (P + 2 + ((P - 1) * k + b)))) gl (va_up (va_up (va_up a 12 d12) 13 h3) 14 f14) al)) _
        refine zr_call (t := (72, [some (.ref 0), some (.int (nI p)), some (.int (nI (P + 1))), some (.int (nI k)), some (.int (nI (b + 1)))], [], (zw_M (upd g 25 (nI (P + 2 + ((P - 1) * k + b)))) gl (va_up (va_up (va_up a 12 d12) 13 h3) 14 f14) al))) rfl (Nat.le_of_ble_eq_true rfl : 1 ≤ 3) (zs_M_addTo (upd g 25 (nI (P + 2 + ((P - 1) * k + b)))) gl (va_up (va_up (va_up a 12 d12) 13 h3) 14 f14) al (zv_pt P N (zv_mx P (b + 1) 1 (y (f k)) (y p))) (by omega) (P + 2 + ((P - 1) * k + b)) (zv_wf P N y f p ((P - 1) * k + b)) rfl hh3 (by omega) (fun t ht => Nat.lt_of_lt_of_le (zv_wf_lt hf1 hp _ (fun s hs => (hv s (by omega)).2) t ht) (by omega))) ?_
        rintro _ _ ⟨rfl, h5, rfl, hh5⟩
        show zm_Run zt_get 3 zt_M_widen (72, [some (.ref 0), some (.int (nI p)), some (.int (nI (P + 1))), some (.int (nI k)), some (.int (nI (b + 1)))], [], (zw_M (upd g 25 (nI (P + 2 + ((P - 1) * k + b) + 1))) gl (va_up (va_up (va_up a 12 d12) 13 h5) 14 f14) al)) _
        refine zr_go (t := (45, [some (.ref 0), some (.int (nI p)), some (.int (nI (P + 1))), some (.int (nI k)), some (.int ((nI (b + 1)) + 1))], [], (zw_M (upd g 25 (nI (P + 2 + ((P - 1) * k + b) + 1))) gl (va_up (va_up (va_up a 12 d12) 13 h5) 14 f14) al))) 2 rfl ?_
        rw [show (nI (b + 1)) + 1 = nI ((b + 1) + 1) from (zn_add rfl rfl)]
        exact ih3 (b + 1, d12, h5) ⟨by omega, fun t ht => (hh5 t ht).trans (by show _ = nI (zv_ins _ (zv_pt P N (zv_mx P (((P - 1) * k + b) % (P - 1) + 1) 1 (y (f (((P - 1) * k + b) / (P - 1)))) (y p))) _ t); rw [hd1, hd2]; rfl)⟩ (by omega)
  · skip
    refine zr_go (t := (22, [some (.ref 0), some (.int (nI p)), some (.int (nI (P + 1))), some (.int (nI k)), none], [.int (nI k), .ref 13, .int (nI k), .ref 14], (zw_M g gl (va_up a 14 f14) al))) 6 rfl ?_
    refine zr_cd (t := (23, [some (.ref 0), some (.int (nI p)), some (.int (nI (P + 1))), some (.int (nI k)), none], [.int ((a 13) (nI k).toNatClampNeg), .int (nI k), .ref 14], (zw_M g gl (va_up a 14 f14) al))) rfl (pk_in k 31 (by omega) rfl (by omega)) ?_
    rw [pk_cl (x := (nI k)) k rfl (by omega)]
    rw [show (a 13) k = nI (f k) from hf k (by omega)]
    refine zr_cd (t := (24, [some (.ref 0), some (.int (nI p)), some (.int (nI (P + 1))), some (.int (nI k)), none], [], (zw_M g gl (va_up a 14 (upd f14 ((nI k).toNatClampNeg) (nI (f k)))) al))) rfl (pk_in k 6 (by omega) rfl (by omega)) ?_
    rw [pk_cl (x := (nI k)) k rfl (by omega)]
    refine zr_go (t := (7, [some (.ref 0), some (.int (nI p)), some (.int (nI (P + 1))), some (.int ((nI k) + 1)), none], [], (zw_M g gl (va_up a 14 (upd f14 k (nI (f k)))) al))) 2 rfl ?_
    rw [show (nI k) + 1 = nI (k + 1) from (zn_add rfl rfl)]
    exact ih (k + 1, (upd f14 k (nI (f k)))) ⟨by omega, lt_s (fun k hk => (pk_un (Nat.ne_of_lt hk)).trans (hf14 k hk)) pk_us⟩ (by omega)
theorem zs_M_isOfLine (g : Nat → Int32) (gl : Nat → Int64) (a : Nat → Nat → Int32) (al : Nat → Nat → Int64) (P : Nat) (hP : g 0 = nI P) (hP5 : P ≤ 5) (l p : Nat) (hl : l < 128) (hp : p < 1000) (f : Nat → Nat) (hf : ∀ k, k < P + 1 → a 6 (6 * l + k) = nI (f k)) (hf1 : ∀ k, k < P + 1 → f k < 1000) : zm_Ev zt_get 1 137 [.ref 0, .int (nI l), .int (nI p)] (zw_M g gl a al) (fun v w => v = some (.int (nI (zE (fun k => f k == p) (P + 1)).toNat)) ∧ w = (zw_M g gl a al)) := by
  refine zr_ev zt_M_isOfLine rfl rfl ?_
  show zm_Run zt_get 0 zt_M_isOfLine (0, [some (.ref 0), some (.int (nI l)), some (.int (nI p)), none, none], [], (zw_M g gl a al)) _
  refine zr_go (t := (5, [some (.ref 0), some (.int (nI l)), some (.int (nI p)), some (.int 0), some (.int 0)], [], (zw_M g gl a al))) 4 rfl ?_
  refine zr_loop (fun zq : Nat × Bool => (5, [some (.ref 0), some (.int (nI l)), some (.int (nI p)), some (.int (nI zq.2.toNat)), some (.int (nI zq.1))], [], (zw_M g gl a al))) (fun zq => zq.1 ≤ P + 1 ∧ zq.2 = zE (fun t => f t == p) zq.1) (fun zq => P + 1 - zq.1) ?_ (0, false) ⟨by omega, rfl⟩
  rintro ⟨k, b⟩ ⟨hk, hb⟩ ih
  try dsimp only at *
  refine zr_go (t := (11, [some (.ref 0), some (.int (nI l)), some (.int (nI p)), some (.int (nI b.toNat)), some (.int (nI k))], [.int (g 0), .int (nI k)], (zw_M g gl a al))) 3 rfl ?_
  refine zr_igt (x := nI k) (y := g 0) k P rfl hP (by omega) (by omega) (t := (46, [some (.ref 0), some (.int (nI l)), some (.int (nI p)), some (.int (nI b.toNat)), some (.int (nI k))], [], (zw_M g gl a al))) (f := (14, [some (.ref 0), some (.int (nI l)), some (.int (nI p)), some (.int (nI b.toNat)), some (.int (nI k))], [], (zw_M g gl a al))) rfl (fun h1 => ?_) (fun h1 => ?_)
  · skip
    refine zr_go (t := (47, [some (.ref 0), some (.int (nI l)), some (.int (nI p)), some (.int (nI b.toNat)), some (.int (nI k))], [.int (nI b.toNat)], (zw_M g gl a al))) 1 rfl ?_
    exact zr_ret rfl (zb_ok b) ⟨by rw [hb, show k = P + 1 by omega], rfl⟩
  · skip
    refine zr_go (t := (15, [some (.ref 0), some (.int (nI l)), some (.int (nI p)), some (.int (nI b.toNat)), some (.int (nI k))], [.int (nI b.toNat)], (zw_M g gl a al))) 1 rfl ?_
    have hb1 := zb_le b
    have hb2 := hf1 k (by omega)
    refine zr_ine (x := nI b.toNat) (y := 0) b.toNat 0 rfl rfl (by omega) (by omega) (t := (34, [some (.ref 0), some (.int (nI l)), some (.int (nI p)), some (.int (nI b.toNat)), some (.int (nI k))], [], (zw_M g gl a al))) (f := (18, [some (.ref 0), some (.int (nI l)), some (.int (nI p)), some (.int (nI b.toNat)), some (.int (nI k))], [], (zw_M g gl a al))) rfl (fun h2 => ?_) (fun h2 => ?_)
    · skip
      refine zr_go (t := (5, [some (.ref 0), some (.int (nI l)), some (.int (nI p)), some (.int 1), some (.int ((nI k) + 1))], [], (zw_M g gl a al))) 5 rfl ?_
      rw [show some (Value.int 1) = some (Value.int (nI (true).toNat)) from rfl]
      rw [show (nI k) + 1 = nI (k + 1) from (zn_add rfl rfl)]
      exact ih (k + 1, true) ⟨by omega, by show true = (zE _ k || _); rw [← hb, zb_1 h2]; rfl⟩ (by omega)
    · skip
      refine zr_go (t := (29, [some (.ref 0), some (.int (nI l)), some (.int (nI p)), some (.int (nI b.toNat)), some (.int (nI k))], [.int ((6 * (nI l)) + (nI k)), .ref 6], (zw_M g gl a al))) 7 rfl ?_
      refine zr_cd (t := (30, [some (.ref 0), some (.int (nI l)), some (.int (nI p)), some (.int (nI b.toNat)), some (.int (nI k))], [.int ((a 6) ((6 * (nI l)) + (nI k)).toNatClampNeg)], (zw_M g gl a al))) rfl (pk_in ((6 * l) + k) 768 (by omega) (zn_add (zn_mul rfl rfl) rfl) (by omega)) ?_
      rw [pk_cl (x := ((6 * (nI l)) + (nI k))) ((6 * l) + k) (zn_add (zn_mul rfl rfl) rfl) (by omega)]
      rw [show (a 6) ((6 * l) + k) = nI (f k) from hf k (by omega)]
      refine zr_go (t := (31, [some (.ref 0), some (.int (nI l)), some (.int (nI p)), some (.int (nI b.toNat)), some (.int (nI k))], [.int (nI p), .int (nI (f k))], (zw_M g gl a al))) 1 rfl ?_
      refine zr_ine (x := nI (f k)) (y := nI p) (f k) p rfl rfl (by omega) (by omega) (t := (38, [some (.ref 0), some (.int (nI l)), some (.int (nI p)), some (.int (nI b.toNat)), some (.int (nI k))], [], (zw_M g gl a al))) (f := (34, [some (.ref 0), some (.int (nI l)), some (.int (nI p)), some (.int (nI b.toNat)), some (.int (nI k))], [], (zw_M g gl a al))) rfl (fun h3 => ?_) (fun h3 => ?_)
      · skip
        refine zr_go (t := (5, [some (.ref 0), some (.int (nI l)), some (.int (nI p)), some (.int 0), some (.int ((nI k) + 1))], [], (zw_M g gl a al))) 4 rfl ?_
        rw [show some (Value.int 0) = some (Value.int (nI (false).toNat)) from rfl]
        rw [show (nI k) + 1 = nI (k + 1) from (zn_add rfl rfl)]
        exact ih (k + 1, false) ⟨by omega, by show false = (zE _ k || _); rw [← hb, zb_0 h2]; simp [h3]⟩ (by omega)
      · skip
        refine zr_go (t := (5, [some (.ref 0), some (.int (nI l)), some (.int (nI p)), some (.int 1), some (.int ((nI k) + 1))], [], (zw_M g gl a al))) 5 rfl ?_
        rw [show some (Value.int 1) = some (Value.int (nI (true).toNat)) from rfl]
        rw [show (nI k) + 1 = nI (k + 1) from (zn_add rfl rfl)]
        exact ih (k + 1, true) ⟨by omega, by show true = (zE _ k || _); rw [← hb, zb_0 h2]; simp [h3]⟩ (by omega)
/-- a pair of points, by its number, is the first two of a line that is all on -/
def zv_gl (P N np : Nat) (y : Nat → Nat → Nat) (o : Nat → Bool) (t : Nat) : Bool := decide (t / np < t % np) && (o (t / np) && (o (t % np) && (zv_lnf P N y (t / np) (t % np) P 0 == t / np && (zv_lnf P N y (t / np) (t % np) P 1 == t % np && zA (fun k => o (zv_lnf P N y (t / np) (t % np) P k)) (P + 1)))))
theorem zs_M_layLines (g : Nat → Int32) (gl : Nat → Int64) (a : Nat → Nat → Int32) (al : Nat → Nat → Int64) (P N : Nat) (hP : g 0 = nI P) (hN : g 1 = nI N) (hPP : P = 2 ∨ P = 3 ∨ P = 5) (hN6 : N ≤ 6) (hA : P ^ N ≤ 729) (hnum : ∀ t, 1 ≤ t → t < P ^ N → a 4 t = if zv_l1 P N t then nI (zv_cnt P N t) else -1) (np : Nat) (y : Nat → Nat → Nat) (hR : zc_R g a np y) (o : Nat → Bool) (hO : zc_O a np o) (hnp0 : 0 < np) (hLB : zC (zv_gl P N np y o) (np * np) ≤ 128) (hv : ∀ p q b, p < np → q < np → p ≠ q → b < P → zv_vec P N (zv_mx P b 1 (y p) (y q)) ∧ zv_pt P N (zv_mx P b 1 (y p) (y q)) < np) : zm_Ev zt_get 5 135 [.ref 0] (zw_M g gl a al) (fun v w => v = none ∧ ∃ x25 fl f12 f13, w = (zw_M (upd (upd g 12 (nI (zC (zv_gl P N np y o) (np * np)))) 25 x25) gl (va_up (va_up (va_up a 6 fl) 12 f12) 13 f13) al) ∧ ∀ t, t < np * np → zv_gl P N np y o t = true → ∀ k, k < P + 1 → fl (6 * zC (zv_gl P N np y o) t + k) = nI (zv_lnf P N y (t / np) (t % np) P k)) := by
  obtain ⟨hP0, hP5⟩ := zv_P5 hPP
  obtain ⟨hnp, hnp1, hy, hy4⟩ := id hR
  have hnn : np * np ≤ 156 * 156 := Nat.mul_le_mul hnp1 hnp1
  refine zr_ev zt_M_layLines rfl rfl ?_
  show zm_Run zt_get 4 zt_M_layLines (0, [some (.ref 0), none, none, none, none], [], (zw_M g gl a al)) _
  refine zr_go (t := (7, [some (.ref 0), some (.int 0), none, none, none], [], (zw_M (upd g 12 0) gl a al))) 5 rfl ?_
  refine zr_loop (fun zq : Nat × Nat × Int32 × (Nat → Int32) × (Nat → Int32) × (Nat → Int32) => (7, [some (.ref 0), some (.int (nI zq.1)), none, none, none], [], (zw_M (upd (upd g 12 (nI zq.2.1)) 25 zq.2.2.1) gl (va_up (va_up (va_up a 6 zq.2.2.2.1) 12 zq.2.2.2.2.1) 13 zq.2.2.2.2.2) al))) (fun zq => zq.1 ≤ np * np ∧ zq.2.1 = zC (zv_gl P N np y o) zq.1 ∧ ∀ s, s < zq.1 → zv_gl P N np y o s = true → ∀ k, k < P + 1 → zq.2.2.2.1 (6 * zC (zv_gl P N np y o) s + k) = nI (zv_lnf P N y (s / np) (s % np) P k)) (fun zq => np * np - zq.1) ?_ (0, 0, g 25, a 6, a 12, a 13) ⟨by omega, rfl, fun s h => absurd h (Nat.not_lt_zero s)⟩
  rintro ⟨t, L, x25, fl, f12, f13⟩ ⟨ht, hL, hfl⟩ ih
  try dsimp only at *
  refine zr_go (t := (17, [some (.ref 0), some (.int (nI t)), none, none, none], [.int ((g 6) * (g 6)), .int (nI t)], (zw_M (upd (upd g 12 (nI L)) 25 x25) gl (va_up (va_up (va_up a 6 fl) 12 f12) 13 f13) al))) 6 rfl ?_
  refine zr_ige (x := nI t) (y := (g 6) * (g 6)) t (np * np) rfl (zn_mul hnp hnp) (by omega) (by omega) (t := (146, [some (.ref 0), some (.int (nI t)), none, none, none], [], (zw_M (upd (upd g 12 (nI L)) 25 x25) gl (va_up (va_up (va_up a 6 fl) 12 f12) 13 f13) al))) (f := (20, [some (.ref 0), some (.int (nI t)), none, none, none], [], (zw_M (upd (upd g 12 (nI L)) 25 x25) gl (va_up (va_up (va_up a 6 fl) 12 f12) 13 f13) al))) rfl (fun h1 => ?_) (fun h1 => ?_)
  · skip
    have e1 : t = np * np := by omega
    subst e1
    subst hL
    exact zr_ret rfl trivial ⟨rfl, x25, fl, f12, f13, rfl, hfl⟩
  · skip
    have hp1 : t / np < np := Nat.div_lt_of_lt_mul h1
    have hq1 : t % np < np := Nat.mod_lt _ hnp0
    refine zr_go (t := (25, [some (.ref 0), some (.int (nI t)), none, none, none], [.int (g 6), .int (nI t)], (zw_M (upd (upd g 12 (nI L)) 25 x25) gl (va_up (va_up (va_up a 6 fl) 12 f12) 13 f13) al))) 3 rfl ?_
    refine zr_cd (t := (26, [some (.ref 0), some (.int (nI t)), none, none, none], [.int ((nI t) / (g 6))], (zw_M (upd (upd g 12 (nI L)) 25 x25) gl (va_up (va_up (va_up a 6 fl) 12 f12) 13 f13) al))) rfl (zn_ne0 hnp (by omega) (by omega)) ?_
    rw [show (nI t) / (g 6) = nI (t / np) from (zn_div rfl hnp (by omega) (by omega) (by omega))]
    refine zr_go (t := (32, [some (.ref 0), some (.int (nI t)), some (.int (nI (t / np))), none, none], [.int (g 6), .int (nI t)], (zw_M (upd (upd g 12 (nI L)) 25 x25) gl (va_up (va_up (va_up a 6 fl) 12 f12) 13 f13) al))) 4 rfl ?_
    refine zr_cd (t := (33, [some (.ref 0), some (.int (nI t)), some (.int (nI (t / np))), none, none], [.int ((nI t) - (nI t) / (g 6) * (g 6))], (zw_M (upd (upd g 12 (nI L)) 25 x25) gl (va_up (va_up (va_up a 6 fl) 12 f12) 13 f13) al))) rfl (zn_ne0 hnp (by omega) (by omega)) ?_
    rw [show (nI t) - (nI t) / (g 6) * (g 6) = nI (t % np) from (zn_rem rfl hnp (by omega) (by omega) (by omega))]
    refine zr_go (t := (36, [some (.ref 0), some (.int (nI t)), some (.int (nI (t / np))), some (.int (nI (t % np))), none], [.int (nI (t % np)), .int (nI (t / np))], (zw_M (upd (upd g 12 (nI L)) 25 x25) gl (va_up (va_up (va_up a 6 fl) 12 f12) 13 f13) al))) 3 rfl ?_
    refine zr_ige (x := nI (t / np)) (y := nI (t % np)) (t / np) (t % np) rfl rfl (by omega) (by omega) (t := (140, [some (.ref 0), some (.int (nI t)), some (.int (nI (t / np))), some (.int (nI (t % np))), none], [], (zw_M (upd (upd g 12 (nI L)) 25 x25) gl (va_up (va_up (va_up a 6 fl) 12 f12) 13 f13) al))) (f := (39, [some (.ref 0), some (.int (nI t)), some (.int (nI (t / np))), some (.int (nI (t % np))), none], [], (zw_M (upd (upd g 12 (nI L)) 25 x25) gl (va_up (va_up (va_up a 6 fl) 12 f12) 13 f13) al))) rfl (fun h2 => ?_) (fun h2 => ?_)
    · skip
      have hg0 : zv_gl P N np y o t = false := by unfold zv_gl; rw [decide_eq_false (by omega)]; rfl
      refine zr_go (t := (7, [some (.ref 0), some (.int ((nI t) + 1)), some (.int (nI (t / np))), some (.int (nI (t % np))), none], [], (zw_M (upd (upd g 12 (nI L)) 25 x25) gl (va_up (va_up (va_up a 6 fl) 12 f12) 13 f13) al))) 2 rfl ?_
      rw [show (nI t) + 1 = nI (t + 1) from (zn_add rfl rfl)]
      refine zr_forget [some (.ref 0), some (.int (nI (t + 1))), none, none, none] ⟨Or.inr rfl, Or.inr rfl, Or.inl rfl, Or.inl rfl, Or.inr rfl, trivial⟩ ?_
      exact ih (t + 1, L, x25, fl, f12, f13) ⟨by omega, by rw [hL]; show _ = _ + (zv_gl P N np y o t).toNat; rw [hg0]; rfl, fun s (hs : s < t + 1) h7 => hfl s (by have : s ≠ t := (fun q => by rw [q, hg0] at h7; cases h7); omega) h7⟩ (by omega)
    · skip
      refine zr_go (t := (44, [some (.ref 0), some (.int (nI t)), some (.int (nI (t / np))), some (.int (nI (t % np))), none], [.int (nI (t / np)), .ref 5], (zw_M (upd (upd g 12 (nI L)) 25 x25) gl (va_up (va_up (va_up a 6 fl) 12 f12) 13 f13) al))) 3 rfl ?_
      refine zr_cd (t := (45, [some (.ref 0), some (.int (nI t)), some (.int (nI (t / np))), some (.int (nI (t % np))), none], [.int ((a 5) (nI (t / np)).toNatClampNeg)], (zw_M (upd (upd g 12 (nI L)) 25 x25) gl (va_up (va_up (va_up a 6 fl) 12 f12) 13 f13) al))) rfl (pk_in (t / np) 156 (by omega) rfl (by omega)) ?_
      rw [pk_cl (x := (nI (t / np))) (t / np) rfl (by omega)]
      rw [show (a 5) (t / np) = nI ((o (t / np)).toNat) from hO (t / np) (by omega)]
      have ho1 := zb_le (o (t / np))
      refine zr_ieq (x := nI ((o (t / np)).toNat)) (y := 0) ((o (t / np)).toNat) 0 rfl rfl (by omega) (by omega) (t := (140, [some (.ref 0), some (.int (nI t)), some (.int (nI (t / np))), some (.int (nI (t % np))), none], [], (zw_M (upd (upd g 12 (nI L)) 25 x25) gl (va_up (va_up (va_up a 6 fl) 12 f12) 13 f13) al))) (f := (48, [some (.ref 0), some (.int (nI t)), some (.int (nI (t / np))), some (.int (nI (t % np))), none], [], (zw_M (upd (upd g 12 (nI L)) 25 x25) gl (va_up (va_up (va_up a 6 fl) 12 f12) 13 f13) al))) rfl (fun h3 => ?_) (fun h3 => ?_)
      · skip
        have hg0 : zv_gl P N np y o t = false := by unfold zv_gl; rw [zb_0 h3]; simp
        refine zr_go (t := (7, [some (.ref 0), some (.int ((nI t) + 1)), some (.int (nI (t / np))), some (.int (nI (t % np))), none], [], (zw_M (upd (upd g 12 (nI L)) 25 x25) gl (va_up (va_up (va_up a 6 fl) 12 f12) 13 f13) al))) 2 rfl ?_
        rw [show (nI t) + 1 = nI (t + 1) from (zn_add rfl rfl)]
        refine zr_forget [some (.ref 0), some (.int (nI (t + 1))), none, none, none] ⟨Or.inr rfl, Or.inr rfl, Or.inl rfl, Or.inl rfl, Or.inr rfl, trivial⟩ ?_
        exact ih (t + 1, L, x25, fl, f12, f13) ⟨by omega, by rw [hL]; show _ = _ + (zv_gl P N np y o t).toNat; rw [hg0]; rfl, fun s (hs : s < t + 1) h7 => hfl s (by have : s ≠ t := (fun q => by rw [q, hg0] at h7; cases h7); omega) h7⟩ (by omega)
      · skip
        refine zr_go (t := (53, [some (.ref 0), some (.int (nI t)), some (.int (nI (t / np))), some (.int (nI (t % np))), none], [.int (nI (t % np)), .ref 5], (zw_M (upd (upd g 12 (nI L)) 25 x25) gl (va_up (va_up (va_up a 6 fl) 12 f12) 13 f13) al))) 3 rfl ?_
        refine zr_cd (t := (54, [some (.ref 0), some (.int (nI t)), some (.int (nI (t / np))), some (.int (nI (t % np))), none], [.int ((a 5) (nI (t % np)).toNatClampNeg)], (zw_M (upd (upd g 12 (nI L)) 25 x25) gl (va_up (va_up (va_up a 6 fl) 12 f12) 13 f13) al))) rfl (pk_in (t % np) 156 (by omega) rfl (by omega)) ?_
        rw [pk_cl (x := (nI (t % np))) (t % np) rfl (by omega)]
        rw [show (a 5) (t % np) = nI ((o (t % np)).toNat) from hO (t % np) (by omega)]
        have ho2 := zb_le (o (t % np))
        refine zr_ieq (x := nI ((o (t % np)).toNat)) (y := 0) ((o (t % np)).toNat) 0 rfl rfl (by omega) (by omega) (t := (140, [some (.ref 0), some (.int (nI t)), some (.int (nI (t / np))), some (.int (nI (t % np))), none], [], (zw_M (upd (upd g 12 (nI L)) 25 x25) gl (va_up (va_up (va_up a 6 fl) 12 f12) 13 f13) al))) (f := (57, [some (.ref 0), some (.int (nI t)), some (.int (nI (t / np))), some (.int (nI (t % np))), none], [], (zw_M (upd (upd g 12 (nI L)) 25 x25) gl (va_up (va_up (va_up a 6 fl) 12 f12) 13 f13) al))) rfl (fun h4 => ?_) (fun h4 => ?_)
        · skip
          have hg0 : zv_gl P N np y o t = false := by unfold zv_gl; rw [zb_0 h4]; simp
          refine zr_go (t := (7, [some (.ref 0), some (.int ((nI t) + 1)), some (.int (nI (t / np))), some (.int (nI (t % np))), none], [], (zw_M (upd (upd g 12 (nI L)) 25 x25) gl (va_up (va_up (va_up a 6 fl) 12 f12) 13 f13) al))) 2 rfl ?_
          rw [show (nI t) + 1 = nI (t + 1) from (zn_add rfl rfl)]
          refine zr_forget [some (.ref 0), some (.int (nI (t + 1))), none, none, none] ⟨Or.inr rfl, Or.inr rfl, Or.inl rfl, Or.inl rfl, Or.inr rfl, trivial⟩ ?_
          exact ih (t + 1, L, x25, fl, f12, f13) ⟨by omega, by rw [hL]; show _ = _ + (zv_gl P N np y o t).toNat; rw [hg0]; rfl, fun s (hs : s < t + 1) h7 => hfl s (by have : s ≠ t := (fun q => by rw [q, hg0] at h7; cases h7); omega) h7⟩ (by omega)
        · skip
          refine zr_go (t := (60, [some (.ref 0), some (.int (nI t)), some (.int (nI (t / np))), some (.int (nI (t % np))), none], [.int (nI (t % np)), .int (nI (t / np)), .ref 0], (zw_M (upd (upd g 12 (nI L)) 25 x25) gl (va_up (va_up (va_up a 6 fl) 12 f12) 13 f13) al))) 3 rfl ?_
          have hvv := fun b hb => hv (t / np) (t % np) b hp1 hq1 (by omega) hb
          refine zr_call (t := (63, [some (.ref 0), some (.int (nI t)), some (.int (nI (t / np))), some (.int (nI (t % np))), none], [], (zw_M (upd (upd g 12 (nI L)) 25 x25) gl (va_up (va_up (va_up a 6 fl) 12 f12) 13 f13) al))) rfl (Nat.le_of_ble_eq_true rfl : 4 ≤ 4) (zs_M_layLine (upd (upd g 12 (nI L)) 25 x25) gl (va_up (va_up (va_up a 6 fl) 12 f12) 13 f13) al P N hP hN hPP hN6 hA hnum np y hR (t / np) (t % np) hp1 hq1 hvv) ?_
          rintro _ _ ⟨rfl, e12, h, rfl, hh⟩
          show zm_Run zt_get 4 zt_M_layLines (63, [some (.ref 0), some (.int (nI t)), some (.int (nI (t / np))), some (.int (nI (t % np))), none], [], (zw_M (upd (upd g 12 (nI L)) 25 (nI (P + 1))) gl (va_up (va_up (va_up a 6 fl) 12 e12) 13 h) al)) _
          have hlt := zv_lnf_lt hp1 P (fun b hb => (hvv b hb).2)
          have hl0 := hlt 0 (by omega)
          have hl1 := hlt 1 (by omega)
          refine zr_go (t := (68, [some (.ref 0), some (.int (nI t)), some (.int (nI (t / np))), some (.int (nI (t % np))), none], [.int 0, .ref 13], (zw_M (upd (upd g 12 (nI L)) 25 (nI (P + 1))) gl (va_up (va_up (va_up a 6 fl) 12 e12) 13 h) al))) 3 rfl ?_
          refine zr_cd (t := (69, [some (.ref 0), some (.int (nI t)), some (.int (nI (t / np))), some (.int (nI (t % np))), none], [.int (h (0 : Int32).toNatClampNeg)], (zw_M (upd (upd g 12 (nI L)) 25 (nI (P + 1))) gl (va_up (va_up (va_up a 6 fl) 12 e12) 13 h) al))) rfl (pk_in 0 31 (by omega) rfl (by omega)) ?_
          rw [pk_cl (x := (0 : Int32)) 0 rfl (by omega)]
          rw [show h 0 = nI (zv_lnf P N y (t / np) (t % np) P 0) from hh 0 (by omega)]
          refine zr_go (t := (70, [some (.ref 0), some (.int (nI t)), some (.int (nI (t / np))), some (.int (nI (t % np))), none], [.int (nI (t / np)), .int (nI (zv_lnf P N y (t / np) (t % np) P 0))], (zw_M (upd (upd g 12 (nI L)) 25 (nI (P + 1))) gl (va_up (va_up (va_up a 6 fl) 12 e12) 13 h) al))) 1 rfl ?_
          refine zr_ine (x := nI (zv_lnf P N y (t / np) (t % np) P 0)) (y := nI (t / np)) (zv_lnf P N y (t / np) (t % np) P 0) (t / np) rfl rfl (by omega) (by omega) (t := (140, [some (.ref 0), some (.int (nI t)), some (.int (nI (t / np))), some (.int (nI (t % np))), none], [], (zw_M (upd (upd g 12 (nI L)) 25 (nI (P + 1))) gl (va_up (va_up (va_up a 6 fl) 12 e12) 13 h) al))) (f := (73, [some (.ref 0), some (.int (nI t)), some (.int (nI (t / np))), some (.int (nI (t % np))), none], [], (zw_M (upd (upd g 12 (nI L)) 25 (nI (P + 1))) gl (va_up (va_up (va_up a 6 fl) 12 e12) 13 h) al))) rfl (fun h5 => ?_) (fun h5 => ?_)
          · skip
            have hg0 : zv_gl P N np y o t = false := by unfold zv_gl; simp [h5]
            refine zr_go (t := (7, [some (.ref 0), some (.int ((nI t) + 1)), some (.int (nI (t / np))), some (.int (nI (t % np))), none], [], (zw_M (upd (upd g 12 (nI L)) 25 (nI (P + 1))) gl (va_up (va_up (va_up a 6 fl) 12 e12) 13 h) al))) 2 rfl ?_
            rw [show (nI t) + 1 = nI (t + 1) from (zn_add rfl rfl)]
            refine zr_forget [some (.ref 0), some (.int (nI (t + 1))), none, none, none] ⟨Or.inr rfl, Or.inr rfl, Or.inl rfl, Or.inl rfl, Or.inr rfl, trivial⟩ ?_
            exact ih (t + 1, L, nI (P + 1), fl, e12, h) ⟨by omega, by rw [hL]; show _ = _ + (zv_gl P N np y o t).toNat; rw [hg0]; rfl, fun s (hs : s < t + 1) h7 => hfl s (by have : s ≠ t := (fun q => by rw [q, hg0] at h7; cases h7); omega) h7⟩ (by omega)
          · skip
            refine zr_go (t := (78, [some (.ref 0), some (.int (nI t)), some (.int (nI (t / np))), some (.int (nI (t % np))), none], [.int 1, .ref 13], (zw_M (upd (upd g 12 (nI L)) 25 (nI (P + 1))) gl (va_up (va_up (va_up a 6 fl) 12 e12) 13 h) al))) 3 rfl ?_
            refine zr_cd (t := (79, [some (.ref 0), some (.int (nI t)), some (.int (nI (t / np))), some (.int (nI (t % np))), none], [.int (h (1 : Int32).toNatClampNeg)], (zw_M (upd (upd g 12 (nI L)) 25 (nI (P + 1))) gl (va_up (va_up (va_up a 6 fl) 12 e12) 13 h) al))) rfl (pk_in 1 31 (by omega) rfl (by omega)) ?_
            rw [pk_cl (x := (1 : Int32)) 1 rfl (by omega)]
            rw [show h 1 = nI (zv_lnf P N y (t / np) (t % np) P 1) from hh 1 (by omega)]
            refine zr_go (t := (80, [some (.ref 0), some (.int (nI t)), some (.int (nI (t / np))), some (.int (nI (t % np))), none], [.int (nI (t % np)), .int (nI (zv_lnf P N y (t / np) (t % np) P 1))], (zw_M (upd (upd g 12 (nI L)) 25 (nI (P + 1))) gl (va_up (va_up (va_up a 6 fl) 12 e12) 13 h) al))) 1 rfl ?_
            refine zr_ine (x := nI (zv_lnf P N y (t / np) (t % np) P 1)) (y := nI (t % np)) (zv_lnf P N y (t / np) (t % np) P 1) (t % np) rfl rfl (by omega) (by omega) (t := (140, [some (.ref 0), some (.int (nI t)), some (.int (nI (t / np))), some (.int (nI (t % np))), none], [], (zw_M (upd (upd g 12 (nI L)) 25 (nI (P + 1))) gl (va_up (va_up (va_up a 6 fl) 12 e12) 13 h) al))) (f := (83, [some (.ref 0), some (.int (nI t)), some (.int (nI (t / np))), some (.int (nI (t % np))), none], [], (zw_M (upd (upd g 12 (nI L)) 25 (nI (P + 1))) gl (va_up (va_up (va_up a 6 fl) 12 e12) 13 h) al))) rfl (fun h6 => ?_) (fun h6 => ?_)
            · skip
              have hg0 : zv_gl P N np y o t = false := by unfold zv_gl; simp [h6]
              refine zr_go (t := (7, [some (.ref 0), some (.int ((nI t) + 1)), some (.int (nI (t / np))), some (.int (nI (t % np))), none], [], (zw_M (upd (upd g 12 (nI L)) 25 (nI (P + 1))) gl (va_up (va_up (va_up a 6 fl) 12 e12) 13 h) al))) 2 rfl ?_
              rw [show (nI t) + 1 = nI (t + 1) from (zn_add rfl rfl)]
              refine zr_forget [some (.ref 0), some (.int (nI (t + 1))), none, none, none] ⟨Or.inr rfl, Or.inr rfl, Or.inl rfl, Or.inl rfl, Or.inr rfl, trivial⟩ ?_
              exact ih (t + 1, L, nI (P + 1), fl, e12, h) ⟨by omega, by rw [hL]; show _ = _ + (zv_gl P N np y o t).toNat; rw [hg0]; rfl, fun s (hs : s < t + 1) h7 => hfl s (by have : s ≠ t := (fun q => by rw [q, hg0] at h7; cases h7); omega) h7⟩ (by omega)
            · skip
              refine zr_go (t := (84, [some (.ref 0), some (.int (nI t)), some (.int (nI (t / np))), some (.int (nI (t % np))), none], [.ref 0], (zw_M (upd (upd g 12 (nI L)) 25 (nI (P + 1))) gl (va_up (va_up (va_up a 6 fl) 12 e12) 13 h) al))) 1 rfl ?_
              refine zr_call (t := (87, [some (.ref 0), some (.int (nI t)), some (.int (nI (t / np))), some (.int (nI (t % np))), none], [], (zw_M (upd (upd g 12 (nI L)) 25 (nI (P + 1))) gl (va_up (va_up (va_up a 6 fl) 12 e12) 13 h) al))) rfl (Nat.le_of_ble_eq_true rfl : 1 ≤ 4) (zs_M_areOn (upd (upd g 12 (nI L)) 25 (nI (P + 1))) gl (va_up (va_up (va_up a 6 fl) 12 e12) 13 h) al np hnp1 o hO (P + 1) (zv_lnf P N y (t / np) (t % np) P) rfl hh (by omega) hlt) ?_
              rintro _ _ ⟨rfl, rfl⟩
              show zm_Run zt_get 4 zt_M_layLines (87, [some (.ref 0), some (.int (nI t)), some (.int (nI (t / np))), some (.int (nI (t % np))), none], [.int (nI ((zA (fun k => o (zv_lnf P N y (t / np) (t % np) P k)) (P + 1)).toNat))], (zw_M (upd (upd g 12 (nI L)) 25 (nI (P + 1))) gl (va_up (va_up (va_up a 6 fl) 12 e12) 13 h) al)) _
              have ho3 := zb_le (zA (fun k => o (zv_lnf P N y (t / np) (t % np) P k)) (P + 1))
              refine zr_ieq (x := nI ((zA (fun k => o (zv_lnf P N y (t / np) (t % np) P k)) (P + 1)).toNat)) (y := 0) ((zA (fun k => o (zv_lnf P N y (t / np) (t % np) P k)) (P + 1)).toNat) 0 rfl rfl (by omega) (by omega) (t := (140, [some (.ref 0), some (.int (nI t)), some (.int (nI (t / np))), some (.int (nI (t % np))), none], [], (zw_M (upd (upd g 12 (nI L)) 25 (nI (P + 1))) gl (va_up (va_up (va_up a 6 fl) 12 e12) 13 h) al))) (f := (90, [some (.ref 0), some (.int (nI t)), some (.int (nI (t / np))), some (.int (nI (t % np))), none], [], (zw_M (upd (upd g 12 (nI L)) 25 (nI (P + 1))) gl (va_up (va_up (va_up a 6 fl) 12 e12) 13 h) al))) rfl (fun h7 => ?_) (fun h7 => ?_)
              · skip
                have hg0 : zv_gl P N np y o t = false := by unfold zv_gl; rw [zb_0 h7]; simp
                refine zr_go (t := (7, [some (.ref 0), some (.int ((nI t) + 1)), some (.int (nI (t / np))), some (.int (nI (t % np))), none], [], (zw_M (upd (upd g 12 (nI L)) 25 (nI (P + 1))) gl (va_up (va_up (va_up a 6 fl) 12 e12) 13 h) al))) 2 rfl ?_
                rw [show (nI t) + 1 = nI (t + 1) from (zn_add rfl rfl)]
                refine zr_forget [some (.ref 0), some (.int (nI (t + 1))), none, none, none] ⟨Or.inr rfl, Or.inr rfl, Or.inl rfl, Or.inl rfl, Or.inr rfl, trivial⟩ ?_
                exact ih (t + 1, L, nI (P + 1), fl, e12, h) ⟨by omega, by rw [hL]; show _ = _ + (zv_gl P N np y o t).toNat; rw [hg0]; rfl, fun s (hs : s < t + 1) h7 => hfl s (by have : s ≠ t := (fun q => by rw [q, hg0] at h7; cases h7); omega) h7⟩ (by omega)
              · skip
                have hg1 : zv_gl P N np y o t = true := by unfold zv_gl; rw [decide_eq_true h2, zb_1 h3, zb_1 h4, zb_1 h7]; simp [h5, h6]
                have hL2 : L + 1 = zC (zv_gl P N np y o) (t + 1) := by rw [hL]; show _ = _ + (zv_gl P N np y o t).toNat; rw [hg1]; rfl
                have hL3 : L + 1 ≤ 128 := by rw [hL2]; exact Nat.le_trans (zC_mono _ (by omega)) hLB
                refine zr_go (t := (93, [some (.ref 0), some (.int (nI t)), some (.int (nI (t / np))), some (.int (nI (t % np))), some (.int 0)], [], (zw_M (upd (upd g 12 (nI L)) 25 (nI (P + 1))) gl (va_up (va_up (va_up a 6 fl) 12 e12) 13 h) al))) 2 rfl ?_
                refine zr_loop (fun zq : Nat × (Nat → Int32) => (93, [some (.ref 0), some (.int (nI t)), some (.int (nI (t / np))), some (.int (nI (t % np))), some (.int (nI zq.1))], [], (zw_M (upd (upd g 12 (nI L)) 25 (nI (P + 1))) gl (va_up (va_up (va_up a 6 zq.2) 12 e12) 13 h) al))) (fun zq => zq.1 ≤ P + 1 ∧ (∀ s, s < 6 * L → zq.2 s = fl s) ∧ ∀ s, s < zq.1 → zq.2 (6 * L + s) = nI (zv_lnf P N y (t / np) (t % np) P s)) (fun zq => P + 1 - zq.1) ?_ (0, fl) ⟨by omega, fun s _ => rfl, fun s h => absurd h (Nat.not_lt_zero s)⟩
                rintro ⟨k, fs⟩ ⟨hk, hs1, hs2⟩ ih3
                try dsimp only at *
                refine zr_go (t := (99, [some (.ref 0), some (.int (nI t)), some (.int (nI (t / np))), some (.int (nI (t % np))), some (.int (nI k))], [.int (nI (P + 1)), .int (nI k)], (zw_M (upd (upd g 12 (nI L)) 25 (nI (P + 1))) gl (va_up (va_up (va_up a 6 fs) 12 e12) 13 h) al))) 3 rfl ?_
                refine zr_ige (x := nI k) (y := nI (P + 1)) k (P + 1) rfl rfl (by omega) (by omega) (t := (130, [some (.ref 0), some (.int (nI t)), some (.int (nI (t / np))), some (.int (nI (t % np))), some (.int (nI k))], [], (zw_M (upd (upd g 12 (nI L)) 25 (nI (P + 1))) gl (va_up (va_up (va_up a 6 fs) 12 e12) 13 h) al))) (f := (102, [some (.ref 0), some (.int (nI t)), some (.int (nI (t / np))), some (.int (nI (t % np))), some (.int (nI k))], [], (zw_M (upd (upd g 12 (nI L)) 25 (nI (P + 1))) gl (va_up (va_up (va_up a 6 fs) 12 e12) 13 h) al))) rfl (fun h8 => ?_) (fun h8 => ?_)
                · skip
                  refine zr_go (t := (7, [some (.ref 0), some (.int ((nI t) + 1)), some (.int (nI (t / np))), some (.int (nI (t % np))), some (.int (nI k))], [], (zw_M (upd (upd g 12 ((nI L) + 1)) 25 (nI (P + 1))) gl (va_up (va_up (va_up a 6 fs) 12 e12) 13 h) al))) 8 rfl ?_
                  rw [show (nI t) + 1 = nI (t + 1) from (zn_add rfl rfl)]
                  rw [show (nI L) + 1 = nI (L + 1) from (zn_add rfl rfl)]
                  refine zr_forget [some (.ref 0), some (.int (nI (t + 1))), none, none, none] ⟨Or.inr rfl, Or.inr rfl, Or.inl rfl, Or.inl rfl, Or.inl rfl, trivial⟩ ?_
                  exact ih (t + 1, L + 1, nI (P + 1), fs, e12, h) ⟨by omega, hL2, fun s (hs : s < t + 1) h9 k2 hk2 => if e : s = t then by subst e; rw [← hL]; exact hs2 k2 (by omega) else (hs1 _ (by have h10 : zC (zv_gl P N np y o) s + 1 ≤ zC (zv_gl P N np y o) t := zC_lt h9 (by omega); omega)).trans (hfl s (by omega) h9 k2 hk2)⟩ (by omega)
                · skip
                  refine zr_go (t := (122, [some (.ref 0), some (.int (nI t)), some (.int (nI (t / np))), some (.int (nI (t % np))), some (.int (nI k))], [.int (nI k), .ref 13, .int ((6 * (nI L)) + (nI k)), .ref 6], (zw_M (upd (upd g 12 (nI L)) 25 (nI (P + 1))) gl (va_up (va_up (va_up a 6 fs) 12 e12) 13 h) al))) 11 rfl ?_
                  refine zr_cd (t := (123, [some (.ref 0), some (.int (nI t)), some (.int (nI (t / np))), some (.int (nI (t % np))), some (.int (nI k))], [.int (h (nI k).toNatClampNeg), .int ((6 * (nI L)) + (nI k)), .ref 6], (zw_M (upd (upd g 12 (nI L)) 25 (nI (P + 1))) gl (va_up (va_up (va_up a 6 fs) 12 e12) 13 h) al))) rfl (pk_in k 31 (by omega) rfl (by omega)) ?_
                  rw [pk_cl (x := (nI k)) k rfl (by omega)]
                  rw [show h k = nI (zv_lnf P N y (t / np) (t % np) P k) from hh k (by omega)]
                  refine zr_cd (t := (124, [some (.ref 0), some (.int (nI t)), some (.int (nI (t / np))), some (.int (nI (t % np))), some (.int (nI k))], [], (zw_M (upd (upd g 12 (nI L)) 25 (nI (P + 1))) gl (va_up (va_up (va_up a 6 (upd fs (((6 * (nI L)) + (nI k)).toNatClampNeg) (nI (zv_lnf P N y (t / np) (t % np) P k)))) 12 e12) 13 h) al))) rfl (pk_in ((6 * L) + k) 768 (by omega) (zn_add (zn_mul rfl rfl) rfl) (by omega)) ?_
                  rw [pk_cl (x := ((6 * (nI L)) + (nI k))) ((6 * L) + k) (zn_add (zn_mul rfl rfl) rfl) (by omega)]
                  refine zr_go (t := (93, [some (.ref 0), some (.int (nI t)), some (.int (nI (t / np))), some (.int (nI (t % np))), some (.int ((nI k) + 1))], [], (zw_M (upd (upd g 12 (nI L)) 25 (nI (P + 1))) gl (va_up (va_up (va_up a 6 (upd fs ((6 * L) + k) (nI (zv_lnf P N y (t / np) (t % np) P k)))) 12 e12) 13 h) al))) 2 rfl ?_
                  rw [show (nI k) + 1 = nI (k + 1) from (zn_add rfl rfl)]
                  exact ih3 (k + 1, (upd fs ((6 * L) + k) (nI (zv_lnf P N y (t / np) (t % np) P k)))) ⟨by omega, fun s h => (pk_un (by omega)).trans (hs1 s h), fun s h => if e : s = k then by subst e; exact pk_us else (pk_un (by omega)).trans (hs2 s (by omega))⟩ (by omega)
