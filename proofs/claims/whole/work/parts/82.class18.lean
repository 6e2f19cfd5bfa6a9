/-! the class: put .. like (written by wip/whole/gen_c18.py) -/
theorem zK_nw {g g' : Nat → Int32} {a a' : Nat → Nat → Int32} {al al' : Nat → Nat → Int64} {P N : Nat} {c e : Nat → Nat} {sv bt : Bool} {n0 : Nat} {e0 : Nat → Nat} {n1 : Nat} {e1 : Nat → Nat} (h : zK_1 g a al P N c sv bt n0 e0 n1 e1) (hP : 0 < N) (hm : zC_m (a' 11) 6 e) (h4 : ∀ k, k < 36 → e k ≤ 4) (hcP : ∀ k l, k < N → l < N → zx_S e k l < P) (g4 : g' 4 = 0) (g5 : g' 5 = 0) (g24 : g' 24 = 0) (g26 : g' 26 = 0) (g11 : g' 11 = g 11) (g12 : g' 12 = g 12) (g15 : g' 15 = g 15) (g16 : g' 16 = g 16) (g17 : g' 17 = g 17) (a15 : a' 15 = a 15) : zK_1 g' a' al' P N e false false 0 e0 0 e1 := by
  obtain ⟨-, -, -, -, -, -, h12, ⟨-, q, -⟩ | ⟨⟨hok, h11, -, hQ⟩, -⟩⟩ := h
  · omega
  · refine ⟨hm, h4, g4, g5, g24, g26, g12.trans h12, Or.inr ⟨⟨hok, g11.trans h11, hcP, ?_⟩, fun q => absurd q (by decide), fun q => absurd q (by decide), fun _ => ⟨rfl, rfl⟩⟩⟩
    unfold zQ_P at hQ ⊢
    rw [g15, g16, g17, a15]
    exact hQ
theorem zx_S36 {c : Nat → Nat} {P N : Nat} (h : ∀ k l, k < N → l < N → zx_S c k l < P) {k l v : Nat} (hk : k < N) (hl : l < N) (hN : N ≤ 6) (hv : v < P) : ∀ i j, i < N → j < N → zx_S (zu_c c (zq_pl k l) v) i j < P := by
  intro i j hi hj
  unfold zx_S
  rw [zu_pl (by omega) (by omega) (by omega) (by omega)]
  split
  · exact hv
  · exact h i j hi hj
def ac_put (P N : Nat) (c : Nat → Nat) (x y z : Int32) : Int32 := if zx_in x N = true ∧ zx_in y N = true then (if zx_in z P = true then nI (c (zq_pl (zx_k x) (zx_k y))) else -102) else -101
def zj_gp (P N : Nat) (x y z : Int32) : Prop := zx_in x N = true ∧ zx_in y N = true ∧ zx_in z P = true
theorem zx_inP {x : Int32} {n : Nat} (h : ¬ x < 0) (h2 : x < nI n) (hn : n < 1000) : zx_in x n = true := by
  rw [Int32.lt_iff_toInt_lt, show (0 : Int32).toInt = 0 from rfl] at h
  rw [Int32.lt_iff_toInt_lt, nI_toInt (by omega)] at h2
  exact decide_eq_true ⟨by omega, by omega⟩
theorem zx_inN {x : Int32} {n : Nat} (h2 : ¬ x < nI n) (hn : n < 1000) : zx_in x n = false := by
  rw [Int32.lt_iff_toInt_lt, nI_toInt (by omega)] at h2
  exact decide_eq_false (fun q => by omega)
/-- 1 to P - 1 -/
def zx_1P (x : Int32) (P : Nat) : Bool := decide (1 ≤ x.toInt ∧ x.toInt < P)
theorem zx_1l {x : Int32} {P : Nat} (h : x < 1) : zx_1P x P = false := by
  rw [Int32.lt_iff_toInt_lt, show (1 : Int32).toInt = 1 from rfl] at h
  exact decide_eq_false (fun q => by omega)
theorem zx_1g {x : Int32} {P : Nat} (h2 : ¬ x < nI P) (hn : P < 1000) : zx_1P x P = false := by
  rw [Int32.lt_iff_toInt_lt, nI_toInt (by omega)] at h2
  exact decide_eq_false (fun q => by omega)
theorem zx_1t {x : Int32} {P : Nat} (h : ¬ x < 1) (h2 : x < nI P) (hn : P < 1000) : zx_1P x P = true ∧ 1 ≤ zx_k x ∧ zx_k x < P ∧ x = nI (zx_k x) := by
  rw [Int32.lt_iff_toInt_lt, show (1 : Int32).toInt = 1 from rfl] at h
  rw [Int32.lt_iff_toInt_lt, nI_toInt (by omega)] at h2
  have h3 : zx_in x P = true := decide_eq_true ⟨by omega, by omega⟩
  obtain ⟨h4, h5⟩ := zx_of h3
  exact ⟨decide_eq_true ⟨by omega, by omega⟩, by unfold zx_k; omega, h4, h5⟩
theorem zp_C_put (w0 : List zm_E) (P N : Nat) (c : Nat → Nat) (n0 : Nat) (e0 : Nat → Nat) (n1 : Nat) (e1 : Nat → Nat) (n : Nat) (cd : Nat → Nat) (K M : Nat) (e : Nat → Nat) (fr fi wa : Nat) (hw : zKW w0 P N c n0 e0 n1 e1 n cd K M e fr fi wa) (x y z : Int32) : zm_Ev zt_get 3 77 [.ref 0, .int x, .int y, .int z] w0 (fun v w => v = some (.int (ac_put P N c x y z)) ∧ ((zj_gp P N x y z ∧ zKW w P N (zu_c c (zq_pl (zx_k x) (zx_k y)) (zx_k z)) 0 e0 0 e1 n cd K M e fr fi wa) ∨ (¬ zj_gp P N x y z ∧ zKW w P N c n0 e0 n1 e1 n cd K M e fr fi wa))) := by
  obtain ⟨g, gl, a, al, sv, bt, rfl, hK, hr⟩ := hw
  unfold ac_put zj_gp
  obtain ⟨hm, hc4, h4, h5, h24, h26, h12, hcase⟩ := id hK
  have hN6 : N ≤ 6 := by rcases hcase with ⟨_, q, _⟩ | ⟨⟨hok, _⟩, _⟩ <;> first | omega | exact zv_okN hok
  have hPN : 0 < N → zv_ok P N ∧ g 11 = nI P ∧ (∀ k l, k < N → l < N → zx_S c k l < P) := by rcases hcase with ⟨_, q, _⟩ | ⟨⟨hok, h11, hcP, _⟩, _⟩ <;> first | exact fun z => by omega | exact fun _ => ⟨hok, h11, hcP⟩
  refine zr_ev zt_X_put rfl rfl ?_
  show zm_Run zt_get 2 zt_X_put (0, [some (.ref 0), some (.int x), some (.int y), some (.int z), none], [], (zw_C g gl a al)) _
  refine zr_go (t := (5, [some (.ref 0), some (.int x), some (.int y), some (.int z), none], [.int x, .ref 2], (zw_C g gl a al))) 3 rfl ?_
  refine zr_call (t := (8, [some (.ref 0), some (.int x), some (.int y), some (.int z), none], [], (zw_C g gl a al))) rfl (Nat.le_of_ble_eq_true rfl : 1 ≤ 2) (zs_C_hasVar g gl a al N h12 (by omega) x) ?_
  rintro _ _ ⟨rfl, rfl⟩
  show zm_Run zt_get 2 zt_X_put (8, [some (.ref 0), some (.int x), some (.int y), some (.int z), none], [.int (nI ((zx_in x N).toNat))], (zw_C g gl a al)) _
  have hb_x := zb_le (zx_in x N)
  refine zr_ieq (x := nI ((zx_in x N).toNat)) (y := 0) ((zx_in x N).toNat) 0 rfl rfl (by omega) (by omega) (t := (22, [some (.ref 0), some (.int x), some (.int y), some (.int z), none], [], (zw_C g gl a al))) (f := (11, [some (.ref 0), some (.int x), some (.int y), some (.int z), none], [], (zw_C g gl a al))) rfl (fun h1 => ?_) (fun h1 => ?_)
  · skip
    have hx := zb_0n _ h1
    refine zr_go (t := (24, [some (.ref 0), some (.int x), some (.int y), some (.int z), none], [.int (-101)], (zw_C g gl a al))) 1 rfl ?_
    rw [if_neg (fun q => by rw [hx] at q; exact absurd q.1 (by decide))]
    exact zr_ret rfl trivial ⟨rfl, Or.inr ⟨fun q => by rw [hx] at q; exact absurd q.1 (by decide), g, gl, a, al, sv, bt, rfl, hK, hr⟩⟩
  · skip
    have hx := zb_1n _ h1
    refine zr_go (t := (16, [some (.ref 0), some (.int x), some (.int y), some (.int z), none], [.int y, .ref 2], (zw_C g gl a al))) 3 rfl ?_
    refine zr_call (t := (19, [some (.ref 0), some (.int x), some (.int y), some (.int z), none], [], (zw_C g gl a al))) rfl (Nat.le_of_ble_eq_true rfl : 1 ≤ 2) (zs_C_hasVar g gl a al N h12 (by omega) y) ?_
    rintro _ _ ⟨rfl, rfl⟩
    show zm_Run zt_get 2 zt_X_put (19, [some (.ref 0), some (.int x), some (.int y), some (.int z), none], [.int (nI ((zx_in y N).toNat))], (zw_C g gl a al)) _
    have hb_y := zb_le (zx_in y N)
    refine zr_ine (x := nI ((zx_in y N).toNat)) (y := 0) ((zx_in y N).toNat) 0 rfl rfl (by omega) (by omega) (t := (25, [some (.ref 0), some (.int x), some (.int y), some (.int z), none], [], (zw_C g gl a al))) (f := (22, [some (.ref 0), some (.int x), some (.int y), some (.int z), none], [], (zw_C g gl a al))) rfl (fun h2 => ?_) (fun h2 => ?_)
    · skip
      have hy := zb_1n _ h2
      rw [if_pos ⟨hx, hy⟩]
      obtain ⟨hx1, hx2⟩ := zx_of hx
      obtain ⟨hok, h11, hcP⟩ := hPN (by omega)
      obtain ⟨hP0, hP5⟩ := zv_P5 hok.1
      have hN3 := hok.2.1
      obtain ⟨hy1, hy2⟩ := zx_of hy
      refine zr_go (t := (26, [some (.ref 0), some (.int x), some (.int y), some (.int z), none], [.int z], (zw_C g gl a al))) 1 rfl ?_
      refine zr_if (c := z < 0) (t := (40, [some (.ref 0), some (.int x), some (.int y), some (.int z), none], [], (zw_C g gl a al))) (f := (29, [some (.ref 0), some (.int x), some (.int y), some (.int z), none], [], (zw_C g gl a al))) rfl (fun h3 => ?_) (fun h3 => ?_)
      · skip
        have hz : zx_in z P = false := zx_rl h3
        rw [if_neg (by rw [hz]; decide)]
        refine zr_go (t := (42, [some (.ref 0), some (.int x), some (.int y), some (.int z), none], [.int (-102)], (zw_C g gl a al))) 1 rfl ?_
        exact zr_ret rfl trivial ⟨rfl, Or.inr ⟨fun q => by rw [hz] at q; exact absurd q.2.2 (by decide), g, gl, a, al, sv, bt, rfl, hK, hr⟩⟩
      · skip
        refine zr_go (t := (37, [some (.ref 0), some (.int x), some (.int y), some (.int z), none], [.int (g 11), .int z], (zw_C g gl a al))) 4 rfl ?_
        rw [h11]
        refine zr_if (c := z < (nI P)) (t := (43, [some (.ref 0), some (.int x), some (.int y), some (.int z), none], [], (zw_C g gl a al))) (f := (40, [some (.ref 0), some (.int x), some (.int y), some (.int z), none], [], (zw_C g gl a al))) rfl (fun h4z => ?_) (fun h4z => ?_)
        · skip
          have hz := zx_inP h3 h4z (by omega)
          rw [if_pos hz]
          obtain ⟨hz1, hz2⟩ := zx_of hz
          obtain ⟨i, hi⟩ : ∃ k, k = zx_k x := ⟨_, rfl⟩
          rw [← hi] at hx1 hx2 ⊢
          obtain ⟨j, hj⟩ : ∃ k, k = zx_k y := ⟨_, rfl⟩
          rw [← hj] at hy1 hy2 ⊢
          obtain ⟨t, ht⟩ : ∃ k, k = zx_k z := ⟨_, rfl⟩
          rw [← ht] at hz1 hz2 ⊢
          refine zr_go (t := (49, [some (.ref 0), some (.int x), some (.int y), some (.int z), none], [.int y, .int x, .ref 2], (zw_C g gl a al))) 4 rfl ?_
          have hcell := zs_C_cell_2 g gl a al c hm i j (by omega) (by omega)
          rw [← hx2, ← hy2] at hcell
          refine zr_call (t := (52, [some (.ref 0), some (.int x), some (.int y), some (.int z), none], [], (zw_C g gl a al))) rfl (Nat.le_of_ble_eq_true rfl : 1 ≤ 2) hcell ?_
          rintro _ _ ⟨rfl, rfl⟩
          show zm_Run zt_get 2 zt_X_put (52, [some (.ref 0), some (.int x), some (.int y), some (.int z), none], [.int (nI (c (zq_pl i j)))], (zw_C g gl a al)) _
          refine zr_go (t := (61, [some (.ref 0), some (.int x), some (.int y), some (.int z), some (.int (nI (c (zq_pl i j))))], [.int z, .int y, .int x, .ref 2], (zw_C g gl a al))) 6 rfl ?_
          have hst := zs_C_store g gl a al P h11 hP0 hP5 c hm i j (by omega) (by omega) z
          rw [← hx2, ← hy2] at hst
          refine zr_call (t := (64, [some (.ref 0), some (.int x), some (.int y), some (.int z), some (.int (nI (c (zq_pl i j))))], [], (zw_C g gl a al))) rfl (Nat.le_of_ble_eq_true rfl : 2 ≤ 2) hst ?_
          rintro _ _ ⟨rfl, f11, rfl, hm2⟩
          show zm_Run zt_get 2 zt_X_put (64, [some (.ref 0), some (.int x), some (.int y), some (.int z), some (.int (nI (c (zq_pl i j))))], [], (zw_C g gl (va_up a 11 f11) al)) _
          have hzt : zz_mod z P = t := by rw [hz2, zz_modn (by omega), Nat.mod_eq_of_lt hz1]
          rw [hzt] at hm2
          refine zr_go (t := (65, [some (.ref 0), some (.int x), some (.int y), some (.int z), some (.int (nI (c (zq_pl i j))))], [.ref 0], (zw_C g gl (va_up a 11 f11) al))) 1 rfl ?_
          refine zr_call (t := (68, [some (.ref 0), some (.int x), some (.int y), some (.int z), some (.int (nI (c (zq_pl i j))))], [], (zw_C g gl (va_up a 11 f11) al))) rfl (Nat.le_of_ble_eq_true rfl : 1 ≤ 2) (zs_C_forget g gl (va_up a 11 f11) al) ?_
          rintro _ _ ⟨rfl, rfl⟩
          show zm_Run zt_get 2 zt_X_put (68, [some (.ref 0), some (.int x), some (.int y), some (.int z), some (.int (nI (c (zq_pl i j))))], [], (zw_C (upd (upd (upd (upd g 4 0) 5 0) 24 0) 26 0) gl (va_up a 11 f11) al)) _
          refine zr_go (t := (70, [some (.ref 0), some (.int x), some (.int y), some (.int z), some (.int (nI (c (zq_pl i j))))], [.int (nI (c (zq_pl i j)))], (zw_C (upd (upd (upd (upd g 4 0) 5 0) 24 0) 26 0) gl (va_up a 11 f11) al))) 1 rfl ?_
          exact zr_ret rfl trivial ⟨rfl, Or.inl ⟨⟨hx, hy, hz⟩, _, gl, _, al, false, false, rfl, zK_nw hK (by omega) hm2 (fun k hk => zu_le4 hc4 (by omega) k hk) (zx_S36 hcP hx1 hy1 hN6 hz1) rfl rfl rfl rfl rfl rfl rfl rfl rfl rfl, hr⟩⟩
        · skip
          have hz : zx_in z P = false := zx_inN h4z (by omega)
          rw [if_neg (by rw [hz]; decide)]
          refine zr_go (t := (42, [some (.ref 0), some (.int x), some (.int y), some (.int z), none], [.int (-102)], (zw_C g gl a al))) 1 rfl ?_
          exact zr_ret rfl trivial ⟨rfl, Or.inr ⟨fun q => by rw [hz] at q; exact absurd q.2.2 (by decide), g, gl, a, al, sv, bt, rfl, hK, hr⟩⟩
    · skip
      have hy := zb_0n _ h2
      rw [if_neg (fun q => by rw [hy] at q; exact absurd q.2 (by decide))]
      refine zr_go (t := (24, [some (.ref 0), some (.int x), some (.int y), some (.int z), none], [.int (-101)], (zw_C g gl a al))) 1 rfl ?_
      exact zr_ret rfl trivial ⟨rfl, Or.inr ⟨fun q => by rw [hy] at q; exact absurd q.2.1 (by decide), g, gl, a, al, sv, bt, rfl, hK, hr⟩⟩
theorem zx_sgN {i j k N : Nat} (hi : i < N) (hj : j < N) (hk : k < N) : zx_sg i j k < N := by
  unfold zx_sg; split
  · omega
  · split <;> omega
theorem zx_shP {P N : Nat} {S : Nat → Nat → Nat} {i j q : Nat} (hP : 0 < P) (h : ∀ k l, k < N → l < N → S k l < P) : ∀ k l, k < N → l < N → zx_up (zx_sh P S i j q N) i j ((S i j + 2 * q * S i i) % P) k l < P := by
  intro k l hk hl
  unfold zx_up
  split
  · exact Nat.mod_lt _ hP
  · unfold zx_sh
    split
    · exact Nat.mod_lt _ hP
    · split
      · exact Nat.mod_lt _ hP
      · split
        · exact Nat.mod_lt _ hP
        · exact h k l hk hl
theorem zx_stP {P N : Nat} {S : Nat → Nat → Nat} {i q : Nat} (hP : 0 < P) (h : ∀ k l, k < N → l < N → S k l < P) : ∀ k l, k < N → l < N → zx_st P S i q N k l < P := by
  intro k l hk hl
  unfold zx_st
  split
  · exact Nat.mod_lt _ hP
  · split
    · exact Nat.mod_lt _ hP
    · exact h k l hk hl
theorem zp_C_swap (w0 : List zm_E) (P N : Nat) (c : Nat → Nat) (n0 : Nat) (e0 : Nat → Nat) (n1 : Nat) (e1 : Nat → Nat) (n : Nat) (cd : Nat → Nat) (K M : Nat) (e : Nat → Nat) (fr fi wa : Nat) (hw : zKW w0 P N c n0 e0 n1 e1 n cd K M e fr fi wa) (x y : Int32) : zm_Ev zt_get 6 78 [.ref 0, .int x, .int y] w0 (fun v w => (¬ (zx_in x N = true ∧ zx_in y N = true ∧ ¬ x = y) ∧ v = some (.int (-101)) ∧ zKW w P N c n0 e0 n1 e1 n cd K M e fr fi wa) ∨ ∃ c', v = some (.int (nI (zw_on P N c'))) ∧ (zx_in x N = true ∧ zx_in y N = true ∧ ¬ x = y) ∧ (∀ k l, k < N → l < N → zx_S c' k l = zx_S c (zx_sg (zx_k x) (zx_k y) k) (zx_sg (zx_k x) (zx_k y) l)) ∧ zKW w P N c' 0 e0 0 e1 n cd K M e fr fi wa) := by
  obtain ⟨g, gl, a, al, sv, bt, rfl, hK, hr⟩ := hw
  obtain ⟨hm, hc4, h4, h5, h24, h26, h12, hcase⟩ := id hK
  have hN6 : N ≤ 6 := by rcases hcase with ⟨_, q, _⟩ | ⟨⟨hok, _⟩, _⟩ <;> first | omega | exact zv_okN hok
  have hPN : 0 < N → zv_ok P N ∧ g 11 = nI P ∧ (∀ k l, k < N → l < N → zx_S c k l < P) := by rcases hcase with ⟨_, q, _⟩ | ⟨⟨hok, h11, hcP, _⟩, _⟩ <;> first | exact fun z => by omega | exact fun _ => ⟨hok, h11, hcP⟩
  refine zr_ev zt_X_swap rfl rfl ?_
  show zm_Run zt_get 5 zt_X_swap (0, [some (.ref 0), some (.int x), some (.int y)], [], (zw_C g gl a al)) _
  refine zr_go (t := (5, [some (.ref 0), some (.int x), some (.int y)], [.int x, .ref 2], (zw_C g gl a al))) 3 rfl ?_
  refine zr_call (t := (8, [some (.ref 0), some (.int x), some (.int y)], [], (zw_C g gl a al))) rfl (Nat.le_of_ble_eq_true rfl : 1 ≤ 5) (zs_C_hasVar g gl a al N h12 (by omega) x) ?_
  rintro _ _ ⟨rfl, rfl⟩
  show zm_Run zt_get 5 zt_X_swap (8, [some (.ref 0), some (.int x), some (.int y)], [.int (nI ((zx_in x N).toNat))], (zw_C g gl a al)) _
  have hb_x := zb_le (zx_in x N)
  refine zr_ieq (x := nI ((zx_in x N).toNat)) (y := 0) ((zx_in x N).toNat) 0 rfl rfl (by omega) (by omega) (t := (27, [some (.ref 0), some (.int x), some (.int y)], [], (zw_C g gl a al))) (f := (11, [some (.ref 0), some (.int x), some (.int y)], [], (zw_C g gl a al))) rfl (fun h1 => ?_) (fun h1 => ?_)
  · skip
    have hx := zb_0n _ h1
    refine zr_go (t := (29, [some (.ref 0), some (.int x), some (.int y)], [.int (-101)], (zw_C g gl a al))) 1 rfl ?_
    exact zr_ret rfl trivial (Or.inl ⟨fun q => by rw [hx] at q; exact absurd q.1 (by decide), rfl, g, gl, a, al, sv, bt, rfl, hK, hr⟩)
  · skip
    have hx := zb_1n _ h1
    refine zr_go (t := (16, [some (.ref 0), some (.int x), some (.int y)], [.int y, .ref 2], (zw_C g gl a al))) 3 rfl ?_
    refine zr_call (t := (19, [some (.ref 0), some (.int x), some (.int y)], [], (zw_C g gl a al))) rfl (Nat.le_of_ble_eq_true rfl : 1 ≤ 5) (zs_C_hasVar g gl a al N h12 (by omega) y) ?_
    rintro _ _ ⟨rfl, rfl⟩
    show zm_Run zt_get 5 zt_X_swap (19, [some (.ref 0), some (.int x), some (.int y)], [.int (nI ((zx_in y N).toNat))], (zw_C g gl a al)) _
    have hb_y := zb_le (zx_in y N)
    refine zr_ieq (x := nI ((zx_in y N).toNat)) (y := 0) ((zx_in y N).toNat) 0 rfl rfl (by omega) (by omega) (t := (27, [some (.ref 0), some (.int x), some (.int y)], [], (zw_C g gl a al))) (f := (22, [some (.ref 0), some (.int x), some (.int y)], [], (zw_C g gl a al))) rfl (fun h2 => ?_) (fun h2 => ?_)
    · skip
      have hy := zb_0n _ h2
      refine zr_go (t := (29, [some (.ref 0), some (.int x), some (.int y)], [.int (-101)], (zw_C g gl a al))) 1 rfl ?_
      exact zr_ret rfl trivial (Or.inl ⟨fun q => by rw [hy] at q; exact absurd q.2.1 (by decide), rfl, g, gl, a, al, sv, bt, rfl, hK, hr⟩)
    · skip
      have hy := zb_1n _ h2
      refine zr_go (t := (24, [some (.ref 0), some (.int x), some (.int y)], [.int y, .int x], (zw_C g gl a al))) 2 rfl ?_
      refine zr_if (c := x = y) (t := (27, [some (.ref 0), some (.int x), some (.int y)], [], (zw_C g gl a al))) (f := (30, [some (.ref 0), some (.int x), some (.int y)], [], (zw_C g gl a al))) rfl (fun h3 => ?_) (fun h3 => ?_)
      · skip
        refine zr_go (t := (29, [some (.ref 0), some (.int x), some (.int y)], [.int (-101)], (zw_C g gl a al))) 1 rfl ?_
        exact zr_ret rfl trivial (Or.inl ⟨fun q => q.2.2 h3, rfl, g, gl, a, al, sv, bt, rfl, hK, hr⟩)
      · skip
        obtain ⟨hx1, hx2⟩ := zx_of hx
        obtain ⟨hok, h11, hcP⟩ := hPN (by omega)
        obtain ⟨hP0, hP5⟩ := zv_P5 hok.1
        have hN3 := hok.2.1
        obtain ⟨hy1, hy2⟩ := zx_of hy
        have hij : zx_k x ≠ zx_k y := fun q => h3 (by rw [hx2, hy2, q])
        refine zr_go (t := (36, [some (.ref 0), some (.int x), some (.int y)], [.int y, .int x, .ref 2], (zw_C g gl a al))) 4 rfl ?_
        have hex := zs_C_exchange g gl a al P N h11 h12 hP0 hP5 hN6 c hm hc4 hcP (zx_k x) (zx_k y) hx1 hy1 hij
        rw [← hx2, ← hy2] at hex
        refine zr_call (t := (39, [some (.ref 0), some (.int x), some (.int y)], [], (zw_C g gl a al))) rfl (Nat.le_of_ble_eq_true rfl : 3 ≤ 5) hex ?_
        rintro _ _ ⟨rfl, f11, c2, rfl, hm2, hc24, hrel⟩
        show zm_Run zt_get 5 zt_X_swap (39, [some (.ref 0), some (.int x), some (.int y)], [], (zw_C g gl (va_up a 11 f11) al)) _
        refine zr_go (t := (40, [some (.ref 0), some (.int x), some (.int y)], [.ref 0], (zw_C g gl (va_up a 11 f11) al))) 1 rfl ?_
        refine zr_call (t := (43, [some (.ref 0), some (.int x), some (.int y)], [], (zw_C g gl (va_up a 11 f11) al))) rfl (Nat.le_of_ble_eq_true rfl : 1 ≤ 5) (zs_C_forget g gl (va_up a 11 f11) al) ?_
        rintro _ _ ⟨rfl, rfl⟩
        show zm_Run zt_get 5 zt_X_swap (43, [some (.ref 0), some (.int x), some (.int y)], [], (zw_C (upd (upd (upd (upd g 4 0) 5 0) 24 0) 26 0) gl (va_up a 11 f11) al)) _
        have hcP2 : ∀ k l, k < N → l < N → zx_S c2 k l < P := fun k l hk hl => by rw [hrel k l hk hl]; exact hcP _ _ (zx_sgN hx1 hy1 hk) (zx_sgN hx1 hy1 hl)
        have hK3 : zK_1 (upd (upd (upd (upd g 4 0) 5 0) 24 0) 26 0) (va_up a 11 f11) al P N c2 false false 0 e0 0 e1 := zK_nw hK (by omega) hm2 hc24 hcP2 rfl rfl rfl rfl rfl rfl rfl rfl rfl rfl
        have hr3 : zK_r (upd (upd (upd (upd g 4 0) 5 0) 24 0) 26 0) (va_up a 11 f11) n cd K M e fr fi wa := hr
        refine zr_go (t := (44, [some (.ref 0), some (.int x), some (.int y)], [.ref 0], (zw_C (upd (upd (upd (upd g 4 0) 5 0) 24 0) 26 0) gl (va_up a 11 f11) al))) 1 rfl ?_
        refine zr_call (t := (47, [some (.ref 0), some (.int x), some (.int y)], [], (zw_C (upd (upd (upd (upd g 4 0) 5 0) 24 0) 26 0) gl (va_up a 11 f11) al))) rfl (Nat.le_of_ble_eq_true rfl : 5 ≤ 5) (zs_C_memberTotal (upd (upd (upd (upd g 4 0) 5 0) 24 0) 26 0) gl (va_up a 11 f11) al P N c2 false false 0 e0 0 e1 hK3) ?_
        rintro _ _ ⟨rfl, g1, a1, rfl, hK4, he4⟩
        show zm_Run zt_get 5 zt_X_swap (47, [some (.ref 0), some (.int x), some (.int y)], [.int (nI (if 0 < P then zw_on P N c2 else 0))], (zw_C g1 gl a1 al)) _
        exact zr_ret rfl trivial (Or.inr ⟨c2, by rw [if_pos hP0], ⟨hx, hy, h3⟩, hrel, g1, gl, a1, al, _, _, rfl, hK4, zK_r_e he4 hr3⟩)
theorem zp_C_plus (w0 : List zm_E) (P N : Nat) (c : Nat → Nat) (n0 : Nat) (e0 : Nat → Nat) (n1 : Nat) (e1 : Nat → Nat) (n : Nat) (cd : Nat → Nat) (K M : Nat) (e : Nat → Nat) (fr fi wa : Nat) (hw : zKW w0 P N c n0 e0 n1 e1 n cd K M e fr fi wa) (x y z : Int32) : zm_Ev zt_get 6 79 [.ref 0, .int x, .int y, .int z] w0 (fun v w => (((¬ (zx_in x N = true ∧ zx_in y N = true ∧ ¬ x = y) ∧ v = some (.int (-101))) ∨ ((zx_in x N = true ∧ zx_in y N = true ∧ ¬ x = y) ∧ ¬ zx_in z P = true ∧ v = some (.int (-102)))) ∧ zKW w P N c n0 e0 n1 e1 n cd K M e fr fi wa) ∨ ∃ c', v = some (.int (nI (zw_on P N c'))) ∧ ((zx_in x N = true ∧ zx_in y N = true ∧ ¬ x = y) ∧ zx_in z P = true) ∧ (∀ k l, k < N → l < N → zx_S c' k l = zx_up (zx_sh P (zx_S c) (zx_k x) (zx_k y) (zx_k z) N) (zx_k x) (zx_k y) ((zx_S c (zx_k x) (zx_k y) + 2 * zx_k z * zx_S c (zx_k x) (zx_k x)) % P) k l) ∧ zKW w P N c' 0 e0 0 e1 n cd K M e fr fi wa) := by
  obtain ⟨g, gl, a, al, sv, bt, rfl, hK, hr⟩ := hw
  obtain ⟨hm, hc4, h4, h5, h24, h26, h12, hcase⟩ := id hK
  have hN6 : N ≤ 6 := by rcases hcase with ⟨_, q, _⟩ | ⟨⟨hok, _⟩, _⟩ <;> first | omega | exact zv_okN hok
  have hPN : 0 < N → zv_ok P N ∧ g 11 = nI P ∧ (∀ k l, k < N → l < N → zx_S c k l < P) := by rcases hcase with ⟨_, q, _⟩ | ⟨⟨hok, h11, hcP, _⟩, _⟩ <;> first | exact fun z => by omega | exact fun _ => ⟨hok, h11, hcP⟩
  refine zr_ev zt_X_plus rfl rfl ?_
  show zm_Run zt_get 5 zt_X_plus (0, [some (.ref 0), some (.int x), some (.int y), some (.int z)], [], (zw_C g gl a al)) _
  refine zr_go (t := (5, [some (.ref 0), some (.int x), some (.int y), some (.int z)], [.int x, .ref 2], (zw_C g gl a al))) 3 rfl ?_
  refine zr_call (t := (8, [some (.ref 0), some (.int x), some (.int y), some (.int z)], [], (zw_C g gl a al))) rfl (Nat.le_of_ble_eq_true rfl : 1 ≤ 5) (zs_C_hasVar g gl a al N h12 (by omega) x) ?_
  rintro _ _ ⟨rfl, rfl⟩
  show zm_Run zt_get 5 zt_X_plus (8, [some (.ref 0), some (.int x), some (.int y), some (.int z)], [.int (nI ((zx_in x N).toNat))], (zw_C g gl a al)) _
  have hb_x := zb_le (zx_in x N)
  refine zr_ieq (x := nI ((zx_in x N).toNat)) (y := 0) ((zx_in x N).toNat) 0 rfl rfl (by omega) (by omega) (t := (27, [some (.ref 0), some (.int x), some (.int y), some (.int z)], [], (zw_C g gl a al))) (f := (11, [some (.ref 0), some (.int x), some (.int y), some (.int z)], [], (zw_C g gl a al))) rfl (fun h1 => ?_) (fun h1 => ?_)
  · skip
    have hx := zb_0n _ h1
    refine zr_go (t := (29, [some (.ref 0), some (.int x), some (.int y), some (.int z)], [.int (-101)], (zw_C g gl a al))) 1 rfl ?_
    exact zr_ret rfl trivial (Or.inl ⟨Or.inl ⟨fun q => by rw [hx] at q; exact absurd q.1 (by decide), rfl⟩, g, gl, a, al, sv, bt, rfl, hK, hr⟩)
  · skip
    have hx := zb_1n _ h1
    refine zr_go (t := (16, [some (.ref 0), some (.int x), some (.int y), some (.int z)], [.int y, .ref 2], (zw_C g gl a al))) 3 rfl ?_
    refine zr_call (t := (19, [some (.ref 0), some (.int x), some (.int y), some (.int z)], [], (zw_C g gl a al))) rfl (Nat.le_of_ble_eq_true rfl : 1 ≤ 5) (zs_C_hasVar g gl a al N h12 (by omega) y) ?_
    rintro _ _ ⟨rfl, rfl⟩
    show zm_Run zt_get 5 zt_X_plus (19, [some (.ref 0), some (.int x), some (.int y), some (.int z)], [.int (nI ((zx_in y N).toNat))], (zw_C g gl a al)) _
    have hb_y := zb_le (zx_in y N)
    refine zr_ieq (x := nI ((zx_in y N).toNat)) (y := 0) ((zx_in y N).toNat) 0 rfl rfl (by omega) (by omega) (t := (27, [some (.ref 0), some (.int x), some (.int y), some (.int z)], [], (zw_C g gl a al))) (f := (22, [some (.ref 0), some (.int x), some (.int y), some (.int z)], [], (zw_C g gl a al))) rfl (fun h2 => ?_) (fun h2 => ?_)
    · skip
      have hy := zb_0n _ h2
      refine zr_go (t := (29, [some (.ref 0), some (.int x), some (.int y), some (.int z)], [.int (-101)], (zw_C g gl a al))) 1 rfl ?_
      exact zr_ret rfl trivial (Or.inl ⟨Or.inl ⟨fun q => by rw [hy] at q; exact absurd q.2.1 (by decide), rfl⟩, g, gl, a, al, sv, bt, rfl, hK, hr⟩)
    · skip
      have hy := zb_1n _ h2
      refine zr_go (t := (24, [some (.ref 0), some (.int x), some (.int y), some (.int z)], [.int y, .int x], (zw_C g gl a al))) 2 rfl ?_
      refine zr_if (c := x = y) (t := (27, [some (.ref 0), some (.int x), some (.int y), some (.int z)], [], (zw_C g gl a al))) (f := (30, [some (.ref 0), some (.int x), some (.int y), some (.int z)], [], (zw_C g gl a al))) rfl (fun h3 => ?_) (fun h3 => ?_)
      · skip
        refine zr_go (t := (29, [some (.ref 0), some (.int x), some (.int y), some (.int z)], [.int (-101)], (zw_C g gl a al))) 1 rfl ?_
        exact zr_ret rfl trivial (Or.inl ⟨Or.inl ⟨fun q => q.2.2 h3, rfl⟩, g, gl, a, al, sv, bt, rfl, hK, hr⟩)
      · skip
        obtain ⟨hx1, hx2⟩ := zx_of hx
        obtain ⟨hok, h11, hcP⟩ := hPN (by omega)
        obtain ⟨hP0, hP5⟩ := zv_P5 hok.1
        have hN3 := hok.2.1
        obtain ⟨hy1, hy2⟩ := zx_of hy
        have hij : zx_k x ≠ zx_k y := fun q => h3 (by rw [hx2, hy2, q])
        refine zr_go (t := (31, [some (.ref 0), some (.int x), some (.int y), some (.int z)], [.int z], (zw_C g gl a al))) 1 rfl ?_
        refine zr_if (c := z < 0) (t := (45, [some (.ref 0), some (.int x), some (.int y), some (.int z)], [], (zw_C g gl a al))) (f := (34, [some (.ref 0), some (.int x), some (.int y), some (.int z)], [], (zw_C g gl a al))) rfl (fun h5z => ?_) (fun h5z => ?_)
        · skip
          have hz : zx_in z P = false := zx_rl h5z
          refine zr_go (t := (47, [some (.ref 0), some (.int x), some (.int y), some (.int z)], [.int (-102)], (zw_C g gl a al))) 1 rfl ?_
          exact zr_ret rfl trivial (Or.inl ⟨Or.inr ⟨⟨hx, hy, h3⟩, by rw [hz]; decide, rfl⟩, g, gl, a, al, sv, bt, rfl, hK, hr⟩)
        · skip
          refine zr_go (t := (42, [some (.ref 0), some (.int x), some (.int y), some (.int z)], [.int (g 11), .int z], (zw_C g gl a al))) 4 rfl ?_
          rw [h11]
          refine zr_if (c := z < (nI P)) (t := (48, [some (.ref 0), some (.int x), some (.int y), some (.int z)], [], (zw_C g gl a al))) (f := (45, [some (.ref 0), some (.int x), some (.int y), some (.int z)], [], (zw_C g gl a al))) rfl (fun h6z => ?_) (fun h6z => ?_)
          · skip
            have hz := zx_inP h5z h6z (by omega)
            obtain ⟨hz1, hz2⟩ := zx_of hz
            refine zr_go (t := (55, [some (.ref 0), some (.int x), some (.int y), some (.int z)], [.int z, .int y, .int x, .ref 2], (zw_C g gl a al))) 5 rfl ?_
            have hex := zs_C_shear g gl a al P N h11 h12 hP0 hP5 hN6 c hm hc4 hcP (zx_k x) (zx_k y) (zx_k z) hx1 hy1 hij hz1
            rw [← hx2, ← hy2, ← hz2] at hex
            refine zr_call (t := (58, [some (.ref 0), some (.int x), some (.int y), some (.int z)], [], (zw_C g gl a al))) rfl (Nat.le_of_ble_eq_true rfl : 3 ≤ 5) hex ?_
            rintro _ _ ⟨rfl, f11, c2, rfl, hm2, hc24, hrel⟩
            show zm_Run zt_get 5 zt_X_plus (58, [some (.ref 0), some (.int x), some (.int y), some (.int z)], [], (zw_C g gl (va_up a 11 f11) al)) _
            refine zr_go (t := (59, [some (.ref 0), some (.int x), some (.int y), some (.int z)], [.ref 0], (zw_C g gl (va_up a 11 f11) al))) 1 rfl ?_
            refine zr_call (t := (62, [some (.ref 0), some (.int x), some (.int y), some (.int z)], [], (zw_C g gl (va_up a 11 f11) al))) rfl (Nat.le_of_ble_eq_true rfl : 1 ≤ 5) (zs_C_forget g gl (va_up a 11 f11) al) ?_
            rintro _ _ ⟨rfl, rfl⟩
            show zm_Run zt_get 5 zt_X_plus (62, [some (.ref 0), some (.int x), some (.int y), some (.int z)], [], (zw_C (upd (upd (upd (upd g 4 0) 5 0) 24 0) 26 0) gl (va_up a 11 f11) al)) _
            have hcP2 : ∀ k l, k < N → l < N → zx_S c2 k l < P := fun k l hk hl => by rw [hrel k l hk hl]; exact zx_shP hP0 hcP k l hk hl
            have hK3 : zK_1 (upd (upd (upd (upd g 4 0) 5 0) 24 0) 26 0) (va_up a 11 f11) al P N c2 false false 0 e0 0 e1 := zK_nw hK (by omega) hm2 hc24 hcP2 rfl rfl rfl rfl rfl rfl rfl rfl rfl rfl
            have hr3 : zK_r (upd (upd (upd (upd g 4 0) 5 0) 24 0) 26 0) (va_up a 11 f11) n cd K M e fr fi wa := hr
            refine zr_go (t := (63, [some (.ref 0), some (.int x), some (.int y), some (.int z)], [.ref 0], (zw_C (upd (upd (upd (upd g 4 0) 5 0) 24 0) 26 0) gl (va_up a 11 f11) al))) 1 rfl ?_
            refine zr_call (t := (66, [some (.ref 0), some (.int x), some (.int y), some (.int z)], [], (zw_C (upd (upd (upd (upd g 4 0) 5 0) 24 0) 26 0) gl (va_up a 11 f11) al))) rfl (Nat.le_of_ble_eq_true rfl : 5 ≤ 5) (zs_C_memberTotal (upd (upd (upd (upd g 4 0) 5 0) 24 0) 26 0) gl (va_up a 11 f11) al P N c2 false false 0 e0 0 e1 hK3) ?_
            rintro _ _ ⟨rfl, g1, a1, rfl, hK4, he4⟩
            show zm_Run zt_get 5 zt_X_plus (66, [some (.ref 0), some (.int x), some (.int y), some (.int z)], [.int (nI (if 0 < P then zw_on P N c2 else 0))], (zw_C g1 gl a1 al)) _
            exact zr_ret rfl trivial (Or.inr ⟨c2, by rw [if_pos hP0], ⟨⟨hx, hy, h3⟩, hz⟩, hrel, g1, gl, a1, al, _, _, rfl, hK4, zK_r_e he4 hr3⟩)
          · skip
            have hz : zx_in z P = false := zx_inN h6z (by omega)
            refine zr_go (t := (47, [some (.ref 0), some (.int x), some (.int y), some (.int z)], [.int (-102)], (zw_C g gl a al))) 1 rfl ?_
            exact zr_ret rfl trivial (Or.inl ⟨Or.inr ⟨⟨hx, hy, h3⟩, by rw [hz]; decide, rfl⟩, g, gl, a, al, sv, bt, rfl, hK, hr⟩)
theorem zp_C_scale (w0 : List zm_E) (P N : Nat) (c : Nat → Nat) (n0 : Nat) (e0 : Nat → Nat) (n1 : Nat) (e1 : Nat → Nat) (n : Nat) (cd : Nat → Nat) (K M : Nat) (e : Nat → Nat) (fr fi wa : Nat) (hw : zKW w0 P N c n0 e0 n1 e1 n cd K M e fr fi wa) (x z : Int32) : zm_Ev zt_get 6 80 [.ref 0, .int x, .int z] w0 (fun v w => (((¬ zx_in x N = true ∧ v = some (.int (-101))) ∨ (zx_in x N = true ∧ ¬ zx_1P z P = true ∧ v = some (.int (-102)))) ∧ zKW w P N c n0 e0 n1 e1 n cd K M e fr fi wa) ∨ ∃ c', v = some (.int (nI (zw_on P N c'))) ∧ (zx_in x N = true ∧ zx_1P z P = true) ∧ (∀ k l, k < N → l < N → zx_S c' k l = zx_st P (zx_S c) (zx_k x) (zx_k z) N k l) ∧ zKW w P N c' 0 e0 0 e1 n cd K M e fr fi wa) := by
  obtain ⟨g, gl, a, al, sv, bt, rfl, hK, hr⟩ := hw
  obtain ⟨hm, hc4, h4, h5, h24, h26, h12, hcase⟩ := id hK
  have hN6 : N ≤ 6 := by rcases hcase with ⟨_, q, _⟩ | ⟨⟨hok, _⟩, _⟩ <;> first | omega | exact zv_okN hok
  have hPN : 0 < N → zv_ok P N ∧ g 11 = nI P ∧ (∀ k l, k < N → l < N → zx_S c k l < P) := by rcases hcase with ⟨_, q, _⟩ | ⟨⟨hok, h11, hcP, _⟩, _⟩ <;> first | exact fun z => by omega | exact fun _ => ⟨hok, h11, hcP⟩
  refine zr_ev zt_X_scale rfl rfl ?_
  show zm_Run zt_get 5 zt_X_scale (0, [some (.ref 0), some (.int x), some (.int z)], [], (zw_C g gl a al)) _
  refine zr_go (t := (5, [some (.ref 0), some (.int x), some (.int z)], [.int x, .ref 2], (zw_C g gl a al))) 3 rfl ?_
  refine zr_call (t := (8, [some (.ref 0), some (.int x), some (.int z)], [], (zw_C g gl a al))) rfl (Nat.le_of_ble_eq_true rfl : 1 ≤ 5) (zs_C_hasVar g gl a al N h12 (by omega) x) ?_
  rintro _ _ ⟨rfl, rfl⟩
  show zm_Run zt_get 5 zt_X_scale (8, [some (.ref 0), some (.int x), some (.int z)], [.int (nI ((zx_in x N).toNat))], (zw_C g gl a al)) _
  have hb_x := zb_le (zx_in x N)
  refine zr_ine (x := nI ((zx_in x N).toNat)) (y := 0) ((zx_in x N).toNat) 0 rfl rfl (by omega) (by omega) (t := (14, [some (.ref 0), some (.int x), some (.int z)], [], (zw_C g gl a al))) (f := (11, [some (.ref 0), some (.int x), some (.int z)], [], (zw_C g gl a al))) rfl (fun h1 => ?_) (fun h1 => ?_)
  · skip
    have hx := zb_1n _ h1
    obtain ⟨hx1, hx2⟩ := zx_of hx
    obtain ⟨hok, h11, hcP⟩ := hPN (by omega)
    obtain ⟨hP0, hP5⟩ := zv_P5 hok.1
    have hN3 := hok.2.1
    refine zr_go (t := (16, [some (.ref 0), some (.int x), some (.int z)], [.int 1, .int z], (zw_C g gl a al))) 2 rfl ?_
    refine zr_if (c := z < 1) (t := (30, [some (.ref 0), some (.int x), some (.int z)], [], (zw_C g gl a al))) (f := (19, [some (.ref 0), some (.int x), some (.int z)], [], (zw_C g gl a al))) rfl (fun h5z => ?_) (fun h5z => ?_)
    · skip
      have hz : zx_1P z P = false := zx_1l h5z
      refine zr_go (t := (32, [some (.ref 0), some (.int x), some (.int z)], [.int (-102)], (zw_C g gl a al))) 1 rfl ?_
      exact zr_ret rfl trivial (Or.inl ⟨Or.inr ⟨hx, by rw [hz]; decide, rfl⟩, g, gl, a, al, sv, bt, rfl, hK, hr⟩)
    · skip
      refine zr_go (t := (27, [some (.ref 0), some (.int x), some (.int z)], [.int (g 11), .int z], (zw_C g gl a al))) 4 rfl ?_
      rw [h11]
      refine zr_if (c := z < (nI P)) (t := (33, [some (.ref 0), some (.int x), some (.int z)], [], (zw_C g gl a al))) (f := (30, [some (.ref 0), some (.int x), some (.int z)], [], (zw_C g gl a al))) rfl (fun h6z => ?_) (fun h6z => ?_)
      · skip
        obtain ⟨hz, hz0, hz1, hz2⟩ := zx_1t h5z h6z (by omega)
        refine zr_go (t := (39, [some (.ref 0), some (.int x), some (.int z)], [.int z, .int x, .ref 2], (zw_C g gl a al))) 4 rfl ?_
        have hex := zs_C_stretch g gl a al P N h11 h12 hP0 hP5 hN6 c hm hc4 hcP (zx_k x) (zx_k z) hx1 hz1
        rw [← hx2, ← hz2] at hex
        refine zr_call (t := (42, [some (.ref 0), some (.int x), some (.int z)], [], (zw_C g gl a al))) rfl (Nat.le_of_ble_eq_true rfl : 3 ≤ 5) hex ?_
        rintro _ _ ⟨rfl, f11, c2, rfl, hm2, hc24, hrel⟩
        show zm_Run zt_get 5 zt_X_scale (42, [some (.ref 0), some (.int x), some (.int z)], [], (zw_C g gl (va_up a 11 f11) al)) _
        refine zr_go (t := (43, [some (.ref 0), some (.int x), some (.int z)], [.ref 0], (zw_C g gl (va_up a 11 f11) al))) 1 rfl ?_
        refine zr_call (t := (46, [some (.ref 0), some (.int x), some (.int z)], [], (zw_C g gl (va_up a 11 f11) al))) rfl (Nat.le_of_ble_eq_true rfl : 1 ≤ 5) (zs_C_forget g gl (va_up a 11 f11) al) ?_
        rintro _ _ ⟨rfl, rfl⟩
        show zm_Run zt_get 5 zt_X_scale (46, [some (.ref 0), some (.int x), some (.int z)], [], (zw_C (upd (upd (upd (upd g 4 0) 5 0) 24 0) 26 0) gl (va_up a 11 f11) al)) _
        have hcP2 : ∀ k l, k < N → l < N → zx_S c2 k l < P := fun k l hk hl => by rw [hrel k l hk hl]; exact zx_stP hP0 hcP k l hk hl
        have hK3 : zK_1 (upd (upd (upd (upd g 4 0) 5 0) 24 0) 26 0) (va_up a 11 f11) al P N c2 false false 0 e0 0 e1 := zK_nw hK (by omega) hm2 hc24 hcP2 rfl rfl rfl rfl rfl rfl rfl rfl rfl rfl
        have hr3 : zK_r (upd (upd (upd (upd g 4 0) 5 0) 24 0) 26 0) (va_up a 11 f11) n cd K M e fr fi wa := hr
        refine zr_go (t := (47, [some (.ref 0), some (.int x), some (.int z)], [.ref 0], (zw_C (upd (upd (upd (upd g 4 0) 5 0) 24 0) 26 0) gl (va_up a 11 f11) al))) 1 rfl ?_
        refine zr_call (t := (50, [some (.ref 0), some (.int x), some (.int z)], [], (zw_C (upd (upd (upd (upd g 4 0) 5 0) 24 0) 26 0) gl (va_up a 11 f11) al))) rfl (Nat.le_of_ble_eq_true rfl : 5 ≤ 5) (zs_C_memberTotal (upd (upd (upd (upd g 4 0) 5 0) 24 0) 26 0) gl (va_up a 11 f11) al P N c2 false false 0 e0 0 e1 hK3) ?_
        rintro _ _ ⟨rfl, g1, a1, rfl, hK4, he4⟩
        show zm_Run zt_get 5 zt_X_scale (50, [some (.ref 0), some (.int x), some (.int z)], [.int (nI (if 0 < P then zw_on P N c2 else 0))], (zw_C g1 gl a1 al)) _
        exact zr_ret rfl trivial (Or.inr ⟨c2, by rw [if_pos hP0], ⟨hx, hz⟩, hrel, g1, gl, a1, al, _, _, rfl, hK4, zK_r_e he4 hr3⟩)
      · skip
        have hz : zx_1P z P = false := zx_1g h6z (by omega)
        refine zr_go (t := (32, [some (.ref 0), some (.int x), some (.int z)], [.int (-102)], (zw_C g gl a al))) 1 rfl ?_
        exact zr_ret rfl trivial (Or.inl ⟨Or.inr ⟨hx, by rw [hz]; decide, rfl⟩, g, gl, a, al, sv, bt, rfl, hK, hr⟩)
  · skip
    have hx := zb_0n _ h1
    refine zr_go (t := (13, [some (.ref 0), some (.int x), some (.int z)], [.int (-101)], (zw_C g gl a al))) 1 rfl ?_
    exact zr_ret rfl trivial (Or.inl ⟨Or.inl ⟨by rw [hx]; decide, rfl⟩, g, gl, a, al, sv, bt, rfl, hK, hr⟩)
theorem zp_C_times (w0 : List zm_E) (P N : Nat) (c : Nat → Nat) (n0 : Nat) (e0 : Nat → Nat) (n1 : Nat) (e1 : Nat → Nat) (n : Nat) (cd : Nat → Nat) (K M : Nat) (e : Nat → Nat) (fr fi wa : Nat) (hw : zKW w0 P N c n0 e0 n1 e1 n cd K M e fr fi wa) (z : Int32) : zm_Ev zt_get 6 81 [.ref 0, .int z] w0 (fun v w => (((¬ 0 < N ∧ v = some (.int (-103))) ∨ (0 < N ∧ ¬ zx_1P z P = true ∧ v = some (.int (-102)))) ∧ zKW w P N c n0 e0 n1 e1 n cd K M e fr fi wa) ∨ ∃ c', v = some (.int (zd_disc P N c')) ∧ (0 < N ∧ zx_1P z P = true) ∧ (∀ k l, k < N → l < N → zx_S c' k l = (zx_k z * zx_S c k l) % P) ∧ zKW w P N c' 0 e0 0 e1 n cd K M e fr fi wa) := by
  obtain ⟨g, gl, a, al, sv, bt, rfl, hK, hr⟩ := hw
  obtain ⟨hm, hc4, h4, h5, h24, h26, h12, hcase⟩ := id hK
  have hN6 : N ≤ 6 := by rcases hcase with ⟨_, q, _⟩ | ⟨⟨hok, _⟩, _⟩ <;> first | omega | exact zv_okN hok
  have hPN : 0 < N → zv_ok P N ∧ g 11 = nI P ∧ (∀ k l, k < N → l < N → zx_S c k l < P) := by rcases hcase with ⟨_, q, _⟩ | ⟨⟨hok, h11, hcP, _⟩, _⟩ <;> first | exact fun z => by omega | exact fun _ => ⟨hok, h11, hcP⟩
  refine zr_ev zt_X_times rfl rfl ?_
  show zm_Run zt_get 5 zt_X_times (0, [some (.ref 0), some (.int z)], [], (zw_C g gl a al)) _
  refine zr_go (t := (7, [some (.ref 0), some (.int z)], [.int (g 12)], (zw_C g gl a al))) 3 rfl ?_
  refine zr_ine (x := g 12) (y := 0) N 0 h12 rfl (by omega) (by omega) (t := (13, [some (.ref 0), some (.int z)], [], (zw_C g gl a al))) (f := (10, [some (.ref 0), some (.int z)], [], (zw_C g gl a al))) rfl (fun h1 => ?_) (fun h1 => ?_)
  · skip
    obtain ⟨hok, h11, hcP⟩ := hPN (by omega)
    obtain ⟨hP0, hP5⟩ := zv_P5 hok.1
    have hN3 := hok.2.1
    refine zr_go (t := (15, [some (.ref 0), some (.int z)], [.int 1, .int z], (zw_C g gl a al))) 2 rfl ?_
    refine zr_if (c := z < 1) (t := (29, [some (.ref 0), some (.int z)], [], (zw_C g gl a al))) (f := (18, [some (.ref 0), some (.int z)], [], (zw_C g gl a al))) rfl (fun h5z => ?_) (fun h5z => ?_)
    · skip
      have hz : zx_1P z P = false := zx_1l h5z
      refine zr_go (t := (31, [some (.ref 0), some (.int z)], [.int (-102)], (zw_C g gl a al))) 1 rfl ?_
      exact zr_ret rfl trivial (Or.inl ⟨Or.inr ⟨by omega, by rw [hz]; decide, rfl⟩, g, gl, a, al, sv, bt, rfl, hK, hr⟩)
    · skip
      refine zr_go (t := (26, [some (.ref 0), some (.int z)], [.int (g 11), .int z], (zw_C g gl a al))) 4 rfl ?_
      rw [h11]
      refine zr_if (c := z < (nI P)) (t := (32, [some (.ref 0), some (.int z)], [], (zw_C g gl a al))) (f := (29, [some (.ref 0), some (.int z)], [], (zw_C g gl a al))) rfl (fun h6z => ?_) (fun h6z => ?_)
      · skip
        obtain ⟨hz, hz0, hz1, hz2⟩ := zx_1t h5z h6z (by omega)
        refine zr_go (t := (37, [some (.ref 0), some (.int z)], [.int z, .ref 2], (zw_C g gl a al))) 3 rfl ?_
        have hex := zs_C_multiply g gl a al P N h11 h12 hP0 hP5 hN6 c hm hc4 hcP (zx_k z) hz1
        rw [← hz2] at hex
        refine zr_call (t := (40, [some (.ref 0), some (.int z)], [], (zw_C g gl a al))) rfl (Nat.le_of_ble_eq_true rfl : 3 ≤ 5) hex ?_
        rintro _ _ ⟨rfl, f11, c2, rfl, hm2, hc24, hrel⟩
        show zm_Run zt_get 5 zt_X_times (40, [some (.ref 0), some (.int z)], [], (zw_C g gl (va_up a 11 f11) al)) _
        refine zr_go (t := (41, [some (.ref 0), some (.int z)], [.ref 0], (zw_C g gl (va_up a 11 f11) al))) 1 rfl ?_
        refine zr_call (t := (44, [some (.ref 0), some (.int z)], [], (zw_C g gl (va_up a 11 f11) al))) rfl (Nat.le_of_ble_eq_true rfl : 1 ≤ 5) (zs_C_forget g gl (va_up a 11 f11) al) ?_
        rintro _ _ ⟨rfl, rfl⟩
        show zm_Run zt_get 5 zt_X_times (44, [some (.ref 0), some (.int z)], [], (zw_C (upd (upd (upd (upd g 4 0) 5 0) 24 0) 26 0) gl (va_up a 11 f11) al)) _
        have hcP2 : ∀ k l, k < N → l < N → zx_S c2 k l < P := fun k l hk hl => by rw [hrel k l hk hl]; exact Nat.mod_lt _ hP0
        have hK3 : zK_1 (upd (upd (upd (upd g 4 0) 5 0) 24 0) 26 0) (va_up a 11 f11) al P N c2 false false 0 e0 0 e1 := zK_nw hK (by omega) hm2 hc24 hcP2 rfl rfl rfl rfl rfl rfl rfl rfl rfl rfl
        have hr3 : zK_r (upd (upd (upd (upd g 4 0) 5 0) 24 0) 26 0) (va_up a 11 f11) n cd K M e fr fi wa := hr
        refine zr_go (t := (48, [some (.ref 0), some (.int z)], [.ref 2], (zw_C (upd (upd (upd (upd g 4 0) 5 0) 24 0) 26 0) gl (va_up a 11 f11) al))) 2 rfl ?_
        refine zr_call (t := (51, [some (.ref 0), some (.int z)], [], (zw_C (upd (upd (upd (upd g 4 0) 5 0) 24 0) 26 0) gl (va_up a 11 f11) al))) rfl (Nat.le_of_ble_eq_true rfl : 4 ≤ 5) (zs_C_disc_2 (upd (upd (upd (upd g 4 0) 5 0) 24 0) 26 0) gl (va_up a 11 f11) al N h12 hN6 P h11 hok.1 c2 hm2 hc24) ?_
        rintro _ _ ⟨rfl, f12, rfl⟩
        show zm_Run zt_get 5 zt_X_times (51, [some (.ref 0), some (.int z)], [.int (zd_disc P N c2)], (zw_C (upd (upd (upd (upd g 4 0) 5 0) 24 0) 26 0) gl (va_up (va_up a 11 f11) 12 f12) al)) _
        exact zr_ret rfl trivial (Or.inr ⟨c2, rfl, ⟨by omega, hz⟩, hrel, _, gl, _, al, _, _, rfl, hK3, hr3⟩)
      · skip
        have hz : zx_1P z P = false := zx_1g h6z (by omega)
        refine zr_go (t := (31, [some (.ref 0), some (.int z)], [.int (-102)], (zw_C g gl a al))) 1 rfl ?_
        exact zr_ret rfl trivial (Or.inl ⟨Or.inr ⟨by omega, by rw [hz]; decide, rfl⟩, g, gl, a, al, sv, bt, rfl, hK, hr⟩)
  · skip
    refine zr_go (t := (12, [some (.ref 0), some (.int z)], [.int (-103)], (zw_C g gl a al))) 1 rfl ?_
    exact zr_ret rfl trivial (Or.inl ⟨Or.inl ⟨by omega, rfl⟩, g, gl, a, al, sv, bt, rfl, hK, hr⟩)
