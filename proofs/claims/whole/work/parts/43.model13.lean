/-! the reference: flats by their numbers (written by wip/whole/gen_m13.py) -/
/-- the index, by how many lines and planes there are -/
def zq_ix (nl npl : Nat) : Nat := if 0 < npl then 3 else if 0 < nl then 2 else 1
def zq_fl (on nl npl d : Nat) : Nat := if d = 1 then on else if d = 2 then nl else npl
def zq_sz (P d : Nat) : Nat := if d = 1 then 1 else if d = 2 then P + 1 else 7
theorem zq_ix3 (nl npl : Nat) : zq_ix nl npl = 1 ∨ zq_ix nl npl = 2 ∨ zq_ix nl npl = 3 := by unfold zq_ix; split; exact Or.inr (Or.inr rfl); split; exact Or.inr (Or.inl rfl); exact Or.inl rfl
theorem zq_sz_le {P d : Nat} (h : P ≤ 5) : zq_sz P d ≤ 7 := by unfold zq_sz; split; omega; split <;> omega
theorem zs_M_index (g : Nat → Int32) (gl : Nat → Int64) (a : Nat → Nat → Int32) (al : Nat → Nat → Int64) (nl npl : Nat) (hnl : g 12 = nI nl) (hnpl : g 14 = nI npl) (hnl1 : nl ≤ 128) (hnpl1 : npl ≤ 40) : zm_Ev zt_get 1 143 [.ref 0] (zw_M g gl a al) (fun v w => v = some (.int (nI (zq_ix nl npl))) ∧ w = (zw_M g gl a al)) := by
  refine zr_ev zt_M_index rfl rfl ?_
  show zm_Run zt_get 0 zt_M_index (0, [some (.ref 0)], [], (zw_M g gl a al)) _
  refine zr_go (t := (4, [some (.ref 0)], [.int (g 14)], (zw_M g gl a al))) 2 rfl ?_
  refine zr_ile (x := g 14) (y := 0) npl 0 hnpl rfl (by omega) (by omega) (t := (11, [some (.ref 0)], [], (zw_M g gl a al))) (f := (7, [some (.ref 0)], [], (zw_M g gl a al))) rfl (fun h1 => ?_) (fun h1 => ?_)
  · skip
    refine zr_go (t := (15, [some (.ref 0)], [.int (g 12)], (zw_M g gl a al))) 2 rfl ?_
    refine zr_ile (x := g 12) (y := 0) nl 0 hnl rfl (by omega) (by omega) (t := (22, [some (.ref 0)], [], (zw_M g gl a al))) (f := (18, [some (.ref 0)], [], (zw_M g gl a al))) rfl (fun h2 => ?_) (fun h2 => ?_)
    · skip
      refine zr_go (t := (23, [some (.ref 0)], [.int 1], (zw_M g gl a al))) 1 rfl ?_
      exact zr_ret rfl trivial ⟨by unfold zq_ix; rw [if_neg (by omega), if_neg (by omega)]; rfl, rfl⟩
    · skip
      refine zr_go (t := (23, [some (.ref 0)], [.int 2], (zw_M g gl a al))) 2 rfl ?_
      exact zr_ret rfl trivial ⟨by unfold zq_ix; rw [if_neg (by omega), if_pos h2]; rfl, rfl⟩
  · skip
    refine zr_go (t := (23, [some (.ref 0)], [.int 3], (zw_M g gl a al))) 2 rfl ?_
    exact zr_ret rfl trivial ⟨by unfold zq_ix; rw [if_pos h1]; rfl, rfl⟩
theorem zs_M_flatsOf (g : Nat → Int32) (gl : Nat → Int64) (a : Nat → Nat → Int32) (al : Nat → Nat → Int64) (nl npl : Nat) (hnl : g 12 = nI nl) (hnpl : g 14 = nI npl) (hnl1 : nl ≤ 128) (hnpl1 : npl ≤ 40) (on : Nat) (hon : g 10 = nI on) (d : Nat) (hd : d ≤ 3) : zm_Ev zt_get 1 145 [.ref 0, .int (nI d)] (zw_M g gl a al) (fun v w => v = some (.int (nI (zq_fl on nl npl d))) ∧ w = (zw_M g gl a al)) := by
  refine zr_ev zt_M_flatsOf rfl rfl ?_
  show zm_Run zt_get 0 zt_M_flatsOf (0, [some (.ref 0), some (.int (nI d))], [], (zw_M g gl a al)) _
  refine zr_go (t := (2, [some (.ref 0), some (.int (nI d))], [.int 1, .int (nI d)], (zw_M g gl a al))) 2 rfl ?_
  refine zr_ine (x := nI d) (y := 1) d 1 rfl rfl (by omega) (by omega) (t := (12, [some (.ref 0), some (.int (nI d))], [], (zw_M g gl a al))) (f := (5, [some (.ref 0), some (.int (nI d))], [], (zw_M g gl a al))) rfl (fun h1 => ?_) (fun h1 => ?_)
  · skip
    refine zr_go (t := (14, [some (.ref 0), some (.int (nI d))], [.int 2, .int (nI d)], (zw_M g gl a al))) 2 rfl ?_
    refine zr_ine (x := nI d) (y := 2) d 2 rfl rfl (by omega) (by omega) (t := (24, [some (.ref 0), some (.int (nI d))], [], (zw_M g gl a al))) (f := (17, [some (.ref 0), some (.int (nI d))], [], (zw_M g gl a al))) rfl (fun h2 => ?_) (fun h2 => ?_)
    · skip
      refine zr_go (t := (28, [some (.ref 0), some (.int (nI d))], [.int (g 14)], (zw_M g gl a al))) 2 rfl ?_
      exact zr_ret rfl trivial ⟨by unfold zq_fl; rw [if_neg h1, if_neg h2, hnpl], rfl⟩
    · skip
      refine zr_go (t := (28, [some (.ref 0), some (.int (nI d))], [.int (g 12)], (zw_M g gl a al))) 3 rfl ?_
      exact zr_ret rfl trivial ⟨by unfold zq_fl; rw [if_neg h1, if_pos h2, hnl], rfl⟩
  · skip
    refine zr_go (t := (28, [some (.ref 0), some (.int (nI d))], [.int (g 10)], (zw_M g gl a al))) 3 rfl ?_
    exact zr_ret rfl trivial ⟨by unfold zq_fl; rw [if_pos h1, hon], rfl⟩
theorem zs_M_sizeOf (g : Nat → Int32) (gl : Nat → Int64) (a : Nat → Nat → Int32) (al : Nat → Nat → Int64) (P : Nat) (hP : g 0 = nI P) (d : Nat) (hd : d ≤ 3) : zm_Ev zt_get 1 146 [.ref 0, .int (nI d)] (zw_M g gl a al) (fun v w => v = some (.int (nI (zq_sz P d))) ∧ w = (zw_M g gl a al)) := by
  refine zr_ev zt_M_sizeOf rfl rfl ?_
  show zm_Run zt_get 0 zt_M_sizeOf (0, [some (.ref 0), some (.int (nI d))], [], (zw_M g gl a al)) _
  refine zr_go (t := (2, [some (.ref 0), some (.int (nI d))], [.int 1, .int (nI d)], (zw_M g gl a al))) 2 rfl ?_
  refine zr_ine (x := nI d) (y := 1) d 1 rfl rfl (by omega) (by omega) (t := (9, [some (.ref 0), some (.int (nI d))], [], (zw_M g gl a al))) (f := (5, [some (.ref 0), some (.int (nI d))], [], (zw_M g gl a al))) rfl (fun h1 => ?_) (fun h1 => ?_)
  · skip
    refine zr_go (t := (11, [some (.ref 0), some (.int (nI d))], [.int 2, .int (nI d)], (zw_M g gl a al))) 2 rfl ?_
    refine zr_ine (x := nI d) (y := 2) d 2 rfl rfl (by omega) (by omega) (t := (23, [some (.ref 0), some (.int (nI d))], [], (zw_M g gl a al))) (f := (14, [some (.ref 0), some (.int (nI d))], [], (zw_M g gl a al))) rfl (fun h2 => ?_) (fun h2 => ?_)
    · skip
      refine zr_go (t := (25, [some (.ref 0), some (.int (nI d))], [.int 7], (zw_M g gl a al))) 1 rfl ?_
      exact zr_ret rfl trivial ⟨by unfold zq_sz; rw [if_neg h1, if_neg h2]; rfl, rfl⟩
    · skip
      refine zr_go (t := (25, [some (.ref 0), some (.int (nI d))], [.int ((g 0) + 1)], (zw_M g gl a al))) 5 rfl ?_
      rw [show (g 0) + 1 = nI (P + 1) from (zn_add hP rfl)]
      exact zr_ret rfl trivial ⟨by unfold zq_sz; rw [if_neg h1, if_pos h2], rfl⟩
  · skip
    refine zr_go (t := (25, [some (.ref 0), some (.int (nI d))], [.int 1], (zw_M g gl a al))) 2 rfl ?_
    exact zr_ret rfl trivial ⟨by unfold zq_sz; rw [if_pos h1]; rfl, rfl⟩
theorem zs_M_onAt (g : Nat → Int32) (gl : Nat → Int64) (a : Nat → Nat → Int32) (al : Nat → Nat → Int64) (np : Nat) (hnp1 : np ≤ 156) (o : Nat → Bool) (hO : zc_O a np o) (k : Nat) (hk : k < zC o np) : zm_Ev zt_get 1 144 [.ref 0, .int (nI k)] (zw_M g gl a al) (fun v w => v = some (.int (nI (zX o np k))) ∧ w = (zw_M g gl a al)) := by
  obtain ⟨x1, x2, x3⟩ := zX_ok hk
  have hkn := zC_le o np
  refine zr_ev zt_M_onAt rfl rfl ?_
  show zm_Run zt_get 0 zt_M_onAt (0, [some (.ref 0), some (.int (nI k)), none, none], [], (zw_M g gl a al)) _
  refine zr_go (t := (4, [some (.ref 0), some (.int (nI k)), some (.int (nI k)), some (.int 0)], [], (zw_M g gl a al))) 4 rfl ?_
  refine zr_loop (fun zq : Nat × Nat => (4, [some (.ref 0), some (.int (nI k)), some (.int (nI zq.2)), some (.int (nI zq.1))], [], (zw_M g gl a al))) (fun zq => zq.1 ≤ zX o np k ∧ zq.2 + zC o zq.1 = k) (fun zq => np - zq.1) ?_ (0, k) ⟨by omega, rfl⟩
  rintro ⟨p, L⟩ ⟨hp, hL⟩ ih
  try dsimp only at *
  have ho1 := zb_le (o p)
  have hC : zC o (p + 1) = zC o p + (o p).toNat := rfl
  refine zr_go (t := (5, [some (.ref 0), some (.int (nI k)), some (.int (nI L)), some (.int (nI p))], [.int (nI L)], (zw_M g gl a al))) 1 rfl ?_
  refine zr_igt (x := nI L) (y := 0) L 0 rfl rfl (by omega) (by omega) (t := (17, [some (.ref 0), some (.int (nI k)), some (.int (nI L)), some (.int (nI p))], [], (zw_M g gl a al))) (f := (8, [some (.ref 0), some (.int (nI k)), some (.int (nI L)), some (.int (nI p))], [], (zw_M g gl a al))) rfl (fun h1 => ?_) (fun h1 => ?_)
  · skip
    have hlt : p < zX o np k := by rcases Nat.lt_or_ge p (zX o np k) with q | q; exact q; exfalso; have e : p = zX o np k := (by omega); rw [e, x3] at hL; omega
    have hmn := zC_mono o hlt
    refine zr_go (t := (23, [some (.ref 0), some (.int (nI k)), some (.int (nI L)), some (.int (nI p))], [.int (nI p), .ref 5, .int (nI L)], (zw_M g gl a al))) 4 rfl ?_
    refine zr_cd (t := (24, [some (.ref 0), some (.int (nI k)), some (.int (nI L)), some (.int (nI p))], [.int ((a 5) (nI p).toNatClampNeg), .int (nI L)], (zw_M g gl a al))) rfl (pk_in p 156 (by omega) rfl (by omega)) ?_
    rw [pk_cl (x := (nI p)) p rfl (by omega)]
    rw [show (a 5) p = nI ((o p).toNat) from hO p (by omega)]
    refine zr_ieq (x := nI ((o p).toNat)) (y := 0) ((o p).toNat) 0 rfl rfl (by omega) (by omega) (t := (31, [some (.ref 0), some (.int (nI k)), some (.int (nI L)), some (.int (nI p))], [.int (nI L)], (zw_M g gl a al))) (f := (27, [some (.ref 0), some (.int (nI k)), some (.int (nI L)), some (.int (nI p))], [.int (nI L)], (zw_M g gl a al))) rfl (fun h5 => ?_) (fun h5 => ?_)
    · skip
      refine zr_go (t := (4, [some (.ref 0), some (.int (nI k)), some (.int ((nI L) - 0)), some (.int ((nI p) + 1))], [], (zw_M g gl a al))) 5 rfl ?_
      rw [show (nI p) + 1 = nI (p + 1) from (zn_add rfl rfl)]
      rw [show (nI L) - 0 = nI (L - 0) from (zn_sub rfl rfl (by omega))]
      exact ih (p + 1, L - 0) ⟨by omega, by rw [hC, h5]; omega⟩ (by omega)
    · skip
      have h6 : (o p).toNat = 1 := by omega
      refine zr_go (t := (4, [some (.ref 0), some (.int (nI k)), some (.int ((nI L) - 1)), some (.int ((nI p) + 1))], [], (zw_M g gl a al))) 6 rfl ?_
      rw [show (nI p) + 1 = nI (p + 1) from (zn_add rfl rfl)]
      rw [show (nI L) - 1 = nI (L - 1) from (zn_sub rfl rfl (by omega))]
      exact ih (p + 1, L - 1) ⟨by omega, by rw [hC, h6]; omega⟩ (by omega)
  · skip
    refine zr_go (t := (13, [some (.ref 0), some (.int (nI k)), some (.int (nI L)), some (.int (nI p))], [.int (nI p), .ref 5], (zw_M g gl a al))) 3 rfl ?_
    refine zr_cd (t := (14, [some (.ref 0), some (.int (nI k)), some (.int (nI L)), some (.int (nI p))], [.int ((a 5) (nI p).toNatClampNeg)], (zw_M g gl a al))) rfl (pk_in p 156 (by omega) rfl (by omega)) ?_
    rw [pk_cl (x := (nI p)) p rfl (by omega)]
    rw [show (a 5) p = nI ((o p).toNat) from hO p (by omega)]
    refine zr_ine (x := nI ((o p).toNat)) (y := 0) ((o p).toNat) 0 rfl rfl (by omega) (by omega) (t := (40, [some (.ref 0), some (.int (nI k)), some (.int (nI L)), some (.int (nI p))], [], (zw_M g gl a al))) (f := (17, [some (.ref 0), some (.int (nI k)), some (.int (nI L)), some (.int (nI p))], [], (zw_M g gl a al))) rfl (fun h2 => ?_) (fun h2 => ?_)
    · skip
      have e1 : zX o np k = p := by rw [show k = zC o p by omega]; exact zX_at (zb_1 h2) (by omega)
      refine zr_go (t := (41, [some (.ref 0), some (.int (nI k)), some (.int (nI L)), some (.int (nI p))], [.int (nI p)], (zw_M g gl a al))) 1 rfl ?_
      exact zr_ret rfl trivial ⟨by rw [e1], rfl⟩
    · skip
      have hlt : p < zX o np k := by rcases Nat.lt_or_ge p (zX o np k) with q | q; exact q; exfalso; have e : p = zX o np k := (by omega); rw [← e, zb_0 h2] at x2; cases x2
      have hmn := zC_mono o hlt
      refine zr_go (t := (23, [some (.ref 0), some (.int (nI k)), some (.int (nI L)), some (.int (nI p))], [.int (nI p), .ref 5, .int (nI L)], (zw_M g gl a al))) 4 rfl ?_
      refine zr_cd (t := (24, [some (.ref 0), some (.int (nI k)), some (.int (nI L)), some (.int (nI p))], [.int ((a 5) (nI p).toNatClampNeg), .int (nI L)], (zw_M g gl a al))) rfl (pk_in p 156 (by omega) rfl (by omega)) ?_
      rw [pk_cl (x := (nI p)) p rfl (by omega)]
      rw [show (a 5) p = nI ((o p).toNat) from hO p (by omega)]
      refine zr_ieq (x := nI ((o p).toNat)) (y := 0) ((o p).toNat) 0 rfl rfl (by omega) (by omega) (t := (31, [some (.ref 0), some (.int (nI k)), some (.int (nI L)), some (.int (nI p))], [.int (nI L)], (zw_M g gl a al))) (f := (27, [some (.ref 0), some (.int (nI k)), some (.int (nI L)), some (.int (nI p))], [.int (nI L)], (zw_M g gl a al))) rfl (fun h5 => ?_) (fun h5 => ?_)
      · skip
        refine zr_go (t := (4, [some (.ref 0), some (.int (nI k)), some (.int ((nI L) - 0)), some (.int ((nI p) + 1))], [], (zw_M g gl a al))) 5 rfl ?_
        rw [show (nI p) + 1 = nI (p + 1) from (zn_add rfl rfl)]
        rw [show (nI L) - 0 = nI (L - 0) from (zn_sub rfl rfl (by omega))]
        exact ih (p + 1, L - 0) ⟨by omega, by rw [hC, h5]; omega⟩ (by omega)
      · skip
        have h6 : (o p).toNat = 1 := by omega
        refine zr_go (t := (4, [some (.ref 0), some (.int (nI k)), some (.int ((nI L) - 1)), some (.int ((nI p) + 1))], [], (zw_M g gl a al))) 6 rfl ?_
        rw [show (nI p) + 1 = nI (p + 1) from (zn_add rfl rfl)]
        rw [show (nI L) - 1 = nI (L - 1) from (zn_sub rfl rfl (by omega))]
        exact ih (p + 1, L - 1) ⟨by omega, by rw [hC, h6]; omega⟩ (by omega)
/-- a point of a flat, by degree, number and place -/
def zq_pin (np : Nat) (o : Nat → Bool) (ln pl : Nat → Nat → Nat) (d f k : Nat) : Nat := if d = 1 then zX o np f else if d = 2 then ln f k else pl f k
/-- what the reference holds of the lines and planes -/
def zc_L (a : Nat → Nat → Int32) (P nl npl : Nat) (ln pl : Nat → Nat → Nat) : Prop := (∀ l, l < nl → ∀ k, k < P + 1 → a 6 (6 * l + k) = nI (ln l k)) ∧ ∀ l, l < npl → ∀ k, k < 7 → a 7 (7 * l + k) = nI (pl l k)
theorem zs_M_pointIn (g : Nat → Int32) (gl : Nat → Int64) (a : Nat → Nat → Int32) (al : Nat → Nat → Int64) (nl npl : Nat) (hnl : g 12 = nI nl) (hnpl : g 14 = nI npl) (hnl1 : nl ≤ 128) (hnpl1 : npl ≤ 40) (np : Nat) (hnp1 : np ≤ 156) (o : Nat → Bool) (hO : zc_O a np o) (P : Nat) (hP5 : P ≤ 5) (ln pl : Nat → Nat → Nat) (hL : zc_L a P nl npl ln pl) (d f k : Nat) (hd : d ≤ 3) (hf0 : f < zq_fl (zC o np) nl npl d) (hk0 : k < zq_sz P d) : zm_Ev zt_get 2 147 [.ref 0, .int (nI d), .int (nI f), .int (nI k)] (zw_M g gl a al) (fun v w => v = some (.int (nI (zq_pin np o ln pl d f k))) ∧ w = (zw_M g gl a al)) := by
  refine zr_ev zt_M_pointIn rfl rfl ?_
  show zm_Run zt_get 1 zt_M_pointIn (0, [some (.ref 0), some (.int (nI d)), some (.int (nI f)), some (.int (nI k))], [], (zw_M g gl a al)) _
  refine zr_go (t := (2, [some (.ref 0), some (.int (nI d)), some (.int (nI f)), some (.int (nI k))], [.int 1, .int (nI d)], (zw_M g gl a al))) 2 rfl ?_
  refine zr_ine (x := nI d) (y := 1) d 1 rfl rfl (by omega) (by omega) (t := (13, [some (.ref 0), some (.int (nI d)), some (.int (nI f)), some (.int (nI k))], [], (zw_M g gl a al))) (f := (5, [some (.ref 0), some (.int (nI d)), some (.int (nI f)), some (.int (nI k))], [], (zw_M g gl a al))) rfl (fun h1 => ?_) (fun h1 => ?_)
  · skip
    refine zr_go (t := (15, [some (.ref 0), some (.int (nI d)), some (.int (nI f)), some (.int (nI k))], [.int 2, .int (nI d)], (zw_M g gl a al))) 2 rfl ?_
    refine zr_ine (x := nI d) (y := 2) d 2 rfl rfl (by omega) (by omega) (t := (32, [some (.ref 0), some (.int (nI d)), some (.int (nI f)), some (.int (nI k))], [], (zw_M g gl a al))) (f := (18, [some (.ref 0), some (.int (nI d)), some (.int (nI f)), some (.int (nI k))], [], (zw_M g gl a al))) rfl (fun h2 => ?_) (fun h2 => ?_)
    · skip
      have hf : f < npl := by unfold zq_fl at hf0; rw [if_neg h1, if_neg h2] at hf0; exact hf0
      have hk : k < 7 := by unfold zq_sz at hk0; rw [if_neg h1, if_neg h2] at hk0; exact hk0
      refine zr_go (t := (42, [some (.ref 0), some (.int (nI d)), some (.int (nI f)), some (.int (nI k))], [.int ((7 * (nI f)) + (nI k)), .ref 7], (zw_M g gl a al))) 7 rfl ?_
      refine zr_cd (t := (43, [some (.ref 0), some (.int (nI d)), some (.int (nI f)), some (.int (nI k))], [.int ((a 7) ((7 * (nI f)) + (nI k)).toNatClampNeg)], (zw_M g gl a al))) rfl (pk_in ((7 * f) + k) 280 (by omega) (zn_add (zn_mul rfl rfl) rfl) (by omega)) ?_
      rw [pk_cl (x := ((7 * (nI f)) + (nI k))) ((7 * f) + k) (zn_add (zn_mul rfl rfl) rfl) (by omega)]
      rw [show (a 7) ((7 * f) + k) = nI (pl f k) from hL.2 f hf k hk]
      exact zr_ret rfl trivial ⟨by unfold zq_pin; rw [if_neg h1, if_neg h2], rfl⟩
    · skip
      have hf : f < nl := by unfold zq_fl at hf0; rw [if_neg h1, if_pos h2] at hf0; exact hf0
      have hk : k < P + 1 := by unfold zq_sz at hk0; rw [if_neg h1, if_pos h2] at hk0; exact hk0
      refine zr_go (t := (28, [some (.ref 0), some (.int (nI d)), some (.int (nI f)), some (.int (nI k))], [.int ((6 * (nI f)) + (nI k)), .ref 6], (zw_M g gl a al))) 7 rfl ?_
      refine zr_cd (t := (29, [some (.ref 0), some (.int (nI d)), some (.int (nI f)), some (.int (nI k))], [.int ((a 6) ((6 * (nI f)) + (nI k)).toNatClampNeg)], (zw_M g gl a al))) rfl (pk_in ((6 * f) + k) 768 (by omega) (zn_add (zn_mul rfl rfl) rfl) (by omega)) ?_
      rw [pk_cl (x := ((6 * (nI f)) + (nI k))) ((6 * f) + k) (zn_add (zn_mul rfl rfl) rfl) (by omega)]
      rw [show (a 6) ((6 * f) + k) = nI (ln f k) from hL.1 f hf k hk]
      refine zr_go (t := (43, [some (.ref 0), some (.int (nI d)), some (.int (nI f)), some (.int (nI k))], [.int (nI (ln f k))], (zw_M g gl a al))) 1 rfl ?_
      exact zr_ret rfl trivial ⟨by unfold zq_pin; rw [if_neg h1, if_pos h2], rfl⟩
  · skip
    have hf : f < zC o np := by unfold zq_fl at hf0; rw [if_pos h1] at hf0; exact hf0
    refine zr_go (t := (7, [some (.ref 0), some (.int (nI d)), some (.int (nI f)), some (.int (nI k))], [.int (nI f), .ref 0], (zw_M g gl a al))) 2 rfl ?_
    refine zr_call (t := (10, [some (.ref 0), some (.int (nI d)), some (.int (nI f)), some (.int (nI k))], [], (zw_M g gl a al))) rfl (Nat.le_of_ble_eq_true rfl : 1 ≤ 1) (zs_M_onAt g gl a al np hnp1 o hO f hf) ?_
    rintro _ _ ⟨rfl, rfl⟩
    show zm_Run zt_get 1 zt_M_pointIn (10, [some (.ref 0), some (.int (nI d)), some (.int (nI f)), some (.int (nI k))], [.int (nI (zX o np f))], (zw_M g gl a al)) _
    refine zr_go (t := (43, [some (.ref 0), some (.int (nI d)), some (.int (nI f)), some (.int (nI k))], [.int (nI (zX o np f))], (zw_M g gl a al))) 1 rfl ?_
    exact zr_ret rfl trivial ⟨by unfold zq_pin; rw [if_pos h1], rfl⟩
theorem zs_M_isSound (g : Nat → Int32) (gl : Nat → Int64) (a : Nat → Nat → Int32) (al : Nat → Nat → Int64) (P ns : Nat) (hP : g 0 = nI P) (hP5 : P ≤ 5) (hns : g 11 = nI ns) (hns1 : ns ≤ 156) : zm_Ev zt_get 1 142 [.ref 0] (zw_M g gl a al) (fun v w => v = some (.int (nI (decide (0 < P) && decide (ns = 0)).toNat)) ∧ w = (zw_M g gl a al)) := by
  refine zr_ev zt_M_isSound rfl rfl ?_
  show zm_Run zt_get 0 zt_M_isSound (0, [some (.ref 0)], [], (zw_M g gl a al)) _
  refine zr_go (t := (4, [some (.ref 0)], [.int (g 0)], (zw_M g gl a al))) 2 rfl ?_
  refine zr_ile (x := g 0) (y := 0) P 0 hP rfl (by omega) (by omega) (t := (18, [some (.ref 0)], [], (zw_M g gl a al))) (f := (7, [some (.ref 0)], [], (zw_M g gl a al))) rfl (fun h1 => ?_) (fun h1 => ?_)
  · skip
    refine zr_go (t := (19, [some (.ref 0)], [.int 0], (zw_M g gl a al))) 1 rfl ?_
    exact zr_ret rfl (Or.inl rfl) ⟨by rw [decide_eq_false (by omega)]; rfl, rfl⟩
  · skip
    refine zr_go (t := (11, [some (.ref 0)], [.int (g 11)], (zw_M g gl a al))) 2 rfl ?_
    refine zr_ine (x := g 11) (y := 0) ns 0 hns rfl (by omega) (by omega) (t := (18, [some (.ref 0)], [], (zw_M g gl a al))) (f := (14, [some (.ref 0)], [], (zw_M g gl a al))) rfl (fun h2 => ?_) (fun h2 => ?_)
    · skip
      refine zr_go (t := (19, [some (.ref 0)], [.int 0], (zw_M g gl a al))) 1 rfl ?_
      exact zr_ret rfl (Or.inl rfl) ⟨by rw [decide_eq_false h2, Bool.and_false]; rfl, rfl⟩
    · skip
      refine zr_go (t := (19, [some (.ref 0)], [.int 1], (zw_M g gl a al))) 2 rfl ?_
      exact zr_ret rfl (Or.inr rfl) ⟨by rw [decide_eq_true h1, decide_eq_true h2]; rfl, rfl⟩
theorem zs_M_isForm (g : Nat → Int32) (gl : Nat → Int64) (a : Nat → Nat → Int32) (al : Nat → Nat → Int64) (P : Nat) (hP : g 0 = nI P) (hP5 : P ≤ 5) : zm_Ev zt_get 1 141 [.ref 0] (zw_M g gl a al) (fun v w => v = some (.int (nI (decide (0 < P)).toNat)) ∧ w = (zw_M g gl a al)) := by
  refine zr_ev zt_M_isForm rfl rfl ?_
  show zm_Run zt_get 0 zt_M_isForm (0, [some (.ref 0)], [], (zw_M g gl a al)) _
  refine zr_go (t := (4, [some (.ref 0)], [.int (g 0)], (zw_M g gl a al))) 2 rfl ?_
  refine zr_ile (x := g 0) (y := 0) P 0 hP rfl (by omega) (by omega) (t := (11, [some (.ref 0)], [], (zw_M g gl a al))) (f := (7, [some (.ref 0)], [], (zw_M g gl a al))) rfl (fun h1 => ?_) (fun h1 => ?_)
  · skip
    refine zr_go (t := (12, [some (.ref 0)], [.int 0], (zw_M g gl a al))) 1 rfl ?_
    exact zr_ret rfl (Or.inl rfl) ⟨by rw [decide_eq_false (by omega)]; rfl, rfl⟩
  · skip
    refine zr_go (t := (12, [some (.ref 0)], [.int 1], (zw_M g gl a al))) 2 rfl ?_
    exact zr_ret rfl (Or.inr rfl) ⟨by rw [decide_eq_true h1]; rfl, rfl⟩
def zq_gm (P ns on nl npl : Nat) : Nat := if 0 < P ∧ ns = 0 then zq_fl on nl npl (zq_ix nl npl) else 0
theorem zs_M_greatestMany (g : Nat → Int32) (gl : Nat → Int64) (a : Nat → Nat → Int32) (al : Nat → Nat → Int64) (nl npl : Nat) (hnl : g 12 = nI nl) (hnpl : g 14 = nI npl) (hnl1 : nl ≤ 128) (hnpl1 : npl ≤ 40) (P ns on : Nat) (hP : g 0 = nI P) (hP5 : P ≤ 5) (hns : g 11 = nI ns) (hns1 : ns ≤ 156) (hon : g 10 = nI on) : zm_Ev zt_get 2 148 [.ref 0] (zw_M g gl a al) (fun v w => v = some (.int (nI (zq_gm P ns on nl npl))) ∧ w = (zw_M g gl a al)) := by
  have h3 : zq_ix nl npl ≤ 3 := by rcases zq_ix3 nl npl with h | h | h <;> omega
  refine zr_ev zt_M_greatestMany rfl rfl ?_
  show zm_Run zt_get 1 zt_M_greatestMany (0, [some (.ref 0)], [], (zw_M g gl a al)) _
  refine zr_go (t := (1, [some (.ref 0)], [.ref 0], (zw_M g gl a al))) 1 rfl ?_
  refine zr_call (t := (4, [some (.ref 0)], [], (zw_M g gl a al))) rfl (Nat.le_of_ble_eq_true rfl : 1 ≤ 1) (zs_M_isSound g gl a al P ns hP hP5 hns hns1) ?_
  rintro _ _ ⟨rfl, rfl⟩
  show zm_Run zt_get 1 zt_M_greatestMany (4, [some (.ref 0)], [.int (nI ((decide (0 < P) && decide (ns = 0)).toNat))], (zw_M g gl a al)) _
  have hb1 := zb_le (decide (0 < P) && decide (ns = 0))
  refine zr_ieq (x := nI ((decide (0 < P) && decide (ns = 0)).toNat)) (y := 0) ((decide (0 < P) && decide (ns = 0)).toNat) 0 rfl rfl (by omega) (by omega) (t := (18, [some (.ref 0)], [], (zw_M g gl a al))) (f := (7, [some (.ref 0)], [], (zw_M g gl a al))) rfl (fun h1 => ?_) (fun h1 => ?_)
  · skip
    refine zr_go (t := (19, [some (.ref 0)], [.int 0], (zw_M g gl a al))) 1 rfl ?_
    exact zr_ret rfl trivial ⟨by unfold zq_gm; rw [if_neg (fun q => by have := zb_0 h1; simp [q.1, q.2] at this)]; rfl, rfl⟩
  · skip
    refine zr_go (t := (9, [some (.ref 0)], [.ref 0, .ref 0], (zw_M g gl a al))) 2 rfl ?_
    refine zr_call (t := (12, [some (.ref 0)], [.ref 0], (zw_M g gl a al))) rfl (Nat.le_of_ble_eq_true rfl : 1 ≤ 1) (zs_M_index g gl a al nl npl hnl hnpl hnl1 hnpl1) ?_
    rintro _ _ ⟨rfl, rfl⟩
    show zm_Run zt_get 1 zt_M_greatestMany (12, [some (.ref 0)], [.int (nI (zq_ix nl npl)), .ref 0], (zw_M g gl a al)) _
    refine zr_call (t := (15, [some (.ref 0)], [], (zw_M g gl a al))) rfl (Nat.le_of_ble_eq_true rfl : 1 ≤ 1) (zs_M_flatsOf g gl a al nl npl hnl hnpl hnl1 hnpl1 on hon (zq_ix nl npl) h3) ?_
    rintro _ _ ⟨rfl, rfl⟩
    show zm_Run zt_get 1 zt_M_greatestMany (15, [some (.ref 0)], [.int (nI (zq_fl on nl npl (zq_ix nl npl)))], (zw_M g gl a al)) _
    refine zr_go (t := (19, [some (.ref 0)], [.int (nI (zq_fl on nl npl (zq_ix nl npl)))], (zw_M g gl a al))) 1 rfl ?_
    exact zr_ret rfl trivial ⟨by have := zb_1 h1; simp only [Bool.and_eq_true, decide_eq_true_eq] at this; unfold zq_gm; rw [if_pos this], rfl⟩
/-- a maximal flat has a point -/
def zq_has (P np nl npl : Nat) (o : Nat → Bool) (ln pl : Nat → Nat → Nat) (f p : Nat) : Bool := zE (fun k => zq_pin np o ln pl (zq_ix nl npl) f k == p) (zq_sz P (zq_ix nl npl))
theorem zs_M_has (g : Nat → Int32) (gl : Nat → Int64) (a : Nat → Nat → Int32) (al : Nat → Nat → Int64) (nl npl : Nat) (hnl : g 12 = nI nl) (hnpl : g 14 = nI npl) (hnl1 : nl ≤ 128) (hnpl1 : npl ≤ 40) (np : Nat) (hnp1 : np ≤ 156) (o : Nat → Bool) (hO : zc_O a np o) (P : Nat) (hP5 : P ≤ 5) (ln pl : Nat → Nat → Nat) (hL : zc_L a P nl npl ln pl) (hP : g 0 = nI P) (f p : Nat) (hf : f < zq_fl (zC o np) nl npl (zq_ix nl npl)) (hp : p < 1000) (hpin : ∀ k, k < zq_sz P (zq_ix nl npl) → zq_pin np o ln pl (zq_ix nl npl) f k < np) : zm_Ev zt_get 3 149 [.ref 0, .int (nI f), .int (nI p)] (zw_M g gl a al) (fun v w => v = some (.int (nI (zq_has P np nl npl o ln pl f p).toNat)) ∧ w = (zw_M g gl a al)) := by
  have h3 : zq_ix nl npl ≤ 3 := by rcases zq_ix3 nl npl with h | h | h <;> omega
  have hsz := zq_sz_le (d := zq_ix nl npl) hP5
  refine zr_ev zt_M_has rfl rfl ?_
  show zm_Run zt_get 2 zt_M_has (0, [some (.ref 0), some (.int (nI f)), some (.int (nI p)), none, none], [], (zw_M g gl a al)) _
  refine zr_go (t := (5, [some (.ref 0), some (.int (nI f)), some (.int (nI p)), some (.int 0), some (.int 0)], [], (zw_M g gl a al))) 4 rfl ?_
  refine zr_loop (fun zq : Nat × Bool => (5, [some (.ref 0), some (.int (nI f)), some (.int (nI p)), some (.int (nI zq.2.toNat)), some (.int (nI zq.1))], [], (zw_M g gl a al))) (fun zq => zq.1 ≤ zq_sz P (zq_ix nl npl) ∧ zq.2 = zE (fun t => zq_pin np o ln pl (zq_ix nl npl) f t == p) zq.1) (fun zq => zq_sz P (zq_ix nl npl) - zq.1) ?_ (0, false) ⟨by omega, rfl⟩
  rintro ⟨k, b⟩ ⟨hk, hb⟩ ih
  try dsimp only at *
  refine zr_go (t := (9, [some (.ref 0), some (.int (nI f)), some (.int (nI p)), some (.int (nI b.toNat)), some (.int (nI k))], [.ref 0, .ref 0, .int (nI k)], (zw_M g gl a al))) 3 rfl ?_
  refine zr_call (t := (12, [some (.ref 0), some (.int (nI f)), some (.int (nI p)), some (.int (nI b.toNat)), some (.int (nI k))], [.ref 0, .int (nI k)], (zw_M g gl a al))) rfl (Nat.le_of_ble_eq_true rfl : 1 ≤ 2) (zs_M_index g gl a al nl npl hnl hnpl hnl1 hnpl1) ?_
  rintro _ _ ⟨rfl, rfl⟩
  show zm_Run zt_get 2 zt_M_has (12, [some (.ref 0), some (.int (nI f)), some (.int (nI p)), some (.int (nI b.toNat)), some (.int (nI k))], [.int (nI (zq_ix nl npl)), .ref 0, .int (nI k)], (zw_M g gl a al)) _
  refine zr_call (t := (15, [some (.ref 0), some (.int (nI f)), some (.int (nI p)), some (.int (nI b.toNat)), some (.int (nI k))], [.int (nI k)], (zw_M g gl a al))) rfl (Nat.le_of_ble_eq_true rfl : 1 ≤ 2) (zs_M_sizeOf g gl a al P hP (zq_ix nl npl) h3) ?_
  rintro _ _ ⟨rfl, rfl⟩
  show zm_Run zt_get 2 zt_M_has (15, [some (.ref 0), some (.int (nI f)), some (.int (nI p)), some (.int (nI b.toNat)), some (.int (nI k))], [.int (nI (zq_sz P (zq_ix nl npl))), .int (nI k)], (zw_M g gl a al)) _
  refine zr_ige (x := nI k) (y := nI (zq_sz P (zq_ix nl npl))) k (zq_sz P (zq_ix nl npl)) rfl rfl (by omega) (by omega) (t := (49, [some (.ref 0), some (.int (nI f)), some (.int (nI p)), some (.int (nI b.toNat)), some (.int (nI k))], [], (zw_M g gl a al))) (f := (18, [some (.ref 0), some (.int (nI f)), some (.int (nI p)), some (.int (nI b.toNat)), some (.int (nI k))], [], (zw_M g gl a al))) rfl (fun h1 => ?_) (fun h1 => ?_)
  · skip
    refine zr_go (t := (50, [some (.ref 0), some (.int (nI f)), some (.int (nI p)), some (.int (nI b.toNat)), some (.int (nI k))], [.int (nI b.toNat)], (zw_M g gl a al))) 1 rfl ?_
    exact zr_ret rfl (zb_ok b) ⟨by rw [hb, show k = zq_sz P (zq_ix nl npl) by omega]; rfl, rfl⟩
  · skip
    refine zr_go (t := (19, [some (.ref 0), some (.int (nI f)), some (.int (nI p)), some (.int (nI b.toNat)), some (.int (nI k))], [.int (nI b.toNat)], (zw_M g gl a al))) 1 rfl ?_
    have hb1 := zb_le b
    have hpk := hpin k h1
    refine zr_ine (x := nI b.toNat) (y := 0) b.toNat 0 rfl rfl (by omega) (by omega) (t := (37, [some (.ref 0), some (.int (nI f)), some (.int (nI p)), some (.int (nI b.toNat)), some (.int (nI k))], [], (zw_M g gl a al))) (f := (22, [some (.ref 0), some (.int (nI f)), some (.int (nI p)), some (.int (nI b.toNat)), some (.int (nI k))], [], (zw_M g gl a al))) rfl (fun h2 => ?_) (fun h2 => ?_)
    · skip
      refine zr_go (t := (5, [some (.ref 0), some (.int (nI f)), some (.int (nI p)), some (.int 1), some (.int ((nI k) + 1))], [], (zw_M g gl a al))) 5 rfl ?_
      rw [show some (Value.int 1) = some (Value.int (nI (true).toNat)) from rfl]
      rw [show (nI k) + 1 = nI (k + 1) from (zn_add rfl rfl)]
      exact ih (k + 1, true) ⟨by omega, by show true = (zE _ k || _); rw [← hb, zb_1 h2]; rfl⟩ (by omega)
    · skip
      refine zr_go (t := (24, [some (.ref 0), some (.int (nI f)), some (.int (nI p)), some (.int (nI b.toNat)), some (.int (nI k))], [.ref 0, .ref 0], (zw_M g gl a al))) 2 rfl ?_
      refine zr_call (t := (27, [some (.ref 0), some (.int (nI f)), some (.int (nI p)), some (.int (nI b.toNat)), some (.int (nI k))], [.ref 0], (zw_M g gl a al))) rfl (Nat.le_of_ble_eq_true rfl : 1 ≤ 2) (zs_M_index g gl a al nl npl hnl hnpl hnl1 hnpl1) ?_
      rintro _ _ ⟨rfl, rfl⟩
      show zm_Run zt_get 2 zt_M_has (27, [some (.ref 0), some (.int (nI f)), some (.int (nI p)), some (.int (nI b.toNat)), some (.int (nI k))], [.int (nI (zq_ix nl npl)), .ref 0], (zw_M g gl a al)) _
      refine zr_go (t := (30, [some (.ref 0), some (.int (nI f)), some (.int (nI p)), some (.int (nI b.toNat)), some (.int (nI k))], [.int (nI k), .int (nI f), .int (nI (zq_ix nl npl)), .ref 0], (zw_M g gl a al))) 2 rfl ?_
      refine zr_call (t := (33, [some (.ref 0), some (.int (nI f)), some (.int (nI p)), some (.int (nI b.toNat)), some (.int (nI k))], [], (zw_M g gl a al))) rfl (Nat.le_of_ble_eq_true rfl : 2 ≤ 2) (zs_M_pointIn g gl a al nl npl hnl hnpl hnl1 hnpl1 np hnp1 o hO P hP5 ln pl hL (zq_ix nl npl) f k h3 hf h1) ?_
      rintro _ _ ⟨rfl, rfl⟩
      show zm_Run zt_get 2 zt_M_has (33, [some (.ref 0), some (.int (nI f)), some (.int (nI p)), some (.int (nI b.toNat)), some (.int (nI k))], [.int (nI (zq_pin np o ln pl (zq_ix nl npl) f k))], (zw_M g gl a al)) _
      refine zr_go (t := (34, [some (.ref 0), some (.int (nI f)), some (.int (nI p)), some (.int (nI b.toNat)), some (.int (nI k))], [.int (nI p), .int (nI (zq_pin np o ln pl (zq_ix nl npl) f k))], (zw_M g gl a al))) 1 rfl ?_
      refine zr_ine (x := nI (zq_pin np o ln pl (zq_ix nl npl) f k)) (y := nI p) (zq_pin np o ln pl (zq_ix nl npl) f k) p rfl rfl (by omega) (by omega) (t := (41, [some (.ref 0), some (.int (nI f)), some (.int (nI p)), some (.int (nI b.toNat)), some (.int (nI k))], [], (zw_M g gl a al))) (f := (37, [some (.ref 0), some (.int (nI f)), some (.int (nI p)), some (.int (nI b.toNat)), some (.int (nI k))], [], (zw_M g gl a al))) rfl (fun h4 => ?_) (fun h4 => ?_)
      · skip
        refine zr_go (t := (5, [some (.ref 0), some (.int (nI f)), some (.int (nI p)), some (.int 0), some (.int ((nI k) + 1))], [], (zw_M g gl a al))) 4 rfl ?_
        rw [show some (Value.int 0) = some (Value.int (nI (false).toNat)) from rfl]
        rw [show (nI k) + 1 = nI (k + 1) from (zn_add rfl rfl)]
        exact ih (k + 1, false) ⟨by omega, by show false = (zE _ k || _); rw [← hb, zb_0 h2]; simp [h4]⟩ (by omega)
      · skip
        refine zr_go (t := (5, [some (.ref 0), some (.int (nI f)), some (.int (nI p)), some (.int 1), some (.int ((nI k) + 1))], [], (zw_M g gl a al))) 5 rfl ?_
        rw [show some (Value.int 1) = some (Value.int (nI (true).toNat)) from rfl]
        rw [show (nI k) + 1 = nI (k + 1) from (zn_add rfl rfl)]
        exact ih (k + 1, true) ⟨by omega, by show true = (zE _ k || _); rw [← hb, zb_0 h2]; simp [h4]⟩ (by omega)
/-- the type -/
def zq_kd (N ns nl npl : Nat) : Nat := if 0 < ns then 3 else if N % 2 = 1 then 0 else if 2 * zq_ix nl npl = N then 1 else 2
theorem zs_M_kind (g : Nat → Int32) (gl : Nat → Int64) (a : Nat → Nat → Int32) (al : Nat → Nat → Int64) (nl npl : Nat) (hnl : g 12 = nI nl) (hnpl : g 14 = nI npl) (hnl1 : nl ≤ 128) (hnpl1 : npl ≤ 40) (N ns : Nat) (hN : g 1 = nI N) (hN6 : N ≤ 6) (hns : g 11 = nI ns) (hns1 : ns ≤ 156) : zm_Ev zt_get 2 150 [.ref 0] (zw_M g gl a al) (fun v w => v = some (.int (nI (zq_kd N ns nl npl))) ∧ w = (zw_M g gl a al)) := by
  have h3 : zq_ix nl npl ≤ 3 := by rcases zq_ix3 nl npl with h | h | h <;> omega
  refine zr_ev zt_M_kind rfl rfl ?_
  show zm_Run zt_get 1 zt_M_kind (0, [some (.ref 0)], [], (zw_M g gl a al)) _
  refine zr_go (t := (4, [some (.ref 0)], [.int (g 11)], (zw_M g gl a al))) 2 rfl ?_
  refine zr_ile (x := g 11) (y := 0) ns 0 hns rfl (by omega) (by omega) (t := (9, [some (.ref 0)], [], (zw_M g gl a al))) (f := (7, [some (.ref 0)], [], (zw_M g gl a al))) rfl (fun h1 => ?_) (fun h1 => ?_)
  · skip
    refine zr_go (t := (14, [some (.ref 0)], [.int 2, .int (g 1)], (zw_M g gl a al))) 3 rfl ?_
    refine zr_cd (t := (15, [some (.ref 0)], [.int ((g 1) - (g 1) / 2 * 2)], (zw_M g gl a al))) rfl (zn_ne0 (b := 2) rfl (by decide) (by decide)) ?_
    rw [show (g 1) - (g 1) / 2 * 2 = nI (N % 2) from (zn_rem hN rfl (by omega) (by omega) (by omega))]
    refine zr_go (t := (16, [some (.ref 0)], [.int 1, .int (nI (N % 2))], (zw_M g gl a al))) 1 rfl ?_
    have hm2 : N % 2 < 2 := Nat.mod_lt _ (by decide)
    refine zr_ine (x := nI (N % 2)) (y := 1) (N % 2) 1 rfl rfl (by omega) (by omega) (t := (23, [some (.ref 0)], [], (zw_M g gl a al))) (f := (19, [some (.ref 0)], [], (zw_M g gl a al))) rfl (fun h2 => ?_) (fun h2 => ?_)
    · skip
      refine zr_go (t := (25, [some (.ref 0)], [.ref 0, .int 2], (zw_M g gl a al))) 2 rfl ?_
      refine zr_call (t := (28, [some (.ref 0)], [.int 2], (zw_M g gl a al))) rfl (Nat.le_of_ble_eq_true rfl : 1 ≤ 1) (zs_M_index g gl a al nl npl hnl hnpl hnl1 hnpl1) ?_
      rintro _ _ ⟨rfl, rfl⟩
      show zm_Run zt_get 1 zt_M_kind (28, [some (.ref 0)], [.int (nI (zq_ix nl npl)), .int 2], (zw_M g gl a al)) _
      refine zr_go (t := (33, [some (.ref 0)], [.int (g 1), .int (2 * (nI (zq_ix nl npl)))], (zw_M g gl a al))) 3 rfl ?_
      refine zr_ine (x := 2 * (nI (zq_ix nl npl))) (y := g 1) (2 * (zq_ix nl npl)) N (zn_mul rfl rfl) hN (by omega) (by omega) (t := (40, [some (.ref 0)], [], (zw_M g gl a al))) (f := (36, [some (.ref 0)], [], (zw_M g gl a al))) rfl (fun h4 => ?_) (fun h4 => ?_)
      · skip
        refine zr_go (t := (41, [some (.ref 0)], [.int 2], (zw_M g gl a al))) 1 rfl ?_
        exact zr_ret rfl trivial ⟨by unfold zq_kd; rw [if_neg (by omega), if_neg h2, if_neg h4]; rfl, rfl⟩
      · skip
        refine zr_go (t := (41, [some (.ref 0)], [.int 1], (zw_M g gl a al))) 2 rfl ?_
        exact zr_ret rfl trivial ⟨by unfold zq_kd; rw [if_neg (by omega), if_neg h2, if_pos h4]; rfl, rfl⟩
    · skip
      refine zr_go (t := (41, [some (.ref 0)], [.int 0], (zw_M g gl a al))) 2 rfl ?_
      exact zr_ret rfl trivial ⟨by unfold zq_kd; rw [if_neg (by omega), if_pos h2]; rfl, rfl⟩
  · skip
    refine zr_go (t := (8, [some (.ref 0)], [.int 3], (zw_M g gl a al))) 1 rfl ?_
    exact zr_ret rfl trivial ⟨by unfold zq_kd; rw [if_pos h1]; rfl, rfl⟩
