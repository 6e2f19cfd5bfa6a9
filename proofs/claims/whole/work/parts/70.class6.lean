/-! the class: points, values, sections (written by wip/whole/gen_c6.py) -/
theorem zs_C_product_n (g : Nat → Int32) (gl : Nat → Int64) (a : Nat → Nat → Int32) (al : Nat → Nat → Int64) (P N : Nat) (hP : g 15 = nI P) (hN : g 16 = nI N) (hP0 : 0 < P) (hP5 : P ≤ 5) (hN6 : N ≤ 6) (r p : Nat) (hr : r < 156) (hp : p < 156) (x y : Nat → Nat) (hx : ∀ i, i < N → a 16 (r * 6 + i) = nI (x i)) (hx4 : ∀ i, i < N → x i ≤ 4) (hy : ∀ i, i < N → a 15 (p * 6 + i) = nI (y i)) (hy4 : ∀ i, i < N → y i ≤ 4) : zm_Ev zt_get 2 37 [.ref 4, .ref 16, .int (nI r), .int (nI p)] (zw_C g gl a al) (fun v w => v = some (.int (nI (zv_dot N x y % P))) ∧ w = (zw_C g gl a al)) := by
  refine zr_ev zt_Q_product rfl rfl ?_
  show zm_Run zt_get 1 zt_Q_product (0, [some (.ref 4), some (.ref 16), some (.int (nI r)), some (.int (nI p)), none, none], [], (zw_C g gl a al)) _
  refine zr_go (t := (6, [some (.ref 4), some (.ref 16), some (.int (nI r)), some (.int (nI p)), some (.int 0), some (.int 0)], [], (zw_C g gl a al))) 4 rfl ?_
  refine zr_loop (fun zq : Nat × Nat => (6, [some (.ref 4), some (.ref 16), some (.int (nI r)), some (.int (nI p)), some (.int (nI zq.2)), some (.int (nI zq.1))], [], (zw_C g gl a al))) (fun zq => zq.1 ≤ N ∧ zq.2 = zv_dot zq.1 x y) (fun zq => N - zq.1) ?_ (0, 0) ⟨by omega, rfl⟩
  rintro ⟨i, s⟩ ⟨hi, hs⟩ ih
  try dsimp only at *
  have hs1 : s ≤ i * 16 := by rw [hs]; exact zS_le i (fun k hk => Nat.mul_le_mul (hx4 k (by omega)) (hy4 k (by omega)))
  refine zr_go (t := (12, [some (.ref 4), some (.ref 16), some (.int (nI r)), some (.int (nI p)), some (.int (nI s)), some (.int (nI i))], [.int (g 16), .int (nI i)], (zw_C g gl a al))) 3 rfl ?_
  refine zr_ige (x := nI i) (y := g 16) i N rfl hN (by omega) (by omega) (t := (48, [some (.ref 4), some (.ref 16), some (.int (nI r)), some (.int (nI p)), some (.int (nI s)), some (.int (nI i))], [], (zw_C g gl a al))) (f := (15, [some (.ref 4), some (.ref 16), some (.int (nI r)), some (.int (nI p)), some (.int (nI s)), some (.int (nI i))], [], (zw_C g gl a al))) rfl (fun h1 => ?_) (fun h1 => ?_)
  · skip
    refine zr_go (t := (54, [some (.ref 4), some (.ref 16), some (.int (nI r)), some (.int (nI p)), some (.int (nI s)), some (.int (nI i))], [.int (g 15), .int (nI s)], (zw_C g gl a al))) 3 rfl ?_
    rw [hP]
    refine zr_call (t := (57, [some (.ref 4), some (.ref 16), some (.int (nI r)), some (.int (nI p)), some (.int (nI s)), some (.int (nI i))], [], (zw_C g gl a al))) rfl (Nat.le_of_ble_eq_true rfl : 1 ≤ 1) (zs_C_modN g gl a al (nI s) s P rfl (by omega) hP0 (by omega)) ?_
    rintro _ _ ⟨rfl, rfl⟩
    show zm_Run zt_get 1 zt_Q_product (57, [some (.ref 4), some (.ref 16), some (.int (nI r)), some (.int (nI p)), some (.int (nI s)), some (.int (nI i))], [.int (nI (s % P))], (zw_C g gl a al)) _
    exact zr_ret rfl trivial ⟨by rw [hs, show i = N by omega], rfl⟩
  · skip
    have hxi := hx4 i h1
    have hyi := hy4 i h1
    have hm : x i * y i ≤ 4 * 4 := Nat.mul_le_mul hxi hyi
    refine zr_go (t := (25, [some (.ref 4), some (.ref 16), some (.int (nI r)), some (.int (nI p)), some (.int (nI s)), some (.int (nI i))], [.int (((nI r) * 6) + (nI i)), .ref 16, .int (nI s)], (zw_C g gl a al))) 7 rfl ?_
    refine zr_cd (t := (26, [some (.ref 4), some (.ref 16), some (.int (nI r)), some (.int (nI p)), some (.int (nI s)), some (.int (nI i))], [.int ((a 16) (((nI r) * 6) + (nI i)).toNatClampNeg), .int (nI s)], (zw_C g gl a al))) rfl (pk_in ((r * 6) + i) 936 (by omega) (zn_add (zn_mul rfl rfl) rfl) (by omega)) ?_
    rw [pk_cl (x := (((nI r) * 6) + (nI i))) ((r * 6) + i) (zn_add (zn_mul rfl rfl) rfl) (by omega)]
    rw [show (a 16) ((r * 6) + i) = nI (x i) from hx i h1]
    refine zr_go (t := (37, [some (.ref 4), some (.ref 16), some (.int (nI r)), some (.int (nI p)), some (.int (nI s)), some (.int (nI i))], [.int (((nI p) * 6) + (nI i)), .ref 15, .int (nI (x i)), .int (nI s)], (zw_C g gl a al))) 7 rfl ?_
    refine zr_cd (t := (38, [some (.ref 4), some (.ref 16), some (.int (nI r)), some (.int (nI p)), some (.int (nI s)), some (.int (nI i))], [.int ((a 15) (((nI p) * 6) + (nI i)).toNatClampNeg), .int (nI (x i)), .int (nI s)], (zw_C g gl a al))) rfl (pk_in ((p * 6) + i) 936 (by omega) (zn_add (zn_mul rfl rfl) rfl) (by omega)) ?_
    rw [pk_cl (x := (((nI p) * 6) + (nI i))) ((p * 6) + i) (zn_add (zn_mul rfl rfl) rfl) (by omega)]
    rw [show (a 15) ((p * 6) + i) = nI (y i) from hy i h1]
    refine zr_go (t := (6, [some (.ref 4), some (.ref 16), some (.int (nI r)), some (.int (nI p)), some (.int ((nI s) + ((nI (x i)) * (nI (y i))))), some (.int ((nI i) + 1))], [], (zw_C g gl a al))) 5 rfl ?_
    rw [show (nI i) + 1 = nI (i + 1) from (zn_add rfl rfl)]
    rw [show (nI s) + ((nI (x i)) * (nI (y i))) = nI (s + ((x i) * (y i))) from (zn_add rfl (zn_mul rfl rfl))]
    exact ih (i + 1, s + x i * y i) ⟨by omega, by rw [hs]; rfl⟩ (by omega)
theorem zs_C_product_d (g : Nat → Int32) (gl : Nat → Int64) (a : Nat → Nat → Int32) (al : Nat → Nat → Int64) (P N : Nat) (hP : g 15 = nI P) (hN : g 16 = nI N) (hP0 : 0 < P) (hP5 : P ≤ 5) (hN6 : N ≤ 6) (r p : Nat) (hr : r < 156) (hp : p < 156) (x y : Nat → Nat) (hx : ∀ i, i < N → a 15 (r * 6 + i) = nI (x i)) (hx4 : ∀ i, i < N → x i ≤ 4) (hy : ∀ i, i < N → a 15 (p * 6 + i) = nI (y i)) (hy4 : ∀ i, i < N → y i ≤ 4) : zm_Ev zt_get 2 37 [.ref 4, .ref 15, .int (nI r), .int (nI p)] (zw_C g gl a al) (fun v w => v = some (.int (nI (zv_dot N x y % P))) ∧ w = (zw_C g gl a al)) := by
  refine zr_ev zt_Q_product rfl rfl ?_
  show zm_Run zt_get 1 zt_Q_product (0, [some (.ref 4), some (.ref 15), some (.int (nI r)), some (.int (nI p)), none, none], [], (zw_C g gl a al)) _
  refine zr_go (t := (6, [some (.ref 4), some (.ref 15), some (.int (nI r)), some (.int (nI p)), some (.int 0), some (.int 0)], [], (zw_C g gl a al))) 4 rfl ?_
  refine zr_loop (fun zq : Nat × Nat => (6, [some (.ref 4), some (.ref 15), some (.int (nI r)), some (.int (nI p)), some (.int (nI zq.2)), some (.int (nI zq.1))], [], (zw_C g gl a al))) (fun zq => zq.1 ≤ N ∧ zq.2 = zv_dot zq.1 x y) (fun zq => N - zq.1) ?_ (0, 0) ⟨by omega, rfl⟩
  rintro ⟨i, s⟩ ⟨hi, hs⟩ ih
  try dsimp only at *
  have hs1 : s ≤ i * 16 := by rw [hs]; exact zS_le i (fun k hk => Nat.mul_le_mul (hx4 k (by omega)) (hy4 k (by omega)))
  refine zr_go (t := (12, [some (.ref 4), some (.ref 15), some (.int (nI r)), some (.int (nI p)), some (.int (nI s)), some (.int (nI i))], [.int (g 16), .int (nI i)], (zw_C g gl a al))) 3 rfl ?_
  refine zr_ige (x := nI i) (y := g 16) i N rfl hN (by omega) (by omega) (t := (48, [some (.ref 4), some (.ref 15), some (.int (nI r)), some (.int (nI p)), some (.int (nI s)), some (.int (nI i))], [], (zw_C g gl a al))) (f := (15, [some (.ref 4), some (.ref 15), some (.int (nI r)), some (.int (nI p)), some (.int (nI s)), some (.int (nI i))], [], (zw_C g gl a al))) rfl (fun h1 => ?_) (fun h1 => ?_)
  · skip
    refine zr_go (t := (54, [some (.ref 4), some (.ref 15), some (.int (nI r)), some (.int (nI p)), some (.int (nI s)), some (.int (nI i))], [.int (g 15), .int (nI s)], (zw_C g gl a al))) 3 rfl ?_
    rw [hP]
    refine zr_call (t := (57, [some (.ref 4), some (.ref 15), some (.int (nI r)), some (.int (nI p)), some (.int (nI s)), some (.int (nI i))], [], (zw_C g gl a al))) rfl (Nat.le_of_ble_eq_true rfl : 1 ≤ 1) (zs_C_modN g gl a al (nI s) s P rfl (by omega) hP0 (by omega)) ?_
    rintro _ _ ⟨rfl, rfl⟩
    show zm_Run zt_get 1 zt_Q_product (57, [some (.ref 4), some (.ref 15), some (.int (nI r)), some (.int (nI p)), some (.int (nI s)), some (.int (nI i))], [.int (nI (s % P))], (zw_C g gl a al)) _
    exact zr_ret rfl trivial ⟨by rw [hs, show i = N by omega], rfl⟩
  · skip
    have hxi := hx4 i h1
    have hyi := hy4 i h1
    have hm : x i * y i ≤ 4 * 4 := Nat.mul_le_mul hxi hyi
    refine zr_go (t := (25, [some (.ref 4), some (.ref 15), some (.int (nI r)), some (.int (nI p)), some (.int (nI s)), some (.int (nI i))], [.int (((nI r) * 6) + (nI i)), .ref 15, .int (nI s)], (zw_C g gl a al))) 7 rfl ?_
    refine zr_cd (t := (26, [some (.ref 4), some (.ref 15), some (.int (nI r)), some (.int (nI p)), some (.int (nI s)), some (.int (nI i))], [.int ((a 15) (((nI r) * 6) + (nI i)).toNatClampNeg), .int (nI s)], (zw_C g gl a al))) rfl (pk_in ((r * 6) + i) 936 (by omega) (zn_add (zn_mul rfl rfl) rfl) (by omega)) ?_
    rw [pk_cl (x := (((nI r) * 6) + (nI i))) ((r * 6) + i) (zn_add (zn_mul rfl rfl) rfl) (by omega)]
    rw [show (a 15) ((r * 6) + i) = nI (x i) from hx i h1]
    refine zr_go (t := (37, [some (.ref 4), some (.ref 15), some (.int (nI r)), some (.int (nI p)), some (.int (nI s)), some (.int (nI i))], [.int (((nI p) * 6) + (nI i)), .ref 15, .int (nI (x i)), .int (nI s)], (zw_C g gl a al))) 7 rfl ?_
    refine zr_cd (t := (38, [some (.ref 4), some (.ref 15), some (.int (nI r)), some (.int (nI p)), some (.int (nI s)), some (.int (nI i))], [.int ((a 15) (((nI p) * 6) + (nI i)).toNatClampNeg), .int (nI (x i)), .int (nI s)], (zw_C g gl a al))) rfl (pk_in ((p * 6) + i) 936 (by omega) (zn_add (zn_mul rfl rfl) rfl) (by omega)) ?_
    rw [pk_cl (x := (((nI p) * 6) + (nI i))) ((p * 6) + i) (zn_add (zn_mul rfl rfl) rfl) (by omega)]
    rw [show (a 15) ((p * 6) + i) = nI (y i) from hy i h1]
    refine zr_go (t := (6, [some (.ref 4), some (.ref 15), some (.int (nI r)), some (.int (nI p)), some (.int ((nI s) + ((nI (x i)) * (nI (y i))))), some (.int ((nI i) + 1))], [], (zw_C g gl a al))) 5 rfl ?_
    rw [show (nI i) + 1 = nI (i + 1) from (zn_add rfl rfl)]
    rw [show (nI s) + ((nI (x i)) * (nI (y i))) = nI (s + ((x i) * (y i))) from (zn_add rfl (zn_mul rfl rfl))]
    exact ih (i + 1, s + x i * y i) ⟨by omega, by rw [hs]; rfl⟩ (by omega)
theorem zs_C_isOn (g : Nat → Int32) (gl : Nat → Int64) (a : Nat → Nat → Int32) (al : Nat → Nat → Int64) (p v : Nat) (hp : p < 156) (hv : a 17 p = nI v) (hv4 : v ≤ 4) : zm_Ev zt_get 1 36 [.ref 4, .int (nI p)] (zw_C g gl a al) (fun u w => u = some (.int (nI (v == 0).toNat)) ∧ w = (zw_C g gl a al)) := by
  refine zr_ev zt_Q_isOn rfl rfl ?_
  show zm_Run zt_get 0 zt_Q_isOn (0, [some (.ref 4), some (.int (nI p))], [], (zw_C g gl a al)) _
  refine zr_go (t := (5, [some (.ref 4), some (.int (nI p))], [.int (nI p), .ref 17], (zw_C g gl a al))) 3 rfl ?_
  refine zr_cd (t := (6, [some (.ref 4), some (.int (nI p))], [.int ((a 17) (nI p).toNatClampNeg)], (zw_C g gl a al))) rfl (pk_in p 156 (by omega) rfl (by omega)) ?_
  rw [pk_cl (x := (nI p)) p rfl (by omega)]
  rw [show (a 17) p = nI v from hv]
  refine zr_ine (x := nI v) (y := 0) v 0 rfl rfl (by omega) (by omega) (t := (13, [some (.ref 4), some (.int (nI p))], [], (zw_C g gl a al))) (f := (9, [some (.ref 4), some (.int (nI p))], [], (zw_C g gl a al))) rfl (fun h1 => ?_) (fun h1 => ?_)
  · skip
    refine zr_go (t := (14, [some (.ref 4), some (.int (nI p))], [.int 0], (zw_C g gl a al))) 1 rfl ?_
    exact zr_ret rfl (Or.inl rfl) ⟨by rw [zb_ne0 h1]; rfl, rfl⟩
  · skip
    refine zr_go (t := (14, [some (.ref 4), some (.int (nI p))], [.int 1], (zw_C g gl a al))) 2 rfl ?_
    exact zr_ret rfl (Or.inr rfl) ⟨by rw [zb_eq0 h1]; rfl, rfl⟩
theorem zs_C_isSing (g : Nat → Int32) (gl : Nat → Int64) (a : Nat → Nat → Int32) (al : Nat → Nat → Int64) (N : Nat) (hN : g 16 = nI N) (hN6 : N ≤ 6) (p : Nat) (hp : p < 156) (x : Nat → Nat) (hx : ∀ i, i < N → a 16 (p * 6 + i) = nI (x i)) (hx4 : ∀ i, i < N → x i ≤ 4) : zm_Ev zt_get 1 35 [.ref 4, .int (nI p)] (zw_C g gl a al) (fun v w => v = some (.int (nI (zA (fun i => x i == 0) N).toNat)) ∧ w = (zw_C g gl a al)) := by
  refine zr_ev zt_Q_isSingular rfl rfl ?_
  show zm_Run zt_get 0 zt_Q_isSingular (0, [some (.ref 4), some (.int (nI p)), none], [], (zw_C g gl a al)) _
  refine zr_go (t := (2, [some (.ref 4), some (.int (nI p)), some (.int 0)], [], (zw_C g gl a al))) 2 rfl ?_
  refine zr_loop (fun zq : Nat => (2, [some (.ref 4), some (.int (nI p)), some (.int (nI zq))], [], (zw_C g gl a al))) (fun zq => zq ≤ N ∧ zA (fun zq => x zq == 0) zq = true) (fun zq => N - zq) ?_ 0 ⟨by omega, rfl⟩
  rintro i ⟨hi, hz⟩ ih
  try dsimp only at *
  refine zr_go (t := (7, [some (.ref 4), some (.int (nI p)), some (.int (nI i))], [.int (g 16), .int (nI i)], (zw_C g gl a al))) 3 rfl ?_
  refine zr_ige (x := nI i) (y := g 16) i N rfl hN (by omega) (by omega) (t := (32, [some (.ref 4), some (.int (nI p)), some (.int (nI i))], [], (zw_C g gl a al))) (f := (10, [some (.ref 4), some (.int (nI p)), some (.int (nI i))], [], (zw_C g gl a al))) rfl (fun h1 => ?_) (fun h1 => ?_)
  · skip
    refine zr_go (t := (33, [some (.ref 4), some (.int (nI p)), some (.int (nI i))], [.int 1], (zw_C g gl a al))) 1 rfl ?_
    exact zr_ret rfl (Or.inr rfl) ⟨by rw [show N = i by omega, hz]; rfl, rfl⟩
  · skip
    have hxi := hx4 i h1
    refine zr_go (t := (20, [some (.ref 4), some (.int (nI p)), some (.int (nI i))], [.int (((nI p) * 6) + (nI i)), .ref 16], (zw_C g gl a al))) 7 rfl ?_
    refine zr_cd (t := (21, [some (.ref 4), some (.int (nI p)), some (.int (nI i))], [.int ((a 16) (((nI p) * 6) + (nI i)).toNatClampNeg)], (zw_C g gl a al))) rfl (pk_in ((p * 6) + i) 936 (by omega) (zn_add (zn_mul rfl rfl) rfl) (by omega)) ?_
    rw [pk_cl (x := (((nI p) * 6) + (nI i))) ((p * 6) + i) (zn_add (zn_mul rfl rfl) rfl) (by omega)]
    rw [show (a 16) ((p * 6) + i) = nI (x i) from hx i h1]
    refine zr_ieq (x := nI (x i)) (y := 0) (x i) 0 rfl rfl (by omega) (by omega) (t := (26, [some (.ref 4), some (.int (nI p)), some (.int (nI i))], [], (zw_C g gl a al))) (f := (24, [some (.ref 4), some (.int (nI p)), some (.int (nI i))], [], (zw_C g gl a al))) rfl (fun h2 => ?_) (fun h2 => ?_)
    · skip
      refine zr_go (t := (2, [some (.ref 4), some (.int (nI p)), some (.int ((nI i) + 1))], [], (zw_C g gl a al))) 2 rfl ?_
      rw [show (nI i) + 1 = nI (i + 1) from (zn_add rfl rfl)]
      exact ih (i + 1) ⟨by omega, by show (zA _ i && (x i == 0)) = true; rw [hz, h2]; rfl⟩ (by omega)
    · skip
      refine zr_go (t := (25, [some (.ref 4), some (.int (nI p)), some (.int (nI i))], [.int 0], (zw_C g gl a al))) 1 rfl ?_
      exact zr_ret rfl (Or.inl rfl) ⟨by rw [zA_no (k := i + 1) (by show (zA _ i && (x i == 0)) = false; rw [zb_ne0 h2, Bool.and_false]) h1]; rfl, rfl⟩
theorem zs_C_areCol (g : Nat → Int32) (gl : Nat → Int64) (a : Nat → Nat → Int32) (al : Nat → Nat → Int64) (P N : Nat) (hP : g 15 = nI P) (hN : g 16 = nI N) (hP0 : 0 < P) (hP5 : P ≤ 5) (hN6 : N ≤ 6) (p q v z : Nat) (hp : p < 156) (hq : q < 156) (hv : a 17 p = nI v) (hv4 : v ≤ 4) (hz : a 17 q = nI z) (hz4 : z ≤ 4) (x y : Nat → Nat) (hx : ∀ i, i < N → a 16 (p * 6 + i) = nI (x i)) (hx4 : ∀ i, i < N → x i ≤ 4) (hy : ∀ i, i < N → a 15 (q * 6 + i) = nI (y i)) (hy4 : ∀ i, i < N → y i ≤ 4) : zm_Ev zt_get 3 38 [.ref 4, .int (nI p), .int (nI q)] (zw_C g gl a al) (fun u w => u = some (.int (nI (p != q && (v == 0 && (z == 0 && zv_dot N x y % P == 0))).toNat)) ∧ w = (zw_C g gl a al)) := by
  have hdl : zv_dot N x y % P < P := Nat.mod_lt _ hP0
  have hb1 := zb_le (v == 0)
  have hb2 := zb_le (z == 0)
  refine zr_ev zt_Q_areCollinear rfl rfl ?_
  show zm_Run zt_get 2 zt_Q_areCollinear (0, [some (.ref 4), some (.int (nI p)), some (.int (nI q))], [], (zw_C g gl a al)) _
  refine zr_go (t := (2, [some (.ref 4), some (.int (nI p)), some (.int (nI q))], [.int (nI q), .int (nI p)], (zw_C g gl a al))) 2 rfl ?_
  refine zr_ieq (x := nI p) (y := nI q) p q rfl rfl (by omega) (by omega) (t := (38, [some (.ref 4), some (.int (nI p)), some (.int (nI q))], [], (zw_C g gl a al))) (f := (5, [some (.ref 4), some (.int (nI p)), some (.int (nI q))], [], (zw_C g gl a al))) rfl (fun h1 => ?_) (fun h1 => ?_)
  · skip
    refine zr_go (t := (39, [some (.ref 4), some (.int (nI p)), some (.int (nI q))], [.int 0], (zw_C g gl a al))) 1 rfl ?_
    exact zr_ret rfl (Or.inl rfl) ⟨by rw [show (p != q) = false from by rw [h1]; exact bne_self_eq_false q]; rfl, rfl⟩
  · skip
    have hpq : (p != q) = true := bne_iff_ne.mpr h1
    refine zr_go (t := (7, [some (.ref 4), some (.int (nI p)), some (.int (nI q))], [.int (nI p), .ref 4], (zw_C g gl a al))) 2 rfl ?_
    refine zr_call (t := (10, [some (.ref 4), some (.int (nI p)), some (.int (nI q))], [], (zw_C g gl a al))) rfl (Nat.le_of_ble_eq_true rfl : 1 ≤ 2) (zs_C_isOn g gl a al p v hp hv hv4) ?_
    rintro _ _ ⟨rfl, rfl⟩
    show zm_Run zt_get 2 zt_Q_areCollinear (10, [some (.ref 4), some (.int (nI p)), some (.int (nI q))], [.int (nI ((v == 0).toNat))], (zw_C g gl a al)) _
    refine zr_ieq (x := nI ((v == 0).toNat)) (y := 0) ((v == 0).toNat) 0 rfl rfl (by omega) (by omega) (t := (38, [some (.ref 4), some (.int (nI p)), some (.int (nI q))], [], (zw_C g gl a al))) (f := (13, [some (.ref 4), some (.int (nI p)), some (.int (nI q))], [], (zw_C g gl a al))) rfl (fun h2 => ?_) (fun h2 => ?_)
    · skip
      refine zr_go (t := (39, [some (.ref 4), some (.int (nI p)), some (.int (nI q))], [.int 0], (zw_C g gl a al))) 1 rfl ?_
      exact zr_ret rfl (Or.inl rfl) ⟨by rw [hpq, zb_0 h2]; rfl, rfl⟩
    · skip
      refine zr_go (t := (15, [some (.ref 4), some (.int (nI p)), some (.int (nI q))], [.int (nI q), .ref 4], (zw_C g gl a al))) 2 rfl ?_
      refine zr_call (t := (18, [some (.ref 4), some (.int (nI p)), some (.int (nI q))], [], (zw_C g gl a al))) rfl (Nat.le_of_ble_eq_true rfl : 1 ≤ 2) (zs_C_isOn g gl a al q z hq hz hz4) ?_
      rintro _ _ ⟨rfl, rfl⟩
      show zm_Run zt_get 2 zt_Q_areCollinear (18, [some (.ref 4), some (.int (nI p)), some (.int (nI q))], [.int (nI ((z == 0).toNat))], (zw_C g gl a al)) _
      refine zr_ieq (x := nI ((z == 0).toNat)) (y := 0) ((z == 0).toNat) 0 rfl rfl (by omega) (by omega) (t := (38, [some (.ref 4), some (.int (nI p)), some (.int (nI q))], [], (zw_C g gl a al))) (f := (21, [some (.ref 4), some (.int (nI p)), some (.int (nI q))], [], (zw_C g gl a al))) rfl (fun h3 => ?_) (fun h3 => ?_)
      · skip
        refine zr_go (t := (39, [some (.ref 4), some (.int (nI p)), some (.int (nI q))], [.int 0], (zw_C g gl a al))) 1 rfl ?_
        exact zr_ret rfl (Or.inl rfl) ⟨by rw [hpq, zb_1 h2, zb_0 h3]; rfl, rfl⟩
      · skip
        refine zr_go (t := (28, [some (.ref 4), some (.int (nI p)), some (.int (nI q))], [.int (nI q), .int (nI p), .ref 16, .ref 4], (zw_C g gl a al))) 5 rfl ?_
        refine zr_call (t := (31, [some (.ref 4), some (.int (nI p)), some (.int (nI q))], [], (zw_C g gl a al))) rfl (Nat.le_of_ble_eq_true rfl : 2 ≤ 2) (zs_C_product_n g gl a al P N hP hN hP0 hP5 hN6 p q hp hq x y hx hx4 hy hy4) ?_
        rintro _ _ ⟨rfl, rfl⟩
        show zm_Run zt_get 2 zt_Q_areCollinear (31, [some (.ref 4), some (.int (nI p)), some (.int (nI q))], [.int (nI (zv_dot N x y % P))], (zw_C g gl a al)) _
        refine zr_ine (x := nI (zv_dot N x y % P)) (y := 0) (zv_dot N x y % P) 0 rfl rfl (by omega) (by omega) (t := (38, [some (.ref 4), some (.int (nI p)), some (.int (nI q))], [], (zw_C g gl a al))) (f := (34, [some (.ref 4), some (.int (nI p)), some (.int (nI q))], [], (zw_C g gl a al))) rfl (fun h4 => ?_) (fun h4 => ?_)
        · skip
          refine zr_go (t := (39, [some (.ref 4), some (.int (nI p)), some (.int (nI q))], [.int 0], (zw_C g gl a al))) 1 rfl ?_
          exact zr_ret rfl (Or.inl rfl) ⟨by rw [hpq, zb_1 h2, zb_1 h3, zb_ne0 h4]; rfl, rfl⟩
        · skip
          refine zr_go (t := (39, [some (.ref 4), some (.int (nI p)), some (.int (nI q))], [.int 1], (zw_C g gl a al))) 2 rfl ?_
          exact zr_ret rfl (Or.inr rfl) ⟨by rw [hpq, zb_1 h2, zb_1 h3, zb_eq0 h4]; rfl, rfl⟩
theorem zs_C_measure (g : Nat → Int32) (gl : Nat → Int64) (a : Nat → Nat → Int32) (al : Nat → Nat → Int64) (P N : Nat) (hP : g 15 = nI P) (hN : g 16 = nI N) (hP0 : 0 < P) (hP5 : P ≤ 5) (hN6 : N ≤ 6) (c : Nat → Nat) (hm : zC_m (a 11) 6 c) (hc4 : ∀ k, k < 36 → c k ≤ 4) (p : Nat) (hp : p < 156) (x : Nat → Nat) (hx : ∀ i, i < N → a 15 (p * 6 + i) = nI (x i)) (hx4 : ∀ i, i < N → x i ≤ 4) : zm_Ev zt_get 2 34 [.ref 4, .ref 2, .int (nI p)] (zw_C g gl a al) (fun v w => v = some (.int (nI (zv_val P N c x))) ∧ ∃ f, w = (zw_C g gl (va_up a 16 f) al) ∧ (∀ i, i < N → f (p * 6 + i) = nI (zz_nm P N c x i)) ∧ ∀ q i, q ≠ p → i < 6 → f (q * 6 + i) = a 16 (q * 6 + i)) := by
  refine zr_ev zt_Q_measure rfl rfl ?_
  show zm_Run zt_get 1 zt_Q_measure (0, [some (.ref 4), some (.ref 2), some (.int (nI p)), none, none, none, none, none], [], (zw_C g gl a al)) _
  refine zr_go (t := (11, [some (.ref 4), some (.ref 2), some (.int (nI p)), some (.int ((nI p) * 6)), some (.int 0), some (.int 0), none, none], [], (zw_C g gl a al))) 8 rfl ?_
  refine zr_loop (fun zq : Nat × Nat × (Nat → Int32) => (11, [some (.ref 4), some (.ref 2), some (.int (nI p)), some (.int ((nI p) * 6)), some (.int (nI zq.2.1)), some (.int (nI zq.1)), none, none], [], (zw_C g gl (va_up a 16 zq.2.2) al))) (fun zq => zq.1 ≤ N ∧ zq.2.1 = zS (fun k => zz_nr N c x k * x k) zq.1 ∧ (∀ k, k < zq.1 → zq.2.2 (p * 6 + k) = nI (zz_nm P N c x k)) ∧ ∀ q k, q ≠ p → k < 6 → zq.2.2 (q * 6 + k) = a 16 (q * 6 + k)) (fun zq => N - zq.1) ?_ (0, 0, a 16) ⟨by omega, rfl, fun k h => absurd h (Nat.not_lt_zero k), fun q k _ _ => rfl⟩
  rintro ⟨i, s, f⟩ ⟨hi, hs, hf, hf2⟩ ih
  try dsimp only at *
  have hs1 : s ≤ i * 448 := by rw [hs]; exact zS_le i (fun k hk => Nat.mul_le_mul (zz_nr_le hN6 hc4 hx4 (by omega)) (hx4 k (by omega)))
  refine zr_go (t := (17, [some (.ref 4), some (.ref 2), some (.int (nI p)), some (.int ((nI p) * 6)), some (.int (nI s)), some (.int (nI i)), none, none], [.int (g 16), .int (nI i)], (zw_C g gl (va_up a 16 f) al))) 3 rfl ?_
  refine zr_ige (x := nI i) (y := g 16) i N rfl hN (by omega) (by omega) (t := (122, [some (.ref 4), some (.ref 2), some (.int (nI p)), some (.int ((nI p) * 6)), some (.int (nI s)), some (.int (nI i)), none, none], [], (zw_C g gl (va_up a 16 f) al))) (f := (20, [some (.ref 4), some (.ref 2), some (.int (nI p)), some (.int ((nI p) * 6)), some (.int (nI s)), some (.int (nI i)), none, none], [], (zw_C g gl (va_up a 16 f) al))) rfl (fun h1 => ?_) (fun h1 => ?_)
  · skip
    refine zr_go (t := (125, [some (.ref 4), some (.ref 2), some (.int (nI p)), some (.int ((nI p) * 6)), some (.int (nI s)), some (.int (nI i)), none, none], [.int 2, .int (nI s)], (zw_C g gl (va_up a 16 f) al))) 2 rfl ?_
    refine zr_cd (t := (126, [some (.ref 4), some (.ref 2), some (.int (nI p)), some (.int ((nI p) * 6)), some (.int (nI s)), some (.int (nI i)), none, none], [.int ((nI s) / 2)], (zw_C g gl (va_up a 16 f) al))) rfl (zn_ne0 (b := 2) rfl (by decide) (by decide)) ?_
    rw [show (nI s) / 2 = nI (s / 2) from (zn_div rfl rfl (by omega) (by omega) (by omega))]
    refine zr_go (t := (130, [some (.ref 4), some (.ref 2), some (.int (nI p)), some (.int ((nI p) * 6)), some (.int (nI s)), some (.int (nI i)), none, none], [.int (g 15), .int (nI (s / 2))], (zw_C g gl (va_up a 16 f) al))) 2 rfl ?_
    rw [hP]
    refine zr_call (t := (133, [some (.ref 4), some (.ref 2), some (.int (nI p)), some (.int ((nI p) * 6)), some (.int (nI s)), some (.int (nI i)), none, none], [], (zw_C g gl (va_up a 16 f) al))) rfl (Nat.le_of_ble_eq_true rfl : 1 ≤ 1) (zs_C_modN g gl (va_up a 16 f) al (nI (s / 2)) (s / 2) P rfl (by omega) hP0 (by omega)) ?_
    rintro _ _ ⟨rfl, rfl⟩
    show zm_Run zt_get 1 zt_Q_measure (133, [some (.ref 4), some (.ref 2), some (.int (nI p)), some (.int ((nI p) * 6)), some (.int (nI s)), some (.int (nI i)), none, none], [.int (nI (s / 2 % P))], (zw_C g gl (va_up a 16 f) al)) _
    exact zr_ret rfl trivial ⟨by rw [hs, show i = N by omega, ← zz_val]; rfl, f, rfl, fun k hk => hf k (by omega), hf2⟩
  · skip
    have hxi := hx4 i h1
    have hci := hc4 _ (zx_36 (k := i) (l := i) (by omega) (by omega))
    have hm1 : c (zq_pl i i) * x i ≤ 4 * 4 := Nat.mul_le_mul hci hxi
    refine zr_go (t := (25, [some (.ref 4), some (.ref 2), some (.int (nI p)), some (.int ((nI p) * 6)), some (.int (nI s)), some (.int (nI i)), none, none], [.int (nI i), .int (nI i), .ref 2], (zw_C g gl (va_up a 16 f) al))) 3 rfl ?_
    refine zr_call (t := (28, [some (.ref 4), some (.ref 2), some (.int (nI p)), some (.int ((nI p) * 6)), some (.int (nI s)), some (.int (nI i)), none, none], [], (zw_C g gl (va_up a 16 f) al))) rfl (Nat.le_of_ble_eq_true rfl : 1 ≤ 1) (zs_C_cell_2 g gl (va_up a 16 f) al c hm i i (by omega) (by omega)) ?_
    rintro _ _ ⟨rfl, rfl⟩
    show zm_Run zt_get 1 zt_Q_measure (28, [some (.ref 4), some (.ref 2), some (.int (nI p)), some (.int ((nI p) * 6)), some (.int (nI s)), some (.int (nI i)), none, none], [.int (nI (c (zq_pl i i)))], (zw_C g gl (va_up a 16 f) al)) _
    refine zr_go (t := (36, [some (.ref 4), some (.ref 2), some (.int (nI p)), some (.int ((nI p) * 6)), some (.int (nI s)), some (.int (nI i)), none, none], [.int (((nI p) * 6) + (nI i)), .ref 15, .int (nI (c (zq_pl i i)))], (zw_C g gl (va_up a 16 f) al))) 5 rfl ?_
    refine zr_cd (t := (37, [some (.ref 4), some (.ref 2), some (.int (nI p)), some (.int ((nI p) * 6)), some (.int (nI s)), some (.int (nI i)), none, none], [.int ((a 15) (((nI p) * 6) + (nI i)).toNatClampNeg), .int (nI (c (zq_pl i i)))], (zw_C g gl (va_up a 16 f) al))) rfl (pk_in ((p * 6) + i) 936 (by omega) (zn_add (zn_mul rfl rfl) rfl) (by omega)) ?_
    rw [pk_cl (x := (((nI p) * 6) + (nI i))) ((p * 6) + i) (zn_add (zn_mul rfl rfl) rfl) (by omega)]
    rw [show (a 15) ((p * 6) + i) = nI (x i) from hx i h1]
    refine zr_go (t := (43, [some (.ref 4), some (.ref 2), some (.int (nI p)), some (.int ((nI p) * 6)), some (.int (nI s)), some (.int (nI i)), some (.int ((nI (c (zq_pl i i))) * (nI (x i)))), some (.int 0)], [], (zw_C g gl (va_up a 16 f) al))) 4 rfl ?_
    rw [show (nI (c (zq_pl i i))) * (nI (x i)) = nI (c (zq_pl i i) * x i) from (zn_mul rfl rfl)]
    refine zr_loop (fun zq : Nat × Nat => (43, [some (.ref 4), some (.ref 2), some (.int (nI p)), some (.int ((nI p) * 6)), some (.int (nI s)), some (.int (nI i)), some (.int (nI zq.2)), some (.int (nI zq.1))], [], (zw_C g gl (va_up a 16 f) al))) (fun zq => zq.1 ≤ N ∧ zq.2 = c (zq_pl i i) * x i + zS (fun l => c (zq_pl i l) * x l) zq.1) (fun zq => N - zq.1) ?_ (0, c (zq_pl i i) * x i) ⟨by omega, rfl⟩
    rintro ⟨j, t⟩ ⟨hj, ht⟩ ih2
    try dsimp only at *
    have ht1 : t ≤ 16 + j * 16 := by have : zS (fun l => c (zq_pl i l) * x l) j ≤ j * (4 * 4) := zS_le j (fun l hl => Nat.mul_le_mul (hc4 _ (zx_36 (by omega) (by omega))) (hx4 l (by omega))); omega
    refine zr_go (t := (49, [some (.ref 4), some (.ref 2), some (.int (nI p)), some (.int ((nI p) * 6)), some (.int (nI s)), some (.int (nI i)), some (.int (nI t)), some (.int (nI j))], [.int (g 16), .int (nI j)], (zw_C g gl (va_up a 16 f) al))) 3 rfl ?_
    refine zr_ige (x := nI j) (y := g 16) j N rfl hN (by omega) (by omega) (t := (81, [some (.ref 4), some (.ref 2), some (.int (nI p)), some (.int ((nI p) * 6)), some (.int (nI s)), some (.int (nI i)), some (.int (nI t)), some (.int (nI j))], [], (zw_C g gl (va_up a 16 f) al))) (f := (52, [some (.ref 4), some (.ref 2), some (.int (nI p)), some (.int ((nI p) * 6)), some (.int (nI s)), some (.int (nI i)), some (.int (nI t)), some (.int (nI j))], [], (zw_C g gl (va_up a 16 f) al))) rfl (fun h2 => ?_) (fun h2 => ?_)
    · skip
      have htn : t = zz_nr N c x i := by rw [ht, show j = N by omega]; rfl
      have htx : t * x i ≤ 112 * 4 := Nat.mul_le_mul (by omega) hxi
      refine zr_go (t := (95, [some (.ref 4), some (.ref 2), some (.int (nI p)), some (.int ((nI p) * 6)), some (.int (nI s)), some (.int (nI i)), some (.int (nI t)), some (.int (nI j))], [.int (g 15), .int (nI t), .int (((nI p) * 6) + (nI i)), .ref 16], (zw_C g gl (va_up a 16 f) al))) 8 rfl ?_
      rw [hP]
      refine zr_call (t := (98, [some (.ref 4), some (.ref 2), some (.int (nI p)), some (.int ((nI p) * 6)), some (.int (nI s)), some (.int (nI i)), some (.int (nI t)), some (.int (nI j))], [.int (((nI p) * 6) + (nI i)), .ref 16], (zw_C g gl (va_up a 16 f) al))) rfl (Nat.le_of_ble_eq_true rfl : 1 ≤ 1) (zs_C_modN g gl (va_up a 16 f) al (nI t) t P rfl (by omega) hP0 (by omega)) ?_
      rintro _ _ ⟨rfl, rfl⟩
      show zm_Run zt_get 1 zt_Q_measure (98, [some (.ref 4), some (.ref 2), some (.int (nI p)), some (.int ((nI p) * 6)), some (.int (nI s)), some (.int (nI i)), some (.int (nI t)), some (.int (nI j))], [.int (nI (t % P)), .int (((nI p) * 6) + (nI i)), .ref 16], (zw_C g gl (va_up a 16 f) al)) _
      refine zr_cd (t := (99, [some (.ref 4), some (.ref 2), some (.int (nI p)), some (.int ((nI p) * 6)), some (.int (nI s)), some (.int (nI i)), some (.int (nI t)), some (.int (nI j))], [], (zw_C g gl (va_up a 16 (upd f ((((nI p) * 6) + (nI i)).toNatClampNeg) (nI (t % P)))) al))) rfl (pk_in ((p * 6) + i) 936 (by omega) (zn_add (zn_mul rfl rfl) rfl) (by omega)) ?_
      rw [pk_cl (x := (((nI p) * 6) + (nI i))) ((p * 6) + i) (zn_add (zn_mul rfl rfl) rfl) (by omega)]
      refine zr_go (t := (111, [some (.ref 4), some (.ref 2), some (.int (nI p)), some (.int ((nI p) * 6)), some (.int (nI s)), some (.int (nI i)), some (.int (nI t)), some (.int (nI j))], [.int (((nI p) * 6) + (nI i)), .ref 15, .int (nI t), .int (nI s)], (zw_C g gl (va_up a 16 (upd f ((p * 6) + i) (nI (t % P)))) al))) 7 rfl ?_
      refine zr_cd (t := (112, [some (.ref 4), some (.ref 2), some (.int (nI p)), some (.int ((nI p) * 6)), some (.int (nI s)), some (.int (nI i)), some (.int (nI t)), some (.int (nI j))], [.int ((a 15) (((nI p) * 6) + (nI i)).toNatClampNeg), .int (nI t), .int (nI s)], (zw_C g gl (va_up a 16 (upd f ((p * 6) + i) (nI (t % P)))) al))) rfl (pk_in ((p * 6) + i) 936 (by omega) (zn_add (zn_mul rfl rfl) rfl) (by omega)) ?_
      rw [pk_cl (x := (((nI p) * 6) + (nI i))) ((p * 6) + i) (zn_add (zn_mul rfl rfl) rfl) (by omega)]
      rw [show (a 15) ((p * 6) + i) = nI (x i) from hx i h1]
      refine zr_go (t := (11, [some (.ref 4), some (.ref 2), some (.int (nI p)), some (.int ((nI p) * 6)), some (.int ((nI s) + ((nI t) * (nI (x i))))), some (.int ((nI i) + 1)), some (.int (nI t)), some (.int (nI j))], [], (zw_C g gl (va_up a 16 (upd f ((p * 6) + i) (nI (t % P)))) al))) 5 rfl ?_
      rw [show (nI i) + 1 = nI (i + 1) from (zn_add rfl rfl)]
      rw [show (nI s) + ((nI t) * (nI (x i))) = nI (s + (t * (x i))) from (zn_add rfl (zn_mul rfl rfl))]
      refine zr_forget [some (.ref 4), some (.ref 2), some (.int (nI p)), some (.int ((nI p) * 6)), some (.int (nI (s + (t * (x i))))), some (.int (nI (i + 1))), none, none] ⟨Or.inr rfl, Or.inr rfl, Or.inr rfl, Or.inr rfl, Or.inr rfl, Or.inr rfl, Or.inl rfl, Or.inl rfl, trivial⟩ ?_
      exact ih (i + 1, s + t * x i, (upd f ((p * 6) + i) (nI (t % P)))) ⟨by omega, by rw [hs, htn]; rfl, lt_s (fun k hk => (pk_un (by omega)).trans (hf k hk)) (pk_us.trans (by rw [htn]; rfl)), fun q k hq hk => (pk_un (by omega)).trans (hf2 q k hq hk)⟩ (by omega)
    · skip
      have hxj := hx4 j h2
      have hcj := hc4 _ (zx_36 (k := i) (l := j) (by omega) (by omega))
      have hm2 : c (zq_pl i j) * x j ≤ 4 * 4 := Nat.mul_le_mul hcj hxj
      refine zr_go (t := (59, [some (.ref 4), some (.ref 2), some (.int (nI p)), some (.int ((nI p) * 6)), some (.int (nI s)), some (.int (nI i)), some (.int (nI t)), some (.int (nI j))], [.int (nI j), .int (nI i), .ref 2, .int (nI t)], (zw_C g gl (va_up a 16 f) al))) 4 rfl ?_
      refine zr_call (t := (62, [some (.ref 4), some (.ref 2), some (.int (nI p)), some (.int ((nI p) * 6)), some (.int (nI s)), some (.int (nI i)), some (.int (nI t)), some (.int (nI j))], [.int (nI t)], (zw_C g gl (va_up a 16 f) al))) rfl (Nat.le_of_ble_eq_true rfl : 1 ≤ 1) (zs_C_cell_2 g gl (va_up a 16 f) al c hm i j (by omega) (by omega)) ?_
      rintro _ _ ⟨rfl, rfl⟩
      show zm_Run zt_get 1 zt_Q_measure (62, [some (.ref 4), some (.ref 2), some (.int (nI p)), some (.int ((nI p) * 6)), some (.int (nI s)), some (.int (nI i)), some (.int (nI t)), some (.int (nI j))], [.int (nI (c (zq_pl i j))), .int (nI t)], (zw_C g gl (va_up a 16 f) al)) _
      refine zr_go (t := (70, [some (.ref 4), some (.ref 2), some (.int (nI p)), some (.int ((nI p) * 6)), some (.int (nI s)), some (.int (nI i)), some (.int (nI t)), some (.int (nI j))], [.int (((nI p) * 6) + (nI j)), .ref 15, .int (nI (c (zq_pl i j))), .int (nI t)], (zw_C g gl (va_up a 16 f) al))) 5 rfl ?_
      refine zr_cd (t := (71, [some (.ref 4), some (.ref 2), some (.int (nI p)), some (.int ((nI p) * 6)), some (.int (nI s)), some (.int (nI i)), some (.int (nI t)), some (.int (nI j))], [.int ((a 15) (((nI p) * 6) + (nI j)).toNatClampNeg), .int (nI (c (zq_pl i j))), .int (nI t)], (zw_C g gl (va_up a 16 f) al))) rfl (pk_in ((p * 6) + j) 936 (by omega) (zn_add (zn_mul rfl rfl) rfl) (by omega)) ?_
      rw [pk_cl (x := (((nI p) * 6) + (nI j))) ((p * 6) + j) (zn_add (zn_mul rfl rfl) rfl) (by omega)]
      rw [show (a 15) ((p * 6) + j) = nI (x j) from hx j h2]
      refine zr_go (t := (43, [some (.ref 4), some (.ref 2), some (.int (nI p)), some (.int ((nI p) * 6)), some (.int (nI s)), some (.int (nI i)), some (.int ((nI t) + ((nI (c (zq_pl i j))) * (nI (x j))))), some (.int ((nI j) + 1))], [], (zw_C g gl (va_up a 16 f) al))) 5 rfl ?_
      rw [show (nI j) + 1 = nI (j + 1) from (zn_add rfl rfl)]
      rw [show (nI t) + ((nI (c (zq_pl i j))) * (nI (x j))) = nI (t + ((c (zq_pl i j)) * (x j))) from (zn_add rfl (zn_mul rfl rfl))]
      exact ih2 (j + 1, t + c (zq_pl i j) * x j) ⟨by omega, by rw [ht]; exact Nat.add_assoc _ _ _⟩ (by omega)
/-- what a survey finds -/
def zz_sg (P N : Nat) (c : Nat → Nat) (p : Nat) : Bool := zw_oo P N c p && zA (fun i => zz_nm P N c (zv_y P N p) i == 0) N
def zQ_v (g : Nat → Int32) (a : Nat → Nat → Int32) (P N : Nat) (c : Nat → Nat) : Prop := g 18 = nI (zw_on P N c) ∧ g 19 = nI (zC (zz_sg P N c) (zv_np P N)) ∧ (∀ p, p < zv_np P N → a 17 p = nI (zv_val P N c (zv_y P N p))) ∧ (∀ p, p < zv_np P N → ∀ i, i < N → a 16 (p * 6 + i) = nI (zz_nm P N c (zv_y P N p) i)) ∧ (∀ p, p < zv_np P N → a 19 p = if zw_oo P N c p then nI (zC (zw_oo P N c) p) else -1) ∧ ∀ k, k < zw_on P N c → a 18 k = nI (zX (zw_oo P N c) (zv_np P N) k)
theorem zs_C_survey (g : Nat → Int32) (gl : Nat → Int64) (a : Nat → Nat → Int32) (al : Nat → Nat → Int64) (P N : Nat) (hQ : zQ_P g a P N) (c : Nat → Nat) (hm : zC_m (a 11) 6 c) (hc4 : ∀ k, k < 36 → c k ≤ 4) : zm_Ev zt_get 3 33 [.ref 4, .ref 2] (zw_C g gl a al) (fun v w => v = none ∧ ∃ x18 x19 f16 f17 f18 f19, w = (zw_C (upd (upd g 18 x18) 19 x19) gl (va_up (va_up (va_up (va_up a 16 f16) 17 f17) 18 f18) 19 f19) al) ∧ zQ_v (upd (upd g 18 x18) 19 x19) (va_up (va_up (va_up (va_up a 16 f16) 17 f17) 18 f18) 19 f19) P N c) := by
  obtain ⟨hok, hP, hN, hnp, hy⟩ := id hQ
  obtain ⟨hP0, hP5⟩ := zv_P5 hok.1
  have hN6 := zv_okN hok
  obtain ⟨-, hnp1, -⟩ := zv_nums hok
  refine zr_ev zt_Q_survey rfl rfl ?_
  show zm_Run zt_get 2 zt_Q_survey (0, [some (.ref 4), some (.ref 2), none], [], (zw_C g gl a al)) _
  refine zr_go (t := (12, [some (.ref 4), some (.ref 2), some (.int 0)], [], (zw_C (upd (upd g 18 0) 19 0) gl a al))) 8 rfl ?_
  refine zr_loop (fun zq : Nat × Nat × Nat × (Nat → Int32) × (Nat → Int32) × (Nat → Int32) × (Nat → Int32) => (12, [some (.ref 4), some (.ref 2), some (.int (nI zq.1))], [], (zw_C (upd (upd g 18 (nI zq.2.1)) 19 (nI zq.2.2.1)) gl (va_up (va_up (va_up (va_up a 16 zq.2.2.2.1) 17 zq.2.2.2.2.1) 18 zq.2.2.2.2.2.1) 19 zq.2.2.2.2.2.2) al))) (fun zq => zq.1 ≤ zv_np P N ∧ zq.2.1 = zC (zw_oo P N c) zq.1 ∧ zq.2.2.1 = zC (zz_sg P N c) zq.1 ∧ (∀ q, q < zq.1 → zq.2.2.2.2.1 q = nI (zv_val P N c (zv_y P N q))) ∧ (∀ q, q < zq.1 → ∀ i, i < N → zq.2.2.2.1 (q * 6 + i) = nI (zz_nm P N c (zv_y P N q) i)) ∧ (∀ q, q < zq.1 → zq.2.2.2.2.2.2 q = if (zw_oo P N c) q then nI (zC (zw_oo P N c) q) else -1) ∧ ∀ k, k < zq.2.1 → zq.2.2.2.2.2.1 k = nI (zX (zw_oo P N c) (zv_np P N) k)) (fun zq => zv_np P N - zq.1) ?_ (0, 0, 0, a 16, a 17, a 18, a 19) ⟨by omega, rfl, rfl, fun q h => absurd h (Nat.not_lt_zero q), fun q h => absurd h (Nat.not_lt_zero q), fun q h => absurd h (Nat.not_lt_zero q), fun q h => absurd h (Nat.not_lt_zero q)⟩
  rintro ⟨p, m, s, f16, f17, f18, f19⟩ ⟨hp, hm1, hs1, h17, h16, h19, h18⟩ ih
  try dsimp only at *
  have hmp : m ≤ p := by rw [hm1]; exact zC_le _ p
  have hsp : s ≤ p := by rw [hs1]; exact zC_le _ p
  refine zr_go (t := (17, [some (.ref 4), some (.ref 2), some (.int (nI p))], [.int (g 17), .int (nI p)], (zw_C (upd (upd g 18 (nI m)) 19 (nI s)) gl (va_up (va_up (va_up (va_up a 16 f16) 17 f17) 18 f18) 19 f19) al))) 3 rfl ?_
  refine zr_ige (x := nI p) (y := g 17) p (zv_np P N) rfl hnp (by omega) (by omega) (t := (106, [some (.ref 4), some (.ref 2), some (.int (nI p))], [], (zw_C (upd (upd g 18 (nI m)) 19 (nI s)) gl (va_up (va_up (va_up (va_up a 16 f16) 17 f17) 18 f18) 19 f19) al))) (f := (20, [some (.ref 4), some (.ref 2), some (.int (nI p))], [], (zw_C (upd (upd g 18 (nI m)) 19 (nI s)) gl (va_up (va_up (va_up (va_up a 16 f16) 17 f17) 18 f18) 19 f19) al))) rfl (fun h1 => ?_) (fun h1 => ?_)
  · skip
    have e : p = zv_np P N := by omega
    subst e
    exact zr_ret rfl trivial ⟨rfl, _, _, _, _, _, _, rfl, congrArg nI hm1, congrArg nI hs1, h17, h16, h19, fun k hk => h18 k (by rw [hm1]; exact hk)⟩
  · skip
    have hval : zv_val P N c (zv_y P N p) < P := zv_val_lt hP0
    refine zr_go (t := (28, [some (.ref 4), some (.ref 2), some (.int (nI p))], [.int (nI p), .ref 2, .ref 4, .int (nI p), .ref 17], (zw_C (upd (upd g 18 (nI m)) 19 (nI s)) gl (va_up (va_up (va_up (va_up a 16 f16) 17 f17) 18 f18) 19 f19) al))) 6 rfl ?_
    refine zr_call (t := (31, [some (.ref 4), some (.ref 2), some (.int (nI p))], [.int (nI p), .ref 17], (zw_C (upd (upd g 18 (nI m)) 19 (nI s)) gl (va_up (va_up (va_up (va_up a 16 f16) 17 f17) 18 f18) 19 f19) al))) rfl (Nat.le_of_ble_eq_true rfl : 2 ≤ 2) (zs_C_measure (upd (upd g 18 (nI m)) 19 (nI s)) gl (va_up (va_up (va_up (va_up a 16 f16) 17 f17) 18 f18) 19 f19) al P N hP hN hP0 hP5 hN6 c hm hc4 p (by omega) (zv_y P N p) (fun i hi => hy p i h1 hi) (fun i _ => zv_y4 hok)) ?_
    rintro _ _ ⟨rfl, e16, rfl, he1, he2⟩
    show zm_Run zt_get 2 zt_Q_survey (31, [some (.ref 4), some (.ref 2), some (.int (nI p))], [.int (nI (zv_val P N c (zv_y P N p))), .int (nI p), .ref 17], (zw_C (upd (upd g 18 (nI m)) 19 (nI s)) gl (va_up (va_up (va_up (va_up a 16 e16) 17 f17) 18 f18) 19 f19) al)) _
    have h16n : ∀ q, q < p + 1 → ∀ i, i < N → e16 (q * 6 + i) = nI (zz_nm P N c (zv_y P N q) i) := lt_s (fun q hq i hi => (he2 q i (by omega) (by omega)).trans (h16 q hq i hi)) he1
    refine zr_cd (t := (32, [some (.ref 4), some (.ref 2), some (.int (nI p))], [], (zw_C (upd (upd g 18 (nI m)) 19 (nI s)) gl (va_up (va_up (va_up (va_up a 16 e16) 17 (upd f17 ((nI p).toNatClampNeg) (nI (zv_val P N c (zv_y P N p))))) 18 f18) 19 f19) al))) rfl (pk_in p 156 (by omega) rfl (by omega)) ?_
    rw [pk_cl (x := (nI p)) p rfl (by omega)]
    refine zr_go (t := (38, [some (.ref 4), some (.ref 2), some (.int (nI p))], [.int (-1), .int (nI p), .ref 19], (zw_C (upd (upd g 18 (nI m)) 19 (nI s)) gl (va_up (va_up (va_up (va_up a 16 e16) 17 (upd f17 p (nI (zv_val P N c (zv_y P N p))))) 18 f18) 19 f19) al))) 4 rfl ?_
    refine zr_cd (t := (39, [some (.ref 4), some (.ref 2), some (.int (nI p))], [], (zw_C (upd (upd g 18 (nI m)) 19 (nI s)) gl (va_up (va_up (va_up (va_up a 16 e16) 17 (upd f17 p (nI (zv_val P N c (zv_y P N p))))) 18 f18) 19 (upd f19 ((nI p).toNatClampNeg) (-1))) al))) rfl (pk_in p 156 (by omega) rfl (by omega)) ?_
    rw [pk_cl (x := (nI p)) p rfl (by omega)]
    refine zr_go (t := (44, [some (.ref 4), some (.ref 2), some (.int (nI p))], [.int (nI p), .ref 17], (zw_C (upd (upd g 18 (nI m)) 19 (nI s)) gl (va_up (va_up (va_up (va_up a 16 e16) 17 (upd f17 p (nI (zv_val P N c (zv_y P N p))))) 18 f18) 19 (upd f19 p (-1))) al))) 3 rfl ?_
    refine zr_cd (t := (45, [some (.ref 4), some (.ref 2), some (.int (nI p))], [.int ((upd f17 p (nI (zv_val P N c (zv_y P N p)))) (nI p).toNatClampNeg)], (zw_C (upd (upd g 18 (nI m)) 19 (nI s)) gl (va_up (va_up (va_up (va_up a 16 e16) 17 (upd f17 p (nI (zv_val P N c (zv_y P N p))))) 18 f18) 19 (upd f19 p (-1))) al))) rfl (pk_in p 156 (by omega) rfl (by omega)) ?_
    rw [pk_cl (x := (nI p)) p rfl (by omega)]
    rw [show (upd f17 p (nI (zv_val P N c (zv_y P N p)))) p = nI (zv_val P N c (zv_y P N p)) from pk_us]
    refine zr_ine (x := nI (zv_val P N c (zv_y P N p))) (y := 0) (zv_val P N c (zv_y P N p)) 0 rfl rfl (by omega) (by omega) (t := (100, [some (.ref 4), some (.ref 2), some (.int (nI p))], [], (zw_C (upd (upd g 18 (nI m)) 19 (nI s)) gl (va_up (va_up (va_up (va_up a 16 e16) 17 (upd f17 p (nI (zv_val P N c (zv_y P N p))))) 18 f18) 19 (upd f19 p (-1))) al))) (f := (48, [some (.ref 4), some (.ref 2), some (.int (nI p))], [], (zw_C (upd (upd g 18 (nI m)) 19 (nI s)) gl (va_up (va_up (va_up (va_up a 16 e16) 17 (upd f17 p (nI (zv_val P N c (zv_y P N p))))) 18 f18) 19 (upd f19 p (-1))) al))) rfl (fun h2 => ?_) (fun h2 => ?_)
    · skip
      have ho : (zw_oo P N c) p = false := zb_ne0 h2
      have hsg : zz_sg P N c p = false := by unfold zz_sg; rw [ho]; rfl
      refine zr_go (t := (12, [some (.ref 4), some (.ref 2), some (.int ((nI p) + 1))], [], (zw_C (upd (upd g 18 (nI m)) 19 (nI s)) gl (va_up (va_up (va_up (va_up a 16 e16) 17 (upd f17 p (nI (zv_val P N c (zv_y P N p))))) 18 f18) 19 (upd f19 p (-1))) al))) 2 rfl ?_
      rw [show (nI p) + 1 = nI (p + 1) from (zn_add rfl rfl)]
      exact ih (p + 1, m, s, e16, (upd f17 p (nI (zv_val P N c (zv_y P N p)))), f18, (upd f19 p (-1))) ⟨by omega, by rw [hm1]; show _ = _ + ((zw_oo P N c) p).toNat; rw [ho]; rfl, by rw [hs1]; show _ = _ + (zz_sg P N c p).toNat; rw [hsg]; rfl, lt_s (fun q hq => (pk_un (by omega)).trans (h17 q hq)) pk_us, h16n, lt_s (fun q hq => (pk_un (by omega)).trans (h19 q hq)) (pk_us.trans (by rw [ho]; rfl)), h18⟩ (by omega)
    · skip
      have ho : (zw_oo P N c) p = true := zb_eq0 h2
      have hzX : zX (zw_oo P N c) (zv_np P N) m = p := by rw [hm1]; exact zX_at ho h1
      refine zr_go (t := (57, [some (.ref 4), some (.ref 2), some (.int (nI p))], [.int (nI m), .int (nI p), .ref 19], (zw_C (upd (upd g 18 (nI m)) 19 (nI s)) gl (va_up (va_up (va_up (va_up a 16 e16) 17 (upd f17 p (nI (zv_val P N c (zv_y P N p))))) 18 f18) 19 (upd f19 p (-1))) al))) 5 rfl ?_
      refine zr_cd (t := (58, [some (.ref 4), some (.ref 2), some (.int (nI p))], [], (zw_C (upd (upd g 18 (nI m)) 19 (nI s)) gl (va_up (va_up (va_up (va_up a 16 e16) 17 (upd f17 p (nI (zv_val P N c (zv_y P N p))))) 18 f18) 19 (upd (upd f19 p (-1)) ((nI p).toNatClampNeg) (nI m))) al))) rfl (pk_in p 156 (by omega) rfl (by omega)) ?_
      rw [pk_cl (x := (nI p)) p rfl (by omega)]
      refine zr_go (t := (67, [some (.ref 4), some (.ref 2), some (.int (nI p))], [.int (nI p), .int (nI m), .ref 18], (zw_C (upd (upd g 18 (nI m)) 19 (nI s)) gl (va_up (va_up (va_up (va_up a 16 e16) 17 (upd f17 p (nI (zv_val P N c (zv_y P N p))))) 18 f18) 19 (upd (upd f19 p (-1)) p (nI m))) al))) 5 rfl ?_
      refine zr_cd (t := (68, [some (.ref 4), some (.ref 2), some (.int (nI p))], [], (zw_C (upd (upd g 18 (nI m)) 19 (nI s)) gl (va_up (va_up (va_up (va_up a 16 e16) 17 (upd f17 p (nI (zv_val P N c (zv_y P N p))))) 18 (upd f18 ((nI m).toNatClampNeg) (nI p))) 19 (upd (upd f19 p (-1)) p (nI m))) al))) rfl (pk_in m 156 (by omega) rfl (by omega)) ?_
      rw [pk_cl (x := (nI m)) m rfl (by omega)]
      refine zr_go (t := (85, [some (.ref 4), some (.ref 2), some (.int (nI p))], [.int (nI p), .ref 4, .int (nI s), .ref 4], (zw_C (upd (upd g 18 ((nI m) + 1)) 19 (nI s)) gl (va_up (va_up (va_up (va_up a 16 e16) 17 (upd f17 p (nI (zv_val P N c (zv_y P N p))))) 18 (upd f18 m (nI p))) 19 (upd (upd f19 p (-1)) p (nI m))) al))) 11 rfl ?_
      have hm2 : nI m + 1 = nI (m + 1) := zn_add rfl rfl
      rw [hm2]
      refine zr_call (t := (88, [some (.ref 4), some (.ref 2), some (.int (nI p))], [.int (nI s), .ref 4], (zw_C (upd (upd g 18 (nI (m + 1))) 19 (nI s)) gl (va_up (va_up (va_up (va_up a 16 e16) 17 (upd f17 p (nI (zv_val P N c (zv_y P N p))))) 18 (upd f18 m (nI p))) 19 (upd (upd f19 p (-1)) p (nI m))) al))) rfl (Nat.le_of_ble_eq_true rfl : 1 ≤ 2) (zs_C_isSing (upd (upd g 18 (nI (m + 1))) 19 (nI s)) gl (va_up (va_up (va_up (va_up a 16 e16) 17 (upd f17 p (nI (zv_val P N c (zv_y P N p))))) 18 (upd f18 m (nI p))) 19 (upd (upd f19 p (-1)) p (nI m))) al N hN hN6 p (by omega) (zz_nm P N c (zv_y P N p)) (fun i hi => h16n p (by omega) i hi) (fun i _ => by have := zz_nm_lt (N := N) (c := c) (x := zv_y P N p) hP0 i; omega)) ?_
      rintro _ _ ⟨rfl, rfl⟩
      show zm_Run zt_get 2 zt_Q_survey (88, [some (.ref 4), some (.ref 2), some (.int (nI p))], [.int (nI ((zA (fun i => zz_nm P N c (zv_y P N p) i == 0) N).toNat)), .int (nI s), .ref 4], (zw_C (upd (upd g 18 (nI (m + 1))) 19 (nI s)) gl (va_up (va_up (va_up (va_up a 16 e16) 17 (upd f17 p (nI (zv_val P N c (zv_y P N p))))) 18 (upd f18 m (nI p))) 19 (upd (upd f19 p (-1)) p (nI m))) al)) _
      have hsg : zz_sg P N c p = zA (fun i => zz_nm P N c (zv_y P N p) i == 0) N := by unfold zz_sg; rw [ho]; rfl
      rw [← hsg]
      have hb := zb_le (zz_sg P N c p)
      refine zr_ieq (x := nI ((zz_sg P N c p).toNat)) (y := 0) ((zz_sg P N c p).toNat) 0 rfl rfl (by omega) (by omega) (t := (95, [some (.ref 4), some (.ref 2), some (.int (nI p))], [.int (nI s), .ref 4], (zw_C (upd (upd g 18 (nI (m + 1))) 19 (nI s)) gl (va_up (va_up (va_up (va_up a 16 e16) 17 (upd f17 p (nI (zv_val P N c (zv_y P N p))))) 18 (upd f18 m (nI p))) 19 (upd (upd f19 p (-1)) p (nI m))) al))) (f := (91, [some (.ref 4), some (.ref 2), some (.int (nI p))], [.int (nI s), .ref 4], (zw_C (upd (upd g 18 (nI (m + 1))) 19 (nI s)) gl (va_up (va_up (va_up (va_up a 16 e16) 17 (upd f17 p (nI (zv_val P N c (zv_y P N p))))) 18 (upd f18 m (nI p))) 19 (upd (upd f19 p (-1)) p (nI m))) al))) rfl (fun h3 => ?_) (fun h3 => ?_)
      · skip
        refine zr_go (t := (12, [some (.ref 4), some (.ref 2), some (.int ((nI p) + 1))], [], (zw_C (upd (upd g 18 (nI (m + 1))) 19 ((nI s) + 0)) gl (va_up (va_up (va_up (va_up a 16 e16) 17 (upd f17 p (nI (zv_val P N c (zv_y P N p))))) 18 (upd f18 m (nI p))) 19 (upd (upd f19 p (-1)) p (nI m))) al))) 5 rfl ?_
        rw [show (nI p) + 1 = nI (p + 1) from (zn_add rfl rfl)]
        rw [show (nI s) + 0 = nI (s + 0) from (zn_add rfl rfl)]
        exact ih (p + 1, m + 1, s + 0, e16, (upd f17 p (nI (zv_val P N c (zv_y P N p)))), (upd f18 m (nI p)), (upd (upd f19 p (-1)) p (nI m))) ⟨by omega, by rw [hm1]; show _ = _ + ((zw_oo P N c) p).toNat; rw [ho]; rfl, by rw [hs1]; show _ = _ + (zz_sg P N c p).toNat; rw [zb_0 h3]; rfl, lt_s (fun q hq => (pk_un (by omega)).trans (h17 q hq)) pk_us, h16n, lt_s (fun q hq => (pk_un (by omega)).trans ((pk_un (by omega)).trans (h19 q hq))) (pk_us.trans (by rw [ho, hm1]; rfl)), lt_s (fun q hq => (pk_un (by omega)).trans (h18 q hq)) (pk_us.trans (by rw [hzX]))⟩ (by omega)
      · skip
        refine zr_go (t := (12, [some (.ref 4), some (.ref 2), some (.int ((nI p) + 1))], [], (zw_C (upd (upd g 18 (nI (m + 1))) 19 ((nI s) + 1)) gl (va_up (va_up (va_up (va_up a 16 e16) 17 (upd f17 p (nI (zv_val P N c (zv_y P N p))))) 18 (upd f18 m (nI p))) 19 (upd (upd f19 p (-1)) p (nI m))) al))) 6 rfl ?_
        rw [show (nI p) + 1 = nI (p + 1) from (zn_add rfl rfl)]
        rw [show (nI s) + 1 = nI (s + 1) from (zn_add rfl rfl)]
        exact ih (p + 1, m + 1, s + 1, e16, (upd f17 p (nI (zv_val P N c (zv_y P N p)))), (upd f18 m (nI p)), (upd (upd f19 p (-1)) p (nI m))) ⟨by omega, by rw [hm1]; show _ = _ + ((zw_oo P N c) p).toNat; rw [ho]; rfl, by rw [hs1]; show _ = _ + (zz_sg P N c p).toNat; rw [zb_1 h3]; rfl, lt_s (fun q hq => (pk_un (by omega)).trans (h17 q hq)) pk_us, h16n, lt_s (fun q hq => (pk_un (by omega)).trans ((pk_un (by omega)).trans (h19 q hq))) (pk_us.trans (by rw [ho, hm1]; rfl)), lt_s (fun q hq => (pk_un (by omega)).trans (h18 q hq)) (pk_us.trans (by rw [hzX]))⟩ (by omega)
theorem zs_C_section (g : Nat → Int32) (gl : Nat → Int64) (a : Nat → Nat → Int32) (al : Nat → Nat → Int64) (P N : Nat) (hQ : zQ_P g a P N) (c : Nat → Nat) (hv : zQ_v g a P N c) (h : Nat) (hh : h < zv_np P N) : zm_Ev zt_get 3 39 [.ref 4, .int (nI h)] (zw_C g gl a al) (fun v w => v = some (.int (nI (zC (fun k => zw_oo P N c k && zv_dot N (zv_y P N h) (zv_y P N k) % P == 0) (zv_np P N)))) ∧ w = (zw_C g gl a al)) := by
  obtain ⟨hok, hP, hN, hnp, hy⟩ := id hQ
  obtain ⟨hP0, hP5⟩ := zv_P5 hok.1
  have hN6 := zv_okN hok
  obtain ⟨-, hnp1, -⟩ := zv_nums hok
  obtain ⟨h18, h19, h17, h16, hrk, hmb⟩ := id hv
  have hon : zw_on P N c ≤ zv_np P N := zC_le _ _
  refine zr_ev zt_Q_sectionSize rfl rfl ?_
  show zm_Run zt_get 2 zt_Q_sectionSize (0, [some (.ref 4), some (.int (nI h)), none, none], [], (zw_C g gl a al)) _
  refine zr_go (t := (4, [some (.ref 4), some (.int (nI h)), some (.int 0), some (.int 0)], [], (zw_C g gl a al))) 4 rfl ?_
  refine zr_loop (fun zq : Nat × Nat => (4, [some (.ref 4), some (.int (nI h)), some (.int (nI zq.2)), some (.int (nI zq.1))], [], (zw_C g gl a al))) (fun zq => zq.1 ≤ zw_on P N c ∧ zq.2 = zC (fun u => zv_dot N (zv_y P N h) (zv_y P N (zX (zw_oo P N c) (zv_np P N) u)) % P == 0) zq.1) (fun zq => zw_on P N c - zq.1) ?_ (0, 0) ⟨by omega, rfl⟩
  rintro ⟨r, s⟩ ⟨hr, hs⟩ ih
  try dsimp only at *
  have hsr : s ≤ r := by rw [hs]; exact zC_le _ r
  refine zr_go (t := (9, [some (.ref 4), some (.int (nI h)), some (.int (nI s)), some (.int (nI r))], [.int (g 18), .int (nI r)], (zw_C g gl a al))) 3 rfl ?_
  refine zr_ige (x := nI r) (y := g 18) r (zw_on P N c) rfl h18 (by omega) (by omega) (t := (44, [some (.ref 4), some (.int (nI h)), some (.int (nI s)), some (.int (nI r))], [], (zw_C g gl a al))) (f := (12, [some (.ref 4), some (.int (nI h)), some (.int (nI s)), some (.int (nI r))], [], (zw_C g gl a al))) rfl (fun h1 => ?_) (fun h1 => ?_)
  · skip
    refine zr_go (t := (45, [some (.ref 4), some (.int (nI h)), some (.int (nI s)), some (.int (nI r))], [.int (nI s)], (zw_C g gl a al))) 1 rfl ?_
    exact zr_ret rfl trivial ⟨by rw [hs, show r = zC (zw_oo P N c) (zv_np P N) by unfold zw_on at h1 hr; omega]; exact congrArg (fun z => some (Value.int (nI z))) (zC_of (zw_oo P N c) (fun k => zv_dot N (zv_y P N h) (zv_y P N k) % P == 0) (zv_np P N) (zv_np P N) (Nat.le_refl _)), rfl⟩
  · skip
    have hX := zX_ok (f := (zw_oo P N c)) (n := zv_np P N) (l := r) h1
    obtain ⟨k, hk⟩ : ∃ k, k = zX (zw_oo P N c) (zv_np P N) r := ⟨_, rfl⟩
    rw [← hk] at hX
    refine zr_go (t := (24, [some (.ref 4), some (.int (nI h)), some (.int (nI s)), some (.int (nI r))], [.int (nI r), .ref 18, .int (nI h), .ref 15, .ref 4, .int (nI s)], (zw_C g gl a al))) 8 rfl ?_
    refine zr_cd (t := (25, [some (.ref 4), some (.int (nI h)), some (.int (nI s)), some (.int (nI r))], [.int ((a 18) (nI r).toNatClampNeg), .int (nI h), .ref 15, .ref 4, .int (nI s)], (zw_C g gl a al))) rfl (pk_in r 156 (by omega) rfl (by omega)) ?_
    rw [pk_cl (x := (nI r)) r rfl (by omega)]
    rw [show (a 18) r = nI k from by rw [hk]; exact hmb r h1]
    refine zr_call (t := (28, [some (.ref 4), some (.int (nI h)), some (.int (nI s)), some (.int (nI r))], [.int (nI s)], (zw_C g gl a al))) rfl (Nat.le_of_ble_eq_true rfl : 2 ≤ 2) (zs_C_product_d g gl a al P N hP hN hP0 hP5 hN6 h k (by omega) (by omega) (zv_y P N h) (zv_y P N k) (fun i hi => hy h i hh hi) (fun i _ => zv_y4 hok) (fun i hi => hy k i hX.1 hi) (fun i _ => zv_y4 hok)) ?_
    rintro _ _ ⟨rfl, rfl⟩
    show zm_Run zt_get 2 zt_Q_sectionSize (28, [some (.ref 4), some (.int (nI h)), some (.int (nI s)), some (.int (nI r))], [.int (nI (zv_dot N (zv_y P N h) (zv_y P N k) % P)), .int (nI s)], (zw_C g gl a al)) _
    have hdl : zv_dot N (zv_y P N h) (zv_y P N k) % P < P := Nat.mod_lt _ hP0
    refine zr_ine (x := nI (zv_dot N (zv_y P N h) (zv_y P N k) % P)) (y := 0) (zv_dot N (zv_y P N h) (zv_y P N k) % P) 0 rfl rfl (by omega) (by omega) (t := (35, [some (.ref 4), some (.int (nI h)), some (.int (nI s)), some (.int (nI r))], [.int (nI s)], (zw_C g gl a al))) (f := (31, [some (.ref 4), some (.int (nI h)), some (.int (nI s)), some (.int (nI r))], [.int (nI s)], (zw_C g gl a al))) rfl (fun h2 => ?_) (fun h2 => ?_)
    · skip
      refine zr_go (t := (4, [some (.ref 4), some (.int (nI h)), some (.int ((nI s) + 0)), some (.int ((nI r) + 1))], [], (zw_C g gl a al))) 5 rfl ?_
      rw [show (nI r) + 1 = nI (r + 1) from (zn_add rfl rfl)]
      rw [show (nI s) + 0 = nI (s + 0) from (zn_add rfl rfl)]
      exact ih (r + 1, s + 0) ⟨by omega, by rw [hs]; show _ = zC (fun u => zv_dot N (zv_y P N h) (zv_y P N (zX (zw_oo P N c) (zv_np P N) u)) % P == 0) r + ((fun u => zv_dot N (zv_y P N h) (zv_y P N (zX (zw_oo P N c) (zv_np P N) u)) % P == 0) r).toNat; rw [show (fun u => zv_dot N (zv_y P N h) (zv_y P N (zX (zw_oo P N c) (zv_np P N) u)) % P == 0) r = false from by show (zv_dot N (zv_y P N h) (zv_y P N (zX (zw_oo P N c) (zv_np P N) r)) % P == 0) = _; rw [← hk]; exact zb_ne0 h2]; rfl⟩ (by omega)
    · skip
      refine zr_go (t := (4, [some (.ref 4), some (.int (nI h)), some (.int ((nI s) + 1)), some (.int ((nI r) + 1))], [], (zw_C g gl a al))) 6 rfl ?_
      rw [show (nI r) + 1 = nI (r + 1) from (zn_add rfl rfl)]
      rw [show (nI s) + 1 = nI (s + 1) from (zn_add rfl rfl)]
      exact ih (r + 1, s + 1) ⟨by omega, by rw [hs]; show _ = zC (fun u => zv_dot N (zv_y P N h) (zv_y P N (zX (zw_oo P N c) (zv_np P N) u)) % P == 0) r + ((fun u => zv_dot N (zv_y P N h) (zv_y P N (zX (zw_oo P N c) (zv_np P N) u)) % P == 0) r).toNat; rw [show (fun u => zv_dot N (zv_y P N h) (zv_y P N (zX (zw_oo P N c) (zv_np P N) u)) % P == 0) r = true from by show (zv_dot N (zv_y P N h) (zv_y P N (zX (zw_oo P N c) (zv_np P N) r)) % P == 0) = _; rw [← hk]; exact zb_eq0 h2]; rfl⟩ (by omega)
