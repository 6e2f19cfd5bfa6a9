/-! a side of the search: what the class and the reference do with it -/
def zsd (C K D : Nat → Int64) (n w m : Nat) : Prop := (n ≤ 45 ∧ w ≤ 45) ∧ (∀ k, k < n → zy_sub w (C k)) ∧ (∀ k, k < n → ¬ C k &&& zy_all w = 0) ∧ (∀ k, k < n → ∀ i, lb (K k) i = true ↔ i < n ∧ ¬ C i &&& C k = 0) ∧ (∀ j, j < w → ∀ k, lb (D j) k = true ↔ k < n ∧ lb (C k) j = true) ∧ (∀ k, k < n → m ≤ zC (lb (C k)) w) ∧ (w ≤ m * 40 ∧ 1 ≤ m) ∧ ∀ x, zy_sub w x → zec C (zy_all w) n x ≤ 2 ^ 30
theorem zandn {x y : Int64} (h : ¬ x &&& y = 0) : ∃ s, s < 64 ∧ lb x s = true ∧ lb y s = true :=
  Classical.byContradiction (fun hne => h (zand0.mpr (fun s hs z => hne ⟨s, hs, z⟩)))
theorem zne_all {y : Int64} {w : Nat} (hw : w < 64) (h : 1 ≤ zC (lb y) w) : ¬ y &&& zy_all w = 0 := fun z => by
  rw [zC_no (fun s hs => Bool.eq_false_iff.mpr (fun q => zand0.mp z s (by omega) ⟨q, by rw [zy_alls hw]; exact decide_eq_true hs⟩))] at h
  omega
theorem zm_sz {P N : Nat} {c : Nat → Nat} (hok : zv_ok P N) (hNS : zNS P N c) (h0 : zw_ns P N c = 0) {k : Nat} (hk : k < zw_gm P N c) : zC (lb (zj_m P N c k)) (zw_on P N c) = zq_sz P (zw_ix P N c) := by
  have h64 := zon64 hok hNS
  have hd := zj_d13 (c := c) hok
  obtain ⟨m1, -⟩ := zmk_pin hok hNS hd.1 hd.2 (f := k) (by rw [(zall hok hNS).1]; exact hk)
  have hm : zj_m P N c k = zj_mk P N c (zj_d P N c) k := rfl
  rw [← hm, (zall hok hNS).1] at m1
  have e := zC_flat (f := lb (zj_m P N c k)) (p := zw_on P N c) (64 - zw_on P N c) (fun s h1 _ => Bool.eq_false_iff.mpr (fun z => by have := zj_m_in hok hNS h0 hk z; omega))
  rw [show zw_on P N c + (64 - zw_on P N c) = 64 by omega, m1] at e
  exact e.symm
theorem zp_dg {P N : Nat} {c : Nat → Nat} (hok : zv_ok P N) (hNS : zNS P N c) (r : Nat) : zC (lb (zj_p P N c r)) (zw_gm P N c) = zdg P N c r :=
  zC_congr _ (fun l hl => zb_iff (by rw [zj_p_lb hok hNS]; exact ⟨fun z => z.2, fun z => ⟨hl, z⟩⟩))
theorem zsd_0 {P N : Nat} {c : Nat → Nat} (hok : zv_ok P N) (hNS : zNS P N c) (h0 : zw_ns P N c = 0) : ∃ m, zsd (zj_p P N c) (zj_kp P N c) (zj_m P N c) (zw_on P N c) (zw_gm P N c) m := by
  obtain ⟨m0, B1, d0, d1, a1, a2, a3, a4, a5, a6, a7, a8, a9⟩ := zcov hok hNS
  have hg := zgm45 hok hNS
  have h64 := zon64 hok hNS
  have hC : ∀ k, k < zw_on P N c → zy_sub (zw_gm P N c) (zj_p P N c k) := fun k hk s hs => ((zj_p_lb hok hNS).mp hs).1
  have hm : ∀ k, k < zw_on P N c → m0 ≤ zC (lb (zj_p P N c k)) (zw_gm P N c) := fun k hk => by rw [zp_dg hok hNS]; exact (a3 k hk).1
  have hne : ∀ k, k < zw_on P N c → ¬ zj_p P N c k &&& zy_all (zw_gm P N c) = 0 := fun k hk => zne_all (by omega) (Nat.le_trans a1 (hm k hk))
  refine ⟨m0, ⟨by omega, hg⟩, hC, hne, fun k hk i => ?_, fun j hj k => ?_, hm, ⟨a6, a1⟩, fun x hx => ?_⟩
  · unfold zj_kp
    rw [zg_cl_lb, zj_gm_eq hok hNS]
    constructor
    · rintro ⟨l, hl, h3, h4⟩
      exact ⟨zj_m_in hok hNS h0 hl h4, fun z => zand0.mp z l (by omega) ⟨(zj_p_lb hok hNS).mpr ⟨hl, h4⟩, h3⟩⟩
    · rintro ⟨hi, h3⟩
      obtain ⟨s, hs, h4, h5⟩ := zandn h3
      obtain ⟨h6, h7⟩ := (zj_p_lb hok hNS).mp h4
      exact ⟨s, h6, h5, h7⟩
  · constructor
    · intro h
      exact ⟨zj_m_in hok hNS h0 hj h, (zj_p_lb hok hNS).mpr ⟨hj, h⟩⟩
    · intro h
      exact ((zj_p_lb hok hNS).mp h.2).2
  · refine Nat.le_trans (zec_le (B := zq_sz P (zw_ix P N c)) (d := d0) (by omega) hC hne hm ?_ (fun j hj => ?_) x hx (by omega)) a5
    · unfold zq_sz
      split
      · omega
      · split <;> omega
    · rw [zC_congr (h := lb (zj_m P N c j)) _ (fun k _ => zb_iff (by rw [zj_p_lb hok hNS]; exact ⟨fun z => z.2, fun z => ⟨hj, z⟩⟩)), zm_sz hok hNS h0 hj]
      exact Nat.le_refl _
theorem zsd_1 {P N : Nat} {c : Nat → Nat} (hok : zv_ok P N) (hNS : zNS P N c) (h0 : zw_ns P N c = 0) : ∃ m, zsd (zj_m P N c) (zj_km P N c) (zj_p P N c) (zw_gm P N c) (zw_on P N c) m := by
  obtain ⟨m0, B1, d0, d1, a1, a2, a3, a4, a5, a6, a7, a8, a9⟩ := zcov hok hNS
  have hg := zgm45 hok hNS
  have h64 := zon64 hok hNS
  have hsz : 1 ≤ zq_sz P (zw_ix P N c) := by
    unfold zq_sz
    split
    · omega
    · split <;> omega
  have hC : ∀ k, k < zw_gm P N c → zy_sub (zw_on P N c) (zj_m P N c k) := fun k hk s hs => zj_m_in hok hNS h0 hk hs
  have hm : ∀ k, k < zw_gm P N c → zq_sz P (zw_ix P N c) ≤ zC (lb (zj_m P N c k)) (zw_on P N c) := fun k hk => by rw [zm_sz hok hNS h0 hk]; exact Nat.le_refl _
  have hne : ∀ k, k < zw_gm P N c → ¬ zj_m P N c k &&& zy_all (zw_on P N c) = 0 := fun k hk => zne_all (by omega) (Nat.le_trans hsz (hm k hk))
  refine ⟨zq_sz P (zw_ix P N c), ⟨hg, by omega⟩, hC, hne, fun k hk i => ?_, fun j hj k => zj_p_lb hok hNS, hm, ⟨a9, hsz⟩, fun x hx => ?_⟩
  · unfold zj_km
    rw [zg_cl_lb]
    constructor
    · rintro ⟨l, hl, h3, h4⟩
      obtain ⟨h5, h6⟩ := (zj_p_lb hok hNS).mp h4
      exact ⟨h5, fun z => zand0.mp z l (by omega) ⟨h6, h3⟩⟩
    · rintro ⟨hi, h3⟩
      obtain ⟨s, hs, h4, h5⟩ := zandn h3
      exact ⟨s, zj_m_in hok hNS h0 hk h5, h5, (zj_p_lb hok hNS).mpr ⟨hi, h4⟩⟩
  · exact Nat.le_trans (zec_le (B := B1) (d := d1) (by omega) hC hne hm a2 (fun j hj => (a3 j hj).2) x hx (by omega)) a8
/-- what is chosen is apart -/
def zdj (F : Nat → Int64) (n : Nat) (e : Nat → Nat) : Prop := ∀ j, j < n → zg_or (fun k => F (e k)) j &&& F (e j) = 0
theorem zdj_0 {F : Nat → Int64} {e : Nat → Nat} : zdj F 0 e := fun j hj => absurd hj (Nat.not_lt_zero j)
theorem zdj_less {F : Nat → Int64} {n a : Nat} {e : Nat → Nat} (h : zdj F n e) (ha : a ≤ n) : zdj F a e := fun j hj => h j (by omega)
theorem zdj_step {F : Nat → Int64} {n r : Nat} {e : Nat → Nat} (h : zdj F n e) (hd : zg_or (fun k => F (e k)) n &&& F r = 0) : zdj F (n + 1) (zu_c e n r) := fun j hj => by
  have hc : zg_or (fun k => F (zu_c e n r k)) j = zg_or (fun k => F (e k)) j := zg_or_cg j (fun k hk => by
    show F (if k = n then r else e k) = F (e k)
    rw [if_neg (by omega)])
  rw [hc]
  show _ &&& F (if j = n then r else e j) = 0
  by_cases e1 : j = n
  · rw [if_pos e1, e1]; exact hd
  · rw [if_neg e1]; exact h j (by omega)
theorem zdj_cnt {F : Nat → Int64} {w m : Nat} {e : Nat → Nat} (hw : w ≤ 64) : ∀ n, (∀ k, k < n → m ≤ zC (lb (F (e k))) w) → zdj F n e → m * n ≤ zC (lb (zg_or (fun k => F (e k)) n)) w
  | 0, _, _ => Nat.zero_le _
  | n + 1, h, hd => by
    have ih := zdj_cnt hw n (fun k hk => h k (by omega)) (zdj_less hd (by omega))
    have h1 := h n (by omega)
    show m * (n + 1) ≤ zC (lb (zg_or (fun k => F (e k)) n ||| F (e n))) w
    rw [zC_orw (hd n (by omega)) hw, Nat.mul_succ]
    omega
section ZSD
variable {C K D : Nat → Int64} {n w m : Nat}
theorem zsd_40 (h : zsd C K D n w m) {n0 : Nat} {e : Nat → Nat} (he : ∀ k, k < n0 → e k < n) (hd : zdj C n0 e) : n0 ≤ 40 := by
  obtain ⟨⟨a1, a2⟩, hC, hne, hK, hD, hm, ⟨a3, a4⟩, hB⟩ := h
  have h1 := zdj_cnt (show w ≤ 64 by omega) n0 (fun k hk => hm _ (he k hk)) hd
  have h2 := zC_le (lb (zg_or (fun k => C (e k)) n0)) w
  exact Nat.le_of_mul_le_mul_left (show m * n0 ≤ m * 40 by omega) a4
theorem zsd_x (h : zsd C K D n w m) {n0 : Nat} {e : Nat → Nat} (he : ∀ k, k < n0 → e k < n) : zy_sub w (zg_or (fun k => C (e k)) n0) := fun s hs => by
  obtain ⟨k, hk, h1⟩ := (zg_or_lb n0).mp hs
  exact h.2.1 _ (he k hk) s h1
theorem zsd_t0 (h : zsd C K D n w m) {n0 : Nat} {e : Nat → Nat} (he : ∀ k, k < n0 → e k < n) (k : Nat) (hk : lb (zg_or (fun k => zf_b (e k)) n0) k = true) : ¬ C k &&& zg_or (fun k => C (e k)) n0 = 0 := fun z => by
  obtain ⟨⟨a1, a2⟩, hC, hne, -⟩ := h
  obtain ⟨i, hi, h1⟩ := (zg_or_lb n0).mp hk
  have hei := he i hi
  rw [zf_b_lb (by omega), decide_eq_true_iff] at h1
  subst h1
  obtain ⟨s, hs, h2, h3⟩ := zandn (hne _ hei)
  exact zand0.mp z s hs ⟨h2, (zg_or_lb n0).mpr ⟨i, hi, h2⟩⟩
def zsw (C K D : Nat → Int64) (n w n0 : Nat) (e : Nat → Nat) : Nat × Int64 := zg_wk C K D w (40 - n0) (zy_all w &&& (zg_or (fun k => C (e k)) n0 ^^^ -1)) (zy_all n &&& (zg_or (fun k => K (e k)) n0 ^^^ -1)) (zg_or (fun k => zf_b (e k)) n0) (0, 0)
def zsf (C K D : Nat → Int64) (n w n0 : Nat) (e : Nat → Nat) : Int64 := (zsw C K D n w n0 e).2 &&& (zg_or (fun k => zf_b (e k)) n0 ^^^ -1)
theorem zsd_run (h : zsd C K D n w m) {n0 : Nat} {e : Nat → Nat} (he : ∀ k, k < n0 → e k < n) (hd : zdj C n0 e) : (zsw C K D n w n0 e).1 = zec C (zy_all w) n (zg_or (fun k => C (e k)) n0) ∧ (zsw C K D n w n0 e).1 ≤ 2 ^ 30 ∧ ((zsw C K D n w n0 e).1 = 0 → zsf C K D n w n0 e = 0) ∧ ((zsw C K D n w n0 e).1 ≠ 0 → zval C (zy_all w) n (zg_or (fun k => C (e k)) n0) (zsf C K D n w n0 e) ∧ ∀ k, k < n → zy_gt C n w (zg_or (fun k => C (e k)) n0) k = lb (zsf C K D n w n0 e) k) := by
  have h40 := zsd_40 h he hd
  have hx := zsd_x h he
  have ht0 := zsd_t0 h he
  obtain ⟨⟨a1, a2⟩, hC, hne, hK, hD, hm, ⟨a3, a4⟩, hB⟩ := id h
  have hcnt := zdj_cnt (show w ≤ 64 by omega) n0 (fun k hk => hm _ (he k hk)) hd
  have hgo := zwk_m (show n ≤ 64 by omega) (show w < 64 by omega) hC hne hK hD hm (40 - n0) (zg_or (fun k => C (e k)) n0) (zy_all w &&& (zg_or (fun k => C (e k)) n0 ^^^ -1)) (zy_all n &&& (zg_or (fun k => K (e k)) n0 ^^^ -1)) (zg_or (fun k => zf_b (e k)) n0) 0 (0, 0) (fun _ => False) hx (fun k => by
      by_cases q : k < 64
      · rw [lb_an q, zy_alls (by omega)]
      · rw [lb_ge (by omega), decide_eq_false (by omega)]; rfl) (fun k => by
      by_cases q : k < 64
      · rw [lb_an q, zy_alls (by omega), Bool.and_eq_true, Bool.not_eq_true', decide_eq_true_iff]
        refine and_congr_right (fun hk => ?_)
        rw [zand0]
        constructor
        · rintro h1 s hs ⟨z1, z2⟩
          obtain ⟨i, hi, z3⟩ := (zg_or_lb n0).mp z2
          have : lb (zg_or (fun k => K (e k)) n0) k = true := (zg_or_lb n0).mpr ⟨i, hi, (hK _ (he i hi) k).mpr ⟨hk, fun z => zand0.mp z s hs ⟨z1, z3⟩⟩⟩
          rw [this] at h1; cases h1
        · intro h1
          refine Bool.eq_false_iff.mpr (fun z => ?_)
          obtain ⟨i, hi, z3⟩ := (zg_or_lb n0).mp z
          obtain ⟨s, hs, z4, z5⟩ := zandn ((hK _ (he i hi) k).mp z3).2
          exact h1 s hs ⟨z4, (zg_or_lb n0).mpr ⟨i, hi, z5⟩⟩
      · rw [lb_ge (by omega)]
        exact ⟨fun z => (by cases z), fun z => by omega⟩) (by
      have e1 : m * 40 = m * n0 + m * (40 - n0) := by rw [← Nat.mul_add]; congr 1; omega
      omega) (Or.inl ⟨rfl, rfl, fun _ z => z⟩)
  have hgo : zrs 0 (zsw C K D n w n0 e) (fun v => False ∨ ∃ T, zval C (zy_all w) n (zg_or (fun k => C (e k)) n0) T ∧ v = zg_or (fun k => zf_b (e k)) n0 ||| T) ∧ (zsw C K D n w n0 e).1 = 0 + zec C (zy_all w) n (zg_or (fun k => C (e k)) n0) := hgo
  obtain ⟨g1, g2⟩ := hgo
  rw [Nat.zero_add] at g2
  refine ⟨g2, by rw [g2]; exact hB _ hx, ?_⟩
  unfold zsf
  generalize zsw C K D n w n0 e = s at *
  rcases g1 with ⟨b1, b2, -⟩ | ⟨b1, b2, b3⟩
  · refine ⟨fun _ => ?_, fun z => absurd b1 z⟩
    rw [b2]
    exact lb_ext (fun k _ => by rw [lb_and, lb_0, Bool.false_and])
  · refine ⟨fun z => absurd z b1, fun _ => ?_⟩
    rcases b2 with b2 | ⟨M, hM, b2⟩
    · exact b2.elim
    · have e2 : s.2 &&& (zg_or (fun k => zf_b (e k)) n0 ^^^ -1) = M := lb_ext (fun k hk => by
        rw [lb_an hk, b2, lb_or]
        cases q : lb (zg_or (fun k => zf_b (e k)) n0) k with
        | false => rw [Bool.false_or, Bool.not_false, Bool.and_true]
        | true =>
          rw [Bool.not_true, Bool.and_false]
          exact (Bool.eq_false_iff.mpr (fun z => ht0 k q (hM.1 k z).2)).symm)
      rw [e2]
      refine ⟨hM, fun k hk => ?_⟩
      exact (zfirst (t0 := zg_or (fun k => zf_b (e k)) n0) (by omega) (by omega) hC hne hx ht0 hM (fun T hT => by
        rw [← b2]
        exact b3 _ (Or.inr ⟨T, hT, rfl⟩)) n (Nat.le_refl _)).1 k hk
/-- the list with the first set behind it -/
theorem zsd_ap (h : zsd C K D n w m) {n0 : Nat} {e : Nat → Nat} (he : ∀ k, k < n0 → e k < n) (hd : zdj C n0 e) {M : Int64} (hM : zval C (zy_all w) n (zg_or (fun k => C (e k)) n0) M) : (∀ k, k < n0 + zC (lb M) n → zg_ap e n0 M n k < n) ∧ zdj C (n0 + zC (lb M) n) (zg_ap e n0 M n) := by
  have hX : ∀ k, ¬ k < n0 → k < n0 + zC (lb M) n → zg_ap e n0 M n k < n ∧ lb M (zg_ap e n0 M n k) = true ∧ zC (lb M) (zg_ap e n0 M n k) = k - n0 := fun k h1 h2 => by
    unfold zg_ap
    rw [if_neg h1]
    exact zX_ok (by omega)
  have hL : ∀ k, k < n0 → zg_ap e n0 M n k = e k := fun k h1 => if_pos h1
  refine ⟨fun k hk => ?_, fun j hj => ?_⟩
  · by_cases q : k < n0
    · rw [hL k q]; exact he k q
    · exact (hX k q hk).1
  · by_cases q : j < n0
    · rw [zg_or_cg (g := fun k => C (e k)) j (fun k hk => by rw [hL k (by omega)]), hL j q]
      exact hd j q
    · obtain ⟨x1, x2, x3⟩ := hX j q hj
      refine zand0.mpr (fun s hs z => ?_)
      obtain ⟨k, hk, z3⟩ := (zg_or_lb j).mp z.1
      by_cases q2 : k < n0
      · rw [hL k q2] at z3
        exact zand0.mp (hM.1 _ x2).2 s hs ⟨z.2, (zg_or_lb n0).mpr ⟨k, q2, z3⟩⟩
      · obtain ⟨y1, y2, y3⟩ := hX k q2 (by omega)
        refine zand0.mp (hM.2.1 _ _ y2 x2 (fun z4 => ?_)) s hs ⟨z3, z.2⟩
        rw [z4, x3] at y3
        omega
theorem zgt_none (h : zsd C K D n w m) {x : Int64} (hx : zy_sub w x) (hno : ¬ ∃ T, zval C (zy_all w) n x T) : ∀ k, k ≤ n → zy_gb C n w x k = x ∧ ∀ i, i < k → zy_gt C n w x i = false
  | 0, _ => ⟨rfl, fun i hi => absurd hi (Nat.not_lt_zero i)⟩
  | k + 1, hk => by
    obtain ⟨i1, i2⟩ := zgt_none h hx hno k (by omega)
    obtain ⟨⟨a1, a2⟩, hC, hne, -⟩ := id h
    have hg : zy_gt C n w x k = false := by
      unfold zy_gt
      rw [i1]
      refine decide_eq_false (fun z => ?_)
      obtain ⟨T, hT⟩ := (zways_pos (by omega) (by omega) hC hne (zy_sub_or hx (hC k (by omega))) 1 (Nat.le_refl _)).mp z.2
      exact hno ⟨_, zval_add (by omega) (by omega) z.1 hT⟩
    refine ⟨by rw [zy_gb_n hg]; exact i1, fun i hi => ?_⟩
    by_cases q : i = k
    · rw [q]; exact hg
    · exact i2 i (by omega)
end ZSD
