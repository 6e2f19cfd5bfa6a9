/-! near, drawn -/
theorem zf_k_jn {P N : Nat} {c : Nat → Nat} (hok : zv_ok P N) {r s : Nat} (hr : r < zw_on P N c) (hs : s < zw_on P N c) : (zj_x P N c s == zj_x P N c r || zv_jn P N (zv_y P N) (zw_oo P N c) (zj_x P N c s) (zj_x P N c r)) = zf_k P N c r s := by
  obtain ⟨x1, x2, -⟩ := zj_x_ok hr
  obtain ⟨y1, y2, -⟩ := zj_x_ok hs
  refine zb_iff ?_
  rw [zj_jn_eq hok y1 x1, Bool.or_eq_true, beq_iff_eq, zf_k_B hr]
  unfold zj_jn
  rw [x2, y2, Bool.true_and, Bool.true_and, Bool.and_eq_true, bne_iff_ne, beq_iff_eq, zv_dot_B]
  constructor
  · rintro (e | ⟨-, e⟩)
    · have := zj_x_inj hs hr e
      subst this
      exact (zf_k_B hr).mp (zf_k_r s)
    · rw [zB_comm]; exact e
  · intro e
    by_cases q : zj_x P N c s = zj_x P N c r
    · exact Or.inl q
    · refine Or.inr ⟨q, ?_⟩
      rw [zB_comm]; exact e
theorem zlb_0 {x : Int64} : x = 0 ↔ ¬ lb_low x < 64 := by
  rcases lb_low_ge (x := x) with ⟨a1, a2⟩ | ⟨a1, a2, a3⟩
  · exact ⟨fun _ => by omega, fun _ => lb_ext (fun k hk => by rw [a2 k hk, lb_0])⟩
  · exact ⟨fun e => (by rw [e, lb_0] at a2; cases a2), fun e => absurd a1 e⟩
theorem zb_near {P N : Nat} {c : Nat → Nat} (h : 0 < P → zv_ok P N) (x y z : Int32) : ac_near P N c x y z = aw_near P N c x y z := by
  unfold ac_near aw_near
  rw [zok_eq h]
  by_cases hs : zw_sound P N c = true
  · obtain ⟨hok, hNS, -⟩ := zok_NS h hs
    have h64 := zon64 hok hNS
    have h64 : zw_on P N c ≤ 64 := by omega
    rw [if_pos hs, if_pos hs, zj_gm_eq hok hNS]
    have hmb : zj_mb P N c x = true ↔ zx_in x (zv_np P N) = true ∧ zw_oo P N c (zx_k x) = true := by unfold zj_mb; rw [Bool.and_eq_true]
    by_cases hxy : (zx_in x (zv_np P N) = true ∧ zw_oo P N c (zx_k x) = true) ∧ zx_in y (zw_gm P N c) = true
    · rw [if_pos ⟨hmb.mpr hxy.1, hxy.2⟩, if_pos hxy]
      have hxk := (zx_of hxy.1.1).1
      have hyk := (zx_of hxy.2).1
      have hr : zj_rk P N c x < zw_on P N c := zC_lt hxy.1.2 hxk
      have hxr : zj_x P N c (zj_rk P N c x) = zx_k x := zX_at hxy.1.2 hxk
      have hd := zj_d13 (c := c) hok
      have hix := (zall hok hNS).1
      obtain ⟨m1, m2⟩ := zmk_pin hok hNS hd.1 hd.2 (f := zx_k y) (by rw [hix]; exact hyk)
      have hm : zj_m P N c (zx_k y) = zj_mk P N c (zj_d P N c) (zx_k y) := rfl
      rw [hm]
      rw [hix] at m1 m2 ⊢
      generalize zj_mk P N c (zw_ix P N c) (zx_k y) = m at *
      generalize zj_rk P N c x = r at *
      have hlb : lb (m &&& zf_L P N c r) = fun s => lb m s && (decide (s < zw_on P N c) && zf_k P N c r s) := funext (fun s => by rw [lb_and, zf_L_lb h64])
      have hnr : ∀ k, k < zq_sz P (zw_ix P N c) → (decide (zX (lb m) 64 k < zw_on P N c) && zf_k P N c r (zX (lb m) 64 k)) = zw_nr P N c (zx_k x) (zx_k y) k := fun k hk => by
        obtain ⟨w1, w2⟩ := m2 k hk
        unfold zw_nr
        rw [decide_eq_true w1, Bool.true_and, ← w2, ← hxr]
        exact (zf_k_jn hok hr w1).symm
      have e1 : zC (lb (m &&& zf_L P N c r)) 64 = zC (zw_nr P N c (zx_k x) (zx_k y)) (zq_sz P (zw_ix P N c)) := by
        rw [hlb, (zC_x (o := lb m) (f := fun s => decide (s < zw_on P N c) && zf_k P N c r s) (n := 64)).1, m1]
        exact zC_congr _ hnr
      have e2 : lb_low (m &&& zf_L P N c r) = if zM (zw_nr P N c (zx_k x) (zx_k y)) 0 (zq_sz P (zw_ix P N c)) < zq_sz P (zw_ix P N c) then zX (lb m) 64 (zM (zw_nr P N c (zx_k x) (zx_k y)) 0 (zq_sz P (zw_ix P N c))) else 64 := by
        unfold lb_low
        rw [hlb, zM_x (o := lb m) (f := fun s => decide (s < zw_on P N c) && zf_k P N c r s) (n := 64), m1]
        rw [zM_cg (g := zw_nr P N c (zx_k x) (zx_k y)) (zq_sz P (zw_ix P N c)) 0 (fun i _ hi => hnr i (by omega))]
      rw [e1]
      by_cases hq : zM (zw_nr P N c (zx_k x) (zx_k y)) 0 (zq_sz P (zw_ix P N c)) < zq_sz P (zw_ix P N c)
      · rw [if_pos hq] at e2
        obtain ⟨w1, w2⟩ := m2 _ hq
        rw [if_neg (show ¬ (m &&& zf_L P N c r = 0) from fun w => zlb_0.mp w (by rw [e2]; omega)), if_pos hq, e2, w2]
      · rw [if_neg hq] at e2
        rw [if_pos (show m &&& zf_L P N c r = 0 from zlb_0.mpr (by rw [e2]; omega)), if_neg hq]
    · rw [if_neg hxy, if_neg (fun w => hxy ⟨hmb.mp w.1, w.2⟩)]
  · rw [if_neg hs, if_neg hs]
theorem zb_drawn {P N : Nat} {c : Nat → Nat} (h : 0 < P → zv_ok P N) (x y z : Int32) : ac_drawn P N c x y z = aw_drawn P N c x y z := by
  unfold ac_drawn aw_drawn
  by_cases hP : 0 < P
  · have hnp := (zv_nums (h hP)).2.2
    have e : zS (zj_pr P N c (zx_k y)) (zx_k x) = zS (zk_pr P N (zv_np P N) (zx_k y) (zv_y P N) (zw_oo P N c)) (zx_k x) := zS_congr _ (fun t _ => by
      unfold zj_pr zk_pr
      rw [zj_jn_eq (h hP) (show zk_pt (zv_np P N) (zx_k y) (2 * t + 1) < zv_np P N from Nat.mod_lt _ hnp) (show zk_pt (zv_np P N) (zx_k y) (2 * t + 2) < zv_np P N from Nat.mod_lt _ hnp)])
    rw [if_pos hP, if_pos hP]
    unfold zj_dr zw_dr
    rw [e]
  · rw [if_neg hP, if_neg hP]
