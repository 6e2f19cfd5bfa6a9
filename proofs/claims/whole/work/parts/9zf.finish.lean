/-! finish, ways: the same on both sides -/
theorem zy_gb_cg {can can2 : Nat → Int64} {m w : Nat} {x : Int64} (h : ∀ k, k < m → can k = can2 k) : ∀ k, k ≤ m → zy_gb can m w x k = zy_gb can2 m w x k
  | 0, _ => rfl
  | k + 1, hk => by
    have ih := zy_gb_cg (w := w) (x := x) h k (by omega)
    show (if can k &&& zy_gb can m w x k = 0 ∧ 0 < zy_ways can m w 1 (zy_gb can m w x k ||| can k) then zy_gb can m w x k ||| can k else zy_gb can m w x k) = (if can2 k &&& zy_gb can2 m w x k = 0 ∧ 0 < zy_ways can2 m w 1 (zy_gb can2 m w x k ||| can2 k) then zy_gb can2 m w x k ||| can2 k else zy_gb can2 m w x k)
    rw [ih, h k (by omega), zy_ways_congr h]
theorem zy_gt_cg {can can2 : Nat → Int64} {m w : Nat} {x : Int64} (h : ∀ k, k < m → can k = can2 k) {k : Nat} (hk : k < m) : zy_gt can m w x k = zy_gt can2 m w x k := by
  unfold zy_gt
  rw [zy_gb_cg h k (by omega), h k hk, zy_ways_congr h]
theorem zways_eq {C : Nat → Int64} {n w : Nat} (hw : w < 64) (hC : ∀ k, k < n → zy_sub w (C k)) (hne : ∀ k, k < n → ¬ C k &&& zy_all w = 0) {y : Int64} (hy : zy_sub w y) {most : Nat} (h1 : 1 ≤ most) : zy_ways C n w most y = min most (zec C (zy_all w) n y) := by
  unfold zy_ways
  by_cases e : y = zy_all w
  · rw [if_pos e, e, zec_all n hne]; omega
  · rw [if_neg e, zyW_eq hw hC hne 64 y hy e (by omega)]
theorem zX_cg {f g : Nat → Bool} {n l : Nat} (h : ∀ k, k < n → f k = g k) (hl : l < zC g n) : zX f n l = zX g n l := by
  obtain ⟨a1, a2, a3⟩ := zX_ok hl
  have h1 : f (zX g n l) = true := by rw [h _ a1]; exact a2
  have h2 : zC f (zX g n l) = l := by rw [zC_congr _ (fun k hk => h k (by omega))]; exact a3
  have h3 := zX_at h1 a1
  rw [h2] at h3
  exact h3
/-- one side, whatever the reference calls it -/
theorem zfin_s {C K D can : Nat → Int64} {n w m : Nat} (h : zsd C K D n w m) (hcan : ∀ k, k < n → can k = C k) {n0 : Nat} {e : Nat → Nat} (he : ∀ k, k < n0 → e k < n) (hd : zdj C n0 e) {x : Int64} (hx : x = zg_or (fun k => C (e k)) n0) : (zsw C K D n w n0 e).1 ≤ 2 ^ 30 ∧ n0 ≤ 40 ∧ n0 + zC (lb (zsf C K D n w n0 e)) n ≤ 40 ∧ (∀ most, 1 ≤ most → zy_ways can n w most x = min most (zsw C K D n w n0 e).1) ∧ (∀ k, k < n → zy_gt can n w x k = lb (zsf C K D n w n0 e) k) ∧ (∀ k, k < n0 + zC (lb (zsf C K D n w n0 e)) n → zg_ap e n0 (zsf C K D n w n0 e) n k < n) ∧ zdj C (n0 + zC (lb (zsf C K D n w n0 e)) n) (zg_ap e n0 (zsf C K D n w n0 e) n) := by
  subst hx
  obtain ⟨r1, r2, r3, r4⟩ := zsd_run h he hd
  have hx := zsd_x h he
  have h40 := zsd_40 h he hd
  obtain ⟨⟨a1, a2⟩, hC, hne, -⟩ := id h
  have hw1 : ∀ most, 1 ≤ most → zy_ways can n w most (zg_or (fun k => C (e k)) n0) = min most (zsw C K D n w n0 e).1 := fun most hmost => by
    rw [zy_ways_congr hcan, zways_eq (by omega) hC hne hx hmost, r1]
  have key : (∀ k, k < n → zy_gt C n w (zg_or (fun k => C (e k)) n0) k = lb (zsf C K D n w n0 e) k) ∧ (∀ k, k < n0 + zC (lb (zsf C K D n w n0 e)) n → zg_ap e n0 (zsf C K D n w n0 e) n k < n) ∧ zdj C (n0 + zC (lb (zsf C K D n w n0 e)) n) (zg_ap e n0 (zsf C K D n w n0 e) n) := by
    by_cases q : (zsw C K D n w n0 e).1 = 0
    · rw [r3 q]
      have e0 : zC (lb 0) n = 0 := zC_no (fun s _ => lb_0)
      rw [e0, Nat.add_zero]
      have hno : ¬ ∃ T, zval C (zy_all w) n (zg_or (fun k => C (e k)) n0) T := fun z => by
        have := (zec_pos n _ (by omega)).mpr z
        rw [← r1] at this
        exact this q
      refine ⟨fun k hk => ?_, fun k hk => ?_, fun j hj => ?_⟩
      · rw [lb_0]
        exact (zgt_none h hx hno n (Nat.le_refl _)).2 k hk
      · unfold zg_ap
        rw [if_pos hk]; exact he k hk
      · rw [zg_or_cg (g := fun k => C (e k)) j (fun k hk => by unfold zg_ap; rw [if_pos (by omega)])]
        have e5 : zg_ap e n0 0 n j = e j := if_pos hj
        rw [e5]; exact hd j hj
    · obtain ⟨v1, v2⟩ := r4 q
      obtain ⟨v3, v4⟩ := zsd_ap h he hd v1
      exact ⟨v2, v3, v4⟩
  obtain ⟨k1, k2, k3⟩ := key
  exact ⟨r2, h40, zsd_40 h k2 k3, hw1, fun k hk => by rw [zy_gt_cg hcan hk]; exact k1 k hk, k2, k3⟩
theorem zj_wk0_eq {P N : Nat} {c : Nat → Nat} (hok : zv_ok P N) (hNS : zNS P N c) (n0 : Nat) (e0 : Nat → Nat) : zj_wk0 P N c n0 e0 = zsw (zj_p P N c) (zj_kp P N c) (zj_m P N c) (zw_on P N c) (zw_gm P N c) n0 e0 ∧ zj_f0 P N c n0 e0 = zsf (zj_p P N c) (zj_kp P N c) (zj_m P N c) (zw_on P N c) (zw_gm P N c) n0 e0 := by
  have e : zj_wk0 P N c n0 e0 = zsw (zj_p P N c) (zj_kp P N c) (zj_m P N c) (zw_on P N c) (zw_gm P N c) n0 e0 := by
    unfold zj_wk0
    rw [zj_gm_eq hok hNS]; rfl
  refine ⟨e, ?_⟩
  unfold zj_f0
  rw [e]; rfl
theorem zj_wk1_eq {P N : Nat} {c : Nat → Nat} (hok : zv_ok P N) (hNS : zNS P N c) (n1 : Nat) (e1 : Nat → Nat) : zj_wk1 P N c n1 e1 = zsw (zj_m P N c) (zj_km P N c) (zj_p P N c) (zw_gm P N c) (zw_on P N c) n1 e1 ∧ zj_f1 P N c n1 e1 = zsf (zj_m P N c) (zj_km P N c) (zj_p P N c) (zw_gm P N c) (zw_on P N c) n1 e1 := by
  have e : zj_wk1 P N c n1 e1 = zsw (zj_m P N c) (zj_km P N c) (zj_p P N c) (zw_gm P N c) (zw_on P N c) n1 e1 := by
    unfold zj_wk1
    rw [zj_gm_eq hok hNS]; rfl
  refine ⟨e, ?_⟩
  unfold zj_f1
  rw [e]; rfl
theorem zcan_0 {P N : Nat} {c : Nat → Nat} (hok : zv_ok P N) (hNS : zNS P N c) {k : Nat} (hk : k < zw_on P N c) : zw_can P N c 0 k = zj_p P N c k := zrc_0 hok hNS hk
theorem zcan_1 {P N : Nat} {c : Nat → Nat} (hok : zv_ok P N) (hNS : zNS P N c) (h0 : zw_ns P N c = 0) {k : Nat} (hk : k < zw_gm P N c) : zw_can P N c 1 k = zj_m P N c k := zrc_1 hok hNS h0 hk
/-- finish and ways of ovoids -/
theorem zfin0 {P N : Nat} {c : Nat → Nat} {nn : Nat → Nat} {ff : Nat → Nat → Nat} {n0 n1 : Nat} {e0 e1 : Nat → Nat} (hok : zv_ok P N) (hNS : zNS P N c) (h0 : zw_ns P N c = 0) (hl : zlst P N c nn ff n0 e0 n1 e1) (hd : zdj (zj_p P N c) n0 e0) : (zj_wk0 P N c n0 e0).1 ≤ 2 ^ 30 ∧ n0 + zC (lb (zj_f0 P N c n0 e0)) (zw_on P N c) ≤ 40 ∧ (∀ most, 1 ≤ most → zw_wy P N c 0 most (ff 0) (nn 0) = min most (zj_wk0 P N c n0 e0).1) ∧ zC (zw_tk P N c 0 (ff 0) (nn 0)) (zw_cn P N c 0) = zC (lb (zj_f0 P N c n0 e0)) (zw_on P N c) ∧ zdj (zj_p P N c) (n0 + zC (lb (zj_f0 P N c n0 e0)) (zw_on P N c)) (zg_ap e0 n0 (zj_f0 P N c n0 e0) (zw_on P N c)) ∧ zlst P N c (zw_nnn P N c 0 nn ff (zw_cn P N c 0)) (zw_ffn P N c 0 nn ff) (n0 + zC (lb (zj_f0 P N c n0 e0)) (zw_on P N c)) (zg_ap e0 n0 (zj_f0 P N c n0 e0) (zw_on P N c)) n1 e1 := by
  obtain ⟨m, hs⟩ := zsd_0 hok hNS h0
  obtain ⟨l0, l1, l2, l3⟩ := id hl
  obtain ⟨w1, w2⟩ := zj_wk0_eq hok hNS n0 e0
  obtain ⟨f1, f2, f3, f4, f5, f6, f7⟩ := zfin_s hs (can := zw_can P N c 0) (fun k hk => zcan_0 hok hNS hk) (fun k hk => (l2 k hk).1) hd (x := zw_rd P N c 0 (ff 0) (nn 0)) (by rw [l0]; exact zrd_0 hok hNS n0 l2)
  rw [w1, w2]
  generalize zsf (zj_p P N c) (zj_kp P N c) (zj_m P N c) (zw_on P N c) (zw_gm P N c) n0 e0 = M at *
  have e3 : zw_cn P N c 0 = zw_on P N c := if_pos rfl
  have e4 : zw_wt P N c 0 = zw_gm P N c := if_pos rfl
  have htk : ∀ k, k < zw_on P N c → zw_tk P N c 0 (ff 0) (nn 0) k = lb M k := fun k hk => by
    unfold zw_tk
    rw [e3, e4]; exact f5 k hk
  have hC : zC (zw_tk P N c 0 (ff 0) (nn 0)) (zw_on P N c) = zC (lb M) (zw_on P N c) := zC_congr _ htk
  refine ⟨f1, f3, fun most hm => ?_, by rw [e3]; exact hC, f7, ?_, ?_, fun k hk => ⟨f6 k hk, ?_⟩, l3⟩
  · unfold zw_wy
    rw [e3, e4]; exact f4 most hm
  · unfold zw_nnn zl_n
    rw [if_pos rfl, e3, hC, l0]
  · unfold zw_nnn zl_n
    rw [if_neg (by decide)]; exact l1
  · unfold zw_ffn zg_ap
    by_cases q : k < n0
    · rw [if_neg (fun z => by omega), if_pos q]; exact (l2 k q).2
    · have hX := zX_cg (l := k - n0) htk (by omega)
      rw [if_pos ⟨rfl, by omega⟩, if_neg q, e3, show k - nn 0 = k - n0 by omega, hX]; rfl
/-- finish and ways of spreads -/
theorem zfin1 {P N : Nat} {c : Nat → Nat} {nn : Nat → Nat} {ff : Nat → Nat → Nat} {n0 n1 : Nat} {e0 e1 : Nat → Nat} (hok : zv_ok P N) (hNS : zNS P N c) (h0 : zw_ns P N c = 0) (hl : zlst P N c nn ff n0 e0 n1 e1) (hd : zdj (zj_m P N c) n1 e1) : (zj_wk1 P N c n1 e1).1 ≤ 2 ^ 30 ∧ n1 + zC (lb (zj_f1 P N c n1 e1)) (zw_gm P N c) ≤ 40 ∧ (∀ most, 1 ≤ most → zw_wy P N c 1 most (ff 1) (nn 1) = min most (zj_wk1 P N c n1 e1).1) ∧ zC (zw_tk P N c 1 (ff 1) (nn 1)) (zw_cn P N c 1) = zC (lb (zj_f1 P N c n1 e1)) (zw_gm P N c) ∧ zdj (zj_m P N c) (n1 + zC (lb (zj_f1 P N c n1 e1)) (zw_gm P N c)) (zg_ap e1 n1 (zj_f1 P N c n1 e1) (zw_gm P N c)) ∧ zlst P N c (zw_nnn P N c 1 nn ff (zw_cn P N c 1)) (zw_ffn P N c 1 nn ff) n0 e0 (n1 + zC (lb (zj_f1 P N c n1 e1)) (zw_gm P N c)) (zg_ap e1 n1 (zj_f1 P N c n1 e1) (zw_gm P N c)) := by
  obtain ⟨m, hs⟩ := zsd_1 hok hNS h0
  obtain ⟨l0, l1, l2, l3⟩ := id hl
  obtain ⟨w1, w2⟩ := zj_wk1_eq hok hNS n1 e1
  obtain ⟨f1, f2, f3, f4, f5, f6, f7⟩ := zfin_s hs (can := zw_can P N c 1) (fun k hk => zcan_1 hok hNS h0 hk) (fun k hk => (l3 k hk).1) hd (x := zw_rd P N c 1 (ff 1) (nn 1)) (by rw [l1]; exact zrd_1 hok hNS h0 n1 l3)
  rw [w1, w2]
  generalize zsf (zj_m P N c) (zj_km P N c) (zj_p P N c) (zw_gm P N c) (zw_on P N c) n1 e1 = M at *
  have e3 : zw_cn P N c 1 = zw_gm P N c := if_neg (by decide)
  have e4 : zw_wt P N c 1 = zw_on P N c := if_neg (by decide)
  have htk : ∀ k, k < zw_gm P N c → zw_tk P N c 1 (ff 1) (nn 1) k = lb M k := fun k hk => by
    unfold zw_tk
    rw [e3, e4]; exact f5 k hk
  have hC : zC (zw_tk P N c 1 (ff 1) (nn 1)) (zw_gm P N c) = zC (lb M) (zw_gm P N c) := zC_congr _ htk
  refine ⟨f1, f3, fun most hm => ?_, by rw [e3]; exact hC, f7, ?_, ?_, l2, fun k hk => ⟨f6 k hk, ?_⟩⟩
  · unfold zw_wy
    rw [e3, e4]; exact f4 most hm
  · unfold zw_nnn zl_n
    rw [if_neg (by decide)]; exact l0
  · unfold zw_nnn zl_n
    rw [if_pos rfl, e3, hC, l1]
  · unfold zw_ffn zg_ap
    by_cases q : k < n1
    · rw [if_neg (fun z => by omega), if_pos q]; exact (l3 k q).2
    · have e5 : ∀ j, zw_cx P N c 1 j = j := fun j => if_neg (by decide)
      have hX := zX_cg (l := k - n1) htk (by omega)
      rw [if_pos ⟨rfl, by omega⟩, if_neg q, e3, e5, show k - nn 1 = k - n1 by omega, hX]
