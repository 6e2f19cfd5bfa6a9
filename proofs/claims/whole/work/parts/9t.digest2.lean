/-! digest: the same -/
theorem zb_ab {P N : Nat} {c : Nat → Nat} (hok : zv_ok P N) (k : Nat) : ac_ab P N c k = aw_ab P N c k := by
  unfold ac_ab aw_ab
  rw [zj_ns_eq hok, zj_kd_eq hok]
  by_cases h0 : zj_ns P N c = 0
  · rw [if_neg (show ¬ 0 < zj_ns P N c by omega), if_pos h0, (zall hok (zNS_of hok h0)).1]
  · rw [if_pos (show 0 < zj_ns P N c by omega), if_neg h0]
theorem zb_lf {P N : Nat} {c : Nat → Nat} {nn : Nat → Nat} {ff : Nat → Nat → Nat} {n0 n1 : Nat} {e0 e1 : Nat → Nat} (hok : zv_ok P N) (hNS : zNS P N c) (h0 : zw_ns P N c = 0) (hl : zlst P N c nn ff n0 e0 n1 e1) : zj_lf P N c n0 e0 n1 e1 0 = zw_lf P N c 0 (ff 0) (nn 0) ∧ zj_lf P N c n0 e0 n1 e1 1 = zw_lf P N c 1 (ff 1) (nn 1) := by
  obtain ⟨l0, l1, l2, l3⟩ := hl
  unfold zj_lf zw_lf zw_wt
  constructor
  · rw [if_pos rfl, if_pos rfl, l0, zrd_0 hok hNS n0 l2, zj_gm_eq hok hNS]
  · rw [if_neg (by decide), if_neg (by decide), l1, zrd_1 hok hNS h0 n1 l3]
theorem zb_lists {P N : Nat} {c : Nat → Nat} {nn : Nat → Nat} {ff : Nat → Nat → Nat} {n0 n1 : Nat} {e0 e1 : Nat → Nat} (hl : zlst P N c nn ff n0 e0 n1 e1) (h : Int64) : zh_lists (zj_nn n0 n1) (zj_en P N c e0 e1) h 2 = zh_lists nn ff h 2 := by
  obtain ⟨l0, l1, l2, l3⟩ := hl
  show zh_f (zh_f h (fun k => (nI (zj_x P N c (e0 k))).toInt64) n0) (fun k => (nI (e1 k)).toInt64) n1 = zh_f (zh_f h (fun k => (nI (ff 0 k)).toInt64) (nn 0)) (fun k => (nI (ff 1 k)).toInt64) (nn 1)
  rw [l0, l1, zh_f_cg (g := fun k => (nI (ff 0 k)).toInt64) n0 (fun k hk => by rw [(l2 k hk).2])]
  exact zh_f_cg n1 (fun k hk => by rw [(l3 k hk).2])
theorem zb_digest {P N : Nat} {c : Nat → Nat} {nn : Nat → Nat} {ff : Nat → Nat → Nat} {n0 n1 : Nat} {e0 e1 : Nat → Nat} (h : 0 < P → zv_ok P N) (hl : zlst P N c nn ff n0 e0 n1 e1) (n : Nat) (cd : Nat → Nat) (fr fi wa : Nat) : ac_digest P N c n0 e0 n1 e1 n cd fr fi wa = aw_digest P N c nn ff n cd (nI n) (nI fr) (nI fi) (nI wa) := by
  have e1' : ac_h2 P N c n0 e0 n1 e1 = if 0 < P then zh_form P N c nn ff 1499 else 1499 := by
    unfold ac_h2 ac_h1
    rw [zok_eq h]
    by_cases hP : 0 < P
    · rw [if_pos hP, if_pos hP]
      have hok := h hP
      have ef : zj_hf P N c 1499 = zh_f (zh_tab (zh_f 1499 (fun k => (aw_ab P N c k).toInt64) 8) c N N) (fun k => (nI (zv_val P N c (zv_y P N k))).toInt64) (zv_np P N) := by
        unfold zj_hf
        rw [zh_f_cg (h := 1499) (f := fun k => (ac_ab P N c k).toInt64) (g := fun k => (aw_ab P N c k).toInt64) 8 (fun k _ => by rw [zb_ab hok])]
      rw [ef]
      unfold zh_form
      by_cases h0 : zw_ns P N c = 0
      · have hs : zw_sound P N c = true := by unfold zw_sound; rw [decide_eq_true hP, decide_eq_true h0]; rfl
        have hNS := (zok_NS h hs).2.1
        rw [if_pos hs, if_pos h0]
        unfold zj_hl zh_flats
        obtain ⟨f0, f1⟩ := zb_lf hok hNS h0 hl
        rw [f0, f1, zj_gm_eq hok hNS, zhg_eq hok hNS _ _ (Nat.le_refl _)]
        rw [zh_f_cg (f := fun d => (nI (zj_tot P N c (d + 1))).toInt64) (g := fun d => (nI (zw_fl P N c (d + 1))).toInt64) 3 (fun k _ => by rw [zj_tot_eq hok hNS])]
      · have hs : ¬ zw_sound P N c = true := fun w => h0 (zok_NS h w).2.2
        rw [if_neg hs, if_neg h0]
    · have hs : ¬ zw_sound P N c = true := fun w => by
        unfold zw_sound at w
        rw [decide_eq_false hP] at w; cases w
      rw [if_neg hs, if_neg hP, if_neg hP]
  unfold ac_digest aw_digest
  rw [zb_lists hl, e1']
  exact zh_f_cg 9 (fun k _ => by rw [zb_count h hl.1 hl.2.1])
