/-! the reference: image, restore, like (written by wip/whole/gen_m23.py) -/
/-- the image as the reference holds it -/
def zS_k (g : Nat → Int32) (a : Nat → Nat → Int32) (K M : Nat) (e : Nat → Nat) : Prop := (K = 0 ∧ g 40 = 0) ∨ (zv_ok K M ∧ g 40 = nI K ∧ g 41 = nI M ∧ g 42 = nI (zw_kd K M e) ∧ g 43 = zd_disc K M e ∧ (∀ k, k < 36 → a 24 k = nI (e k)) ∧ ∀ k, k < 36 → e k ≤ 4)
theorem zS_k.k {g : Nat → Int32} {a : Nat → Nat → Int32} {K M : Nat} {e : Nat → Nat} (h : zS_k g a K M e) : g 40 = nI K ∧ K ≤ 5 := by
  rcases h with ⟨rfl, h⟩ | ⟨h1, h2, -⟩
  · exact ⟨h, by omega⟩
  · exact ⟨h2, (zv_P5 h1.1).2⟩
theorem zS_k.p {g : Nat → Int32} {a : Nat → Nat → Int32} {K M : Nat} {e : Nat → Nat} (h : zS_k g a K M e) (hK : 0 < K) : zv_ok K M ∧ g 40 = nI K ∧ g 41 = nI M ∧ g 42 = nI (zw_kd K M e) ∧ g 43 = zd_disc K M e ∧ (∀ k, k < 36 → a 24 k = nI (e k)) ∧ ∀ k, k < 36 → e k ≤ 4 := by
  rcases h with ⟨rfl, h⟩ | h
  · omega
  · exact h
theorem zw_kd_le (P N : Nat) (c : Nat → Nat) : zw_kd P N c ≤ 3 := by
  unfold zw_kd zq_kd; split; omega; split; omega; split <;> omega
/-- form and image are equivalent -/
def aw_like (P N : Nat) (c : Nat → Nat) (K M : Nat) (e : Nat → Nat) : Int32 := if 0 < P ∧ 0 < K then (if zw_ns P N c = 0 ∧ zw_kd K M e ≠ 3 ∧ P = K ∧ N = M ∧ zw_kd P N c = zw_kd K M e ∧ zd_disc P N c = zd_disc K M e then 1 else 0) else -103
theorem zs_M_image (g : Nat → Int32) (gl : Nat → Int64) (a : Nat → Nat → Int32) (al : Nat → Nat → Int64) (hG : zG) (P N : Nat) (c : Nat → Nat) (hS : zS_F g a P N c) : zm_Ev zt_get 5 204 [.ref 0] (zw_M g gl a al) (fun v w => (¬ 0 < P ∧ v = some (.int (-103)) ∧ w = (zw_M g gl a al)) ∨ (0 < P ∧ v = some (.int (nI (zv_np P N))) ∧ ∃ f15 f24 : Nat → Int32, w = (zw_M (upd (upd (upd (upd g 40 (g 0)) 41 (g 1)) 42 (nI (zw_kd P N c))) 43 (zd_disc P N c)) gl (va_up (va_up a 15 f15) 24 f24) al) ∧ ∀ k, k < 36 → f24 k = nI (c k))) := by
  obtain ⟨hP, hN, hnp, hP5, hN6, hnp1⟩ := hS.nums
  obtain ⟨ns, on, nl, npl, hns, hon, hnl, hnpl, hns1, hon1, hnl1, hnpl1, hz0, hzP⟩ := hS.more hG
  have hkd : 0 < P → zq_kd N ns nl npl = zw_kd P N c := fun q => by obtain ⟨ens, eon, e3⟩ := hzP q; unfold zw_kd; rw [← ens]; by_cases q : ns = 0; rw [(e3 q).1, (e3 q).2]; unfold zq_kd; rw [if_pos (by omega), if_pos (by omega)]
  refine zr_ev zt_M_image rfl rfl ?_
  show zm_Run zt_get 4 zt_M_image (0, [some (.ref 0), none], [], (zw_M g gl a al)) _
  refine zr_go (t := (1, [some (.ref 0), none], [.ref 0], (zw_M g gl a al))) 1 rfl ?_
  refine zr_call (t := (4, [some (.ref 0), none], [], (zw_M g gl a al))) rfl (Nat.le_of_ble_eq_true rfl : 1 ≤ 4) (zs_M_isForm g gl a al P hP hP5) ?_
  rintro _ _ ⟨rfl, rfl⟩
  show zm_Run zt_get 4 zt_M_image (4, [some (.ref 0), none], [.int (nI ((decide (0 < P)).toNat))], (zw_M g gl a al)) _
  have hb1 := zb_le (decide (0 < P))
  refine zr_ine (x := nI ((decide (0 < P)).toNat)) (y := 0) ((decide (0 < P)).toNat) 0 rfl rfl (by omega) (by omega) (t := (10, [some (.ref 0), none], [], (zw_M g gl a al))) (f := (7, [some (.ref 0), none], [], (zw_M g gl a al))) rfl (fun h1 => ?_) (fun h1 => ?_)
  · skip
    have hp0 := of_decide_eq_true (zb_1 h1)
    obtain ⟨hf, enp⟩ := hS.form hp0
    obtain ⟨hok, hFF, hRR, hnum, -⟩ := id hf
    obtain ⟨-, -, -, -, -, hcc, hc4⟩ := id hFF
    have hkd := hkd hp0
    refine zr_go (t := (28, [some (.ref 0), none], [.ref 0, .ref 0], (zw_M (upd (upd g 40 (g 0)) 41 (g 1)) gl a al))) 10 rfl ?_
    refine zr_call (t := (31, [some (.ref 0), none], [.ref 0], (zw_M (upd (upd g 40 (g 0)) 41 (g 1)) gl a al))) rfl (Nat.le_of_ble_eq_true rfl : 2 ≤ 4) (zs_M_kind (upd (upd g 40 (g 0)) 41 (g 1)) gl a al nl npl hnl hnpl hnl1 hnpl1 N ns hN hN6 hns hns1) ?_
    rintro _ _ ⟨rfl, rfl⟩
    show zm_Run zt_get 4 zt_M_image (31, [some (.ref 0), none], [.int (nI (zq_kd N ns nl npl)), .ref 0], (zw_M (upd (upd g 40 (g 0)) 41 (g 1)) gl a al)) _
    rw [hkd]
    refine zr_go (t := (36, [some (.ref 0), none], [.ref 0, .ref 0], (zw_M (upd (upd (upd g 40 (g 0)) 41 (g 1)) 42 (nI (zw_kd P N c))) gl a al))) 3 rfl ?_
    refine zr_call (t := (39, [some (.ref 0), none], [.ref 0], (zw_M (upd (upd (upd g 40 (g 0)) 41 (g 1)) 42 (nI (zw_kd P N c))) gl a al))) rfl (Nat.le_of_ble_eq_true rfl : 4 ≤ 4) (zs_M_disc (upd (upd (upd g 40 (g 0)) 41 (g 1)) 42 (nI (zw_kd P N c))) gl a al P N hP hN hok.1 hN6 c hcc hc4) ?_
    rintro _ _ ⟨rfl, f15, rfl⟩
    show zm_Run zt_get 4 zt_M_image (39, [some (.ref 0), none], [.int (zd_disc P N c), .ref 0], (zw_M (upd (upd (upd g 40 (g 0)) 41 (g 1)) 42 (nI (zw_kd P N c))) gl (va_up a 15 f15) al)) _
    refine zr_go (t := (44, [some (.ref 0), some (.int 0)], [], (zw_M (upd (upd (upd (upd g 40 (g 0)) 41 (g 1)) 42 (nI (zw_kd P N c))) 43 (zd_disc P N c)) gl (va_up a 15 f15) al))) 3 rfl ?_
    refine zr_loop (fun zq : Nat × (Nat → Int32) => (44, [some (.ref 0), some (.int (nI zq.1))], [], (zw_M (upd (upd (upd (upd g 40 (g 0)) 41 (g 1)) 42 (nI (zw_kd P N c))) 43 (zd_disc P N c)) gl (va_up (va_up a 15 f15) 24 zq.2) al))) (fun zq => zq.1 ≤ 36 ∧ ∀ t, t < zq.1 → zq.2 t = nI (c t)) (fun zq => 36 - zq.1) ?_ (0, a 24) ⟨by omega, fun t h => absurd h (Nat.not_lt_zero t)⟩
    rintro ⟨k, fT⟩ ⟨hk, hT⟩ ih
    try dsimp only at *
    refine zr_go (t := (47, [some (.ref 0), some (.int (nI k))], [.int 36, .int (nI k)], (zw_M (upd (upd (upd (upd g 40 (g 0)) 41 (g 1)) 42 (nI (zw_kd P N c))) 43 (zd_disc P N c)) gl (va_up (va_up a 15 f15) 24 fT) al))) 2 rfl ?_
    refine zr_ige (x := nI k) (y := 36) k 36 rfl rfl (by omega) (by omega) (t := (68, [some (.ref 0), some (.int (nI k))], [], (zw_M (upd (upd (upd (upd g 40 (g 0)) 41 (g 1)) 42 (nI (zw_kd P N c))) 43 (zd_disc P N c)) gl (va_up (va_up a 15 f15) 24 fT) al))) (f := (50, [some (.ref 0), some (.int (nI k))], [], (zw_M (upd (upd (upd (upd g 40 (g 0)) 41 (g 1)) 42 (nI (zw_kd P N c))) 43 (zd_disc P N c)) gl (va_up (va_up a 15 f15) 24 fT) al))) rfl (fun h6 => ?_) (fun h6 => ?_)
    · skip
      refine zr_go (t := (72, [some (.ref 0), some (.int (nI k))], [.int (g 6)], (zw_M (upd (upd (upd (upd g 40 (g 0)) 41 (g 1)) 42 (nI (zw_kd P N c))) 43 (zd_disc P N c)) gl (va_up (va_up a 15 f15) 24 fT) al))) 2 rfl ?_
      exact zr_ret rfl trivial (Or.inr ⟨hp0, by rw [hRR.1], f15, fT, rfl, fun t h => hT t (by omega)⟩)
    · skip
      refine zr_go (t := (60, [some (.ref 0), some (.int (nI k))], [.int (nI k), .ref 1, .int (nI k), .ref 24], (zw_M (upd (upd (upd (upd g 40 (g 0)) 41 (g 1)) 42 (nI (zw_kd P N c))) 43 (zd_disc P N c)) gl (va_up (va_up a 15 f15) 24 fT) al))) 6 rfl ?_
      refine zr_cd (t := (61, [some (.ref 0), some (.int (nI k))], [.int ((a 1) (nI k).toNatClampNeg), .int (nI k), .ref 24], (zw_M (upd (upd (upd (upd g 40 (g 0)) 41 (g 1)) 42 (nI (zw_kd P N c))) 43 (zd_disc P N c)) gl (va_up (va_up a 15 f15) 24 fT) al))) rfl (pk_in k 36 (by omega) rfl (by omega)) ?_
      rw [pk_cl (x := (nI k)) k rfl (by omega)]
      rw [show (a 1) k = nI (c k) from hcc k (by omega)]
      refine zr_cd (t := (62, [some (.ref 0), some (.int (nI k))], [], (zw_M (upd (upd (upd (upd g 40 (g 0)) 41 (g 1)) 42 (nI (zw_kd P N c))) 43 (zd_disc P N c)) gl (va_up (va_up a 15 f15) 24 (upd fT ((nI k).toNatClampNeg) (nI (c k)))) al))) rfl (pk_in k 36 (by omega) rfl (by omega)) ?_
      rw [pk_cl (x := (nI k)) k rfl (by omega)]
      refine zr_go (t := (44, [some (.ref 0), some (.int ((nI k) + 1))], [], (zw_M (upd (upd (upd (upd g 40 (g 0)) 41 (g 1)) 42 (nI (zw_kd P N c))) 43 (zd_disc P N c)) gl (va_up (va_up a 15 f15) 24 (upd fT k (nI (c k)))) al))) 2 rfl ?_
      rw [show (nI k) + 1 = nI (k + 1) from (zn_add rfl rfl)]
      exact ih (k + 1, (upd fT k (nI (c k)))) ⟨by omega, lt_s (fun t ht => (pk_un (Nat.ne_of_lt ht)).trans (hT t ht)) pk_us⟩ (by omega)
  · skip
    refine zr_go (t := (9, [some (.ref 0), none], [.int (-103)], (zw_M g gl a al))) 1 rfl ?_
    exact zr_ret rfl trivial (Or.inl ⟨of_decide_eq_false (zb_0 h1), rfl, rfl⟩)
theorem zs_M_restore (g : Nat → Int32) (gl : Nat → Int64) (a : Nat → Nat → Int32) (al : Nat → Nat → Int64) (hG : zG) (K M : Nat) (e : Nat → Nat) (hk : zS_k g a K M e) : zm_Ev zt_get 9 205 [.ref 0] (zw_M g gl a al) (fun v w => (¬ 0 < K ∧ v = some (.int (-103)) ∧ w = (zw_M g gl a al)) ∨ (0 < K ∧ v = some (.int (nI (zv_np K M))) ∧ ∃ (f1 f3 f4 : Nat → Int32) (x10 x11 x12 x14 x25 : Int32) (f5 f6 f7 f9 f10 f11 f12 f13 f14 f16 : Nat → Int32), w = (zw_M (upd (upd (upd (upd (upd (upd (upd (upd g 0 (g 40)) 1 (g 41)) 6 (nI (zv_np K M))) 10 x10) 11 x11) 12 x12) 14 x14) 25 x25) gl (va_up (va_up (va_up (va_up (va_up (va_up (va_up (va_up (va_up (va_up (va_up (va_up (va_up a 1 f1) 3 f3) 4 f4) 5 f5) 6 f6) 7 f7) 9 f9) 10 f10) 11 f11) 12 f12) 13 f13) 14 f14) 16 f16) al) ∧ zS_f (upd (upd (upd (upd (upd (upd (upd (upd g 0 (g 40)) 1 (g 41)) 6 (nI (zv_np K M))) 10 x10) 11 x11) 12 x12) 14 x14) 25 x25) (va_up (va_up (va_up (va_up (va_up (va_up (va_up (va_up (va_up (va_up (va_up (va_up (va_up a 1 f1) 3 f3) 4 f4) 5 f5) 6 f6) 7 f7) 9 f9) 10 f10) 11 f11) 12 f12) 13 f13) 14 f14) 16 f16) K M e ∧ f16 0 = 0 ∧ f16 1 = 0)) := by
  obtain ⟨hK, hK5⟩ := hk.k
  refine zr_ev zt_M_restore rfl rfl ?_
  show zm_Run zt_get 8 zt_M_restore (0, [some (.ref 0), none], [], (zw_M g gl a al)) _
  refine zr_go (t := (4, [some (.ref 0), none], [.int (g 40)], (zw_M g gl a al))) 2 rfl ?_
  refine zr_ine (x := g 40) (y := 0) K 0 hK rfl (by omega) (by omega) (t := (10, [some (.ref 0), none], [], (zw_M g gl a al))) (f := (7, [some (.ref 0), none], [], (zw_M g gl a al))) rfl (fun h1 => ?_) (fun h1 => ?_)
  · skip
    have hp0 : 0 < K := by omega
    obtain ⟨hok, -, hM, h42, h43, hee, he4⟩ := hk.p hp0
    obtain ⟨hA, hB, hnp0⟩ := zv_nums hok
    have hM6 := zv_okN hok
    refine zr_go (t := (28, [some (.ref 0), some (.int 0)], [], (zw_M (upd (upd g 0 (g 40)) 1 (g 41)) gl a al))) 10 rfl ?_
    refine zr_loop (fun zq : Nat × (Nat → Int32) => (28, [some (.ref 0), some (.int (nI zq.1))], [], (zw_M (upd (upd g 0 (g 40)) 1 (g 41)) gl (va_up a 1 zq.2) al))) (fun zq => zq.1 ≤ 36 ∧ ∀ t, t < zq.1 → zq.2 t = nI (e t)) (fun zq => 36 - zq.1) ?_ (0, a 1) ⟨by omega, fun t h => absurd h (Nat.not_lt_zero t)⟩
    rintro ⟨k, fT⟩ ⟨hk1, hT⟩ ih
    try dsimp only at *
    refine zr_go (t := (31, [some (.ref 0), some (.int (nI k))], [.int 36, .int (nI k)], (zw_M (upd (upd g 0 (g 40)) 1 (g 41)) gl (va_up a 1 fT) al))) 2 rfl ?_
    refine zr_ige (x := nI k) (y := 36) k 36 rfl rfl (by omega) (by omega) (t := (52, [some (.ref 0), some (.int (nI k))], [], (zw_M (upd (upd g 0 (g 40)) 1 (g 41)) gl (va_up a 1 fT) al))) (f := (34, [some (.ref 0), some (.int (nI k))], [], (zw_M (upd (upd g 0 (g 40)) 1 (g 41)) gl (va_up a 1 fT) al))) rfl (fun h6 => ?_) (fun h6 => ?_)
    · skip
      have hT2 : ∀ t, t < 36 → fT t = nI (e t) := fun t h => hT t (by omega)
      refine zr_go (t := (53, [some (.ref 0), some (.int (nI k))], [.ref 0], (zw_M (upd (upd g 0 (g 40)) 1 (g 41)) gl (va_up a 1 fT) al))) 1 rfl ?_
      refine zr_call (t := (56, [some (.ref 0), some (.int (nI k))], [], (zw_M (upd (upd g 0 (g 40)) 1 (g 41)) gl (va_up a 1 fT) al))) rfl (Nat.le_of_ble_eq_true rfl : 2 ≤ 8) (zs_M_layPoints (upd (upd g 0 (g 40)) 1 (g 41)) gl (va_up a 1 fT) al K M hK hM hp0 hK5 hM6 hA hB) ?_
      rintro _ _ ⟨rfl, fr, fn, b9, rfl, hfn, hfr⟩
      show zm_Run zt_get 8 zt_M_restore (56, [some (.ref 0), some (.int (nI k))], [], (zw_M (upd (upd (upd g 0 (g 40)) 1 (g 41)) 6 (nI (zv_np K M))) gl (va_up (va_up (va_up (va_up a 1 fT) 3 fr) 4 fn) 9 b9) al)) _
      refine zr_go (t := (57, [some (.ref 0), some (.int (nI k))], [.ref 0], (zw_M (upd (upd (upd g 0 (g 40)) 1 (g 41)) 6 (nI (zv_np K M))) gl (va_up (va_up (va_up (va_up a 1 fT) 3 fr) 4 fn) 9 b9) al))) 1 rfl ?_
      refine zr_call (t := (60, [some (.ref 0), some (.int (nI k))], [], (zw_M (upd (upd (upd g 0 (g 40)) 1 (g 41)) 6 (nI (zv_np K M))) gl (va_up (va_up (va_up (va_up a 1 fT) 3 fr) 4 fn) 9 b9) al))) rfl (Nat.le_of_ble_eq_true rfl : 8 ≤ 8) (zs_M_layNewW (upd (upd (upd g 0 (g 40)) 1 (g 41)) 6 (nI (zv_np K M))) gl (va_up (va_up (va_up (va_up a 1 fT) 3 fr) 4 fn) 9 b9) al hG K M e hok ⟨hK, hM, hp0, hK5, hM6, hT2, he4⟩ ⟨rfl, hB, zv_rows hfr, fun p i _ _ => Nat.le_of_lt_succ (Nat.lt_of_lt_of_le (zv_y_lt hp0) hK5)⟩ hfn) ?_
      rintro _ _ ⟨rfl, x10, x11, x12, x14, x25, f5, f6, f7, f9, f10, f11, f12, f13, f14, f16, rfl, hnew, hch0, hch1, -⟩
      show zm_Run zt_get 8 zt_M_restore (60, [some (.ref 0), some (.int (nI k))], [], (zw_M (upd (upd (upd (upd (upd (upd (upd (upd g 0 (g 40)) 1 (g 41)) 6 (nI (zv_np K M))) 10 x10) 11 x11) 12 x12) 14 x14) 25 x25) gl (va_up (va_up (va_up (va_up (va_up (va_up (va_up (va_up (va_up (va_up (va_up (va_up (va_up a 1 fT) 3 fr) 4 fn) 5 f5) 6 f6) 7 f7) 9 f9) 10 f10) 11 f11) 12 f12) 13 f13) 14 f14) 16 f16) al)) _
      refine zr_go (t := (64, [some (.ref 0), some (.int (nI k))], [.int (nI (zv_np K M))], (zw_M (upd (upd (upd (upd (upd (upd (upd (upd g 0 (g 40)) 1 (g 41)) 6 (nI (zv_np K M))) 10 x10) 11 x11) 12 x12) 14 x14) 25 x25) gl (va_up (va_up (va_up (va_up (va_up (va_up (va_up (va_up (va_up (va_up (va_up (va_up (va_up a 1 fT) 3 fr) 4 fn) 5 f5) 6 f6) 7 f7) 9 f9) 10 f10) 11 f11) 12 f12) 13 f13) 14 f14) 16 f16) al))) 2 rfl ?_
      exact zr_ret rfl trivial (Or.inr ⟨hp0, rfl, fT, fr, fn, x10, x11, x12, x14, x25, f5, f6, f7, f9, f10, f11, f12, f13, f14, f16, rfl, hnew, hch0, hch1⟩)
    · skip
      refine zr_go (t := (44, [some (.ref 0), some (.int (nI k))], [.int (nI k), .ref 24, .int (nI k), .ref 1], (zw_M (upd (upd g 0 (g 40)) 1 (g 41)) gl (va_up a 1 fT) al))) 6 rfl ?_
      refine zr_cd (t := (45, [some (.ref 0), some (.int (nI k))], [.int ((a 24) (nI k).toNatClampNeg), .int (nI k), .ref 1], (zw_M (upd (upd g 0 (g 40)) 1 (g 41)) gl (va_up a 1 fT) al))) rfl (pk_in k 36 (by omega) rfl (by omega)) ?_
      rw [pk_cl (x := (nI k)) k rfl (by omega)]
      rw [show (a 24) k = nI (e k) from hee k (by omega)]
      refine zr_cd (t := (46, [some (.ref 0), some (.int (nI k))], [], (zw_M (upd (upd g 0 (g 40)) 1 (g 41)) gl (va_up a 1 (upd fT ((nI k).toNatClampNeg) (nI (e k)))) al))) rfl (pk_in k 36 (by omega) rfl (by omega)) ?_
      rw [pk_cl (x := (nI k)) k rfl (by omega)]
      refine zr_go (t := (28, [some (.ref 0), some (.int ((nI k) + 1))], [], (zw_M (upd (upd g 0 (g 40)) 1 (g 41)) gl (va_up a 1 (upd fT k (nI (e k)))) al))) 2 rfl ?_
      rw [show (nI k) + 1 = nI (k + 1) from (zn_add rfl rfl)]
      exact ih (k + 1, (upd fT k (nI (e k)))) ⟨by omega, lt_s (fun t ht => (pk_un (Nat.ne_of_lt ht)).trans (hT t ht)) pk_us⟩ (by omega)
  · skip
    refine zr_go (t := (9, [some (.ref 0), none], [.int (-103)], (zw_M g gl a al))) 1 rfl ?_
    exact zr_ret rfl trivial (Or.inl ⟨by omega, rfl, rfl⟩)
theorem zs_M_like (g : Nat → Int32) (gl : Nat → Int64) (a : Nat → Nat → Int32) (al : Nat → Nat → Int64) (hG : zG) (P N : Nat) (c : Nat → Nat) (hS : zS_F g a P N c) (K M : Nat) (e : Nat → Nat) (hk : zS_k g a K M e) : zm_Ev zt_get 5 206 [.ref 0] (zw_M g gl a al) (fun v w => v = some (.int (aw_like P N c K M e)) ∧ ∃ f15, w = (zw_M g gl (va_up a 15 f15) al)) := by
  obtain ⟨hP, hN, hnp, hP5, hN6, hnp1⟩ := hS.nums
  obtain ⟨ns, on, nl, npl, hns, hon, hnl, hnpl, hns1, hon1, hnl1, hnpl1, hz0, hzP⟩ := hS.more hG
  have hkd : 0 < P → zq_kd N ns nl npl = zw_kd P N c := fun q => by obtain ⟨ens, eon, e3⟩ := hzP q; unfold zw_kd; rw [← ens]; by_cases q : ns = 0; rw [(e3 q).1, (e3 q).2]; unfold zq_kd; rw [if_pos (by omega), if_pos (by omega)]
  obtain ⟨hK, hK5⟩ := hk.k
  refine zr_ev zt_M_like rfl rfl ?_
  show zm_Run zt_get 4 zt_M_like (0, [some (.ref 0), none], [], (zw_M g gl a al)) _
  refine zr_go (t := (1, [some (.ref 0), none], [.ref 0], (zw_M g gl a al))) 1 rfl ?_
  refine zr_call (t := (4, [some (.ref 0), none], [], (zw_M g gl a al))) rfl (Nat.le_of_ble_eq_true rfl : 1 ≤ 4) (zs_M_isForm g gl a al P hP hP5) ?_
  rintro _ _ ⟨rfl, rfl⟩
  show zm_Run zt_get 4 zt_M_like (4, [some (.ref 0), none], [.int (nI ((decide (0 < P)).toNat))], (zw_M g gl a al)) _
  have hb1 := zb_le (decide (0 < P))
  refine zr_ieq (x := nI ((decide (0 < P)).toNat)) (y := 0) ((decide (0 < P)).toNat) 0 rfl rfl (by omega) (by omega) (t := (14, [some (.ref 0), none], [], (zw_M g gl a al))) (f := (7, [some (.ref 0), none], [], (zw_M g gl a al))) rfl (fun h1 => ?_) (fun h1 => ?_)
  · skip
    refine zr_go (t := (16, [some (.ref 0), none], [.int (-103)], (zw_M g gl a al))) 1 rfl ?_
    exact zr_ret rfl trivial ⟨by unfold aw_like; rw [if_neg (fun q => of_decide_eq_false (zb_0 h1) q.1)], a 15, rfl⟩
  · skip
    have hp0 := of_decide_eq_true (zb_1 h1)
    refine zr_go (t := (11, [some (.ref 0), none], [.int (g 40)], (zw_M g gl a al))) 2 rfl ?_
    refine zr_ine (x := g 40) (y := 0) K 0 hK rfl (by omega) (by omega) (t := (17, [some (.ref 0), none], [], (zw_M g gl a al))) (f := (14, [some (.ref 0), none], [], (zw_M g gl a al))) rfl (fun h2 => ?_) (fun h2 => ?_)
    · skip
      have hk0 : 0 < K := by omega
      obtain ⟨hokK, -, hM, h42, h43, -, -⟩ := hk.p hk0
      obtain ⟨hf, enp⟩ := hS.form hp0
      obtain ⟨hok, hFF, hRR, hnum, -⟩ := id hf
      obtain ⟨-, -, -, -, -, hcc, hc4⟩ := id hFF
      have hkd := hkd hp0
      have hkl := zw_kd_le K M e
      have hkl2 := zw_kd_le P N c
      have hM6 := zv_okN hokK
      have ens := (hzP hp0).1
      have hpk := And.intro hp0 hk0
      refine zr_go (t := (21, [some (.ref 0), none], [.int (g 11)], (zw_M g gl a al))) 2 rfl ?_
      refine zr_ine (x := g 11) (y := 0) ns 0 hns rfl (by omega) (by omega) (t := (58, [some (.ref 0), none], [], (zw_M g gl a al))) (f := (24, [some (.ref 0), none], [], (zw_M g gl a al))) rfl (fun h3 => ?_) (fun h3 => ?_)
      · skip
        refine zr_go (t := (61, [some (.ref 0), some (.int 0)], [.int 0], (zw_M g gl a al))) 3 rfl ?_
        refine zr_ieq (x := 0) (y := 0) 0 0 rfl rfl (by omega) (by omega) (t := (90, [some (.ref 0), some (.int 0)], [], (zw_M g gl a al))) (f := (64, [some (.ref 0), some (.int 0)], [], (zw_M g gl a al))) rfl (fun hx0 => ?_) (fun hx0 => ?_)
        · skip
          refine zr_go (t := (91, [some (.ref 0), some (.int 0)], [.int 0], (zw_M g gl a al))) 1 rfl ?_
          exact zr_ret rfl trivial ⟨by unfold aw_like; rw [if_pos hpk, if_neg (fun q => h3 (ens.trans q.1))], a 15, rfl⟩
        · skip
          exact absurd rfl hx0
      · skip
        refine zr_go (t := (29, [some (.ref 0), none], [.int 3, .int (g 42)], (zw_M g gl a al))) 3 rfl ?_
        refine zr_ieq (x := g 42) (y := 3) (zw_kd K M e) 3 h42 rfl (by omega) (by omega) (t := (58, [some (.ref 0), none], [], (zw_M g gl a al))) (f := (32, [some (.ref 0), none], [], (zw_M g gl a al))) rfl (fun h4 => ?_) (fun h4 => ?_)
        · skip
          refine zr_go (t := (61, [some (.ref 0), some (.int 0)], [.int 0], (zw_M g gl a al))) 3 rfl ?_
          refine zr_ieq (x := 0) (y := 0) 0 0 rfl rfl (by omega) (by omega) (t := (90, [some (.ref 0), some (.int 0)], [], (zw_M g gl a al))) (f := (64, [some (.ref 0), some (.int 0)], [], (zw_M g gl a al))) rfl (fun hx0 => ?_) (fun hx0 => ?_)
          · skip
            refine zr_go (t := (91, [some (.ref 0), some (.int 0)], [.int 0], (zw_M g gl a al))) 1 rfl ?_
            exact zr_ret rfl trivial ⟨by unfold aw_like; rw [if_pos hpk, if_neg (fun q => q.2.1 h4)], a 15, rfl⟩
          · skip
            exact absurd rfl hx0
        · skip
          refine zr_go (t := (40, [some (.ref 0), none], [.int (g 40), .int (g 0)], (zw_M g gl a al))) 4 rfl ?_
          refine zr_ine (x := g 0) (y := g 40) P K hP hK (by omega) (by omega) (t := (58, [some (.ref 0), none], [], (zw_M g gl a al))) (f := (43, [some (.ref 0), none], [], (zw_M g gl a al))) rfl (fun h5 => ?_) (fun h5 => ?_)
          · skip
            refine zr_go (t := (61, [some (.ref 0), some (.int 0)], [.int 0], (zw_M g gl a al))) 3 rfl ?_
            refine zr_ieq (x := 0) (y := 0) 0 0 rfl rfl (by omega) (by omega) (t := (90, [some (.ref 0), some (.int 0)], [], (zw_M g gl a al))) (f := (64, [some (.ref 0), some (.int 0)], [], (zw_M g gl a al))) rfl (fun hx0 => ?_) (fun hx0 => ?_)
            · skip
              refine zr_go (t := (91, [some (.ref 0), some (.int 0)], [.int 0], (zw_M g gl a al))) 1 rfl ?_
              exact zr_ret rfl trivial ⟨by unfold aw_like; rw [if_pos hpk, if_neg (fun q => h5 q.2.2.1)], a 15, rfl⟩
            · skip
              exact absurd rfl hx0
          · skip
            refine zr_go (t := (51, [some (.ref 0), none], [.int (g 41), .int (g 1)], (zw_M g gl a al))) 4 rfl ?_
            refine zr_ine (x := g 1) (y := g 41) N M hN hM (by omega) (by omega) (t := (58, [some (.ref 0), none], [], (zw_M g gl a al))) (f := (54, [some (.ref 0), none], [], (zw_M g gl a al))) rfl (fun h6 => ?_) (fun h6 => ?_)
            · skip
              refine zr_go (t := (61, [some (.ref 0), some (.int 0)], [.int 0], (zw_M g gl a al))) 3 rfl ?_
              refine zr_ieq (x := 0) (y := 0) 0 0 rfl rfl (by omega) (by omega) (t := (90, [some (.ref 0), some (.int 0)], [], (zw_M g gl a al))) (f := (64, [some (.ref 0), some (.int 0)], [], (zw_M g gl a al))) rfl (fun hx0 => ?_) (fun hx0 => ?_)
              · skip
                refine zr_go (t := (91, [some (.ref 0), some (.int 0)], [.int 0], (zw_M g gl a al))) 1 rfl ?_
                exact zr_ret rfl trivial ⟨by unfold aw_like; rw [if_pos hpk, if_neg (fun q => h6 q.2.2.2.1)], a 15, rfl⟩
              · skip
                exact absurd rfl hx0
            · skip
              refine zr_go (t := (61, [some (.ref 0), some (.int 1)], [.int 1], (zw_M g gl a al))) 4 rfl ?_
              refine zr_ieq (x := 1) (y := 0) 1 0 rfl rfl (by omega) (by omega) (t := (90, [some (.ref 0), some (.int 1)], [], (zw_M g gl a al))) (f := (64, [some (.ref 0), some (.int 1)], [], (zw_M g gl a al))) rfl (fun h7 => ?_) (fun h7 => ?_)
              · skip
                exact absurd h7 (by decide)
              · skip
                refine zr_go (t := (65, [some (.ref 0), some (.int 1)], [.ref 0], (zw_M g gl a al))) 1 rfl ?_
                refine zr_call (t := (68, [some (.ref 0), some (.int 1)], [], (zw_M g gl a al))) rfl (Nat.le_of_ble_eq_true rfl : 2 ≤ 4) (zs_M_kind g gl a al nl npl hnl hnpl hnl1 hnpl1 N ns hN hN6 hns hns1) ?_
                rintro _ _ ⟨rfl, rfl⟩
                show zm_Run zt_get 4 zt_M_like (68, [some (.ref 0), some (.int 1)], [.int (nI (zq_kd N ns nl npl))], (zw_M g gl a al)) _
                rw [hkd]
                refine zr_go (t := (72, [some (.ref 0), some (.int 1)], [.int (g 42), .int (nI (zw_kd P N c))], (zw_M g gl a al))) 2 rfl ?_
                refine zr_ine (x := nI (zw_kd P N c)) (y := g 42) (zw_kd P N c) (zw_kd K M e) rfl h42 (by omega) (by omega) (t := (90, [some (.ref 0), some (.int 1)], [], (zw_M g gl a al))) (f := (75, [some (.ref 0), some (.int 1)], [], (zw_M g gl a al))) rfl (fun h8 => ?_) (fun h8 => ?_)
                · skip
                  refine zr_go (t := (91, [some (.ref 0), some (.int 1)], [.int 0], (zw_M g gl a al))) 1 rfl ?_
                  exact zr_ret rfl trivial ⟨by unfold aw_like; rw [if_pos hpk, if_neg (fun q => h8 q.2.2.2.2.1)], a 15, rfl⟩
                · skip
                  refine zr_go (t := (76, [some (.ref 0), some (.int 1)], [.ref 0], (zw_M g gl a al))) 1 rfl ?_
                  refine zr_call (t := (79, [some (.ref 0), some (.int 1)], [], (zw_M g gl a al))) rfl (Nat.le_of_ble_eq_true rfl : 4 ≤ 4) (zs_M_disc g gl a al P N hP hN hok.1 hN6 c hcc hc4) ?_
                  rintro _ _ ⟨rfl, f15, rfl⟩
                  show zm_Run zt_get 4 zt_M_like (79, [some (.ref 0), some (.int 1)], [.int (zd_disc P N c)], (zw_M g gl (va_up a 15 f15) al)) _
                  refine zr_go (t := (83, [some (.ref 0), some (.int 1)], [.int (g 43), .int (zd_disc P N c)], (zw_M g gl (va_up a 15 f15) al))) 2 rfl ?_
                  refine zr_if (c := zd_disc P N c = g 43) (t := (86, [some (.ref 0), some (.int 1)], [], (zw_M g gl (va_up a 15 f15) al))) (f := (90, [some (.ref 0), some (.int 1)], [], (zw_M g gl (va_up a 15 f15) al))) rfl (fun h9 => ?_) (fun h9 => ?_)
                  · skip
                    refine zr_go (t := (91, [some (.ref 0), some (.int 1)], [.int 1], (zw_M g gl (va_up a 15 f15) al))) 2 rfl ?_
                    exact zr_ret rfl trivial ⟨by unfold aw_like; rw [if_pos hpk, if_pos ⟨ens ▸ h3, h4, h5, h6, h8, h9.trans h43⟩], f15, rfl⟩
                  · skip
                    refine zr_go (t := (91, [some (.ref 0), some (.int 1)], [.int 0], (zw_M g gl (va_up a 15 f15) al))) 1 rfl ?_
                    exact zr_ret rfl trivial ⟨by unfold aw_like; rw [if_pos hpk, if_neg (fun q => h9 (q.2.2.2.2.2.trans h43.symm))], f15, rfl⟩
    · skip
      refine zr_go (t := (16, [some (.ref 0), none], [.int (-103)], (zw_M g gl a al))) 1 rfl ?_
      exact zr_ret rfl trivial ⟨by unfold aw_like; rw [if_neg (fun q => by omega)], a 15, rfl⟩
