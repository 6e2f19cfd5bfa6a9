/-! the law's loop (written by wip/whole/gen_law2.py) -/
set_option maxHeartbeats 4000000 in
theorem zl_loop {p : Program} {l : Launch} {e : Env} {s : State} {m : MethodId} {below : List Frame} {meth : Method} {c : Code} {b L : Nat} {xs : Nat → Int32} {D : va_G} {tc : Nat → ClassId} {ad ad' : Nat → Nat} (hC : zl_C p s m meth c b L xs D tc) (hL : L ≤ 2048) : ∀ (n i : Nat) (ls : Array Slot) (H : Heap) (locs : List Loc) (wC wM : List zm_E), i ≤ L + 4 → L + 5 ≤ i + n → zREL wC wM → zl_J D tc s b ad ad' ls i H locs wC wM → W p l e room_1 s m #[Value.ref b] below meth c H locs 55 6772 (lw_Z below #[Value.ref b] s) (F0 m 18 ls []) := by
  intro n
  induction n with
  | zero =>
    intro i ls H locs wC wM h1 h2
    exact absurd h2 (by omega)
  | succ n ih =>
    intro i ls H locs wC wM h1 h2 hR hJ
    obtain ⟨hx, hb, hr, hml, hown, hts, hX, hbl, hlocks, hgv⟩ := id hC.1
    have hbA : ¬ (fun q : Nat => s.heap.size ≤ q) b := Nat.not_le.mpr hbl
    have hl := hJ.2.2.2.2.2
    have hS := hJ.2.2.2.2.1
    refine lv_iload_n hx hb zd_L_18 rfl (lv_at hl 3 rfl) ?_
    refine lv_aload_n hx hb zd_L_19 rfl (lv_at hl 0 rfl) ?_
    refine va_slen hx hb hX hbl hbA hS zd_L_20 ?_
    refine lv_iconst (v := 4) hx hb zd_L_21 (by decide) ?_
    refine lv_isub hx hb zd_L_22 ?_
    refine lv_icmp_gt (tgt := 1029) hx hb zd_L_23 (by decide) (fun _ => ?_) (fun hc => ?_)
    · refine lv_iconst (v := 1) hx hb zd_L_1029 (by decide) ?_
      refine va_forget (fun q hq => hS.2.2 q hq) ?_
      refine W.widen (k := 600000) (n := 7302250) (Nat.le_of_ble_eq_true rfl) (Nat.le_of_ble_eq_true rfl) ?_
      exact lw_ret hx hb hr hlocks zd_L_1030
    · have hi := zl_cmp hL h1 hc
      have e1 : (nI i).toNatClampNeg = i := by
        unfold Int32.toNatClampNeg
        rw [nI_toInt (by omega)]; rfl
      refine lv_aload_n hx hb zd_L_26 rfl (lv_at hl 0 rfl) ?_
      refine lv_iload_n hx hb zd_L_27 rfl (lv_at hl 3 rfl) ?_
      refine va_sld hx hb hX hbl hbA hS (vp_in_nI (show i < L by omega) (by omega)) zd_L_28 ?_
      refine lv_bipush (v := 31) hx hb zd_L_29 (by decide) ?_
      refine lv_iand hx hb zd_L_31 ?_
      obtain ⟨k, hk, hke⟩ := zl_31 (xs (nI i).toNatClampNeg)
      rw [hke]
      have hN : zl_N p l e s m b below meth c D tc ad ad' ls i (lw_Z below #[Value.ref b] s) := by
        intro wC2 wM2 H2 locs2 hR2 hJ2
        obtain ⟨j1, j2, j3, j4, j5, hl2⟩ := hJ2
        refine lv_iinc (v := nI (i + 4)) (lv' := [(3, .int (nI (i + 4))), (0, .ref b), (1, .ref (ad 0)), (2, .ref (ad' 0))]) hx hb zd_L_1023 hl2 (k := 3) rfl (nI_add i 4) (by decide) rfl (fun ls3 hl3 => ?_)
        refine lv_goto (tgt := 18) hx hb zd_L_1026 (by decide) ?_
        exact ih (i + 4) ls3 H2 locs2 wC2 wM2 (by omega) (by omega) hR2 ⟨j1, j2, j3, j4, j5, lv_sub hl3 [1, 2, 3, 0] rfl⟩
      rcases (show k = 0 ∨ k = 1 ∨ k = 2 ∨ k = 3 ∨ k = 4 ∨ k = 5 ∨ k = 6 ∨ k = 7 ∨ k = 8 ∨ k = 9 ∨ k = 10 ∨ k = 11 ∨ k = 12 ∨ k = 13 ∨ k = 14 ∨ k = 15 ∨ k = 16 ∨ k = 17 ∨ k = 18 ∨ k = 19 ∨ k = 20 ∨ k = 21 ∨ k = 22 ∨ k = 23 ∨ k = 24 ∨ k = 25 ∨ k = 26 ∨ k = 27 ∨ k = 28 ∨ k = 29 ∨ k = 30 ∨ k = 31 by omega) with rfl | rfl | rfl | rfl | rfl | rfl | rfl | rfl | rfl | rfl | rfl | rfl | rfl | rfl | rfl | rfl | rfl | rfl | rfl | rfl | rfl | rfl | rfl | rfl | rfl | rfl | rfl | rfl | rfl | rfl | rfl | rfl
      · exact lv_tableIn (off := 144) (tgt := 176) hx hb zd_L_32 (by decide) (by decide) (by decide) (by decide) (zl_k0 hC hJ hR hi hL hN)
      · exact lv_tableIn (off := 167) (tgt := 199) hx hb zd_L_32 (by decide) (by decide) (by decide) (by decide) (zl_k1 hC hJ hR hi hL hN)
      · exact lv_tableIn (off := 180) (tgt := 212) hx hb zd_L_32 (by decide) (by decide) (by decide) (by decide) (zl_k2 hC hJ hR hi hL hN)
      · exact lv_tableIn (off := 193) (tgt := 225) hx hb zd_L_32 (by decide) (by decide) (by decide) (by decide) (zl_k3 hC hJ hR hi hL hN)
      · exact lv_tableIn (off := 206) (tgt := 238) hx hb zd_L_32 (by decide) (by decide) (by decide) (by decide) (zl_k4 hC hJ hR hi hL hN)
      · exact lv_tableIn (off := 229) (tgt := 261) hx hb zd_L_32 (by decide) (by decide) (by decide) (by decide) (zl_k5 hC hJ hR hi hL hN)
      · exact lv_tableIn (off := 262) (tgt := 294) hx hb zd_L_32 (by decide) (by decide) (by decide) (by decide) (zl_k6 hC hJ hR hi hL hN)
      · exact lv_tableIn (off := 295) (tgt := 327) hx hb zd_L_32 (by decide) (by decide) (by decide) (by decide) (zl_k7 hC hJ hR hi hL hN)
      · exact lv_tableIn (off := 318) (tgt := 350) hx hb zd_L_32 (by decide) (by decide) (by decide) (by decide) (zl_k8 hC hJ hR hi hL hN)
      · exact lv_tableIn (off := 351) (tgt := 383) hx hb zd_L_32 (by decide) (by decide) (by decide) (by decide) (zl_k9 hC hJ hR hi hL hN)
      · exact lv_tableIn (off := 384) (tgt := 416) hx hb zd_L_32 (by decide) (by decide) (by decide) (by decide) (zl_k10 hC hJ hR hi hL hN)
      · exact lv_tableIn (off := 417) (tgt := 449) hx hb zd_L_32 (by decide) (by decide) (by decide) (by decide) (zl_k11 hC hJ hR hi hL hN)
      · exact lv_tableIn (off := 440) (tgt := 472) hx hb zd_L_32 (by decide) (by decide) (by decide) (by decide) (zl_k12 hC hJ hR hi hL hN)
      · exact lv_tableIn (off := 483) (tgt := 515) hx hb zd_L_32 (by decide) (by decide) (by decide) (by decide) (zl_k13 hC hJ hR hi hL hN)
      · exact lv_tableIn (off := 526) (tgt := 558) hx hb zd_L_32 (by decide) (by decide) (by decide) (by decide) (zl_k14 hC hJ hR hi hL hN)
      · exact lv_tableIn (off := 549) (tgt := 581) hx hb zd_L_32 (by decide) (by decide) (by decide) (by decide) (zl_k15 hC hJ hR hi hL hN)
      · exact lv_tableIn (off := 572) (tgt := 604) hx hb zd_L_32 (by decide) (by decide) (by decide) (by decide) (zl_k16 hC hJ hR hi hL hN)
      · exact lv_tableIn (off := 595) (tgt := 627) hx hb zd_L_32 (by decide) (by decide) (by decide) (by decide) (zl_k17 hC hJ hR hi hL hN)
      · exact lv_tableIn (off := 628) (tgt := 660) hx hb zd_L_32 (by decide) (by decide) (by decide) (by decide) (zl_k18 hC hJ hR hi hL hN)
      · exact lv_tableIn (off := 651) (tgt := 683) hx hb zd_L_32 (by decide) (by decide) (by decide) (by decide) (zl_k19 hC hJ hR hi hL hN)
      · exact lv_tableIn (off := 674) (tgt := 706) hx hb zd_L_32 (by decide) (by decide) (by decide) (by decide) (zl_k20 hC hJ hR hi hL hN)
      · exact lv_tableIn (off := 697) (tgt := 729) hx hb zd_L_32 (by decide) (by decide) (by decide) (by decide) (zl_k21 hC hJ hR hi hL hN)
      · exact lv_tableIn (off := 740) (tgt := 772) hx hb zd_L_32 (by decide) (by decide) (by decide) (by decide) (zl_k22 hC hJ hR hi hL hN)
      · exact lv_tableIn (off := 773) (tgt := 805) hx hb zd_L_32 (by decide) (by decide) (by decide) (by decide) (zl_k23 hC hJ hR hi hL hN)
      · exact lv_tableIn (off := 816) (tgt := 848) hx hb zd_L_32 (by decide) (by decide) (by decide) (by decide) (zl_k24 hC hJ hR hi hL hN)
      · exact lv_tableIn (off := 849) (tgt := 881) hx hb zd_L_32 (by decide) (by decide) (by decide) (by decide) (zl_k25 hC hJ hR hi hL hN)
      · exact lv_tableIn (off := 872) (tgt := 904) hx hb zd_L_32 (by decide) (by decide) (by decide) (by decide) (zl_k26 hC hJ hR hi hL hN)
      · exact lv_tableIn (off := 885) (tgt := 917) hx hb zd_L_32 (by decide) (by decide) (by decide) (by decide) (zl_k27 hC hJ hR hi hL hN)
      · exact lv_tableIn (off := 898) (tgt := 930) hx hb zd_L_32 (by decide) (by decide) (by decide) (by decide) (zl_k28 hC hJ hR hi hL hN)
      · exact lv_tableIn (off := 911) (tgt := 943) hx hb zd_L_32 (by decide) (by decide) (by decide) (by decide) (zl_k29 hC hJ hR hi hL hN)
      · exact lv_tableIn (off := 954) (tgt := 986) hx hb zd_L_32 (by decide) (by decide) (by decide) (by decide) (zl_k30 hC hJ hR hi hL hN)
      · exact lv_tableIn (off := 977) (tgt := 1009) hx hb zd_L_32 (by decide) (by decide) (by decide) (by decide) (zl_k31 hC hJ hR hi hL hN)
