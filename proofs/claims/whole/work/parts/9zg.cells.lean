/-! what depends on the cells of the form alone: the reference's answers -/
section ZGE
variable {P N : Nat} {c c' : Nat → Nat}
theorem zw_ix_E (h : zc_E N c c') : zw_ix P N c = zw_ix P N c' := by simp only [zw_ix, zw_nl_E h, zw_npl_E h]
theorem zw_fl_E (h : zc_E N c c') : zw_fl P N c = zw_fl P N c' := by
  funext d
  simp only [zw_fl, zw_on_E h, zw_nl_E h, zw_npl_E h]
theorem zw_gm_E (h : zc_E N c c') : zw_gm P N c = zw_gm P N c' := by simp only [zw_gm, zw_fl_E h, zw_ix_E h]
theorem zw_sound_E (h : zc_E N c c') : zw_sound P N c = zw_sound P N c' := by simp only [zw_sound, zw_ns_E h]
theorem zw_pin_E (h : zc_E N c c') : zw_pin P N c = zw_pin P N c' := by
  funext d f k
  simp only [zw_pin, zw_oo_E h, zw_ln_E h, zw_pl_E h]
theorem zw_has_E (h : zc_E N c c') : zw_has P N c = zw_has P N c' := by
  funext f p
  simp only [zw_has, zw_nl_E h, zw_npl_E h, zw_oo_E h, zw_ln_E h, zw_pl_E h]
theorem zw_nr_E (h : zc_E N c c') : zw_nr P N c = zw_nr P N c' := by
  funext p f k
  simp only [zw_nr, zw_pin_E h, zw_ix_E h, zw_oo_E h]
theorem zw_rc_E (h : zc_E N c c') : zw_rc P N c = zw_rc P N c' := by
  funext q x
  simp only [zw_rc, zw_has_E h, zw_gm_E h, zw_oo_E h]
theorem zw_rd_E (h : zc_E N c c') (q : Nat) (f : Nat → Nat) : ∀ n, zw_rd P N c q f n = zw_rd P N c' q f n
  | 0 => rfl
  | n + 1 => by
    show zw_rd P N c q f n ||| zw_rc P N c q (f n) = zw_rd P N c' q f n ||| zw_rc P N c' q (f n)
    rw [zw_rd_E h q f n, zw_rc_E h]
theorem zw_wt_E (h : zc_E N c c') : zw_wt P N c = zw_wt P N c' := by
  funext q
  simp only [zw_wt, zw_gm_E h, zw_on_E h]
theorem zw_cn_E (h : zc_E N c c') : zw_cn P N c = zw_cn P N c' := by
  funext q
  simp only [zw_cn, zw_gm_E h, zw_on_E h]
theorem zw_cx_E (h : zc_E N c c') : zw_cx P N c = zw_cx P N c' := by
  funext q k
  simp only [zw_cx, zw_oo_E h]
theorem zw_lf_E (h : zc_E N c c') : zw_lf P N c = zw_lf P N c' := by
  funext q f n
  simp only [zw_lf, zw_wt_E h, zw_rd_E h]
theorem zw_can_E (h : zc_E N c c') : zw_can P N c = zw_can P N c' := by
  funext q k
  simp only [zw_can, zw_rc_E h, zw_cx_E h]
theorem zw_tk_E (h : zc_E N c c') : zw_tk P N c = zw_tk P N c' := by
  funext q f n
  simp only [zw_tk, zw_can_E h, zw_cn_E h, zw_wt_E h, zw_rd_E h]
theorem zw_wy_E (h : zc_E N c c') : zw_wy P N c = zw_wy P N c' := by
  funext q most f n
  simp only [zw_wy, zw_can_E h, zw_cn_E h, zw_wt_E h, zw_rd_E h]
theorem zw_ffn_E (h : zc_E N c c') : zw_ffn P N c = zw_ffn P N c' := by
  funext q nn ff s j
  simp only [zw_ffn, zw_tk_E h, zw_cn_E h, zw_cx_E h]
theorem zw_nnn_E (h : zc_E N c c') : zw_nnn P N c = zw_nnn P N c' := by
  funext q nn ff k
  simp only [zw_nnn, zw_tk_E h]
theorem zw_dr_E (h : zc_E N c c') : zw_dr P N c = zw_dr P N c' := by
  funext n s0 z
  simp only [zw_dr, zw_oo_E h]
theorem zw_ent_E (h : zc_E N c c') : zw_ent P N c = zw_ent P N c' := by
  funext q x
  simp only [zw_ent, zw_oo_E h, zw_gm_E h]
theorem aw_ab_E (h : zc_E N c c') : aw_ab P N c = aw_ab P N c' := by
  funext k
  simp only [aw_ab, zw_on_E h, zw_ns_E h, zw_kd_E h, zd_disc_E h, zw_ix_E h]
theorem aw_about_E (h : zc_E N c c') : aw_about P N c = aw_about P N c' := by
  funext x
  simp only [aw_about, aw_ab_E h]
theorem aw_coef_E (h : zc_E N c c') (x y : Int32) : aw_coef P N c x y = aw_coef P N c' x y := by
  unfold aw_coef
  by_cases q : 0 < P ∧ zx_in x N = true ∧ zx_in y N = true
  · rw [if_pos q, if_pos q]
    have h1 := (zx_of q.2.1).1
    have h2 := (zx_of q.2.2).1
    congr 1
    split
    · exact h _ _ (by omega) h2
    · exact h _ _ (by omega) h1
  · rw [if_neg q, if_neg q]
theorem aw_value_E (h : zc_E N c c') : aw_value P N c = aw_value P N c' := by
  funext x
  simp only [aw_value, zv_val_E h]
theorem aw_polar_E (h : zc_E N c c') : aw_polar P N c = aw_polar P N c' := by
  funext x y
  simp only [aw_polar, zv_pol_E h]
theorem aw_joined_E (h : zc_E N c c') : aw_joined P N c = aw_joined P N c' := by
  funext x y
  simp only [aw_joined, zv_oo_E h]
theorem zv_tch_E (h : zc_E N c c') : zv_tch P N c = zv_tch P N c' := by
  funext np y o t p
  simp only [zv_tch, zv_isS_E h, zv_pol_E h]
theorem aw_section_E (h : zc_E N c c') : aw_section P N c = aw_section P N c' := by
  funext x z
  simp only [aw_section, zv_oo_E h, zv_tch_E h]
theorem aw_flats_E (h : zc_E N c c') : aw_flats P N c = aw_flats P N c' := by
  funext x
  simp only [aw_flats, zw_sound_E h, zw_fl_E h]
theorem aw_flat_E (h : zc_E N c c') : aw_flat P N c = aw_flat P N c' := by
  funext x y z
  simp only [aw_flat, zw_sound_E h, zw_fl_E h, zw_pin_E h]
theorem aw_near_E (h : zc_E N c c') : aw_near P N c = aw_near P N c' := by
  funext x y z
  simp only [aw_near, zw_sound_E h, zw_oo_E h, zw_gm_E h, zw_nr_E h, zw_ix_E h, zw_pin_E h]
theorem aw_left_E (h : zc_E N c c') : aw_left P N c = aw_left P N c' := by
  funext nn ff x
  simp only [aw_left, zw_sound_E h, zw_lf_E h]
theorem aw_pick_E (h : zc_E N c c') : aw_pick P N c = aw_pick P N c' := by
  funext nn ff x
  simp only [aw_pick, zw_sound_E h, zw_oo_E h, zw_rd_E h, zw_rc_E h]
theorem aw_gather_E (h : zc_E N c c') : aw_gather P N c = aw_gather P N c' := by
  funext nn ff x
  simp only [aw_gather, zw_sound_E h, zw_gm_E h, zw_rd_E h, zw_rc_E h]
theorem zw_g0_E (h : zc_E N c c') : zw_g0 P N c = zw_g0 P N c' := by
  funext nn ff x
  simp only [zw_g0, zw_sound_E h, zw_oo_E h, zw_rd_E h, zw_rc_E h]
theorem zw_g1_E (h : zc_E N c c') : zw_g1 P N c = zw_g1 P N c' := by
  funext nn ff x
  simp only [zw_g1, zw_sound_E h, zw_gm_E h, zw_rd_E h, zw_rc_E h]
theorem aw_like_E {K M : Nat} {e e' : Nat → Nat} (h : zc_E N c c') (h2 : zc_E M e e') : aw_like P N c K M e = aw_like P N c' K M e' := by
  simp only [aw_like, zw_ns_E h, zw_kd_E h, zw_kd_E h2, zd_disc_E h, zd_disc_E h2]
theorem aw_drawn_E (h : zc_E N c c') : aw_drawn P N c = aw_drawn P N c' := by
  funext x y z
  simp only [aw_drawn, zw_dr_E h]
theorem aw_count_E (h : zc_E N c c') : aw_count P N c = aw_count P N c' := by
  funext nn x4 x3 x36 x37 x
  simp only [aw_count, aw_ct, zw_on_E h, zw_sound_E h, zw_gm_E h]
theorem zh_tab_E (h : zc_E N c c') (hh : Int64) : ∀ i, i ≤ N → zh_tab hh c N i = zh_tab hh c' N i
  | 0, _ => rfl
  | i + 1, hi => by
    show zh_f (zh_tab hh c N i) (fun t => (nI (c (6 * i + (i + t)))).toInt64) (N - i) = zh_f (zh_tab hh c' N i) (fun t => (nI (c' (6 * i + (i + t)))).toInt64) (N - i)
    rw [zh_tab_E h hh i (by omega)]
    refine zh_f_cg _ (fun t ht => ?_)
    rw [h i (i + t) (by omega) (by omega)]
theorem zh_flats_E (h : zc_E N c c') : zh_flats P N c = zh_flats P N c' := by
  funext nn ff hh
  simp only [zh_flats, zw_fl_E h, zw_pin_E h, zw_ix_E h, zw_gm_E h, zw_lf_E h]
theorem zh_form_E (h : zc_E N c c') : zh_form P N c = zh_form P N c' := by
  funext nn ff hh
  simp only [zh_form, zw_ns_E h, zh_flats_E h, aw_ab_E h, zv_val_E h, zh_tab_E h _ N (Nat.le_refl N)]
theorem aw_digest_E (h : zc_E N c c') : aw_digest P N c = aw_digest P N c' := by
  funext nn ff n cd x4 x3 x36 x37
  simp only [aw_digest, zh_form_E h, aw_count_E h]
end ZGE
