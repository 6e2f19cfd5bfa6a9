/-! the law's 32 cases (written by wip/whole/gen_law2.py) -/
def zl_N (p : Program) (l : Launch) (e : Env) (s : State) (m : MethodId) (b : Nat) (below : List Frame) (meth : Method) (c : Code) (D : va_G) (tc : Nat → ClassId) (ad ad' : Nat → Nat) (ls : Array Slot) (i : Nat) (Q : State → Prop) : Prop := ∀ (wC wM : List zm_E) (H : Heap) (locs : List Loc), zREL wC wM → zl_J D tc s b ad ad' ls i H locs wC wM → W p l e room_1 s m #[Value.ref b] below meth c H locs 55 6772 Q (F0 m 1023 ls [])
theorem zl_k0 {p : Program} {l : Launch} {e : Env} {s : State} {m : MethodId} {below : List Frame} {meth : Method} {c : Code} {b L : Nat} {xs : Nat → Int32} {D : va_G} {tc : Nat → ClassId} {ad ad' : Nat → Nat} {ls : Array Slot} {i : Nat} {H : Heap} {locs : List Loc} {wC wM : List zm_E} {Q : State → Prop} (hC : zl_C p s m meth c b L xs D tc) (hJ : zl_J D tc s b ad ad' ls i H locs wC wM) (hR : zREL wC wM) (hi : i + 4 ≤ L) (hL : L ≤ 2048) (hN : zl_N p l e s m b below meth c D tc ad ad' ls i Q) : W p l e room_1 s m #[Value.ref b] below meth c H locs 55 6772 Q (F0 m 176 ls []) := by
  obtain ⟨-, ⟨fC, hwC⟩, ⟨fM, hwM⟩⟩ := zREL_len hR
  obtain ⟨hx, hb, -⟩ := id hC.1
  obtain ⟨r, wC2, wM2, ev1, ev2, hR2⟩ := zR_letter hR (xs (i + 1))
  refine lv_aload_n hx hb zd_L_176 rfl (lv_at hJ.2.2.2.2.2 1 rfl) ?_
  refine zl_arg hC hJ (j := 1) 1 (by decide) (by decide) hi hL zd_L_177 zd_L_178 zd_L_179 zd_L_180 zd_L_181 ?_
  refine zl_callC hC hJ (as := [.int (xs (i + 1))]) (rest := []) ev1 (M := zt_X_letter) rfl zl_l13 rfl rfl rfl hwC rfl rfl (Nat.le_of_ble_eq_true rfl) zd_L_182 ⟨Nat.le_of_ble_eq_true rfl, Nat.le_of_ble_eq_true rfl⟩ (fun H locs hJ => ?_)
  refine lv_aload_n hx hb zd_L_185 rfl (lv_at hJ.2.2.2.2.2 2 rfl) ?_
  refine zl_arg hC hJ (j := 1) 1 (by decide) (by decide) hi hL zd_L_186 zd_L_187 zd_L_188 zd_L_189 zd_L_190 ?_
  refine zl_callM hC hJ (as := [.int (xs (i + 1))]) (rest := [.int r]) ev2 (M := zt_M_letter) rfl zl_l17 rfl rfl rfl hwM rfl rfl (Nat.le_of_ble_eq_true rfl) zd_L_191 ⟨Nat.le_of_ble_eq_true rfl, Nat.le_of_ble_eq_true rfl⟩ (fun H locs hJ => ?_)
  refine lv_icmp_eq (tgt := 1023) hx hb zd_L_194 (by decide) (fun _ => ?_) (fun z => absurd rfl z)
  exact hN _ _ _ _ hR2 hJ
theorem zl_k1 {p : Program} {l : Launch} {e : Env} {s : State} {m : MethodId} {below : List Frame} {meth : Method} {c : Code} {b L : Nat} {xs : Nat → Int32} {D : va_G} {tc : Nat → ClassId} {ad ad' : Nat → Nat} {ls : Array Slot} {i : Nat} {H : Heap} {locs : List Loc} {wC wM : List zm_E} {Q : State → Prop} (hC : zl_C p s m meth c b L xs D tc) (hJ : zl_J D tc s b ad ad' ls i H locs wC wM) (hR : zREL wC wM) (hi : i + 4 ≤ L) (hL : L ≤ 2048) (hN : zl_N p l e s m b below meth c D tc ad ad' ls i Q) : W p l e room_1 s m #[Value.ref b] below meth c H locs 55 6772 Q (F0 m 199 ls []) := by
  obtain ⟨-, ⟨fC, hwC⟩, ⟨fM, hwM⟩⟩ := zREL_len hR
  obtain ⟨hx, hb, -⟩ := id hC.1
  obtain ⟨r, wC2, wM2, ev1, ev2, hR2⟩ := zR_blank hR
  refine lv_aload_n hx hb zd_L_199 rfl (lv_at hJ.2.2.2.2.2 1 rfl) ?_
  refine zl_callC hC hJ (as := []) (rest := []) ev1 (M := zt_X_blank) rfl zl_l18 rfl rfl rfl hwC rfl rfl (Nat.le_of_ble_eq_true rfl) zd_L_200 ⟨Nat.le_of_ble_eq_true rfl, Nat.le_of_ble_eq_true rfl⟩ (fun H locs hJ => ?_)
  refine lv_aload_n hx hb zd_L_203 rfl (lv_at hJ.2.2.2.2.2 2 rfl) ?_
  refine zl_callM hC hJ (as := []) (rest := [.int r]) ev2 (M := zt_M_blank) rfl zl_l22 rfl rfl rfl hwM rfl rfl (Nat.le_of_ble_eq_true rfl) zd_L_204 ⟨Nat.le_of_ble_eq_true rfl, Nat.le_of_ble_eq_true rfl⟩ (fun H locs hJ => ?_)
  refine lv_icmp_eq (tgt := 1023) hx hb zd_L_207 (by decide) (fun _ => ?_) (fun z => absurd rfl z)
  exact hN _ _ _ _ hR2 hJ
theorem zl_k2 {p : Program} {l : Launch} {e : Env} {s : State} {m : MethodId} {below : List Frame} {meth : Method} {c : Code} {b L : Nat} {xs : Nat → Int32} {D : va_G} {tc : Nat → ClassId} {ad ad' : Nat → Nat} {ls : Array Slot} {i : Nat} {H : Heap} {locs : List Loc} {wC wM : List zm_E} {Q : State → Prop} (hC : zl_C p s m meth c b L xs D tc) (hJ : zl_J D tc s b ad ad' ls i H locs wC wM) (hR : zREL wC wM) (hi : i + 4 ≤ L) (hL : L ≤ 2048) (hN : zl_N p l e s m b below meth c D tc ad ad' ls i Q) : W p l e room_1 s m #[Value.ref b] below meth c H locs 55 6772 Q (F0 m 212 ls []) := by
  obtain ⟨-, ⟨fC, hwC⟩, ⟨fM, hwM⟩⟩ := zREL_len hR
  obtain ⟨hx, hb, -⟩ := id hC.1
  obtain ⟨r, wC2, wM2, ev1, ev2, hR2⟩ := zR_fault hR
  refine lv_aload_n hx hb zd_L_212 rfl (lv_at hJ.2.2.2.2.2 1 rfl) ?_
  refine zl_callC hC hJ (as := []) (rest := []) ev1 (M := zt_X_fault) rfl zl_l23 rfl rfl rfl hwC rfl rfl (Nat.le_of_ble_eq_true rfl) zd_L_213 ⟨Nat.le_of_ble_eq_true rfl, Nat.le_of_ble_eq_true rfl⟩ (fun H locs hJ => ?_)
  refine lv_aload_n hx hb zd_L_216 rfl (lv_at hJ.2.2.2.2.2 2 rfl) ?_
  refine zl_callM hC hJ (as := []) (rest := [.int r]) ev2 (M := zt_M_fault) rfl zl_l26 rfl rfl rfl hwM rfl rfl (Nat.le_of_ble_eq_true rfl) zd_L_217 ⟨Nat.le_of_ble_eq_true rfl, Nat.le_of_ble_eq_true rfl⟩ (fun H locs hJ => ?_)
  refine lv_icmp_eq (tgt := 1023) hx hb zd_L_220 (by decide) (fun _ => ?_) (fun z => absurd rfl z)
  exact hN _ _ _ _ hR2 hJ
theorem zl_k3 {p : Program} {l : Launch} {e : Env} {s : State} {m : MethodId} {below : List Frame} {meth : Method} {c : Code} {b L : Nat} {xs : Nat → Int32} {D : va_G} {tc : Nat → ClassId} {ad ad' : Nat → Nat} {ls : Array Slot} {i : Nat} {H : Heap} {locs : List Loc} {wC wM : List zm_E} {Q : State → Prop} (hC : zl_C p s m meth c b L xs D tc) (hJ : zl_J D tc s b ad ad' ls i H locs wC wM) (hR : zREL wC wM) (hi : i + 4 ≤ L) (hL : L ≤ 2048) (hN : zl_N p l e s m b below meth c D tc ad ad' ls i Q) : W p l e room_1 s m #[Value.ref b] below meth c H locs 55 6772 Q (F0 m 225 ls []) := by
  obtain ⟨-, ⟨fC, hwC⟩, ⟨fM, hwM⟩⟩ := zREL_len hR
  obtain ⟨hx, hb, -⟩ := id hC.1
  obtain ⟨r, wC2, wM2, ev1, ev2, hR2⟩ := zR_form hR
  refine lv_aload_n hx hb zd_L_225 rfl (lv_at hJ.2.2.2.2.2 1 rfl) ?_
  refine zl_callC hC hJ (as := []) (rest := []) ev1 (M := zt_X_form) rfl zl_l27 rfl rfl rfl hwC rfl rfl (Nat.le_of_ble_eq_true rfl) zd_L_226 ⟨Nat.le_of_ble_eq_true rfl, Nat.le_of_ble_eq_true rfl⟩ (fun H locs hJ => ?_)
  refine lv_aload_n hx hb zd_L_229 rfl (lv_at hJ.2.2.2.2.2 2 rfl) ?_
  refine zl_callM hC hJ (as := []) (rest := [.int r]) ev2 (M := zt_M_form) rfl zl_l30 rfl rfl rfl hwM rfl rfl (Nat.le_of_ble_eq_true rfl) zd_L_230 ⟨Nat.le_of_ble_eq_true rfl, Nat.le_of_ble_eq_true rfl⟩ (fun H locs hJ => ?_)
  refine lv_icmp_eq (tgt := 1023) hx hb zd_L_233 (by decide) (fun _ => ?_) (fun z => absurd rfl z)
  exact hN _ _ _ _ hR2 hJ
theorem zl_k4 {p : Program} {l : Launch} {e : Env} {s : State} {m : MethodId} {below : List Frame} {meth : Method} {c : Code} {b L : Nat} {xs : Nat → Int32} {D : va_G} {tc : Nat → ClassId} {ad ad' : Nat → Nat} {ls : Array Slot} {i : Nat} {H : Heap} {locs : List Loc} {wC wM : List zm_E} {Q : State → Prop} (hC : zl_C p s m meth c b L xs D tc) (hJ : zl_J D tc s b ad ad' ls i H locs wC wM) (hR : zREL wC wM) (hi : i + 4 ≤ L) (hL : L ≤ 2048) (hN : zl_N p l e s m b below meth c D tc ad ad' ls i Q) : W p l e room_1 s m #[Value.ref b] below meth c H locs 55 6772 Q (F0 m 238 ls []) := by
  obtain ⟨-, ⟨fC, hwC⟩, ⟨fM, hwM⟩⟩ := zREL_len hR
  obtain ⟨hx, hb, -⟩ := id hC.1
  obtain ⟨r, wC2, wM2, ev1, ev2, hR2⟩ := zR_about hR (xs (i + 1))
  refine lv_aload_n hx hb zd_L_238 rfl (lv_at hJ.2.2.2.2.2 1 rfl) ?_
  refine zl_arg hC hJ (j := 1) 1 (by decide) (by decide) hi hL zd_L_239 zd_L_240 zd_L_241 zd_L_242 zd_L_243 ?_
  refine zl_callC hC hJ (as := [.int (xs (i + 1))]) (rest := []) ev1 (M := zt_X_about) rfl zl_l31 rfl rfl rfl hwC rfl rfl (Nat.le_of_ble_eq_true rfl) zd_L_244 ⟨Nat.le_of_ble_eq_true rfl, Nat.le_of_ble_eq_true rfl⟩ (fun H locs hJ => ?_)
  refine lv_aload_n hx hb zd_L_247 rfl (lv_at hJ.2.2.2.2.2 2 rfl) ?_
  refine zl_arg hC hJ (j := 1) 1 (by decide) (by decide) hi hL zd_L_248 zd_L_249 zd_L_250 zd_L_251 zd_L_252 ?_
  refine zl_callM hC hJ (as := [.int (xs (i + 1))]) (rest := [.int r]) ev2 (M := zt_M_about) rfl zl_l34 rfl rfl rfl hwM rfl rfl (Nat.le_of_ble_eq_true rfl) zd_L_253 ⟨Nat.le_of_ble_eq_true rfl, Nat.le_of_ble_eq_true rfl⟩ (fun H locs hJ => ?_)
  refine lv_icmp_eq (tgt := 1023) hx hb zd_L_256 (by decide) (fun _ => ?_) (fun z => absurd rfl z)
  exact hN _ _ _ _ hR2 hJ
theorem zl_k5 {p : Program} {l : Launch} {e : Env} {s : State} {m : MethodId} {below : List Frame} {meth : Method} {c : Code} {b L : Nat} {xs : Nat → Int32} {D : va_G} {tc : Nat → ClassId} {ad ad' : Nat → Nat} {ls : Array Slot} {i : Nat} {H : Heap} {locs : List Loc} {wC wM : List zm_E} {Q : State → Prop} (hC : zl_C p s m meth c b L xs D tc) (hJ : zl_J D tc s b ad ad' ls i H locs wC wM) (hR : zREL wC wM) (hi : i + 4 ≤ L) (hL : L ≤ 2048) (hN : zl_N p l e s m b below meth c D tc ad ad' ls i Q) : W p l e room_1 s m #[Value.ref b] below meth c H locs 55 6772 Q (F0 m 261 ls []) := by
  obtain ⟨-, ⟨fC, hwC⟩, ⟨fM, hwM⟩⟩ := zREL_len hR
  obtain ⟨hx, hb, -⟩ := id hC.1
  obtain ⟨r, wC2, wM2, ev1, ev2, hR2⟩ := zR_coefficient hR (xs (i + 1)) (xs (i + 2))
  refine lv_aload_n hx hb zd_L_261 rfl (lv_at hJ.2.2.2.2.2 1 rfl) ?_
  refine zl_arg hC hJ (j := 1) 1 (by decide) (by decide) hi hL zd_L_262 zd_L_263 zd_L_264 zd_L_265 zd_L_266 ?_
  refine zl_arg hC hJ (j := 2) 2 (by decide) (by decide) hi hL zd_L_267 zd_L_268 zd_L_269 zd_L_270 zd_L_271 ?_
  refine zl_callC hC hJ (as := [.int (xs (i + 1)), .int (xs (i + 2))]) (rest := []) ev1 (M := zt_X_coefficient) rfl zl_l35 rfl rfl rfl hwC rfl rfl (Nat.le_of_ble_eq_true rfl) zd_L_272 ⟨Nat.le_of_ble_eq_true rfl, Nat.le_of_ble_eq_true rfl⟩ (fun H locs hJ => ?_)
  refine lv_aload_n hx hb zd_L_275 rfl (lv_at hJ.2.2.2.2.2 2 rfl) ?_
  refine zl_arg hC hJ (j := 1) 1 (by decide) (by decide) hi hL zd_L_276 zd_L_277 zd_L_278 zd_L_279 zd_L_280 ?_
  refine zl_arg hC hJ (j := 2) 2 (by decide) (by decide) hi hL zd_L_281 zd_L_282 zd_L_283 zd_L_284 zd_L_285 ?_
  refine zl_callM hC hJ (as := [.int (xs (i + 1)), .int (xs (i + 2))]) (rest := [.int r]) ev2 (M := zt_M_coefficient) rfl zl_l39 rfl rfl rfl hwM rfl rfl (Nat.le_of_ble_eq_true rfl) zd_L_286 ⟨Nat.le_of_ble_eq_true rfl, Nat.le_of_ble_eq_true rfl⟩ (fun H locs hJ => ?_)
  refine lv_icmp_eq (tgt := 1023) hx hb zd_L_289 (by decide) (fun _ => ?_) (fun z => absurd rfl z)
  exact hN _ _ _ _ hR2 hJ
theorem zl_k6 {p : Program} {l : Launch} {e : Env} {s : State} {m : MethodId} {below : List Frame} {meth : Method} {c : Code} {b L : Nat} {xs : Nat → Int32} {D : va_G} {tc : Nat → ClassId} {ad ad' : Nat → Nat} {ls : Array Slot} {i : Nat} {H : Heap} {locs : List Loc} {wC wM : List zm_E} {Q : State → Prop} (hC : zl_C p s m meth c b L xs D tc) (hJ : zl_J D tc s b ad ad' ls i H locs wC wM) (hR : zREL wC wM) (hi : i + 4 ≤ L) (hL : L ≤ 2048) (hN : zl_N p l e s m b below meth c D tc ad ad' ls i Q) : W p l e room_1 s m #[Value.ref b] below meth c H locs 55 6772 Q (F0 m 294 ls []) := by
  obtain ⟨-, ⟨fC, hwC⟩, ⟨fM, hwM⟩⟩ := zREL_len hR
  obtain ⟨hx, hb, -⟩ := id hC.1
  obtain ⟨r, wC2, wM2, ev1, ev2, hR2⟩ := zR_point hR (xs (i + 1)) (xs (i + 2))
  refine lv_aload_n hx hb zd_L_294 rfl (lv_at hJ.2.2.2.2.2 1 rfl) ?_
  refine zl_arg hC hJ (j := 1) 1 (by decide) (by decide) hi hL zd_L_295 zd_L_296 zd_L_297 zd_L_298 zd_L_299 ?_
  refine zl_arg hC hJ (j := 2) 2 (by decide) (by decide) hi hL zd_L_300 zd_L_301 zd_L_302 zd_L_303 zd_L_304 ?_
  refine zl_callC hC hJ (as := [.int (xs (i + 1)), .int (xs (i + 2))]) (rest := []) ev1 (M := zt_X_point) rfl zl_l40 rfl rfl rfl hwC rfl rfl (Nat.le_of_ble_eq_true rfl) zd_L_305 ⟨Nat.le_of_ble_eq_true rfl, Nat.le_of_ble_eq_true rfl⟩ (fun H locs hJ => ?_)
  refine lv_aload_n hx hb zd_L_308 rfl (lv_at hJ.2.2.2.2.2 2 rfl) ?_
  refine zl_arg hC hJ (j := 1) 1 (by decide) (by decide) hi hL zd_L_309 zd_L_310 zd_L_311 zd_L_312 zd_L_313 ?_
  refine zl_arg hC hJ (j := 2) 2 (by decide) (by decide) hi hL zd_L_314 zd_L_315 zd_L_316 zd_L_317 zd_L_318 ?_
  refine zl_callM hC hJ (as := [.int (xs (i + 1)), .int (xs (i + 2))]) (rest := [.int r]) ev2 (M := zt_M_point) rfl zl_l43 rfl rfl rfl hwM rfl rfl (Nat.le_of_ble_eq_true rfl) zd_L_319 ⟨Nat.le_of_ble_eq_true rfl, Nat.le_of_ble_eq_true rfl⟩ (fun H locs hJ => ?_)
  refine lv_icmp_eq (tgt := 1023) hx hb zd_L_322 (by decide) (fun _ => ?_) (fun z => absurd rfl z)
  exact hN _ _ _ _ hR2 hJ
theorem zl_k7 {p : Program} {l : Launch} {e : Env} {s : State} {m : MethodId} {below : List Frame} {meth : Method} {c : Code} {b L : Nat} {xs : Nat → Int32} {D : va_G} {tc : Nat → ClassId} {ad ad' : Nat → Nat} {ls : Array Slot} {i : Nat} {H : Heap} {locs : List Loc} {wC wM : List zm_E} {Q : State → Prop} (hC : zl_C p s m meth c b L xs D tc) (hJ : zl_J D tc s b ad ad' ls i H locs wC wM) (hR : zREL wC wM) (hi : i + 4 ≤ L) (hL : L ≤ 2048) (hN : zl_N p l e s m b below meth c D tc ad ad' ls i Q) : W p l e room_1 s m #[Value.ref b] below meth c H locs 55 6772 Q (F0 m 327 ls []) := by
  obtain ⟨-, ⟨fC, hwC⟩, ⟨fM, hwM⟩⟩ := zREL_len hR
  obtain ⟨hx, hb, -⟩ := id hC.1
  obtain ⟨r, wC2, wM2, ev1, ev2, hR2⟩ := zR_value hR (xs (i + 1))
  refine lv_aload_n hx hb zd_L_327 rfl (lv_at hJ.2.2.2.2.2 1 rfl) ?_
  refine zl_arg hC hJ (j := 1) 1 (by decide) (by decide) hi hL zd_L_328 zd_L_329 zd_L_330 zd_L_331 zd_L_332 ?_
  refine zl_callC hC hJ (as := [.int (xs (i + 1))]) (rest := []) ev1 (M := zt_X_value) rfl zl_l44 rfl rfl rfl hwC rfl rfl (Nat.le_of_ble_eq_true rfl) zd_L_333 ⟨Nat.le_of_ble_eq_true rfl, Nat.le_of_ble_eq_true rfl⟩ (fun H locs hJ => ?_)
  refine lv_aload_n hx hb zd_L_336 rfl (lv_at hJ.2.2.2.2.2 2 rfl) ?_
  refine zl_arg hC hJ (j := 1) 1 (by decide) (by decide) hi hL zd_L_337 zd_L_338 zd_L_339 zd_L_340 zd_L_341 ?_
  refine zl_callM hC hJ (as := [.int (xs (i + 1))]) (rest := [.int r]) ev2 (M := zt_M_value) rfl zl_l47 rfl rfl rfl hwM rfl rfl (Nat.le_of_ble_eq_true rfl) zd_L_342 ⟨Nat.le_of_ble_eq_true rfl, Nat.le_of_ble_eq_true rfl⟩ (fun H locs hJ => ?_)
  refine lv_icmp_eq (tgt := 1023) hx hb zd_L_345 (by decide) (fun _ => ?_) (fun z => absurd rfl z)
  exact hN _ _ _ _ hR2 hJ
theorem zl_k8 {p : Program} {l : Launch} {e : Env} {s : State} {m : MethodId} {below : List Frame} {meth : Method} {c : Code} {b L : Nat} {xs : Nat → Int32} {D : va_G} {tc : Nat → ClassId} {ad ad' : Nat → Nat} {ls : Array Slot} {i : Nat} {H : Heap} {locs : List Loc} {wC wM : List zm_E} {Q : State → Prop} (hC : zl_C p s m meth c b L xs D tc) (hJ : zl_J D tc s b ad ad' ls i H locs wC wM) (hR : zREL wC wM) (hi : i + 4 ≤ L) (hL : L ≤ 2048) (hN : zl_N p l e s m b below meth c D tc ad ad' ls i Q) : W p l e room_1 s m #[Value.ref b] below meth c H locs 55 6772 Q (F0 m 350 ls []) := by
  obtain ⟨-, ⟨fC, hwC⟩, ⟨fM, hwM⟩⟩ := zREL_len hR
  obtain ⟨hx, hb, -⟩ := id hC.1
  obtain ⟨r, wC2, wM2, ev1, ev2, hR2⟩ := zR_polar hR (xs (i + 1)) (xs (i + 2))
  refine lv_aload_n hx hb zd_L_350 rfl (lv_at hJ.2.2.2.2.2 1 rfl) ?_
  refine zl_arg hC hJ (j := 1) 1 (by decide) (by decide) hi hL zd_L_351 zd_L_352 zd_L_353 zd_L_354 zd_L_355 ?_
  refine zl_arg hC hJ (j := 2) 2 (by decide) (by decide) hi hL zd_L_356 zd_L_357 zd_L_358 zd_L_359 zd_L_360 ?_
  refine zl_callC hC hJ (as := [.int (xs (i + 1)), .int (xs (i + 2))]) (rest := []) ev1 (M := zt_X_polar) rfl zl_l48 rfl rfl rfl hwC rfl rfl (Nat.le_of_ble_eq_true rfl) zd_L_361 ⟨Nat.le_of_ble_eq_true rfl, Nat.le_of_ble_eq_true rfl⟩ (fun H locs hJ => ?_)
  refine lv_aload_n hx hb zd_L_364 rfl (lv_at hJ.2.2.2.2.2 2 rfl) ?_
  refine zl_arg hC hJ (j := 1) 1 (by decide) (by decide) hi hL zd_L_365 zd_L_366 zd_L_367 zd_L_368 zd_L_369 ?_
  refine zl_arg hC hJ (j := 2) 2 (by decide) (by decide) hi hL zd_L_370 zd_L_371 zd_L_372 zd_L_373 zd_L_374 ?_
  refine zl_callM hC hJ (as := [.int (xs (i + 1)), .int (xs (i + 2))]) (rest := [.int r]) ev2 (M := zt_M_polar) rfl zl_l51 rfl rfl rfl hwM rfl rfl (Nat.le_of_ble_eq_true rfl) zd_L_375 ⟨Nat.le_of_ble_eq_true rfl, Nat.le_of_ble_eq_true rfl⟩ (fun H locs hJ => ?_)
  refine lv_icmp_eq (tgt := 1023) hx hb zd_L_378 (by decide) (fun _ => ?_) (fun z => absurd rfl z)
  exact hN _ _ _ _ hR2 hJ
theorem zl_k9 {p : Program} {l : Launch} {e : Env} {s : State} {m : MethodId} {below : List Frame} {meth : Method} {c : Code} {b L : Nat} {xs : Nat → Int32} {D : va_G} {tc : Nat → ClassId} {ad ad' : Nat → Nat} {ls : Array Slot} {i : Nat} {H : Heap} {locs : List Loc} {wC wM : List zm_E} {Q : State → Prop} (hC : zl_C p s m meth c b L xs D tc) (hJ : zl_J D tc s b ad ad' ls i H locs wC wM) (hR : zREL wC wM) (hi : i + 4 ≤ L) (hL : L ≤ 2048) (hN : zl_N p l e s m b below meth c D tc ad ad' ls i Q) : W p l e room_1 s m #[Value.ref b] below meth c H locs 55 6772 Q (F0 m 383 ls []) := by
  obtain ⟨-, ⟨fC, hwC⟩, ⟨fM, hwM⟩⟩ := zREL_len hR
  obtain ⟨hx, hb, -⟩ := id hC.1
  obtain ⟨r, wC2, wM2, ev1, ev2, hR2⟩ := zR_joined hR (xs (i + 1)) (xs (i + 2))
  refine lv_aload_n hx hb zd_L_383 rfl (lv_at hJ.2.2.2.2.2 1 rfl) ?_
  refine zl_arg hC hJ (j := 1) 1 (by decide) (by decide) hi hL zd_L_384 zd_L_385 zd_L_386 zd_L_387 zd_L_388 ?_
  refine zl_arg hC hJ (j := 2) 2 (by decide) (by decide) hi hL zd_L_389 zd_L_390 zd_L_391 zd_L_392 zd_L_393 ?_
  refine zl_callC hC hJ (as := [.int (xs (i + 1)), .int (xs (i + 2))]) (rest := []) ev1 (M := zt_X_joined) rfl zl_l52 rfl rfl rfl hwC rfl rfl (Nat.le_of_ble_eq_true rfl) zd_L_394 ⟨Nat.le_of_ble_eq_true rfl, Nat.le_of_ble_eq_true rfl⟩ (fun H locs hJ => ?_)
  refine lv_aload_n hx hb zd_L_397 rfl (lv_at hJ.2.2.2.2.2 2 rfl) ?_
  refine zl_arg hC hJ (j := 1) 1 (by decide) (by decide) hi hL zd_L_398 zd_L_399 zd_L_400 zd_L_401 zd_L_402 ?_
  refine zl_arg hC hJ (j := 2) 2 (by decide) (by decide) hi hL zd_L_403 zd_L_404 zd_L_405 zd_L_406 zd_L_407 ?_
  refine zl_callM hC hJ (as := [.int (xs (i + 1)), .int (xs (i + 2))]) (rest := [.int r]) ev2 (M := zt_M_joined) rfl zl_l55 rfl rfl rfl hwM rfl rfl (Nat.le_of_ble_eq_true rfl) zd_L_408 ⟨Nat.le_of_ble_eq_true rfl, Nat.le_of_ble_eq_true rfl⟩ (fun H locs hJ => ?_)
  refine lv_icmp_eq (tgt := 1023) hx hb zd_L_411 (by decide) (fun _ => ?_) (fun z => absurd rfl z)
  exact hN _ _ _ _ hR2 hJ
theorem zl_k10 {p : Program} {l : Launch} {e : Env} {s : State} {m : MethodId} {below : List Frame} {meth : Method} {c : Code} {b L : Nat} {xs : Nat → Int32} {D : va_G} {tc : Nat → ClassId} {ad ad' : Nat → Nat} {ls : Array Slot} {i : Nat} {H : Heap} {locs : List Loc} {wC wM : List zm_E} {Q : State → Prop} (hC : zl_C p s m meth c b L xs D tc) (hJ : zl_J D tc s b ad ad' ls i H locs wC wM) (hR : zREL wC wM) (hi : i + 4 ≤ L) (hL : L ≤ 2048) (hN : zl_N p l e s m b below meth c D tc ad ad' ls i Q) : W p l e room_1 s m #[Value.ref b] below meth c H locs 55 6772 Q (F0 m 416 ls []) := by
  obtain ⟨-, ⟨fC, hwC⟩, ⟨fM, hwM⟩⟩ := zREL_len hR
  obtain ⟨hx, hb, -⟩ := id hC.1
  obtain ⟨r, wC2, wM2, ev1, ev2, hR2⟩ := zR_section hR (xs (i + 1)) (xs (i + 2))
  refine lv_aload_n hx hb zd_L_416 rfl (lv_at hJ.2.2.2.2.2 1 rfl) ?_
  refine zl_arg hC hJ (j := 1) 1 (by decide) (by decide) hi hL zd_L_417 zd_L_418 zd_L_419 zd_L_420 zd_L_421 ?_
  refine zl_arg hC hJ (j := 2) 2 (by decide) (by decide) hi hL zd_L_422 zd_L_423 zd_L_424 zd_L_425 zd_L_426 ?_
  refine zl_callC hC hJ (as := [.int (xs (i + 1)), .int (xs (i + 2))]) (rest := []) ev1 (M := zt_X_section) rfl zl_l56 rfl rfl rfl hwC rfl rfl (Nat.le_of_ble_eq_true rfl) zd_L_427 ⟨Nat.le_of_ble_eq_true rfl, Nat.le_of_ble_eq_true rfl⟩ (fun H locs hJ => ?_)
  refine lv_aload_n hx hb zd_L_430 rfl (lv_at hJ.2.2.2.2.2 2 rfl) ?_
  refine zl_arg hC hJ (j := 1) 1 (by decide) (by decide) hi hL zd_L_431 zd_L_432 zd_L_433 zd_L_434 zd_L_435 ?_
  refine zl_arg hC hJ (j := 2) 2 (by decide) (by decide) hi hL zd_L_436 zd_L_437 zd_L_438 zd_L_439 zd_L_440 ?_
  refine zl_callM hC hJ (as := [.int (xs (i + 1)), .int (xs (i + 2))]) (rest := [.int r]) ev2 (M := zt_M_section) rfl zl_l59 rfl rfl rfl hwM rfl rfl (Nat.le_of_ble_eq_true rfl) zd_L_441 ⟨Nat.le_of_ble_eq_true rfl, Nat.le_of_ble_eq_true rfl⟩ (fun H locs hJ => ?_)
  refine lv_icmp_eq (tgt := 1023) hx hb zd_L_444 (by decide) (fun _ => ?_) (fun z => absurd rfl z)
  exact hN _ _ _ _ hR2 hJ
theorem zl_k11 {p : Program} {l : Launch} {e : Env} {s : State} {m : MethodId} {below : List Frame} {meth : Method} {c : Code} {b L : Nat} {xs : Nat → Int32} {D : va_G} {tc : Nat → ClassId} {ad ad' : Nat → Nat} {ls : Array Slot} {i : Nat} {H : Heap} {locs : List Loc} {wC wM : List zm_E} {Q : State → Prop} (hC : zl_C p s m meth c b L xs D tc) (hJ : zl_J D tc s b ad ad' ls i H locs wC wM) (hR : zREL wC wM) (hi : i + 4 ≤ L) (hL : L ≤ 2048) (hN : zl_N p l e s m b below meth c D tc ad ad' ls i Q) : W p l e room_1 s m #[Value.ref b] below meth c H locs 55 6772 Q (F0 m 449 ls []) := by
  obtain ⟨-, ⟨fC, hwC⟩, ⟨fM, hwM⟩⟩ := zREL_len hR
  obtain ⟨hx, hb, -⟩ := id hC.1
  obtain ⟨r, wC2, wM2, ev1, ev2, hR2⟩ := zR_flats hR (xs (i + 1))
  refine lv_aload_n hx hb zd_L_449 rfl (lv_at hJ.2.2.2.2.2 1 rfl) ?_
  refine zl_arg hC hJ (j := 1) 1 (by decide) (by decide) hi hL zd_L_450 zd_L_451 zd_L_452 zd_L_453 zd_L_454 ?_
  refine zl_callC hC hJ (as := [.int (xs (i + 1))]) (rest := []) ev1 (M := zt_X_flats) rfl zl_l60 rfl rfl rfl hwC rfl rfl (Nat.le_of_ble_eq_true rfl) zd_L_455 ⟨Nat.le_of_ble_eq_true rfl, Nat.le_of_ble_eq_true rfl⟩ (fun H locs hJ => ?_)
  refine lv_aload_n hx hb zd_L_458 rfl (lv_at hJ.2.2.2.2.2 2 rfl) ?_
  refine zl_arg hC hJ (j := 1) 1 (by decide) (by decide) hi hL zd_L_459 zd_L_460 zd_L_461 zd_L_462 zd_L_463 ?_
  refine zl_callM hC hJ (as := [.int (xs (i + 1))]) (rest := [.int r]) ev2 (M := zt_M_flats) rfl zl_l63 rfl rfl rfl hwM rfl rfl (Nat.le_of_ble_eq_true rfl) zd_L_464 ⟨Nat.le_of_ble_eq_true rfl, Nat.le_of_ble_eq_true rfl⟩ (fun H locs hJ => ?_)
  refine lv_icmp_eq (tgt := 1023) hx hb zd_L_467 (by decide) (fun _ => ?_) (fun z => absurd rfl z)
  exact hN _ _ _ _ hR2 hJ
theorem zl_k12 {p : Program} {l : Launch} {e : Env} {s : State} {m : MethodId} {below : List Frame} {meth : Method} {c : Code} {b L : Nat} {xs : Nat → Int32} {D : va_G} {tc : Nat → ClassId} {ad ad' : Nat → Nat} {ls : Array Slot} {i : Nat} {H : Heap} {locs : List Loc} {wC wM : List zm_E} {Q : State → Prop} (hC : zl_C p s m meth c b L xs D tc) (hJ : zl_J D tc s b ad ad' ls i H locs wC wM) (hR : zREL wC wM) (hi : i + 4 ≤ L) (hL : L ≤ 2048) (hN : zl_N p l e s m b below meth c D tc ad ad' ls i Q) : W p l e room_1 s m #[Value.ref b] below meth c H locs 55 6772 Q (F0 m 472 ls []) := by
  obtain ⟨-, ⟨fC, hwC⟩, ⟨fM, hwM⟩⟩ := zREL_len hR
  obtain ⟨hx, hb, -⟩ := id hC.1
  obtain ⟨r, wC2, wM2, ev1, ev2, hR2⟩ := zR_flat hR (xs (i + 1)) (xs (i + 2)) (xs (i + 3))
  refine lv_aload_n hx hb zd_L_472 rfl (lv_at hJ.2.2.2.2.2 1 rfl) ?_
  refine zl_arg hC hJ (j := 1) 1 (by decide) (by decide) hi hL zd_L_473 zd_L_474 zd_L_475 zd_L_476 zd_L_477 ?_
  refine zl_arg hC hJ (j := 2) 2 (by decide) (by decide) hi hL zd_L_478 zd_L_479 zd_L_480 zd_L_481 zd_L_482 ?_
  refine zl_arg hC hJ (j := 3) 3 (by decide) (by decide) hi hL zd_L_483 zd_L_484 zd_L_485 zd_L_486 zd_L_487 ?_
  refine zl_callC hC hJ (as := [.int (xs (i + 1)), .int (xs (i + 2)), .int (xs (i + 3))]) (rest := []) ev1 (M := zt_X_flat) rfl zl_l64 rfl rfl rfl hwC rfl rfl (Nat.le_of_ble_eq_true rfl) zd_L_488 ⟨Nat.le_of_ble_eq_true rfl, Nat.le_of_ble_eq_true rfl⟩ (fun H locs hJ => ?_)
  refine lv_aload_n hx hb zd_L_491 rfl (lv_at hJ.2.2.2.2.2 2 rfl) ?_
  refine zl_arg hC hJ (j := 1) 1 (by decide) (by decide) hi hL zd_L_492 zd_L_493 zd_L_494 zd_L_495 zd_L_496 ?_
  refine zl_arg hC hJ (j := 2) 2 (by decide) (by decide) hi hL zd_L_497 zd_L_498 zd_L_499 zd_L_500 zd_L_501 ?_
  refine zl_arg hC hJ (j := 3) 3 (by decide) (by decide) hi hL zd_L_502 zd_L_503 zd_L_504 zd_L_505 zd_L_506 ?_
  refine zl_callM hC hJ (as := [.int (xs (i + 1)), .int (xs (i + 2)), .int (xs (i + 3))]) (rest := [.int r]) ev2 (M := zt_M_flat) rfl zl_l68 rfl rfl rfl hwM rfl rfl (Nat.le_of_ble_eq_true rfl) zd_L_507 ⟨Nat.le_of_ble_eq_true rfl, Nat.le_of_ble_eq_true rfl⟩ (fun H locs hJ => ?_)
  refine lv_icmp_eq (tgt := 1023) hx hb zd_L_510 (by decide) (fun _ => ?_) (fun z => absurd rfl z)
  exact hN _ _ _ _ hR2 hJ
theorem zl_k13 {p : Program} {l : Launch} {e : Env} {s : State} {m : MethodId} {below : List Frame} {meth : Method} {c : Code} {b L : Nat} {xs : Nat → Int32} {D : va_G} {tc : Nat → ClassId} {ad ad' : Nat → Nat} {ls : Array Slot} {i : Nat} {H : Heap} {locs : List Loc} {wC wM : List zm_E} {Q : State → Prop} (hC : zl_C p s m meth c b L xs D tc) (hJ : zl_J D tc s b ad ad' ls i H locs wC wM) (hR : zREL wC wM) (hi : i + 4 ≤ L) (hL : L ≤ 2048) (hN : zl_N p l e s m b below meth c D tc ad ad' ls i Q) : W p l e room_1 s m #[Value.ref b] below meth c H locs 55 6772 Q (F0 m 515 ls []) := by
  obtain ⟨-, ⟨fC, hwC⟩, ⟨fM, hwM⟩⟩ := zREL_len hR
  obtain ⟨hx, hb, -⟩ := id hC.1
  obtain ⟨r, wC2, wM2, ev1, ev2, hR2⟩ := zR_near hR (xs (i + 1)) (xs (i + 2)) (xs (i + 3))
  refine lv_aload_n hx hb zd_L_515 rfl (lv_at hJ.2.2.2.2.2 1 rfl) ?_
  refine zl_arg hC hJ (j := 1) 1 (by decide) (by decide) hi hL zd_L_516 zd_L_517 zd_L_518 zd_L_519 zd_L_520 ?_
  refine zl_arg hC hJ (j := 2) 2 (by decide) (by decide) hi hL zd_L_521 zd_L_522 zd_L_523 zd_L_524 zd_L_525 ?_
  refine zl_arg hC hJ (j := 3) 3 (by decide) (by decide) hi hL zd_L_526 zd_L_527 zd_L_528 zd_L_529 zd_L_530 ?_
  refine zl_callC hC hJ (as := [.int (xs (i + 1)), .int (xs (i + 2)), .int (xs (i + 3))]) (rest := []) ev1 (M := zt_X_near) rfl zl_l69 rfl rfl rfl hwC rfl rfl (Nat.le_of_ble_eq_true rfl) zd_L_531 ⟨Nat.le_of_ble_eq_true rfl, Nat.le_of_ble_eq_true rfl⟩ (fun H locs hJ => ?_)
  refine lv_aload_n hx hb zd_L_534 rfl (lv_at hJ.2.2.2.2.2 2 rfl) ?_
  refine zl_arg hC hJ (j := 1) 1 (by decide) (by decide) hi hL zd_L_535 zd_L_536 zd_L_537 zd_L_538 zd_L_539 ?_
  refine zl_arg hC hJ (j := 2) 2 (by decide) (by decide) hi hL zd_L_540 zd_L_541 zd_L_542 zd_L_543 zd_L_544 ?_
  refine zl_arg hC hJ (j := 3) 3 (by decide) (by decide) hi hL zd_L_545 zd_L_546 zd_L_547 zd_L_548 zd_L_549 ?_
  refine zl_callM hC hJ (as := [.int (xs (i + 1)), .int (xs (i + 2)), .int (xs (i + 3))]) (rest := [.int r]) ev2 (M := zt_M_near) rfl zl_l72 rfl rfl rfl hwM rfl rfl (Nat.le_of_ble_eq_true rfl) zd_L_550 ⟨Nat.le_of_ble_eq_true rfl, Nat.le_of_ble_eq_true rfl⟩ (fun H locs hJ => ?_)
  refine lv_icmp_eq (tgt := 1023) hx hb zd_L_553 (by decide) (fun _ => ?_) (fun z => absurd rfl z)
  exact hN _ _ _ _ hR2 hJ
theorem zl_k14 {p : Program} {l : Launch} {e : Env} {s : State} {m : MethodId} {below : List Frame} {meth : Method} {c : Code} {b L : Nat} {xs : Nat → Int32} {D : va_G} {tc : Nat → ClassId} {ad ad' : Nat → Nat} {ls : Array Slot} {i : Nat} {H : Heap} {locs : List Loc} {wC wM : List zm_E} {Q : State → Prop} (hC : zl_C p s m meth c b L xs D tc) (hJ : zl_J D tc s b ad ad' ls i H locs wC wM) (hR : zREL wC wM) (hi : i + 4 ≤ L) (hL : L ≤ 2048) (hN : zl_N p l e s m b below meth c D tc ad ad' ls i Q) : W p l e room_1 s m #[Value.ref b] below meth c H locs 55 6772 Q (F0 m 558 ls []) := by
  obtain ⟨-, ⟨fC, hwC⟩, ⟨fM, hwM⟩⟩ := zREL_len hR
  obtain ⟨hx, hb, -⟩ := id hC.1
  obtain ⟨r, wC2, wM2, ev1, ev2, hR2⟩ := zR_pick hR (xs (i + 1))
  refine lv_aload_n hx hb zd_L_558 rfl (lv_at hJ.2.2.2.2.2 1 rfl) ?_
  refine zl_arg hC hJ (j := 1) 1 (by decide) (by decide) hi hL zd_L_559 zd_L_560 zd_L_561 zd_L_562 zd_L_563 ?_
  refine zl_callC hC hJ (as := [.int (xs (i + 1))]) (rest := []) ev1 (M := zt_X_pick) rfl zl_l73 rfl rfl rfl hwC rfl rfl (Nat.le_of_ble_eq_true rfl) zd_L_564 ⟨Nat.le_of_ble_eq_true rfl, Nat.le_of_ble_eq_true rfl⟩ (fun H locs hJ => ?_)
  refine lv_aload_n hx hb zd_L_567 rfl (lv_at hJ.2.2.2.2.2 2 rfl) ?_
  refine zl_arg hC hJ (j := 1) 1 (by decide) (by decide) hi hL zd_L_568 zd_L_569 zd_L_570 zd_L_571 zd_L_572 ?_
  refine zl_callM hC hJ (as := [.int (xs (i + 1))]) (rest := [.int r]) ev2 (M := zt_M_pick) rfl zl_l76 rfl rfl rfl hwM rfl rfl (Nat.le_of_ble_eq_true rfl) zd_L_573 ⟨Nat.le_of_ble_eq_true rfl, Nat.le_of_ble_eq_true rfl⟩ (fun H locs hJ => ?_)
  refine lv_icmp_eq (tgt := 1023) hx hb zd_L_576 (by decide) (fun _ => ?_) (fun z => absurd rfl z)
  exact hN _ _ _ _ hR2 hJ
theorem zl_k15 {p : Program} {l : Launch} {e : Env} {s : State} {m : MethodId} {below : List Frame} {meth : Method} {c : Code} {b L : Nat} {xs : Nat → Int32} {D : va_G} {tc : Nat → ClassId} {ad ad' : Nat → Nat} {ls : Array Slot} {i : Nat} {H : Heap} {locs : List Loc} {wC wM : List zm_E} {Q : State → Prop} (hC : zl_C p s m meth c b L xs D tc) (hJ : zl_J D tc s b ad ad' ls i H locs wC wM) (hR : zREL wC wM) (hi : i + 4 ≤ L) (hL : L ≤ 2048) (hN : zl_N p l e s m b below meth c D tc ad ad' ls i Q) : W p l e room_1 s m #[Value.ref b] below meth c H locs 55 6772 Q (F0 m 581 ls []) := by
  obtain ⟨-, ⟨fC, hwC⟩, ⟨fM, hwM⟩⟩ := zREL_len hR
  obtain ⟨hx, hb, -⟩ := id hC.1
  obtain ⟨r, wC2, wM2, ev1, ev2, hR2⟩ := zR_gather hR (xs (i + 1))
  refine lv_aload_n hx hb zd_L_581 rfl (lv_at hJ.2.2.2.2.2 1 rfl) ?_
  refine zl_arg hC hJ (j := 1) 1 (by decide) (by decide) hi hL zd_L_582 zd_L_583 zd_L_584 zd_L_585 zd_L_586 ?_
  refine zl_callC hC hJ (as := [.int (xs (i + 1))]) (rest := []) ev1 (M := zt_X_gather) rfl zl_l77 rfl rfl rfl hwC rfl rfl (Nat.le_of_ble_eq_true rfl) zd_L_587 ⟨Nat.le_of_ble_eq_true rfl, Nat.le_of_ble_eq_true rfl⟩ (fun H locs hJ => ?_)
  refine lv_aload_n hx hb zd_L_590 rfl (lv_at hJ.2.2.2.2.2 2 rfl) ?_
  refine zl_arg hC hJ (j := 1) 1 (by decide) (by decide) hi hL zd_L_591 zd_L_592 zd_L_593 zd_L_594 zd_L_595 ?_
  refine zl_callM hC hJ (as := [.int (xs (i + 1))]) (rest := [.int r]) ev2 (M := zt_M_gather) rfl zl_l80 rfl rfl rfl hwM rfl rfl (Nat.le_of_ble_eq_true rfl) zd_L_596 ⟨Nat.le_of_ble_eq_true rfl, Nat.le_of_ble_eq_true rfl⟩ (fun H locs hJ => ?_)
  refine lv_icmp_eq (tgt := 1023) hx hb zd_L_599 (by decide) (fun _ => ?_) (fun z => absurd rfl z)
  exact hN _ _ _ _ hR2 hJ
theorem zl_k16 {p : Program} {l : Launch} {e : Env} {s : State} {m : MethodId} {below : List Frame} {meth : Method} {c : Code} {b L : Nat} {xs : Nat → Int32} {D : va_G} {tc : Nat → ClassId} {ad ad' : Nat → Nat} {ls : Array Slot} {i : Nat} {H : Heap} {locs : List Loc} {wC wM : List zm_E} {Q : State → Prop} (hC : zl_C p s m meth c b L xs D tc) (hJ : zl_J D tc s b ad ad' ls i H locs wC wM) (hR : zREL wC wM) (hi : i + 4 ≤ L) (hL : L ≤ 2048) (hN : zl_N p l e s m b below meth c D tc ad ad' ls i Q) : W p l e room_1 s m #[Value.ref b] below meth c H locs 55 6772 Q (F0 m 604 ls []) := by
  obtain ⟨-, ⟨fC, hwC⟩, ⟨fM, hwM⟩⟩ := zREL_len hR
  obtain ⟨hx, hb, -⟩ := id hC.1
  obtain ⟨r, wC2, wM2, ev1, ev2, hR2⟩ := zR_drop hR (xs (i + 1))
  refine lv_aload_n hx hb zd_L_604 rfl (lv_at hJ.2.2.2.2.2 1 rfl) ?_
  refine zl_arg hC hJ (j := 1) 1 (by decide) (by decide) hi hL zd_L_605 zd_L_606 zd_L_607 zd_L_608 zd_L_609 ?_
  refine zl_callC hC hJ (as := [.int (xs (i + 1))]) (rest := []) ev1 (M := zt_X_drop) rfl zl_l81 rfl rfl rfl hwC rfl rfl (Nat.le_of_ble_eq_true rfl) zd_L_610 ⟨Nat.le_of_ble_eq_true rfl, Nat.le_of_ble_eq_true rfl⟩ (fun H locs hJ => ?_)
  refine lv_aload_n hx hb zd_L_613 rfl (lv_at hJ.2.2.2.2.2 2 rfl) ?_
  refine zl_arg hC hJ (j := 1) 1 (by decide) (by decide) hi hL zd_L_614 zd_L_615 zd_L_616 zd_L_617 zd_L_618 ?_
  refine zl_callM hC hJ (as := [.int (xs (i + 1))]) (rest := [.int r]) ev2 (M := zt_M_drop) rfl zl_l84 rfl rfl rfl hwM rfl rfl (Nat.le_of_ble_eq_true rfl) zd_L_619 ⟨Nat.le_of_ble_eq_true rfl, Nat.le_of_ble_eq_true rfl⟩ (fun H locs hJ => ?_)
  refine lv_icmp_eq (tgt := 1023) hx hb zd_L_622 (by decide) (fun _ => ?_) (fun z => absurd rfl z)
  exact hN _ _ _ _ hR2 hJ
theorem zl_k17 {p : Program} {l : Launch} {e : Env} {s : State} {m : MethodId} {below : List Frame} {meth : Method} {c : Code} {b L : Nat} {xs : Nat → Int32} {D : va_G} {tc : Nat → ClassId} {ad ad' : Nat → Nat} {ls : Array Slot} {i : Nat} {H : Heap} {locs : List Loc} {wC wM : List zm_E} {Q : State → Prop} (hC : zl_C p s m meth c b L xs D tc) (hJ : zl_J D tc s b ad ad' ls i H locs wC wM) (hR : zREL wC wM) (hi : i + 4 ≤ L) (hL : L ≤ 2048) (hN : zl_N p l e s m b below meth c D tc ad ad' ls i Q) : W p l e room_1 s m #[Value.ref b] below meth c H locs 55 6772 Q (F0 m 627 ls []) := by
  obtain ⟨-, ⟨fC, hwC⟩, ⟨fM, hwM⟩⟩ := zREL_len hR
  obtain ⟨hx, hb, -⟩ := id hC.1
  obtain ⟨r, wC2, wM2, ev1, ev2, hR2⟩ := zR_chosen hR (xs (i + 1)) (xs (i + 2))
  refine lv_aload_n hx hb zd_L_627 rfl (lv_at hJ.2.2.2.2.2 1 rfl) ?_
  refine zl_arg hC hJ (j := 1) 1 (by decide) (by decide) hi hL zd_L_628 zd_L_629 zd_L_630 zd_L_631 zd_L_632 ?_
  refine zl_arg hC hJ (j := 2) 2 (by decide) (by decide) hi hL zd_L_633 zd_L_634 zd_L_635 zd_L_636 zd_L_637 ?_
  refine zl_callC hC hJ (as := [.int (xs (i + 1)), .int (xs (i + 2))]) (rest := []) ev1 (M := zt_X_chosen) rfl zl_l85 rfl rfl rfl hwC rfl rfl (Nat.le_of_ble_eq_true rfl) zd_L_638 ⟨Nat.le_of_ble_eq_true rfl, Nat.le_of_ble_eq_true rfl⟩ (fun H locs hJ => ?_)
  refine lv_aload_n hx hb zd_L_641 rfl (lv_at hJ.2.2.2.2.2 2 rfl) ?_
  refine zl_arg hC hJ (j := 1) 1 (by decide) (by decide) hi hL zd_L_642 zd_L_643 zd_L_644 zd_L_645 zd_L_646 ?_
  refine zl_arg hC hJ (j := 2) 2 (by decide) (by decide) hi hL zd_L_647 zd_L_648 zd_L_649 zd_L_650 zd_L_651 ?_
  refine zl_callM hC hJ (as := [.int (xs (i + 1)), .int (xs (i + 2))]) (rest := [.int r]) ev2 (M := zt_M_chosen) rfl zl_l88 rfl rfl rfl hwM rfl rfl (Nat.le_of_ble_eq_true rfl) zd_L_652 ⟨Nat.le_of_ble_eq_true rfl, Nat.le_of_ble_eq_true rfl⟩ (fun H locs hJ => ?_)
  refine lv_icmp_eq (tgt := 1023) hx hb zd_L_655 (by decide) (fun _ => ?_) (fun z => absurd rfl z)
  exact hN _ _ _ _ hR2 hJ
theorem zl_k18 {p : Program} {l : Launch} {e : Env} {s : State} {m : MethodId} {below : List Frame} {meth : Method} {c : Code} {b L : Nat} {xs : Nat → Int32} {D : va_G} {tc : Nat → ClassId} {ad ad' : Nat → Nat} {ls : Array Slot} {i : Nat} {H : Heap} {locs : List Loc} {wC wM : List zm_E} {Q : State → Prop} (hC : zl_C p s m meth c b L xs D tc) (hJ : zl_J D tc s b ad ad' ls i H locs wC wM) (hR : zREL wC wM) (hi : i + 4 ≤ L) (hL : L ≤ 2048) (hN : zl_N p l e s m b below meth c D tc ad ad' ls i Q) : W p l e room_1 s m #[Value.ref b] below meth c H locs 55 6772 Q (F0 m 660 ls []) := by
  obtain ⟨-, ⟨fC, hwC⟩, ⟨fM, hwM⟩⟩ := zREL_len hR
  obtain ⟨hx, hb, -⟩ := id hC.1
  obtain ⟨r, wC2, wM2, ev1, ev2, hR2⟩ := zR_left hR (xs (i + 1))
  refine lv_aload_n hx hb zd_L_660 rfl (lv_at hJ.2.2.2.2.2 1 rfl) ?_
  refine zl_arg hC hJ (j := 1) 1 (by decide) (by decide) hi hL zd_L_661 zd_L_662 zd_L_663 zd_L_664 zd_L_665 ?_
  refine zl_callC hC hJ (as := [.int (xs (i + 1))]) (rest := []) ev1 (M := zt_X_left) rfl zl_l89 rfl rfl rfl hwC rfl rfl (Nat.le_of_ble_eq_true rfl) zd_L_666 ⟨Nat.le_of_ble_eq_true rfl, Nat.le_of_ble_eq_true rfl⟩ (fun H locs hJ => ?_)
  refine lv_aload_n hx hb zd_L_669 rfl (lv_at hJ.2.2.2.2.2 2 rfl) ?_
  refine zl_arg hC hJ (j := 1) 1 (by decide) (by decide) hi hL zd_L_670 zd_L_671 zd_L_672 zd_L_673 zd_L_674 ?_
  refine zl_callM hC hJ (as := [.int (xs (i + 1))]) (rest := [.int r]) ev2 (M := zt_M_left) rfl zl_l92 rfl rfl rfl hwM rfl rfl (Nat.le_of_ble_eq_true rfl) zd_L_675 ⟨Nat.le_of_ble_eq_true rfl, Nat.le_of_ble_eq_true rfl⟩ (fun H locs hJ => ?_)
  refine lv_icmp_eq (tgt := 1023) hx hb zd_L_678 (by decide) (fun _ => ?_) (fun z => absurd rfl z)
  exact hN _ _ _ _ hR2 hJ
theorem zl_k19 {p : Program} {l : Launch} {e : Env} {s : State} {m : MethodId} {below : List Frame} {meth : Method} {c : Code} {b L : Nat} {xs : Nat → Int32} {D : va_G} {tc : Nat → ClassId} {ad ad' : Nat → Nat} {ls : Array Slot} {i : Nat} {H : Heap} {locs : List Loc} {wC wM : List zm_E} {Q : State → Prop} (hC : zl_C p s m meth c b L xs D tc) (hJ : zl_J D tc s b ad ad' ls i H locs wC wM) (hR : zREL wC wM) (hi : i + 4 ≤ L) (hL : L ≤ 2048) (hN : zl_N p l e s m b below meth c D tc ad ad' ls i Q) : W p l e room_1 s m #[Value.ref b] below meth c H locs 55 6772 Q (F0 m 683 ls []) := by
  obtain ⟨-, ⟨fC, hwC⟩, ⟨fM, hwM⟩⟩ := zREL_len hR
  obtain ⟨hx, hb, -⟩ := id hC.1
  obtain ⟨r, wC2, wM2, ev1, ev2, hR2⟩ := zR_finish hR (xs (i + 1))
  refine lv_aload_n hx hb zd_L_683 rfl (lv_at hJ.2.2.2.2.2 1 rfl) ?_
  refine zl_arg hC hJ (j := 1) 1 (by decide) (by decide) hi hL zd_L_684 zd_L_685 zd_L_686 zd_L_687 zd_L_688 ?_
  refine zl_callC hC hJ (as := [.int (xs (i + 1))]) (rest := []) ev1 (M := zt_X_finish) rfl zl_l93 rfl rfl rfl hwC rfl rfl (Nat.le_of_ble_eq_true rfl) zd_L_689 ⟨Nat.le_of_ble_eq_true rfl, Nat.le_of_ble_eq_true rfl⟩ (fun H locs hJ => ?_)
  refine lv_aload_n hx hb zd_L_692 rfl (lv_at hJ.2.2.2.2.2 2 rfl) ?_
  refine zl_arg hC hJ (j := 1) 1 (by decide) (by decide) hi hL zd_L_693 zd_L_694 zd_L_695 zd_L_696 zd_L_697 ?_
  refine zl_callM hC hJ (as := [.int (xs (i + 1))]) (rest := [.int r]) ev2 (M := zt_M_finish) rfl zl_l96 rfl rfl rfl hwM rfl rfl (Nat.le_of_ble_eq_true rfl) zd_L_698 ⟨Nat.le_of_ble_eq_true rfl, Nat.le_of_ble_eq_true rfl⟩ (fun H locs hJ => ?_)
  refine lv_icmp_eq (tgt := 1023) hx hb zd_L_701 (by decide) (fun _ => ?_) (fun z => absurd rfl z)
  exact hN _ _ _ _ hR2 hJ
theorem zl_k20 {p : Program} {l : Launch} {e : Env} {s : State} {m : MethodId} {below : List Frame} {meth : Method} {c : Code} {b L : Nat} {xs : Nat → Int32} {D : va_G} {tc : Nat → ClassId} {ad ad' : Nat → Nat} {ls : Array Slot} {i : Nat} {H : Heap} {locs : List Loc} {wC wM : List zm_E} {Q : State → Prop} (hC : zl_C p s m meth c b L xs D tc) (hJ : zl_J D tc s b ad ad' ls i H locs wC wM) (hR : zREL wC wM) (hi : i + 4 ≤ L) (hL : L ≤ 2048) (hN : zl_N p l e s m b below meth c D tc ad ad' ls i Q) : W p l e room_1 s m #[Value.ref b] below meth c H locs 55 6772 Q (F0 m 706 ls []) := by
  obtain ⟨-, ⟨fC, hwC⟩, ⟨fM, hwM⟩⟩ := zREL_len hR
  obtain ⟨hx, hb, -⟩ := id hC.1
  obtain ⟨r, wC2, wM2, ev1, ev2, hR2⟩ := zR_ways hR (xs (i + 1))
  refine lv_aload_n hx hb zd_L_706 rfl (lv_at hJ.2.2.2.2.2 1 rfl) ?_
  refine zl_arg hC hJ (j := 1) 1 (by decide) (by decide) hi hL zd_L_707 zd_L_708 zd_L_709 zd_L_710 zd_L_711 ?_
  refine zl_callC hC hJ (as := [.int (xs (i + 1))]) (rest := []) ev1 (M := zt_X_ways) rfl zl_l97 rfl rfl rfl hwC rfl rfl (Nat.le_of_ble_eq_true rfl) zd_L_712 ⟨Nat.le_of_ble_eq_true rfl, Nat.le_of_ble_eq_true rfl⟩ (fun H locs hJ => ?_)
  refine lv_aload_n hx hb zd_L_715 rfl (lv_at hJ.2.2.2.2.2 2 rfl) ?_
  refine zl_arg hC hJ (j := 1) 1 (by decide) (by decide) hi hL zd_L_716 zd_L_717 zd_L_718 zd_L_719 zd_L_720 ?_
  refine zl_callM hC hJ (as := [.int (xs (i + 1))]) (rest := [.int r]) ev2 (M := zt_M_ways) rfl zl_l100 rfl rfl rfl hwM rfl rfl (Nat.le_of_ble_eq_true rfl) zd_L_721 ⟨Nat.le_of_ble_eq_true rfl, Nat.le_of_ble_eq_true rfl⟩ (fun H locs hJ => ?_)
  refine lv_icmp_eq (tgt := 1023) hx hb zd_L_724 (by decide) (fun _ => ?_) (fun z => absurd rfl z)
  exact hN _ _ _ _ hR2 hJ
theorem zl_k21 {p : Program} {l : Launch} {e : Env} {s : State} {m : MethodId} {below : List Frame} {meth : Method} {c : Code} {b L : Nat} {xs : Nat → Int32} {D : va_G} {tc : Nat → ClassId} {ad ad' : Nat → Nat} {ls : Array Slot} {i : Nat} {H : Heap} {locs : List Loc} {wC wM : List zm_E} {Q : State → Prop} (hC : zl_C p s m meth c b L xs D tc) (hJ : zl_J D tc s b ad ad' ls i H locs wC wM) (hR : zREL wC wM) (hi : i + 4 ≤ L) (hL : L ≤ 2048) (hN : zl_N p l e s m b below meth c D tc ad ad' ls i Q) : W p l e room_1 s m #[Value.ref b] below meth c H locs 55 6772 Q (F0 m 729 ls []) := by
  obtain ⟨-, ⟨fC, hwC⟩, ⟨fM, hwM⟩⟩ := zREL_len hR
  obtain ⟨hx, hb, -⟩ := id hC.1
  obtain ⟨r, wC2, wM2, ev1, ev2, hR2⟩ := zR_put hR (xs (i + 1)) (xs (i + 2)) (xs (i + 3))
  refine lv_aload_n hx hb zd_L_729 rfl (lv_at hJ.2.2.2.2.2 1 rfl) ?_
  refine zl_arg hC hJ (j := 1) 1 (by decide) (by decide) hi hL zd_L_730 zd_L_731 zd_L_732 zd_L_733 zd_L_734 ?_
  refine zl_arg hC hJ (j := 2) 2 (by decide) (by decide) hi hL zd_L_735 zd_L_736 zd_L_737 zd_L_738 zd_L_739 ?_
  refine zl_arg hC hJ (j := 3) 3 (by decide) (by decide) hi hL zd_L_740 zd_L_741 zd_L_742 zd_L_743 zd_L_744 ?_
  refine zl_callC hC hJ (as := [.int (xs (i + 1)), .int (xs (i + 2)), .int (xs (i + 3))]) (rest := []) ev1 (M := zt_X_put) rfl zl_l101 rfl rfl rfl hwC rfl rfl (Nat.le_of_ble_eq_true rfl) zd_L_745 ⟨Nat.le_of_ble_eq_true rfl, Nat.le_of_ble_eq_true rfl⟩ (fun H locs hJ => ?_)
  refine lv_aload_n hx hb zd_L_748 rfl (lv_at hJ.2.2.2.2.2 2 rfl) ?_
  refine zl_arg hC hJ (j := 1) 1 (by decide) (by decide) hi hL zd_L_749 zd_L_750 zd_L_751 zd_L_752 zd_L_753 ?_
  refine zl_arg hC hJ (j := 2) 2 (by decide) (by decide) hi hL zd_L_754 zd_L_755 zd_L_756 zd_L_757 zd_L_758 ?_
  refine zl_arg hC hJ (j := 3) 3 (by decide) (by decide) hi hL zd_L_759 zd_L_760 zd_L_761 zd_L_762 zd_L_763 ?_
  refine zl_callM hC hJ (as := [.int (xs (i + 1)), .int (xs (i + 2)), .int (xs (i + 3))]) (rest := [.int r]) ev2 (M := zt_M_put) rfl zl_l104 rfl rfl rfl hwM rfl rfl (Nat.le_of_ble_eq_true rfl) zd_L_764 ⟨Nat.le_of_ble_eq_true rfl, Nat.le_of_ble_eq_true rfl⟩ (fun H locs hJ => ?_)
  refine lv_icmp_eq (tgt := 1023) hx hb zd_L_767 (by decide) (fun _ => ?_) (fun z => absurd rfl z)
  exact hN _ _ _ _ hR2 hJ
theorem zl_k22 {p : Program} {l : Launch} {e : Env} {s : State} {m : MethodId} {below : List Frame} {meth : Method} {c : Code} {b L : Nat} {xs : Nat → Int32} {D : va_G} {tc : Nat → ClassId} {ad ad' : Nat → Nat} {ls : Array Slot} {i : Nat} {H : Heap} {locs : List Loc} {wC wM : List zm_E} {Q : State → Prop} (hC : zl_C p s m meth c b L xs D tc) (hJ : zl_J D tc s b ad ad' ls i H locs wC wM) (hR : zREL wC wM) (hi : i + 4 ≤ L) (hL : L ≤ 2048) (hN : zl_N p l e s m b below meth c D tc ad ad' ls i Q) : W p l e room_1 s m #[Value.ref b] below meth c H locs 55 6772 Q (F0 m 772 ls []) := by
  obtain ⟨-, ⟨fC, hwC⟩, ⟨fM, hwM⟩⟩ := zREL_len hR
  obtain ⟨hx, hb, -⟩ := id hC.1
  obtain ⟨r, wC2, wM2, ev1, ev2, hR2⟩ := zR_swap hR (xs (i + 1)) (xs (i + 2))
  refine lv_aload_n hx hb zd_L_772 rfl (lv_at hJ.2.2.2.2.2 1 rfl) ?_
  refine zl_arg hC hJ (j := 1) 1 (by decide) (by decide) hi hL zd_L_773 zd_L_774 zd_L_775 zd_L_776 zd_L_777 ?_
  refine zl_arg hC hJ (j := 2) 2 (by decide) (by decide) hi hL zd_L_778 zd_L_779 zd_L_780 zd_L_781 zd_L_782 ?_
  refine zl_callC hC hJ (as := [.int (xs (i + 1)), .int (xs (i + 2))]) (rest := []) ev1 (M := zt_X_swap) rfl zl_l105 rfl rfl rfl hwC rfl rfl (Nat.le_of_ble_eq_true rfl) zd_L_783 ⟨Nat.le_of_ble_eq_true rfl, Nat.le_of_ble_eq_true rfl⟩ (fun H locs hJ => ?_)
  refine lv_aload_n hx hb zd_L_786 rfl (lv_at hJ.2.2.2.2.2 2 rfl) ?_
  refine zl_arg hC hJ (j := 1) 1 (by decide) (by decide) hi hL zd_L_787 zd_L_788 zd_L_789 zd_L_790 zd_L_791 ?_
  refine zl_arg hC hJ (j := 2) 2 (by decide) (by decide) hi hL zd_L_792 zd_L_793 zd_L_794 zd_L_795 zd_L_796 ?_
  refine zl_callM hC hJ (as := [.int (xs (i + 1)), .int (xs (i + 2))]) (rest := [.int r]) ev2 (M := zt_M_swap) rfl zl_l108 rfl rfl rfl hwM rfl rfl (Nat.le_of_ble_eq_true rfl) zd_L_797 ⟨Nat.le_of_ble_eq_true rfl, Nat.le_of_ble_eq_true rfl⟩ (fun H locs hJ => ?_)
  refine lv_icmp_eq (tgt := 1023) hx hb zd_L_800 (by decide) (fun _ => ?_) (fun z => absurd rfl z)
  exact hN _ _ _ _ hR2 hJ
theorem zl_k23 {p : Program} {l : Launch} {e : Env} {s : State} {m : MethodId} {below : List Frame} {meth : Method} {c : Code} {b L : Nat} {xs : Nat → Int32} {D : va_G} {tc : Nat → ClassId} {ad ad' : Nat → Nat} {ls : Array Slot} {i : Nat} {H : Heap} {locs : List Loc} {wC wM : List zm_E} {Q : State → Prop} (hC : zl_C p s m meth c b L xs D tc) (hJ : zl_J D tc s b ad ad' ls i H locs wC wM) (hR : zREL wC wM) (hi : i + 4 ≤ L) (hL : L ≤ 2048) (hN : zl_N p l e s m b below meth c D tc ad ad' ls i Q) : W p l e room_1 s m #[Value.ref b] below meth c H locs 55 6772 Q (F0 m 805 ls []) := by
  obtain ⟨-, ⟨fC, hwC⟩, ⟨fM, hwM⟩⟩ := zREL_len hR
  obtain ⟨hx, hb, -⟩ := id hC.1
  obtain ⟨r, wC2, wM2, ev1, ev2, hR2⟩ := zR_plus hR (xs (i + 1)) (xs (i + 2)) (xs (i + 3))
  refine lv_aload_n hx hb zd_L_805 rfl (lv_at hJ.2.2.2.2.2 1 rfl) ?_
  refine zl_arg hC hJ (j := 1) 1 (by decide) (by decide) hi hL zd_L_806 zd_L_807 zd_L_808 zd_L_809 zd_L_810 ?_
  refine zl_arg hC hJ (j := 2) 2 (by decide) (by decide) hi hL zd_L_811 zd_L_812 zd_L_813 zd_L_814 zd_L_815 ?_
  refine zl_arg hC hJ (j := 3) 3 (by decide) (by decide) hi hL zd_L_816 zd_L_817 zd_L_818 zd_L_819 zd_L_820 ?_
  refine zl_callC hC hJ (as := [.int (xs (i + 1)), .int (xs (i + 2)), .int (xs (i + 3))]) (rest := []) ev1 (M := zt_X_plus) rfl zl_l109 rfl rfl rfl hwC rfl rfl (Nat.le_of_ble_eq_true rfl) zd_L_821 ⟨Nat.le_of_ble_eq_true rfl, Nat.le_of_ble_eq_true rfl⟩ (fun H locs hJ => ?_)
  refine lv_aload_n hx hb zd_L_824 rfl (lv_at hJ.2.2.2.2.2 2 rfl) ?_
  refine zl_arg hC hJ (j := 1) 1 (by decide) (by decide) hi hL zd_L_825 zd_L_826 zd_L_827 zd_L_828 zd_L_829 ?_
  refine zl_arg hC hJ (j := 2) 2 (by decide) (by decide) hi hL zd_L_830 zd_L_831 zd_L_832 zd_L_833 zd_L_834 ?_
  refine zl_arg hC hJ (j := 3) 3 (by decide) (by decide) hi hL zd_L_835 zd_L_836 zd_L_837 zd_L_838 zd_L_839 ?_
  refine zl_callM hC hJ (as := [.int (xs (i + 1)), .int (xs (i + 2)), .int (xs (i + 3))]) (rest := [.int r]) ev2 (M := zt_M_plus) rfl zl_l112 rfl rfl rfl hwM rfl rfl (Nat.le_of_ble_eq_true rfl) zd_L_840 ⟨Nat.le_of_ble_eq_true rfl, Nat.le_of_ble_eq_true rfl⟩ (fun H locs hJ => ?_)
  refine lv_icmp_eq (tgt := 1023) hx hb zd_L_843 (by decide) (fun _ => ?_) (fun z => absurd rfl z)
  exact hN _ _ _ _ hR2 hJ
theorem zl_k24 {p : Program} {l : Launch} {e : Env} {s : State} {m : MethodId} {below : List Frame} {meth : Method} {c : Code} {b L : Nat} {xs : Nat → Int32} {D : va_G} {tc : Nat → ClassId} {ad ad' : Nat → Nat} {ls : Array Slot} {i : Nat} {H : Heap} {locs : List Loc} {wC wM : List zm_E} {Q : State → Prop} (hC : zl_C p s m meth c b L xs D tc) (hJ : zl_J D tc s b ad ad' ls i H locs wC wM) (hR : zREL wC wM) (hi : i + 4 ≤ L) (hL : L ≤ 2048) (hN : zl_N p l e s m b below meth c D tc ad ad' ls i Q) : W p l e room_1 s m #[Value.ref b] below meth c H locs 55 6772 Q (F0 m 848 ls []) := by
  obtain ⟨-, ⟨fC, hwC⟩, ⟨fM, hwM⟩⟩ := zREL_len hR
  obtain ⟨hx, hb, -⟩ := id hC.1
  obtain ⟨r, wC2, wM2, ev1, ev2, hR2⟩ := zR_scale hR (xs (i + 1)) (xs (i + 2))
  refine lv_aload_n hx hb zd_L_848 rfl (lv_at hJ.2.2.2.2.2 1 rfl) ?_
  refine zl_arg hC hJ (j := 1) 1 (by decide) (by decide) hi hL zd_L_849 zd_L_850 zd_L_851 zd_L_852 zd_L_853 ?_
  refine zl_arg hC hJ (j := 2) 2 (by decide) (by decide) hi hL zd_L_854 zd_L_855 zd_L_856 zd_L_857 zd_L_858 ?_
  refine zl_callC hC hJ (as := [.int (xs (i + 1)), .int (xs (i + 2))]) (rest := []) ev1 (M := zt_X_scale) rfl zl_l113 rfl rfl rfl hwC rfl rfl (Nat.le_of_ble_eq_true rfl) zd_L_859 ⟨Nat.le_of_ble_eq_true rfl, Nat.le_of_ble_eq_true rfl⟩ (fun H locs hJ => ?_)
  refine lv_aload_n hx hb zd_L_862 rfl (lv_at hJ.2.2.2.2.2 2 rfl) ?_
  refine zl_arg hC hJ (j := 1) 1 (by decide) (by decide) hi hL zd_L_863 zd_L_864 zd_L_865 zd_L_866 zd_L_867 ?_
  refine zl_arg hC hJ (j := 2) 2 (by decide) (by decide) hi hL zd_L_868 zd_L_869 zd_L_870 zd_L_871 zd_L_872 ?_
  refine zl_callM hC hJ (as := [.int (xs (i + 1)), .int (xs (i + 2))]) (rest := [.int r]) ev2 (M := zt_M_scale) rfl zl_l116 rfl rfl rfl hwM rfl rfl (Nat.le_of_ble_eq_true rfl) zd_L_873 ⟨Nat.le_of_ble_eq_true rfl, Nat.le_of_ble_eq_true rfl⟩ (fun H locs hJ => ?_)
  refine lv_icmp_eq (tgt := 1023) hx hb zd_L_876 (by decide) (fun _ => ?_) (fun z => absurd rfl z)
  exact hN _ _ _ _ hR2 hJ
theorem zl_k25 {p : Program} {l : Launch} {e : Env} {s : State} {m : MethodId} {below : List Frame} {meth : Method} {c : Code} {b L : Nat} {xs : Nat → Int32} {D : va_G} {tc : Nat → ClassId} {ad ad' : Nat → Nat} {ls : Array Slot} {i : Nat} {H : Heap} {locs : List Loc} {wC wM : List zm_E} {Q : State → Prop} (hC : zl_C p s m meth c b L xs D tc) (hJ : zl_J D tc s b ad ad' ls i H locs wC wM) (hR : zREL wC wM) (hi : i + 4 ≤ L) (hL : L ≤ 2048) (hN : zl_N p l e s m b below meth c D tc ad ad' ls i Q) : W p l e room_1 s m #[Value.ref b] below meth c H locs 55 6772 Q (F0 m 881 ls []) := by
  obtain ⟨-, ⟨fC, hwC⟩, ⟨fM, hwM⟩⟩ := zREL_len hR
  obtain ⟨hx, hb, -⟩ := id hC.1
  obtain ⟨r, wC2, wM2, ev1, ev2, hR2⟩ := zR_times hR (xs (i + 1))
  refine lv_aload_n hx hb zd_L_881 rfl (lv_at hJ.2.2.2.2.2 1 rfl) ?_
  refine zl_arg hC hJ (j := 1) 1 (by decide) (by decide) hi hL zd_L_882 zd_L_883 zd_L_884 zd_L_885 zd_L_886 ?_
  refine zl_callC hC hJ (as := [.int (xs (i + 1))]) (rest := []) ev1 (M := zt_X_times) rfl zl_l117 rfl rfl rfl hwC rfl rfl (Nat.le_of_ble_eq_true rfl) zd_L_887 ⟨Nat.le_of_ble_eq_true rfl, Nat.le_of_ble_eq_true rfl⟩ (fun H locs hJ => ?_)
  refine lv_aload_n hx hb zd_L_890 rfl (lv_at hJ.2.2.2.2.2 2 rfl) ?_
  refine zl_arg hC hJ (j := 1) 1 (by decide) (by decide) hi hL zd_L_891 zd_L_892 zd_L_893 zd_L_894 zd_L_895 ?_
  refine zl_callM hC hJ (as := [.int (xs (i + 1))]) (rest := [.int r]) ev2 (M := zt_M_times) rfl zl_l120 rfl rfl rfl hwM rfl rfl (Nat.le_of_ble_eq_true rfl) zd_L_896 ⟨Nat.le_of_ble_eq_true rfl, Nat.le_of_ble_eq_true rfl⟩ (fun H locs hJ => ?_)
  refine lv_icmp_eq (tgt := 1023) hx hb zd_L_899 (by decide) (fun _ => ?_) (fun z => absurd rfl z)
  exact hN _ _ _ _ hR2 hJ
theorem zl_k26 {p : Program} {l : Launch} {e : Env} {s : State} {m : MethodId} {below : List Frame} {meth : Method} {c : Code} {b L : Nat} {xs : Nat → Int32} {D : va_G} {tc : Nat → ClassId} {ad ad' : Nat → Nat} {ls : Array Slot} {i : Nat} {H : Heap} {locs : List Loc} {wC wM : List zm_E} {Q : State → Prop} (hC : zl_C p s m meth c b L xs D tc) (hJ : zl_J D tc s b ad ad' ls i H locs wC wM) (hR : zREL wC wM) (hi : i + 4 ≤ L) (hL : L ≤ 2048) (hN : zl_N p l e s m b below meth c D tc ad ad' ls i Q) : W p l e room_1 s m #[Value.ref b] below meth c H locs 55 6772 Q (F0 m 904 ls []) := by
  obtain ⟨-, ⟨fC, hwC⟩, ⟨fM, hwM⟩⟩ := zREL_len hR
  obtain ⟨hx, hb, -⟩ := id hC.1
  obtain ⟨r, wC2, wM2, ev1, ev2, hR2⟩ := zR_image hR
  refine lv_aload_n hx hb zd_L_904 rfl (lv_at hJ.2.2.2.2.2 1 rfl) ?_
  refine zl_callC hC hJ (as := []) (rest := []) ev1 (M := zt_X_image) rfl zl_l121 rfl rfl rfl hwC rfl rfl (Nat.le_of_ble_eq_true rfl) zd_L_905 ⟨Nat.le_of_ble_eq_true rfl, Nat.le_of_ble_eq_true rfl⟩ (fun H locs hJ => ?_)
  refine lv_aload_n hx hb zd_L_908 rfl (lv_at hJ.2.2.2.2.2 2 rfl) ?_
  refine zl_callM hC hJ (as := []) (rest := [.int r]) ev2 (M := zt_M_image) rfl zl_l124 rfl rfl rfl hwM rfl rfl (Nat.le_of_ble_eq_true rfl) zd_L_909 ⟨Nat.le_of_ble_eq_true rfl, Nat.le_of_ble_eq_true rfl⟩ (fun H locs hJ => ?_)
  refine lv_icmp_eq (tgt := 1023) hx hb zd_L_912 (by decide) (fun _ => ?_) (fun z => absurd rfl z)
  exact hN _ _ _ _ hR2 hJ
theorem zl_k27 {p : Program} {l : Launch} {e : Env} {s : State} {m : MethodId} {below : List Frame} {meth : Method} {c : Code} {b L : Nat} {xs : Nat → Int32} {D : va_G} {tc : Nat → ClassId} {ad ad' : Nat → Nat} {ls : Array Slot} {i : Nat} {H : Heap} {locs : List Loc} {wC wM : List zm_E} {Q : State → Prop} (hC : zl_C p s m meth c b L xs D tc) (hJ : zl_J D tc s b ad ad' ls i H locs wC wM) (hR : zREL wC wM) (hi : i + 4 ≤ L) (hL : L ≤ 2048) (hN : zl_N p l e s m b below meth c D tc ad ad' ls i Q) : W p l e room_1 s m #[Value.ref b] below meth c H locs 55 6772 Q (F0 m 917 ls []) := by
  obtain ⟨-, ⟨fC, hwC⟩, ⟨fM, hwM⟩⟩ := zREL_len hR
  obtain ⟨hx, hb, -⟩ := id hC.1
  obtain ⟨r, wC2, wM2, ev1, ev2, hR2⟩ := zR_restore hR
  refine lv_aload_n hx hb zd_L_917 rfl (lv_at hJ.2.2.2.2.2 1 rfl) ?_
  refine zl_callC hC hJ (as := []) (rest := []) ev1 (M := zt_X_restore) rfl zl_l125 rfl rfl rfl hwC rfl rfl (Nat.le_of_ble_eq_true rfl) zd_L_918 ⟨Nat.le_of_ble_eq_true rfl, Nat.le_of_ble_eq_true rfl⟩ (fun H locs hJ => ?_)
  refine lv_aload_n hx hb zd_L_921 rfl (lv_at hJ.2.2.2.2.2 2 rfl) ?_
  refine zl_callM hC hJ (as := []) (rest := [.int r]) ev2 (M := zt_M_restore) rfl zl_l128 rfl rfl rfl hwM rfl rfl (Nat.le_of_ble_eq_true rfl) zd_L_922 ⟨Nat.le_of_ble_eq_true rfl, Nat.le_of_ble_eq_true rfl⟩ (fun H locs hJ => ?_)
  refine lv_icmp_eq (tgt := 1023) hx hb zd_L_925 (by decide) (fun _ => ?_) (fun z => absurd rfl z)
  exact hN _ _ _ _ hR2 hJ
theorem zl_k28 {p : Program} {l : Launch} {e : Env} {s : State} {m : MethodId} {below : List Frame} {meth : Method} {c : Code} {b L : Nat} {xs : Nat → Int32} {D : va_G} {tc : Nat → ClassId} {ad ad' : Nat → Nat} {ls : Array Slot} {i : Nat} {H : Heap} {locs : List Loc} {wC wM : List zm_E} {Q : State → Prop} (hC : zl_C p s m meth c b L xs D tc) (hJ : zl_J D tc s b ad ad' ls i H locs wC wM) (hR : zREL wC wM) (hi : i + 4 ≤ L) (hL : L ≤ 2048) (hN : zl_N p l e s m b below meth c D tc ad ad' ls i Q) : W p l e room_1 s m #[Value.ref b] below meth c H locs 55 6772 Q (F0 m 930 ls []) := by
  obtain ⟨-, ⟨fC, hwC⟩, ⟨fM, hwM⟩⟩ := zREL_len hR
  obtain ⟨hx, hb, -⟩ := id hC.1
  obtain ⟨r, wC2, wM2, ev1, ev2, hR2⟩ := zR_like hR
  refine lv_aload_n hx hb zd_L_930 rfl (lv_at hJ.2.2.2.2.2 1 rfl) ?_
  refine zl_callC hC hJ (as := []) (rest := []) ev1 (M := zt_X_like) rfl zl_l129 rfl rfl rfl hwC rfl rfl (Nat.le_of_ble_eq_true rfl) zd_L_931 ⟨Nat.le_of_ble_eq_true rfl, Nat.le_of_ble_eq_true rfl⟩ (fun H locs hJ => ?_)
  refine lv_aload_n hx hb zd_L_934 rfl (lv_at hJ.2.2.2.2.2 2 rfl) ?_
  refine zl_callM hC hJ (as := []) (rest := [.int r]) ev2 (M := zt_M_like) rfl zl_l132 rfl rfl rfl hwM rfl rfl (Nat.le_of_ble_eq_true rfl) zd_L_935 ⟨Nat.le_of_ble_eq_true rfl, Nat.le_of_ble_eq_true rfl⟩ (fun H locs hJ => ?_)
  refine lv_icmp_eq (tgt := 1023) hx hb zd_L_938 (by decide) (fun _ => ?_) (fun z => absurd rfl z)
  exact hN _ _ _ _ hR2 hJ
theorem zl_k29 {p : Program} {l : Launch} {e : Env} {s : State} {m : MethodId} {below : List Frame} {meth : Method} {c : Code} {b L : Nat} {xs : Nat → Int32} {D : va_G} {tc : Nat → ClassId} {ad ad' : Nat → Nat} {ls : Array Slot} {i : Nat} {H : Heap} {locs : List Loc} {wC wM : List zm_E} {Q : State → Prop} (hC : zl_C p s m meth c b L xs D tc) (hJ : zl_J D tc s b ad ad' ls i H locs wC wM) (hR : zREL wC wM) (hi : i + 4 ≤ L) (hL : L ≤ 2048) (hN : zl_N p l e s m b below meth c D tc ad ad' ls i Q) : W p l e room_1 s m #[Value.ref b] below meth c H locs 55 6772 Q (F0 m 943 ls []) := by
  obtain ⟨-, ⟨fC, hwC⟩, ⟨fM, hwM⟩⟩ := zREL_len hR
  obtain ⟨hx, hb, -⟩ := id hC.1
  obtain ⟨r, wC2, wM2, ev1, ev2, hR2⟩ := zR_drawn hR (xs (i + 1)) (xs (i + 2)) (xs (i + 3))
  refine lv_aload_n hx hb zd_L_943 rfl (lv_at hJ.2.2.2.2.2 1 rfl) ?_
  refine zl_arg hC hJ (j := 1) 1 (by decide) (by decide) hi hL zd_L_944 zd_L_945 zd_L_946 zd_L_947 zd_L_948 ?_
  refine zl_arg hC hJ (j := 2) 2 (by decide) (by decide) hi hL zd_L_949 zd_L_950 zd_L_951 zd_L_952 zd_L_953 ?_
  refine zl_arg hC hJ (j := 3) 3 (by decide) (by decide) hi hL zd_L_954 zd_L_955 zd_L_956 zd_L_957 zd_L_958 ?_
  refine zl_callC hC hJ (as := [.int (xs (i + 1)), .int (xs (i + 2)), .int (xs (i + 3))]) (rest := []) ev1 (M := zt_X_drawn) rfl zl_l133 rfl rfl rfl hwC rfl rfl (Nat.le_of_ble_eq_true rfl) zd_L_959 ⟨Nat.le_of_ble_eq_true rfl, Nat.le_of_ble_eq_true rfl⟩ (fun H locs hJ => ?_)
  refine lv_aload_n hx hb zd_L_962 rfl (lv_at hJ.2.2.2.2.2 2 rfl) ?_
  refine zl_arg hC hJ (j := 1) 1 (by decide) (by decide) hi hL zd_L_963 zd_L_964 zd_L_965 zd_L_966 zd_L_967 ?_
  refine zl_arg hC hJ (j := 2) 2 (by decide) (by decide) hi hL zd_L_968 zd_L_969 zd_L_970 zd_L_971 zd_L_972 ?_
  refine zl_arg hC hJ (j := 3) 3 (by decide) (by decide) hi hL zd_L_973 zd_L_974 zd_L_975 zd_L_976 zd_L_977 ?_
  refine zl_callM hC hJ (as := [.int (xs (i + 1)), .int (xs (i + 2)), .int (xs (i + 3))]) (rest := [.int r]) ev2 (M := zt_M_drawn) rfl zl_l136 rfl rfl rfl hwM rfl rfl (Nat.le_of_ble_eq_true rfl) zd_L_978 ⟨Nat.le_of_ble_eq_true rfl, Nat.le_of_ble_eq_true rfl⟩ (fun H locs hJ => ?_)
  refine lv_icmp_eq (tgt := 1023) hx hb zd_L_981 (by decide) (fun _ => ?_) (fun z => absurd rfl z)
  exact hN _ _ _ _ hR2 hJ
theorem zl_k30 {p : Program} {l : Launch} {e : Env} {s : State} {m : MethodId} {below : List Frame} {meth : Method} {c : Code} {b L : Nat} {xs : Nat → Int32} {D : va_G} {tc : Nat → ClassId} {ad ad' : Nat → Nat} {ls : Array Slot} {i : Nat} {H : Heap} {locs : List Loc} {wC wM : List zm_E} {Q : State → Prop} (hC : zl_C p s m meth c b L xs D tc) (hJ : zl_J D tc s b ad ad' ls i H locs wC wM) (hR : zREL wC wM) (hi : i + 4 ≤ L) (hL : L ≤ 2048) (hN : zl_N p l e s m b below meth c D tc ad ad' ls i Q) : W p l e room_1 s m #[Value.ref b] below meth c H locs 55 6772 Q (F0 m 986 ls []) := by
  obtain ⟨-, ⟨fC, hwC⟩, ⟨fM, hwM⟩⟩ := zREL_len hR
  obtain ⟨hx, hb, -⟩ := id hC.1
  obtain ⟨r, wC2, wM2, ev1, ev2, hR2⟩ := zR_count hR (xs (i + 1))
  refine lv_aload_n hx hb zd_L_986 rfl (lv_at hJ.2.2.2.2.2 1 rfl) ?_
  refine zl_arg hC hJ (j := 1) 1 (by decide) (by decide) hi hL zd_L_987 zd_L_988 zd_L_989 zd_L_990 zd_L_991 ?_
  refine zl_callC hC hJ (as := [.int (xs (i + 1))]) (rest := []) ev1 (M := zt_X_count) rfl zl_l137 rfl rfl rfl hwC rfl rfl (Nat.le_of_ble_eq_true rfl) zd_L_992 ⟨Nat.le_of_ble_eq_true rfl, Nat.le_of_ble_eq_true rfl⟩ (fun H locs hJ => ?_)
  refine lv_aload_n hx hb zd_L_995 rfl (lv_at hJ.2.2.2.2.2 2 rfl) ?_
  refine zl_arg hC hJ (j := 1) 1 (by decide) (by decide) hi hL zd_L_996 zd_L_997 zd_L_998 zd_L_999 zd_L_1000 ?_
  refine zl_callM hC hJ (as := [.int (xs (i + 1))]) (rest := [.int r]) ev2 (M := zt_M_count) rfl zl_l140 rfl rfl rfl hwM rfl rfl (Nat.le_of_ble_eq_true rfl) zd_L_1001 ⟨Nat.le_of_ble_eq_true rfl, Nat.le_of_ble_eq_true rfl⟩ (fun H locs hJ => ?_)
  refine lv_icmp_eq (tgt := 1023) hx hb zd_L_1004 (by decide) (fun _ => ?_) (fun z => absurd rfl z)
  exact hN _ _ _ _ hR2 hJ
theorem zl_k31 {p : Program} {l : Launch} {e : Env} {s : State} {m : MethodId} {below : List Frame} {meth : Method} {c : Code} {b L : Nat} {xs : Nat → Int32} {D : va_G} {tc : Nat → ClassId} {ad ad' : Nat → Nat} {ls : Array Slot} {i : Nat} {H : Heap} {locs : List Loc} {wC wM : List zm_E} {Q : State → Prop} (hC : zl_C p s m meth c b L xs D tc) (hJ : zl_J D tc s b ad ad' ls i H locs wC wM) (hR : zREL wC wM) (hi : i + 4 ≤ L) (hL : L ≤ 2048) (hN : zl_N p l e s m b below meth c D tc ad ad' ls i Q) : W p l e room_1 s m #[Value.ref b] below meth c H locs 55 6772 Q (F0 m 1009 ls []) := by
  obtain ⟨-, ⟨fC, hwC⟩, ⟨fM, hwM⟩⟩ := zREL_len hR
  obtain ⟨hx, hb, -⟩ := id hC.1
  obtain ⟨r, wC2, wM2, ev1, ev2, hR2⟩ := zR_digest hR
  refine lv_aload_n hx hb zd_L_1009 rfl (lv_at hJ.2.2.2.2.2 1 rfl) ?_
  refine zl_callC hC hJ (as := []) (rest := []) ev1 (M := zt_X_digest) rfl zl_l141 rfl rfl rfl hwC rfl rfl (Nat.le_of_ble_eq_true rfl) zd_L_1010 ⟨Nat.le_of_ble_eq_true rfl, Nat.le_of_ble_eq_true rfl⟩ (fun H locs hJ => ?_)
  refine lv_aload_n hx hb zd_L_1013 rfl (lv_at hJ.2.2.2.2.2 2 rfl) ?_
  refine zl_callM hC hJ (as := []) (rest := [.long r]) ev2 (M := zt_M_digest) rfl zl_l145 rfl rfl rfl hwM rfl rfl (Nat.le_of_ble_eq_true rfl) zd_L_1014 ⟨Nat.le_of_ble_eq_true rfl, Nat.le_of_ble_eq_true rfl⟩ (fun H locs hJ => ?_)
  refine W.lcmp hx hb zd_L_1017 ?_
  refine lv_if_eq (tgt := 1023) hx hb zd_L_1018 (by decide) (fun _ => ?_) (fun z => absurd ((lg_cmp_eq r r).mpr rfl) z)
  exact hN _ _ _ _ hR2 hJ
