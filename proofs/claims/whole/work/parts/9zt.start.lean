/-! the law from its entry (written by wip/whole/gen_law3.py) -/
def zl_gC : Nat → Int32 := fun k => if k = 11 then 2 else if k = 13 then 2 else if k = 15 then 2 else 0
def zl_wC : List zm_E := zw_C zl_gC (fun _ => 0) (fun _ _ => 0) (fun _ _ => 0)
def zl_wM : List zm_E := zw_M (fun _ => 0) (fun _ => 0) (fun _ _ => 0) (fun _ _ => 0)
theorem zk_adC (tc : Nat → ClassId) (h0 : Nat) (w : va_W) (h : ∃ q1 q2 q3 q4 q5 q6 q7 q8 q9 q10 q11 q12 q13 q14 q15 q16 q17 q18 q19 q20 q21 q22 q23 q24 q25 q26 q27 q28 q29 : Nat, w = [(h0, .inr (6, [.ref q1, .ref q2, .ref q3, .ref q4, .ref q5, .ref q6, .ref q7, .ref q8, .ref q9, .int 0, .int 0, .int 0, .int 0, .int 0, .int 0])), (q1, .inr (2, [.ref q10, .int 0, .int 0, .int 0, .int 0, .int 0])), (q2, .inr (1, [.int 2, .int 0, .ref q11, .ref q12])), (q3, .inr (1, [.int 2, .int 0, .ref q13, .ref q14])), (q4, .inr (3, [.int 2, .int 0, .int 0, .ref q15, .ref q16, .ref q17, .ref q18, .ref q19, .int 0, .int 0, .ref q20])), (q5, .inr (0, [.ref q21, .ref q22, .ref q23, .int 0, .int 0, .int 0])), (q6, .inr (5, [.int 0, .ref q24, .ref q25, .ref q26, .int 0])), (q7, .inr (5, [.int 0, .ref q27, .ref q28, .ref q29, .int 0])), (q8, .inr (4, [.ref q6, .ref q7, .int 0, .long 0])), (q9, .inr (4, [.ref q7, .ref q6, .int 0, .long 0])), (q10, .inl (tc 0, (28, .inl (fun _ => 0)))), (q11, .inl (tc 0, (36, .inl (fun _ => 0)))), (q12, .inl (tc 0, (36, .inl (fun _ => 0)))), (q13, .inl (tc 0, (36, .inl (fun _ => 0)))), (q14, .inl (tc 0, (36, .inl (fun _ => 0)))), (q15, .inl (tc 0, (936, .inl (fun _ => 0)))), (q16, .inl (tc 0, (936, .inl (fun _ => 0)))), (q17, .inl (tc 0, (156, .inl (fun _ => 0)))), (q18, .inl (tc 0, (156, .inl (fun _ => 0)))), (q19, .inl (tc 0, (156, .inl (fun _ => 0)))), (q20, .inl (tc 0, (6, .inl (fun _ => 0)))), (q21, .inl (tc 1, (64, .inr (.inl (fun _ => 0))))), (q22, .inl (tc 1, (105, .inr (.inl (fun _ => 0))))), (q23, .inl (tc 1, (30, .inr (.inl (fun _ => 0))))), (q24, .inl (tc 1, (64, .inr (.inl (fun _ => 0))))), (q25, .inl (tc 1, (64, .inr (.inl (fun _ => 0))))), (q26, .inl (tc 0, (64, .inl (fun _ => 0)))), (q27, .inl (tc 1, (64, .inr (.inl (fun _ => 0))))), (q28, .inl (tc 1, (64, .inr (.inl (fun _ => 0))))), (q29, .inl (tc 0, (64, .inl (fun _ => 0))))]) : ∃ ad : Nat → Nat, ad 0 = h0 ∧ w = zm_w tc ad 0 zl_wC := by
  obtain ⟨q1, q2, q3, q4, q5, q6, q7, q8, q9, q10, q11, q12, q13, q14, q15, q16, q17, q18, q19, q20, q21, q22, q23, q24, q25, q26, q27, q28, q29, rfl⟩ := h
  exact ⟨fun i => ([h0, q1, q2, q3, q4, q5, q6, q7, q8, q9, q10, q11, q12, q13, q14, q15, q16, q17, q18, q19, q20, q21, q22, q23, q24, q25, q26, q27, q28, q29] : List Nat).getD i 0, rfl, rfl⟩
theorem zk_adM (tc : Nat → ClassId) (h0 : Nat) (w : va_W) (h : ∃ q1 q2 q3 q4 q5 q6 q7 q8 q9 q10 q11 q12 q13 q14 q15 q16 q17 q18 q19 q20 q21 q22 q23 q24 : Nat, w = [(h0, .inr (7, [.int 0, .int 0, .ref q1, .int 0, .int 0, .ref q2, .int 0, .ref q3, .ref q4, .ref q5, .int 0, .int 0, .int 0, .ref q6, .int 0, .ref q7, .int 0, .int 0, .int 0, .int 0, .ref q8, .ref q9, .ref q10, .ref q11, .ref q12, .int 0, .ref q13, .ref q14, .ref q15, .ref q16, .ref q17, .int 0, .ref q18, .ref q19, .ref q20, .ref q21, .int 0, .int 0, .ref q22, .ref q23, .int 0, .int 0, .int 0, .int 0, .ref q24, .long 0, .long 0])), (q1, .inl (tc 0, (36, .inl (fun _ => 0)))), (q2, .inl (tc 0, (28, .inl (fun _ => 0)))), (q3, .inl (tc 0, (936, .inl (fun _ => 0)))), (q4, .inl (tc 0, (729, .inl (fun _ => 0)))), (q5, .inl (tc 2, (156, .inl (fun _ => 0)))), (q6, .inl (tc 0, (768, .inl (fun _ => 0)))), (q7, .inl (tc 0, (280, .inl (fun _ => 0)))), (q8, .inl (tc 0, (36, .inl (fun _ => 0)))), (q9, .inl (tc 0, (6, .inl (fun _ => 0)))), (q10, .inl (tc 0, (6, .inl (fun _ => 0)))), (q11, .inl (tc 0, (6, .inl (fun _ => 0)))), (q12, .inl (tc 0, (6, .inl (fun _ => 0)))), (q13, .inl (tc 0, (31, .inl (fun _ => 0)))), (q14, .inl (tc 0, (6, .inl (fun _ => 0)))), (q15, .inl (tc 0, (36, .inl (fun _ => 0)))), (q16, .inl (tc 0, (2, .inl (fun _ => 0)))), (q17, .inl (tc 0, (128, .inl (fun _ => 0)))), (q18, .inl (tc 1, (64, .inr (.inl (fun _ => 0))))), (q19, .inl (tc 0, (64, .inl (fun _ => 0)))), (q20, .inl (tc 0, (64, .inl (fun _ => 0)))), (q21, .inl (tc 1, (64, .inr (.inl (fun _ => 0))))), (q22, .inl (tc 0, (36, .inl (fun _ => 0)))), (q23, .inl (tc 0, (36, .inl (fun _ => 0)))), (q24, .inl (tc 0, (36, .inl (fun _ => 0))))]) : ∃ ad : Nat → Nat, ad 0 = h0 ∧ w = zm_w tc ad 0 zl_wM := by
  obtain ⟨q1, q2, q3, q4, q5, q6, q7, q8, q9, q10, q11, q12, q13, q14, q15, q16, q17, q18, q19, q20, q21, q22, q23, q24, rfl⟩ := h
  exact ⟨fun i => ([h0, q1, q2, q3, q4, q5, q6, q7, q8, q9, q10, q11, q12, q13, q14, q15, q16, q17, q18, q19, q20, q21, q22, q23, q24] : List Nat).getD i 0, rfl, rfl⟩
theorem zREL_0 : zREL zl_wC zl_wM := by
  refine ⟨0, 0, fun _ => 0, 0, fun _ => 0, 0, fun _ => 0, 0, fun _ => 0, 0, 0, fun _ => 0, 0, 0, 0, fun _ => 0, fun _ _ => 0, ?_, ?_, ⟨rfl, rfl, fun k z => absurd z (Nat.not_lt_zero k), fun k z => absurd z (Nat.not_lt_zero k)⟩, fun _ => ⟨zdj_0, zdj_0⟩, Nat.zero_le _, Nat.zero_le _⟩
  · refine ⟨zl_gC, fun _ => 0, fun _ _ => 0, fun _ _ => 0, false, false, rfl, ⟨fun i j _ _ => rfl, fun k _ => Nat.zero_le _, rfl, rfl, rfl, rfl, rfl, Or.inl ⟨rfl, rfl, rfl, rfl, rfl, rfl, rfl, rfl, rfl⟩⟩, ?_⟩
    exact ⟨⟨rfl, Nat.zero_le _, fun k z => absurd z (Nat.not_lt_zero k), fun k z => absurd z (Nat.not_lt_zero k)⟩, ⟨fun i j _ _ => rfl, fun k _ => Nat.zero_le _, rfl, Or.inl ⟨rfl, rfl⟩⟩, rfl, rfl, rfl⟩
  · exact ⟨fun _ => 0, fun _ => 0, fun _ _ => 0, fun _ _ => 0, fun _ => 0, fun _ => 0, fun _ => 0, rfl, fun i j _ z => absurd z (Nat.not_lt_zero j), fun i j _ z => absurd z (Nat.not_lt_zero j), Or.inl ⟨rfl, rfl, rfl, rfl, rfl, rfl, rfl, rfl, rfl⟩, fun q _ => ⟨rfl, Nat.zero_le _, fun k z => absurd z (Nat.not_lt_zero k)⟩, ⟨rfl, Nat.zero_le _, fun k z => absurd z (Nat.not_lt_zero k), fun k z => absurd z (Nat.not_lt_zero k)⟩, Or.inl ⟨rfl, rfl⟩, ⟨rfl, rfl, rfl⟩, ⟨fun k _ => rfl, fun k _ => Nat.zero_le _⟩, fun k _ => rfl, fun k _ => Nat.zero_le _⟩
theorem zk_splP {D : va_G} {cl : List vw_C} {W1 W2 : va_W} {H : Heap} (h : va_P D cl (W1 ++ W2) H) : va_P D cl W1 H ∧ va_P D cl W2 H :=
  ⟨fun k q hk => h k q (by rw [List.getElem?_append_left (List.getElem?_eq_some_iff.mp hk).1]; exact hk), fun k q hk => h (W1.length + k) q (by rw [List.getElem?_append_right (by omega), Nat.add_sub_cancel_left]; exact hk)⟩
theorem zk_splD {A : Nat → Prop} {W1 W2 : va_W} (h : va_D A (W1 ++ W2)) : (va_D A W1 ∧ va_D A W2) ∧ ∀ (i j : Nat) (x y : Nat × va_E), W1[i]? = some x → W2[j]? = some y → x.1 ≠ y.1 := by
  have hl : ∀ (k : Nat) (q : Nat × va_E), W1[k]? = some q → (W1 ++ W2)[k]? = some q := fun k q hk => by rw [List.getElem?_append_left (List.getElem?_eq_some_iff.mp hk).1]; exact hk
  have hr : ∀ (k : Nat) (q : Nat × va_E), W2[k]? = some q → (W1 ++ W2)[W1.length + k]? = some q := fun k q hk => by rw [List.getElem?_append_right (by omega), Nat.add_sub_cancel_left]; exact hk
  refine ⟨⟨⟨fun i j p q hi hj e => h.1 i j p q (hl i p hi) (hl j q hj) e, fun k q hk => h.2 k q (hl k q hk)⟩, ⟨fun i j p q hi hj e => ?_, fun k q hk => h.2 _ q (hr k q hk)⟩⟩, fun i j x y hi hj e => ?_⟩
  · have := h.1 _ _ p q (hr i p hi) (hr j q hj) e
    omega
  · have h1 := h.1 _ _ x y (hl i x hi) (hr j y hj) e
    have h2 := (List.getElem?_eq_some_iff.mp hi).1
    omega
theorem zl_K {args : Array Value} {s : State} (htg : ∀ w ∈ zt_gw, w.before args s = true) : ∃ (D : va_G) (tc : Nat → ClassId), va_K D zt_cl (zm_tys tc) s := by
  obtain ⟨c0, i0, k0⟩ := u_known (C := zt_R0) (T := zt_T0) (N := 6) (n := 6) htg zt_l0 (htg _ zk_t0)
  obtain ⟨c1, i1, k1⟩ := u_known (C := zt_R1) (T := zt_T1) (N := 4) (n := 4) htg zt_l1 (htg _ zk_t1)
  obtain ⟨c2, i2, k2⟩ := u_known (C := zt_R2) (T := zt_T2) (N := 6) (n := 6) htg zt_l2 (htg _ zk_t2)
  obtain ⟨c3, i3, k3⟩ := u_known (C := zt_R3) (T := zt_T3) (N := 11) (n := 11) htg zt_l3 (htg _ zk_t3)
  obtain ⟨c4, i4, k4⟩ := u_known (C := zt_R4) (T := zt_T4) (N := 4) (n := 4) htg zt_l4 (htg _ zk_t4)
  obtain ⟨c5, i5, k5⟩ := u_known (C := zt_R5) (T := zt_T5) (N := 5) (n := 5) htg zt_l5 (htg _ zk_t5)
  obtain ⟨c6, i6, k6⟩ := u_known (C := zt_R6) (T := zt_T6) (N := 15) (n := 15) htg zt_l6 (htg _ zk_t6)
  obtain ⟨c7, i7, k7⟩ := u_known (C := zt_R7) (T := zt_T7) (N := 47) (n := 47) htg zt_l7 (htg _ zk_t7)
  obtain ⟨a0, b0, d0, f0, g0, h0⟩ := Cond.arrayClass_spec (htg _ zk_a0)
  obtain ⟨a1, b1, d1, f1, g1, h1⟩ := Cond.arrayClass_spec (htg _ zk_a1)
  obtain ⟨a2, b2, d2, f2, g2, h2⟩ := Cond.arrayClass_spec (htg _ zk_a2)
  refine ⟨(fun k => if k = 0 then c0 else if k = 1 then c1 else if k = 2 then c2 else if k = 3 then c3 else if k = 4 then c4 else if k = 5 then c5 else if k = 6 then c6 else c7, fun k => if k = 0 then i0 else if k = 1 then i1 else if k = 2 then i2 else if k = 3 then i3 else if k = 4 then i4 else if k = 5 then i5 else if k = 6 then i6 else i7), fun k => if k = 0 then a0 else if k = 1 then a1 else a2, fun k q hq => ?_, fun k q hq => ?_⟩
  · match k, hq with
    | 0, hq => cases hq; exact k0
    | 1, hq => cases hq; exact k1
    | 2, hq => cases hq; exact k2
    | 3, hq => cases hq; exact k3
    | 4, hq => cases hq; exact k4
    | 5, hq => cases hq; exact k5
    | 6, hq => cases hq; exact k6
    | 7, hq => cases hq; exact k7
    | k + 8, hq => simp [zt_cl] at hq
  · match k, hq with
    | 0, hq => cases hq; exact ⟨fun n z => ⟨fun k h => (by cases h), b0, g0, d0, h0⟩, f0⟩
    | 1, hq => cases hq; exact ⟨fun n z => ⟨fun k h => (by cases h), b1, g1, d1, h1⟩, f1⟩
    | 2, hq => cases hq; exact ⟨fun n z => ⟨fun k h => (by cases h), b2, g2, d2, h2⟩, f2⟩
    | k + 3, hq => simp at hq
set_option maxHeartbeats 4000000 in
set_option maxRecDepth 100000 in
theorem whole_start {p : Program} {e : Env} {s : State} {m : MethodId} {below : List Frame} {meth : Method} {c : Code} (l : Launch) (hflags : l.flags = flags0) {b L : Nat} {xs : Nat → Int32} (hL : L ≤ 2048) (C0 : lw_At p s m meth c b L xs) : W p l e room_1 s m #[Value.ref b] below meth c s.heap [] 0 0 (lw_Z below #[Value.ref b] s) (entryFrame m ([Value.ref b] : List Value).toArray 4) := by
  obtain ⟨hx, hb, hr, hml, hown, hts, hX, hbl, hlocks, hgv⟩ := id C0
  have htg := zl_htg hts
  have hNw : ∀ x ∈ zt_nw, va_Nw x s := fun x hx => va_Nw.of (by rcases zt_nest x hx with ⟨a, i, b, n, d, g, rfl⟩ | ⟨a, i, y, g, rfl⟩ <;> rfl) (hts x (List.mem_filter.mp hx).1)
  obtain ⟨D, tc, hK⟩ := zl_K htg
  have hA : ∀ q : Nat, s.heap.size ≤ q → (fun q : Nat => s.heap.size ≤ q) q := fun _ h => h
  have hS : va_S (fun q : Nat => s.heap.size ≤ q) s.heap s.heap [] := va_S.rf
  have hP : va_P D zt_cl [] s.heap := fun k q h => by simp at h
  have hD : va_D (fun q : Nat => s.heap.size ≤ q) [] := ⟨fun i j p q h => by simp at h, fun k q h => by simp at h⟩
  have hl := lv_entry ([.ref b]) (n := 4) (Nat.le_of_ble_eq_true rfl)
  rw [lg_entry_eq]
  generalize (lg_sl ([.ref b]) ++ List.replicate (4 - (lg_sl ([.ref b])).length) Slot.unset).toArray = ls at hl ⊢
  have hl : lv_has ls 4 [(0, .ref b)] := hl
  refine va_new (ci := 6) (fs := zk_f6) (C := zt_R6) (T := zt_T6) (N := 15) hx hb htg zt_l6 zt_y6 zt_yo6 hown (htg _ zl_c7) (htg _ zk_t6) (htg _ zk_i6) hK hP hD hS hA rfl zk_df6 (Nat.le_of_ble_eq_true rfl) (Nat.le_of_ble_eq_true rfl) zd_L_0 (fun qx H hP hD hS => ?_)
  have hP : va_P D zt_cl [(qx, .inr (6, zk_f6))] H := hP
  have hD : va_D (fun q : Nat => s.heap.size ≤ q) [(qx, .inr (6, zk_f6))] := hD
  refine W.widen (k := 1) (n := 15) (Nat.le_of_ble_eq_true rfl) (Nat.le_of_ble_eq_true rfl) ?_
  refine lv_dup hx hb zd_L_3 rfl ?_
  refine zk_callI (n := 0) (tc := tc) (b := qx) (As := []) (rest := [.ref qx]) (wc := [(qx, .inr (6, zk_f6))]) (wr := []) hx hb hml hown htg hNw hK hP hD hS hA [0] [] rfl rfl (by decide) (by decide) (by decide) (zk_c6 l D tc qx H.size) zk_k6 rfl rfl zl_i9 zk_i6 zk_m6 rfl (by decide +kernel) ⟨Nat.le_of_ble_eq_true rfl, Nat.le_of_ble_eq_true rfl⟩ rfl hl.1 (Nat.le_of_ble_eq_true rfl) zd_L_4 ⟨Nat.le_of_ble_eq_true rfl, Nat.le_of_ble_eq_true rfl⟩ (fun w H locs hw hP hD hS => ?_)
  obtain ⟨ad, rfl, rfl⟩ := zk_adC tc qx w hw
  have hP : va_P D zt_cl (zm_w tc ad 0 zl_wC) H := hP
  have hD : va_D (fun q : Nat => s.heap.size ≤ q) (zm_w tc ad 0 zl_wC) := hD
  refine W.widen (k := 30) (n := 3165) (Nat.le_of_ble_eq_true rfl) (Nat.le_of_ble_eq_true rfl) ?_
  refine lv_astore_n (lv' := [(1, .ref (ad 0)), (0, .ref b)]) hx hb zd_L_7 rfl hl (by decide) rfl (fun ls hl => ?_)
  refine va_new (ci := 7) (fs := zk_f7) (C := zt_R7) (T := zt_T7) (N := 47) hx hb htg zt_l7 zt_y7 zt_yo7 hown (htg _ zl_c10) (htg _ zk_t7) (htg _ zk_i7) hK hP hD hS hA rfl zk_df7 (Nat.le_of_ble_eq_true rfl) (Nat.le_of_ble_eq_true rfl) zd_L_8 (fun qm H hP hD hS => ?_)
  refine W.widen (k := 31) (n := 3212) (Nat.le_of_ble_eq_true rfl) (Nat.le_of_ble_eq_true rfl) ?_
  refine lv_dup hx hb zd_L_11 rfl ?_
  refine zk_callI (n := 0) (tc := tc) (b := qm) (As := []) (rest := [.ref qm]) (wc := [(qm, .inr (7, zk_f7))]) (wr := zm_w tc ad 0 zl_wC) hx hb hml hown htg hNw hK hP hD hS hA [30] [0, 1, 2, 3, 4, 5, 6, 7, 8, 9, 10, 11, 12, 13, 14, 15, 16, 17, 18, 19, 20, 21, 22, 23, 24, 25, 26, 27, 28, 29] rfl rfl (by decide) (by decide) (by decide) (zk_c7 l D tc qm H.size) zk_k7 rfl rfl zl_i12 zk_i7 zk_m7 rfl (by decide +kernel) ⟨Nat.le_of_ble_eq_true rfl, Nat.le_of_ble_eq_true rfl⟩ rfl hl.1 (Nat.le_of_ble_eq_true rfl) zd_L_12 ⟨Nat.le_of_ble_eq_true rfl, Nat.le_of_ble_eq_true rfl⟩ (fun w H locs hw hP hD hS => ?_)
  obtain ⟨ad', rfl, rfl⟩ := zk_adM tc qm w hw
  refine W.widen (k := 55) (n := 6772) (Nat.le_of_ble_eq_true rfl) (Nat.le_of_ble_eq_true rfl) ?_
  refine lv_astore_n (lv' := [(2, .ref (ad' 0)), (1, .ref (ad 0)), (0, .ref b)]) hx hb zd_L_15 rfl hl (by decide) rfl (fun ls hl => ?_)
  refine lv_iconst (v := nI 0) hx hb zd_L_16 (by decide) ?_
  refine lv_istore_n (lv' := [(3, .int (nI 0)), (2, .ref (ad' 0)), (1, .ref (ad 0)), (0, .ref b)]) hx hb zd_L_17 rfl hl (by decide) rfl (fun ls hl => ?_)
  obtain ⟨hD1, hD2⟩ := zk_splD hD
  refine zl_loop ⟨C0, hK, hNw⟩ hL (L + 5) 0 ls H locs zl_wC zl_wM (by omega) (by omega) zREL_0 ⟨⟨rfl, rfl⟩, zk_splP hP, hD1, fun i j hi hj => ?_, hS, lv_sub hl [3, 2, 1, 0] rfl⟩
  obtain ⟨x, hx1⟩ := zm_w_ex (tc := tc) (ad := ad) (ws := zl_wC) (show i < zl_wC.length from hi)
  obtain ⟨y, hy1⟩ := zm_w_ex (tc := tc) (ad := ad') (ws := zl_wM) (show j < zl_wM.length from hj)
  exact hD2 i j _ _ hx1 hy1
