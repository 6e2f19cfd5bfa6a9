/-! the constructors of the nested classes (written by wip/whole/gen_ctor.py) -/
set_option maxHeartbeats 4000000 in
set_option maxRecDepth 100000 in
theorem zk_c2 (l : Launch) (D : va_G) (tc : Nat → ClassId) (h0 sz : Nat) : Met l zk_y2 (zk_ws zk_y2 zk_b2 1) { frames := 1, cells := 1, slots := 28, locals := 12 } (zk_Pc D tc [.ref h0] [(h0, .inr (2, [.null, .int 0, .int 0, .int 0, .int 0, .int 0]))] sz) (zk_Qc D [(h0, .inr (2, [.null, .int 0, .int 0, .int 0, .int 0, .int 0]))] sz (fun w => ∃ q1 : Nat, w = [(h0, .inr (2, [.ref q1, .int 0, .int 0, .int 0, .int 0, .int 0])), (q1, .inl (tc 0, (28, .inl (fun _ => 0))))])) 1 28 (va_A [(h0, .inr (2, [.null, .int 0, .int 0, .int 0, .int 0, .int 0]))] sz) := by
  refine Met.ofW (cc := zk_b2) (maxL := 1) (ret := none) (by decide +kernel) rfl ?_
  intro p e s m args below meth c s₁ B hml hv
  obtain ⟨rfl, hsz, hP, hK, hD0, hNw⟩ := hv
  have hx := B.exec
  have hb := B.bytes
  have hr := B.returns
  have hts := atoms_spec (ws := zk_ws zk_y2 zk_b2 1) B.pre
  have htg : ∀ w ∈ zt_gw, w.before _ s = true := fun w h => hts w (List.mem_cons_of_mem _ h)
  have hown : s.vm.findClass zt_R2 = some m.cls := findClass_of_methodNamed B.named
  have hlocks := B.notSynchronized
  have hin : meth.name = "<init>" := (name_of_methodNamed B.named B.method).1
  subst hsz
  have hD := hD0.self (sz := s.heap.size)
  unfold zk_Qc
  generalize hAe : va_A [(h0, .inr (2, [.null, .int 0, .int 0, .int 0, .int 0, .int 0]))] s.heap.size = A at hD ⊢
  have hA : ∀ q : Nat, s.heap.size ≤ q → A q := fun q h => by rw [← hAe]; exact Or.inr h
  have hS : va_S A s.heap s.heap [] := va_S.rf
  have hl := lv_entry ([.ref h0]) (n := 1) (Nat.le_of_ble_eq_true rfl)
  rw [lg_entry_eq]
  generalize (lg_sl ([.ref h0]) ++ List.replicate (1 - (lg_sl ([.ref h0])).length) Slot.unset).toArray = ls at hl ⊢
  have hl : lv_has ls 1 [(0, .ref h0)] := hl
  refine lv_aload_n hx hb zd_2_0 rfl (lv_at hl 0 rfl) ?_
  refine W.objInit hx hb hown (htg _ zk_o2) (htg _ zk_oi) (htg _ zk_oc) rfl (by rw [hml]; exact hl.1) rfl zd_2_1 (Nat.le_of_ble_eq_true rfl) (Nat.le_of_ble_eq_true rfl) ?_
  refine W.eq (g2 := F0 m 4 ls []) rfl ?_
  refine lv_aload_n hx hb zd_2_4 rfl (lv_at hl 0 rfl) ?_
  refine lv_bipush (v := 28) hx hb zd_2_5 (by decide) ?_
  refine zl_newa (atype := .int) (ty := .int) (a0 := (28, .inl (fun _ => 0))) hx hb (htg _ zk_a0) rfl (fun _ _ h => h) 0 rfl hK hP hD hS hA (fun _ => rfl) (by decide) (by decide) (Nat.le_of_ble_eq_true rfl) (Nat.le_of_ble_eq_true rfl) (Nat.le_of_ble_eq_true rfl) zd_2_7 (fun q1 H hP hD hS => ?_)
  have hP : va_P D zt_cl [(h0, .inr (2, [.null, .int 0, .int 0, .int 0, .int 0, .int 0])), (q1, .inl (tc 0, (28, .inl (fun _ => 0))))] H := hP
  have hD : va_D A [(h0, .inr (2, [.null, .int 0, .int 0, .int 0, .int 0, .int 0])), (q1, .inl (tc 0, (28, .inl (fun _ => 0))))] := hD
  refine W.widen (k := 1) (n := 28) (Nat.le_of_ble_eq_true rfl) (Nat.le_of_ble_eq_true rfl) ?_
  refine va_putF (D := D) (ci := 2) (v := .ref q1) (ty := .array .int) (C := zt_R2) (T := zt_T2) (N := 6) hx hb htg zt_l2 zt_y2 zt_yo2 zt_n2 hown hK hP hD hS 0 rfl rfl 0 (by decide) (htg _ zk_l2_9) (fun _ h9 => h9) rfl hin rfl (by decide +kernel) rfl rfl (Nat.le_of_ble_eq_true rfl) zd_2_9 (fun H locs hP hD hS => ?_)
  have hP : va_P D zt_cl [(h0, .inr (2, [.ref q1, .int 0, .int 0, .int 0, .int 0, .int 0])), (q1, .inl (tc 0, (28, .inl (fun _ => 0))))] H := hP
  have hD : va_D A [(h0, .inr (2, [.ref q1, .int 0, .int 0, .int 0, .int 0, .int 0])), (q1, .inl (tc 0, (28, .inl (fun _ => 0))))] := hD
  exact W.vret hx hb hr (fun t ht hW => ⟨⟨[(h0, .inr (2, [.ref q1, .int 0, .int 0, .int 0, .int 0, .int 0])), (q1, .inl (tc 0, (28, .inl (fun _ => 0))))], rfl, ⟨q1, rfl⟩, by rw [ht]; exact hP, hD⟩, hS.F ht⟩) hS.2.2 zd_2_12
set_option maxHeartbeats 4000000 in
set_option maxRecDepth 100000 in
theorem zk_c1 (l : Launch) (D : va_G) (tc : Nat → ClassId) (h0 sz : Nat) : Met l zk_y1 (zk_ws zk_y1 zk_b1 1) { frames := 1, cells := 2, slots := 72, locals := 12 } (zk_Pc D tc [.ref h0] [(h0, .inr (1, [.int 0, .int 0, .null, .null]))] sz) (zk_Qc D [(h0, .inr (1, [.int 0, .int 0, .null, .null]))] sz (fun w => ∃ q1 q2 : Nat, w = [(h0, .inr (1, [.int 2, .int 0, .ref q1, .ref q2])), (q1, .inl (tc 0, (36, .inl (fun _ => 0)))), (q2, .inl (tc 0, (36, .inl (fun _ => 0))))])) 2 72 (va_A [(h0, .inr (1, [.int 0, .int 0, .null, .null]))] sz) := by
  refine Met.ofW (cc := zk_b1) (maxL := 1) (ret := none) (by decide +kernel) rfl ?_
  intro p e s m args below meth c s₁ B hml hv
  obtain ⟨rfl, hsz, hP, hK, hD0, hNw⟩ := hv
  have hx := B.exec
  have hb := B.bytes
  have hr := B.returns
  have hts := atoms_spec (ws := zk_ws zk_y1 zk_b1 1) B.pre
  have htg : ∀ w ∈ zt_gw, w.before _ s = true := fun w h => hts w (List.mem_cons_of_mem _ h)
  have hown : s.vm.findClass zt_R1 = some m.cls := findClass_of_methodNamed B.named
  have hlocks := B.notSynchronized
  have hin : meth.name = "<init>" := (name_of_methodNamed B.named B.method).1
  subst hsz
  have hD := hD0.self (sz := s.heap.size)
  unfold zk_Qc
  generalize hAe : va_A [(h0, .inr (1, [.int 0, .int 0, .null, .null]))] s.heap.size = A at hD ⊢
  have hA : ∀ q : Nat, s.heap.size ≤ q → A q := fun q h => by rw [← hAe]; exact Or.inr h
  have hS : va_S A s.heap s.heap [] := va_S.rf
  have hl := lv_entry ([.ref h0]) (n := 1) (Nat.le_of_ble_eq_true rfl)
  rw [lg_entry_eq]
  generalize (lg_sl ([.ref h0]) ++ List.replicate (1 - (lg_sl ([.ref h0])).length) Slot.unset).toArray = ls at hl ⊢
  have hl : lv_has ls 1 [(0, .ref h0)] := hl
  refine lv_aload_n hx hb zd_1_0 rfl (lv_at hl 0 rfl) ?_
  refine W.objInit hx hb hown (htg _ zk_o1) (htg _ zk_oi) (htg _ zk_oc) rfl (by rw [hml]; exact hl.1) rfl zd_1_1 (Nat.le_of_ble_eq_true rfl) (Nat.le_of_ble_eq_true rfl) ?_
  refine W.eq (g2 := F0 m 4 ls []) rfl ?_
  refine lv_aload_n hx hb zd_1_4 rfl (lv_at hl 0 rfl) ?_
  refine lv_iconst (v := 2) hx hb zd_1_5 (by decide) ?_
  refine va_put (D := D) (ci := 1) (v := .int 2) (ty := .int) (C := zt_R1) (T := zt_T1) (N := 4) hx hb htg zt_l1 zt_y1 zt_yo1 zt_n1 hown hK hP hD hS 0 rfl rfl 0 (by decide) (htg _ zk_l1_9) (fun _ h9 => h9) rfl (by decide +kernel) rfl rfl (Nat.le_of_ble_eq_true rfl) zd_1_6 (fun H locs hP hD hS => ?_)
  have hP : va_P D zt_cl [(h0, .inr (1, [.int 2, .int 0, .null, .null]))] H := hP
  have hD : va_D A [(h0, .inr (1, [.int 2, .int 0, .null, .null]))] := hD
  refine lv_aload_n hx hb zd_1_9 rfl (lv_at hl 0 rfl) ?_
  refine lv_bipush (v := 36) hx hb zd_1_10 (by decide) ?_
  refine zl_newa (atype := .int) (ty := .int) (a0 := (36, .inl (fun _ => 0))) hx hb (htg _ zk_a0) rfl (fun _ _ h => h) 0 rfl hK hP hD hS hA (fun _ => rfl) (by decide) (by decide) (Nat.le_of_ble_eq_true rfl) (Nat.le_of_ble_eq_true rfl) (Nat.le_of_ble_eq_true rfl) zd_1_12 (fun q1 H hP hD hS => ?_)
  have hP : va_P D zt_cl [(h0, .inr (1, [.int 2, .int 0, .null, .null])), (q1, .inl (tc 0, (36, .inl (fun _ => 0))))] H := hP
  have hD : va_D A [(h0, .inr (1, [.int 2, .int 0, .null, .null])), (q1, .inl (tc 0, (36, .inl (fun _ => 0))))] := hD
  refine W.widen (k := 1) (n := 36) (Nat.le_of_ble_eq_true rfl) (Nat.le_of_ble_eq_true rfl) ?_
  refine va_putF (D := D) (ci := 1) (v := .ref q1) (ty := .array .int) (C := zt_R1) (T := zt_T1) (N := 4) hx hb htg zt_l1 zt_y1 zt_yo1 zt_n1 hown hK hP hD hS 0 rfl rfl 2 (by decide) (htg _ zk_l1_15) (fun _ h9 => h9) rfl hin rfl (by decide +kernel) rfl rfl (Nat.le_of_ble_eq_true rfl) zd_1_14 (fun H locs hP hD hS => ?_)
  have hP : va_P D zt_cl [(h0, .inr (1, [.int 2, .int 0, .ref q1, .null])), (q1, .inl (tc 0, (36, .inl (fun _ => 0))))] H := hP
  have hD : va_D A [(h0, .inr (1, [.int 2, .int 0, .ref q1, .null])), (q1, .inl (tc 0, (36, .inl (fun _ => 0))))] := hD
  refine lv_aload_n hx hb zd_1_17 rfl (lv_at hl 0 rfl) ?_
  refine lv_bipush (v := 36) hx hb zd_1_18 (by decide) ?_
  refine zl_newa (atype := .int) (ty := .int) (a0 := (36, .inl (fun _ => 0))) hx hb (htg _ zk_a0) rfl (fun _ _ h => h) 0 rfl hK hP hD hS hA (fun _ => rfl) (by decide) (by decide) (Nat.le_of_ble_eq_true rfl) (Nat.le_of_ble_eq_true rfl) (Nat.le_of_ble_eq_true rfl) zd_1_20 (fun q2 H hP hD hS => ?_)
  have hP : va_P D zt_cl [(h0, .inr (1, [.int 2, .int 0, .ref q1, .null])), (q1, .inl (tc 0, (36, .inl (fun _ => 0)))), (q2, .inl (tc 0, (36, .inl (fun _ => 0))))] H := hP
  have hD : va_D A [(h0, .inr (1, [.int 2, .int 0, .ref q1, .null])), (q1, .inl (tc 0, (36, .inl (fun _ => 0)))), (q2, .inl (tc 0, (36, .inl (fun _ => 0))))] := hD
  refine W.widen (k := 2) (n := 72) (Nat.le_of_ble_eq_true rfl) (Nat.le_of_ble_eq_true rfl) ?_
  refine va_putF (D := D) (ci := 1) (v := .ref q2) (ty := .array .int) (C := zt_R1) (T := zt_T1) (N := 4) hx hb htg zt_l1 zt_y1 zt_yo1 zt_n1 hown hK hP hD hS 0 rfl rfl 3 (by decide) (htg _ zk_l1_19) (fun _ h9 => h9) rfl hin rfl (by decide +kernel) rfl rfl (Nat.le_of_ble_eq_true rfl) zd_1_22 (fun H locs hP hD hS => ?_)
  have hP : va_P D zt_cl [(h0, .inr (1, [.int 2, .int 0, .ref q1, .ref q2])), (q1, .inl (tc 0, (36, .inl (fun _ => 0)))), (q2, .inl (tc 0, (36, .inl (fun _ => 0))))] H := hP
  have hD : va_D A [(h0, .inr (1, [.int 2, .int 0, .ref q1, .ref q2])), (q1, .inl (tc 0, (36, .inl (fun _ => 0)))), (q2, .inl (tc 0, (36, .inl (fun _ => 0))))] := hD
  exact W.vret hx hb hr (fun t ht hW => ⟨⟨[(h0, .inr (1, [.int 2, .int 0, .ref q1, .ref q2])), (q1, .inl (tc 0, (36, .inl (fun _ => 0)))), (q2, .inl (tc 0, (36, .inl (fun _ => 0))))], rfl, ⟨q1, q2, rfl⟩, by rw [ht]; exact hP, hD⟩, hS.F ht⟩) hS.2.2 zd_1_25
set_option maxHeartbeats 4000000 in
set_option maxRecDepth 100000 in
theorem zk_c3 (l : Launch) (D : va_G) (tc : Nat → ClassId) (h0 sz : Nat) : Met l zk_y3 (zk_ws zk_y3 zk_b3 1) { frames := 1, cells := 6, slots := 2346, locals := 12 } (zk_Pc D tc [.ref h0] [(h0, .inr (3, [.int 0, .int 0, .int 0, .null, .null, .null, .null, .null, .int 0, .int 0, .null]))] sz) (zk_Qc D [(h0, .inr (3, [.int 0, .int 0, .int 0, .null, .null, .null, .null, .null, .int 0, .int 0, .null]))] sz (fun w => ∃ q1 q2 q3 q4 q5 q6 : Nat, w = [(h0, .inr (3, [.int 2, .int 0, .int 0, .ref q1, .ref q2, .ref q3, .ref q4, .ref q5, .int 0, .int 0, .ref q6])), (q1, .inl (tc 0, (936, .inl (fun _ => 0)))), (q2, .inl (tc 0, (936, .inl (fun _ => 0)))), (q3, .inl (tc 0, (156, .inl (fun _ => 0)))), (q4, .inl (tc 0, (156, .inl (fun _ => 0)))), (q5, .inl (tc 0, (156, .inl (fun _ => 0)))), (q6, .inl (tc 0, (6, .inl (fun _ => 0))))])) 6 2346 (va_A [(h0, .inr (3, [.int 0, .int 0, .int 0, .null, .null, .null, .null, .null, .int 0, .int 0, .null]))] sz) := by
  refine Met.ofW (cc := zk_b3) (maxL := 1) (ret := none) (by decide +kernel) rfl ?_
  intro p e s m args below meth c s₁ B hml hv
  obtain ⟨rfl, hsz, hP, hK, hD0, hNw⟩ := hv
  have hx := B.exec
  have hb := B.bytes
  have hr := B.returns
  have hts := atoms_spec (ws := zk_ws zk_y3 zk_b3 1) B.pre
  have htg : ∀ w ∈ zt_gw, w.before _ s = true := fun w h => hts w (List.mem_cons_of_mem _ h)
  have hown : s.vm.findClass zt_R3 = some m.cls := findClass_of_methodNamed B.named
  have hlocks := B.notSynchronized
  have hin : meth.name = "<init>" := (name_of_methodNamed B.named B.method).1
  subst hsz
  have hD := hD0.self (sz := s.heap.size)
  unfold zk_Qc
  generalize hAe : va_A [(h0, .inr (3, [.int 0, .int 0, .int 0, .null, .null, .null, .null, .null, .int 0, .int 0, .null]))] s.heap.size = A at hD ⊢
  have hA : ∀ q : Nat, s.heap.size ≤ q → A q := fun q h => by rw [← hAe]; exact Or.inr h
  have hS : va_S A s.heap s.heap [] := va_S.rf
  have hl := lv_entry ([.ref h0]) (n := 1) (Nat.le_of_ble_eq_true rfl)
  rw [lg_entry_eq]
  generalize (lg_sl ([.ref h0]) ++ List.replicate (1 - (lg_sl ([.ref h0])).length) Slot.unset).toArray = ls at hl ⊢
  have hl : lv_has ls 1 [(0, .ref h0)] := hl
  refine lv_aload_n hx hb zd_3_0 rfl (lv_at hl 0 rfl) ?_
  refine W.objInit hx hb hown (htg _ zk_o3) (htg _ zk_oi) (htg _ zk_oc) rfl (by rw [hml]; exact hl.1) rfl zd_3_1 (Nat.le_of_ble_eq_true rfl) (Nat.le_of_ble_eq_true rfl) ?_
  refine W.eq (g2 := F0 m 4 ls []) rfl ?_
  refine lv_aload_n hx hb zd_3_4 rfl (lv_at hl 0 rfl) ?_
  refine lv_iconst (v := 2) hx hb zd_3_5 (by decide) ?_
  refine va_put (D := D) (ci := 3) (v := .int 2) (ty := .int) (C := zt_R3) (T := zt_T3) (N := 11) hx hb htg zt_l3 zt_y3 zt_yo3 zt_n3 hown hK hP hD hS 0 rfl rfl 0 (by decide) (htg _ zk_l3_9) (fun _ h9 => h9) rfl (by decide +kernel) rfl rfl (Nat.le_of_ble_eq_true rfl) zd_3_6 (fun H locs hP hD hS => ?_)
  have hP : va_P D zt_cl [(h0, .inr (3, [.int 2, .int 0, .int 0, .null, .null, .null, .null, .null, .int 0, .int 0, .null]))] H := hP
  have hD : va_D A [(h0, .inr (3, [.int 2, .int 0, .int 0, .null, .null, .null, .null, .null, .int 0, .int 0, .null]))] := hD
  refine lv_aload_n hx hb zd_3_9 rfl (lv_at hl 0 rfl) ?_
  refine lv_sipush (v := 936) hx hb zd_3_10 (by decide) ?_
  refine zl_newa (atype := .int) (ty := .int) (a0 := (936, .inl (fun _ => 0))) hx hb (htg _ zk_a0) rfl (fun _ _ h => h) 0 rfl hK hP hD hS hA (fun _ => rfl) (by decide) (by decide) (Nat.le_of_ble_eq_true rfl) (Nat.le_of_ble_eq_true rfl) (Nat.le_of_ble_eq_true rfl) zd_3_13 (fun q1 H hP hD hS => ?_)
  have hP : va_P D zt_cl [(h0, .inr (3, [.int 2, .int 0, .int 0, .null, .null, .null, .null, .null, .int 0, .int 0, .null])), (q1, .inl (tc 0, (936, .inl (fun _ => 0))))] H := hP
  have hD : va_D A [(h0, .inr (3, [.int 2, .int 0, .int 0, .null, .null, .null, .null, .null, .int 0, .int 0, .null])), (q1, .inl (tc 0, (936, .inl (fun _ => 0))))] := hD
  refine W.widen (k := 1) (n := 936) (Nat.le_of_ble_eq_true rfl) (Nat.le_of_ble_eq_true rfl) ?_
  refine va_putF (D := D) (ci := 3) (v := .ref q1) (ty := .array .int) (C := zt_R3) (T := zt_T3) (N := 11) hx hb htg zt_l3 zt_y3 zt_yo3 zt_n3 hown hK hP hD hS 0 rfl rfl 3 (by decide) (htg _ zk_l3_15) (fun _ h9 => h9) rfl hin rfl (by decide +kernel) rfl rfl (Nat.le_of_ble_eq_true rfl) zd_3_15 (fun H locs hP hD hS => ?_)
  have hP : va_P D zt_cl [(h0, .inr (3, [.int 2, .int 0, .int 0, .ref q1, .null, .null, .null, .null, .int 0, .int 0, .null])), (q1, .inl (tc 0, (936, .inl (fun _ => 0))))] H := hP
  have hD : va_D A [(h0, .inr (3, [.int 2, .int 0, .int 0, .ref q1, .null, .null, .null, .null, .int 0, .int 0, .null])), (q1, .inl (tc 0, (936, .inl (fun _ => 0))))] := hD
  refine lv_aload_n hx hb zd_3_18 rfl (lv_at hl 0 rfl) ?_
  refine lv_sipush (v := 936) hx hb zd_3_19 (by decide) ?_
  refine zl_newa (atype := .int) (ty := .int) (a0 := (936, .inl (fun _ => 0))) hx hb (htg _ zk_a0) rfl (fun _ _ h => h) 0 rfl hK hP hD hS hA (fun _ => rfl) (by decide) (by decide) (Nat.le_of_ble_eq_true rfl) (Nat.le_of_ble_eq_true rfl) (Nat.le_of_ble_eq_true rfl) zd_3_22 (fun q2 H hP hD hS => ?_)
  have hP : va_P D zt_cl [(h0, .inr (3, [.int 2, .int 0, .int 0, .ref q1, .null, .null, .null, .null, .int 0, .int 0, .null])), (q1, .inl (tc 0, (936, .inl (fun _ => 0)))), (q2, .inl (tc 0, (936, .inl (fun _ => 0))))] H := hP
  have hD : va_D A [(h0, .inr (3, [.int 2, .int 0, .int 0, .ref q1, .null, .null, .null, .null, .int 0, .int 0, .null])), (q1, .inl (tc 0, (936, .inl (fun _ => 0)))), (q2, .inl (tc 0, (936, .inl (fun _ => 0))))] := hD
  refine W.widen (k := 2) (n := 1872) (Nat.le_of_ble_eq_true rfl) (Nat.le_of_ble_eq_true rfl) ?_
  refine va_putF (D := D) (ci := 3) (v := .ref q2) (ty := .array .int) (C := zt_R3) (T := zt_T3) (N := 11) hx hb htg zt_l3 zt_y3 zt_yo3 zt_n3 hown hK hP hD hS 0 rfl rfl 4 (by decide) (htg _ zk_l3_19) (fun _ h9 => h9) rfl hin rfl (by decide +kernel) rfl rfl (Nat.le_of_ble_eq_true rfl) zd_3_24 (fun H locs hP hD hS => ?_)
  have hP : va_P D zt_cl [(h0, .inr (3, [.int 2, .int 0, .int 0, .ref q1, .ref q2, .null, .null, .null, .int 0, .int 0, .null])), (q1, .inl (tc 0, (936, .inl (fun _ => 0)))), (q2, .inl (tc 0, (936, .inl (fun _ => 0))))] H := hP
  have hD : va_D A [(h0, .inr (3, [.int 2, .int 0, .int 0, .ref q1, .ref q2, .null, .null, .null, .int 0, .int 0, .null])), (q1, .inl (tc 0, (936, .inl (fun _ => 0)))), (q2, .inl (tc 0, (936, .inl (fun _ => 0))))] := hD
  refine lv_aload_n hx hb zd_3_27 rfl (lv_at hl 0 rfl) ?_
  refine lv_sipush (v := 156) hx hb zd_3_28 (by decide) ?_
  refine zl_newa (atype := .int) (ty := .int) (a0 := (156, .inl (fun _ => 0))) hx hb (htg _ zk_a0) rfl (fun _ _ h => h) 0 rfl hK hP hD hS hA (fun _ => rfl) (by decide) (by decide) (Nat.le_of_ble_eq_true rfl) (Nat.le_of_ble_eq_true rfl) (Nat.le_of_ble_eq_true rfl) zd_3_31 (fun q3 H hP hD hS => ?_)
  have hP : va_P D zt_cl [(h0, .inr (3, [.int 2, .int 0, .int 0, .ref q1, .ref q2, .null, .null, .null, .int 0, .int 0, .null])), (q1, .inl (tc 0, (936, .inl (fun _ => 0)))), (q2, .inl (tc 0, (936, .inl (fun _ => 0)))), (q3, .inl (tc 0, (156, .inl (fun _ => 0))))] H := hP
  have hD : va_D A [(h0, .inr (3, [.int 2, .int 0, .int 0, .ref q1, .ref q2, .null, .null, .null, .int 0, .int 0, .null])), (q1, .inl (tc 0, (936, .inl (fun _ => 0)))), (q2, .inl (tc 0, (936, .inl (fun _ => 0)))), (q3, .inl (tc 0, (156, .inl (fun _ => 0))))] := hD
  refine W.widen (k := 3) (n := 2028) (Nat.le_of_ble_eq_true rfl) (Nat.le_of_ble_eq_true rfl) ?_
  refine va_putF (D := D) (ci := 3) (v := .ref q3) (ty := .array .int) (C := zt_R3) (T := zt_T3) (N := 11) hx hb htg zt_l3 zt_y3 zt_yo3 zt_n3 hown hK hP hD hS 0 rfl rfl 5 (by decide) (htg _ zk_l3_22) (fun _ h9 => h9) rfl hin rfl (by decide +kernel) rfl rfl (Nat.le_of_ble_eq_true rfl) zd_3_33 (fun H locs hP hD hS => ?_)
  have hP : va_P D zt_cl [(h0, .inr (3, [.int 2, .int 0, .int 0, .ref q1, .ref q2, .ref q3, .null, .null, .int 0, .int 0, .null])), (q1, .inl (tc 0, (936, .inl (fun _ => 0)))), (q2, .inl (tc 0, (936, .inl (fun _ => 0)))), (q3, .inl (tc 0, (156, .inl (fun _ => 0))))] H := hP
  have hD : va_D A [(h0, .inr (3, [.int 2, .int 0, .int 0, .ref q1, .ref q2, .ref q3, .null, .null, .int 0, .int 0, .null])), (q1, .inl (tc 0, (936, .inl (fun _ => 0)))), (q2, .inl (tc 0, (936, .inl (fun _ => 0)))), (q3, .inl (tc 0, (156, .inl (fun _ => 0))))] := hD
  refine lv_aload_n hx hb zd_3_36 rfl (lv_at hl 0 rfl) ?_
  refine lv_sipush (v := 156) hx hb zd_3_37 (by decide) ?_
  refine zl_newa (atype := .int) (ty := .int) (a0 := (156, .inl (fun _ => 0))) hx hb (htg _ zk_a0) rfl (fun _ _ h => h) 0 rfl hK hP hD hS hA (fun _ => rfl) (by decide) (by decide) (Nat.le_of_ble_eq_true rfl) (Nat.le_of_ble_eq_true rfl) (Nat.le_of_ble_eq_true rfl) zd_3_40 (fun q4 H hP hD hS => ?_)
  have hP : va_P D zt_cl [(h0, .inr (3, [.int 2, .int 0, .int 0, .ref q1, .ref q2, .ref q3, .null, .null, .int 0, .int 0, .null])), (q1, .inl (tc 0, (936, .inl (fun _ => 0)))), (q2, .inl (tc 0, (936, .inl (fun _ => 0)))), (q3, .inl (tc 0, (156, .inl (fun _ => 0)))), (q4, .inl (tc 0, (156, .inl (fun _ => 0))))] H := hP
  have hD : va_D A [(h0, .inr (3, [.int 2, .int 0, .int 0, .ref q1, .ref q2, .ref q3, .null, .null, .int 0, .int 0, .null])), (q1, .inl (tc 0, (936, .inl (fun _ => 0)))), (q2, .inl (tc 0, (936, .inl (fun _ => 0)))), (q3, .inl (tc 0, (156, .inl (fun _ => 0)))), (q4, .inl (tc 0, (156, .inl (fun _ => 0))))] := hD
  refine W.widen (k := 4) (n := 2184) (Nat.le_of_ble_eq_true rfl) (Nat.le_of_ble_eq_true rfl) ?_
  refine va_putF (D := D) (ci := 3) (v := .ref q4) (ty := .array .int) (C := zt_R3) (T := zt_T3) (N := 11) hx hb htg zt_l3 zt_y3 zt_yo3 zt_n3 hown hK hP hD hS 0 rfl rfl 6 (by decide) (htg _ zk_l3_25) (fun _ h9 => h9) rfl hin rfl (by decide +kernel) rfl rfl (Nat.le_of_ble_eq_true rfl) zd_3_42 (fun H locs hP hD hS => ?_)
  have hP : va_P D zt_cl [(h0, .inr (3, [.int 2, .int 0, .int 0, .ref q1, .ref q2, .ref q3, .ref q4, .null, .int 0, .int 0, .null])), (q1, .inl (tc 0, (936, .inl (fun _ => 0)))), (q2, .inl (tc 0, (936, .inl (fun _ => 0)))), (q3, .inl (tc 0, (156, .inl (fun _ => 0)))), (q4, .inl (tc 0, (156, .inl (fun _ => 0))))] H := hP
  have hD : va_D A [(h0, .inr (3, [.int 2, .int 0, .int 0, .ref q1, .ref q2, .ref q3, .ref q4, .null, .int 0, .int 0, .null])), (q1, .inl (tc 0, (936, .inl (fun _ => 0)))), (q2, .inl (tc 0, (936, .inl (fun _ => 0)))), (q3, .inl (tc 0, (156, .inl (fun _ => 0)))), (q4, .inl (tc 0, (156, .inl (fun _ => 0))))] := hD
  refine lv_aload_n hx hb zd_3_45 rfl (lv_at hl 0 rfl) ?_
  refine lv_sipush (v := 156) hx hb zd_3_46 (by decide) ?_
  refine zl_newa (atype := .int) (ty := .int) (a0 := (156, .inl (fun _ => 0))) hx hb (htg _ zk_a0) rfl (fun _ _ h => h) 0 rfl hK hP hD hS hA (fun _ => rfl) (by decide) (by decide) (Nat.le_of_ble_eq_true rfl) (Nat.le_of_ble_eq_true rfl) (Nat.le_of_ble_eq_true rfl) zd_3_49 (fun q5 H hP hD hS => ?_)
  have hP : va_P D zt_cl [(h0, .inr (3, [.int 2, .int 0, .int 0, .ref q1, .ref q2, .ref q3, .ref q4, .null, .int 0, .int 0, .null])), (q1, .inl (tc 0, (936, .inl (fun _ => 0)))), (q2, .inl (tc 0, (936, .inl (fun _ => 0)))), (q3, .inl (tc 0, (156, .inl (fun _ => 0)))), (q4, .inl (tc 0, (156, .inl (fun _ => 0)))), (q5, .inl (tc 0, (156, .inl (fun _ => 0))))] H := hP
  have hD : va_D A [(h0, .inr (3, [.int 2, .int 0, .int 0, .ref q1, .ref q2, .ref q3, .ref q4, .null, .int 0, .int 0, .null])), (q1, .inl (tc 0, (936, .inl (fun _ => 0)))), (q2, .inl (tc 0, (936, .inl (fun _ => 0)))), (q3, .inl (tc 0, (156, .inl (fun _ => 0)))), (q4, .inl (tc 0, (156, .inl (fun _ => 0)))), (q5, .inl (tc 0, (156, .inl (fun _ => 0))))] := hD
  refine W.widen (k := 5) (n := 2340) (Nat.le_of_ble_eq_true rfl) (Nat.le_of_ble_eq_true rfl) ?_
  refine va_putF (D := D) (ci := 3) (v := .ref q5) (ty := .array .int) (C := zt_R3) (T := zt_T3) (N := 11) hx hb htg zt_l3 zt_y3 zt_yo3 zt_n3 hown hK hP hD hS 0 rfl rfl 7 (by decide) (htg _ zk_l3_28) (fun _ h9 => h9) rfl hin rfl (by decide +kernel) rfl rfl (Nat.le_of_ble_eq_true rfl) zd_3_51 (fun H locs hP hD hS => ?_)
  have hP : va_P D zt_cl [(h0, .inr (3, [.int 2, .int 0, .int 0, .ref q1, .ref q2, .ref q3, .ref q4, .ref q5, .int 0, .int 0, .null])), (q1, .inl (tc 0, (936, .inl (fun _ => 0)))), (q2, .inl (tc 0, (936, .inl (fun _ => 0)))), (q3, .inl (tc 0, (156, .inl (fun _ => 0)))), (q4, .inl (tc 0, (156, .inl (fun _ => 0)))), (q5, .inl (tc 0, (156, .inl (fun _ => 0))))] H := hP
  have hD : va_D A [(h0, .inr (3, [.int 2, .int 0, .int 0, .ref q1, .ref q2, .ref q3, .ref q4, .ref q5, .int 0, .int 0, .null])), (q1, .inl (tc 0, (936, .inl (fun _ => 0)))), (q2, .inl (tc 0, (936, .inl (fun _ => 0)))), (q3, .inl (tc 0, (156, .inl (fun _ => 0)))), (q4, .inl (tc 0, (156, .inl (fun _ => 0)))), (q5, .inl (tc 0, (156, .inl (fun _ => 0))))] := hD
  refine lv_aload_n hx hb zd_3_54 rfl (lv_at hl 0 rfl) ?_
  refine lv_bipush (v := 6) hx hb zd_3_55 (by decide) ?_
  refine zl_newa (atype := .int) (ty := .int) (a0 := (6, .inl (fun _ => 0))) hx hb (htg _ zk_a0) rfl (fun _ _ h => h) 0 rfl hK hP hD hS hA (fun _ => rfl) (by decide) (by decide) (Nat.le_of_ble_eq_true rfl) (Nat.le_of_ble_eq_true rfl) (Nat.le_of_ble_eq_true rfl) zd_3_57 (fun q6 H hP hD hS => ?_)
  have hP : va_P D zt_cl [(h0, .inr (3, [.int 2, .int 0, .int 0, .ref q1, .ref q2, .ref q3, .ref q4, .ref q5, .int 0, .int 0, .null])), (q1, .inl (tc 0, (936, .inl (fun _ => 0)))), (q2, .inl (tc 0, (936, .inl (fun _ => 0)))), (q3, .inl (tc 0, (156, .inl (fun _ => 0)))), (q4, .inl (tc 0, (156, .inl (fun _ => 0)))), (q5, .inl (tc 0, (156, .inl (fun _ => 0)))), (q6, .inl (tc 0, (6, .inl (fun _ => 0))))] H := hP
  have hD : va_D A [(h0, .inr (3, [.int 2, .int 0, .int 0, .ref q1, .ref q2, .ref q3, .ref q4, .ref q5, .int 0, .int 0, .null])), (q1, .inl (tc 0, (936, .inl (fun _ => 0)))), (q2, .inl (tc 0, (936, .inl (fun _ => 0)))), (q3, .inl (tc 0, (156, .inl (fun _ => 0)))), (q4, .inl (tc 0, (156, .inl (fun _ => 0)))), (q5, .inl (tc 0, (156, .inl (fun _ => 0)))), (q6, .inl (tc 0, (6, .inl (fun _ => 0))))] := hD
  refine W.widen (k := 6) (n := 2346) (Nat.le_of_ble_eq_true rfl) (Nat.le_of_ble_eq_true rfl) ?_
  refine va_putF (D := D) (ci := 3) (v := .ref q6) (ty := .array .int) (C := zt_R3) (T := zt_T3) (N := 11) hx hb htg zt_l3 zt_y3 zt_yo3 zt_n3 hown hK hP hD hS 0 rfl rfl 10 (by decide) (htg _ zk_l3_31) (fun _ h9 => h9) rfl hin rfl (by decide +kernel) rfl rfl (Nat.le_of_ble_eq_true rfl) zd_3_59 (fun H locs hP hD hS => ?_)
  have hP : va_P D zt_cl [(h0, .inr (3, [.int 2, .int 0, .int 0, .ref q1, .ref q2, .ref q3, .ref q4, .ref q5, .int 0, .int 0, .ref q6])), (q1, .inl (tc 0, (936, .inl (fun _ => 0)))), (q2, .inl (tc 0, (936, .inl (fun _ => 0)))), (q3, .inl (tc 0, (156, .inl (fun _ => 0)))), (q4, .inl (tc 0, (156, .inl (fun _ => 0)))), (q5, .inl (tc 0, (156, .inl (fun _ => 0)))), (q6, .inl (tc 0, (6, .inl (fun _ => 0))))] H := hP
  have hD : va_D A [(h0, .inr (3, [.int 2, .int 0, .int 0, .ref q1, .ref q2, .ref q3, .ref q4, .ref q5, .int 0, .int 0, .ref q6])), (q1, .inl (tc 0, (936, .inl (fun _ => 0)))), (q2, .inl (tc 0, (936, .inl (fun _ => 0)))), (q3, .inl (tc 0, (156, .inl (fun _ => 0)))), (q4, .inl (tc 0, (156, .inl (fun _ => 0)))), (q5, .inl (tc 0, (156, .inl (fun _ => 0)))), (q6, .inl (tc 0, (6, .inl (fun _ => 0))))] := hD
  exact W.vret hx hb hr (fun t ht hW => ⟨⟨[(h0, .inr (3, [.int 2, .int 0, .int 0, .ref q1, .ref q2, .ref q3, .ref q4, .ref q5, .int 0, .int 0, .ref q6])), (q1, .inl (tc 0, (936, .inl (fun _ => 0)))), (q2, .inl (tc 0, (936, .inl (fun _ => 0)))), (q3, .inl (tc 0, (156, .inl (fun _ => 0)))), (q4, .inl (tc 0, (156, .inl (fun _ => 0)))), (q5, .inl (tc 0, (156, .inl (fun _ => 0)))), (q6, .inl (tc 0, (6, .inl (fun _ => 0))))], rfl, ⟨q1, q2, q3, q4, q5, q6, rfl⟩, by rw [ht]; exact hP, hD⟩, hS.F ht⟩) hS.2.2 zd_3_62
set_option maxHeartbeats 4000000 in
set_option maxRecDepth 100000 in
theorem zk_c0 (l : Launch) (D : va_G) (tc : Nat → ClassId) (h0 sz : Nat) : Met l zk_y0 (zk_ws zk_y0 zk_b0 1) { frames := 1, cells := 3, slots := 199, locals := 12 } (zk_Pc D tc [.ref h0] [(h0, .inr (0, [.null, .null, .null, .int 0, .int 0, .int 0]))] sz) (zk_Qc D [(h0, .inr (0, [.null, .null, .null, .int 0, .int 0, .int 0]))] sz (fun w => ∃ q1 q2 q3 : Nat, w = [(h0, .inr (0, [.ref q1, .ref q2, .ref q3, .int 0, .int 0, .int 0])), (q1, .inl (tc 1, (64, .inr (.inl (fun _ => 0))))), (q2, .inl (tc 1, (105, .inr (.inl (fun _ => 0))))), (q3, .inl (tc 1, (30, .inr (.inl (fun _ => 0)))))])) 3 199 (va_A [(h0, .inr (0, [.null, .null, .null, .int 0, .int 0, .int 0]))] sz) := by
  refine Met.ofW (cc := zk_b0) (maxL := 1) (ret := none) (by decide +kernel) rfl ?_
  intro p e s m args below meth c s₁ B hml hv
  obtain ⟨rfl, hsz, hP, hK, hD0, hNw⟩ := hv
  have hx := B.exec
  have hb := B.bytes
  have hr := B.returns
  have hts := atoms_spec (ws := zk_ws zk_y0 zk_b0 1) B.pre
  have htg : ∀ w ∈ zt_gw, w.before _ s = true := fun w h => hts w (List.mem_cons_of_mem _ h)
  have hown : s.vm.findClass zt_R0 = some m.cls := findClass_of_methodNamed B.named
  have hlocks := B.notSynchronized
  have hin : meth.name = "<init>" := (name_of_methodNamed B.named B.method).1
  subst hsz
  have hD := hD0.self (sz := s.heap.size)
  unfold zk_Qc
  generalize hAe : va_A [(h0, .inr (0, [.null, .null, .null, .int 0, .int 0, .int 0]))] s.heap.size = A at hD ⊢
  have hA : ∀ q : Nat, s.heap.size ≤ q → A q := fun q h => by rw [← hAe]; exact Or.inr h
  have hS : va_S A s.heap s.heap [] := va_S.rf
  have hl := lv_entry ([.ref h0]) (n := 1) (Nat.le_of_ble_eq_true rfl)
  rw [lg_entry_eq]
  generalize (lg_sl ([.ref h0]) ++ List.replicate (1 - (lg_sl ([.ref h0])).length) Slot.unset).toArray = ls at hl ⊢
  have hl : lv_has ls 1 [(0, .ref h0)] := hl
  refine lv_aload_n hx hb zd_0_0 rfl (lv_at hl 0 rfl) ?_
  refine W.objInit hx hb hown (htg _ zk_o0) (htg _ zk_oi) (htg _ zk_oc) rfl (by rw [hml]; exact hl.1) rfl zd_0_1 (Nat.le_of_ble_eq_true rfl) (Nat.le_of_ble_eq_true rfl) ?_
  refine W.eq (g2 := F0 m 4 ls []) rfl ?_
  refine lv_aload_n hx hb zd_0_4 rfl (lv_at hl 0 rfl) ?_
  refine lv_bipush (v := 64) hx hb zd_0_5 (by decide) ?_
  refine zl_newa (atype := .long) (ty := .long) (a0 := (64, .inr (.inl (fun _ => 0)))) hx hb (htg _ zk_a1) rfl (fun _ _ h => h) 1 rfl hK hP hD hS hA (fun _ => rfl) (by decide) (by decide) (Nat.le_of_ble_eq_true rfl) (Nat.le_of_ble_eq_true rfl) (Nat.le_of_ble_eq_true rfl) zd_0_7 (fun q1 H hP hD hS => ?_)
  have hP : va_P D zt_cl [(h0, .inr (0, [.null, .null, .null, .int 0, .int 0, .int 0])), (q1, .inl (tc 1, (64, .inr (.inl (fun _ => 0)))))] H := hP
  have hD : va_D A [(h0, .inr (0, [.null, .null, .null, .int 0, .int 0, .int 0])), (q1, .inl (tc 1, (64, .inr (.inl (fun _ => 0)))))] := hD
  refine W.widen (k := 1) (n := 64) (Nat.le_of_ble_eq_true rfl) (Nat.le_of_ble_eq_true rfl) ?_
  refine va_putF (D := D) (ci := 0) (v := .ref q1) (ty := .array .long) (C := zt_R0) (T := zt_T0) (N := 6) hx hb htg zt_l0 zt_y0 zt_yo0 zt_n0 hown hK hP hD hS 0 rfl rfl 0 (by decide) (htg _ zk_l0_9) (fun _ h9 => h9) rfl hin rfl (by decide +kernel) rfl rfl (Nat.le_of_ble_eq_true rfl) zd_0_9 (fun H locs hP hD hS => ?_)
  have hP : va_P D zt_cl [(h0, .inr (0, [.ref q1, .null, .null, .int 0, .int 0, .int 0])), (q1, .inl (tc 1, (64, .inr (.inl (fun _ => 0)))))] H := hP
  have hD : va_D A [(h0, .inr (0, [.ref q1, .null, .null, .int 0, .int 0, .int 0])), (q1, .inl (tc 1, (64, .inr (.inl (fun _ => 0)))))] := hD
  refine lv_aload_n hx hb zd_0_12 rfl (lv_at hl 0 rfl) ?_
  refine lv_bipush (v := 105) hx hb zd_0_13 (by decide) ?_
  refine zl_newa (atype := .long) (ty := .long) (a0 := (105, .inr (.inl (fun _ => 0)))) hx hb (htg _ zk_a1) rfl (fun _ _ h => h) 1 rfl hK hP hD hS hA (fun _ => rfl) (by decide) (by decide) (Nat.le_of_ble_eq_true rfl) (Nat.le_of_ble_eq_true rfl) (Nat.le_of_ble_eq_true rfl) zd_0_15 (fun q2 H hP hD hS => ?_)
  have hP : va_P D zt_cl [(h0, .inr (0, [.ref q1, .null, .null, .int 0, .int 0, .int 0])), (q1, .inl (tc 1, (64, .inr (.inl (fun _ => 0))))), (q2, .inl (tc 1, (105, .inr (.inl (fun _ => 0)))))] H := hP
  have hD : va_D A [(h0, .inr (0, [.ref q1, .null, .null, .int 0, .int 0, .int 0])), (q1, .inl (tc 1, (64, .inr (.inl (fun _ => 0))))), (q2, .inl (tc 1, (105, .inr (.inl (fun _ => 0)))))] := hD
  refine W.widen (k := 2) (n := 169) (Nat.le_of_ble_eq_true rfl) (Nat.le_of_ble_eq_true rfl) ?_
  refine va_putF (D := D) (ci := 0) (v := .ref q2) (ty := .array .long) (C := zt_R0) (T := zt_T0) (N := 6) hx hb htg zt_l0 zt_y0 zt_yo0 zt_n0 hown hK hP hD hS 0 rfl rfl 1 (by decide) (htg _ zk_l0_15) (fun _ h9 => h9) rfl hin rfl (by decide +kernel) rfl rfl (Nat.le_of_ble_eq_true rfl) zd_0_17 (fun H locs hP hD hS => ?_)
  have hP : va_P D zt_cl [(h0, .inr (0, [.ref q1, .ref q2, .null, .int 0, .int 0, .int 0])), (q1, .inl (tc 1, (64, .inr (.inl (fun _ => 0))))), (q2, .inl (tc 1, (105, .inr (.inl (fun _ => 0)))))] H := hP
  have hD : va_D A [(h0, .inr (0, [.ref q1, .ref q2, .null, .int 0, .int 0, .int 0])), (q1, .inl (tc 1, (64, .inr (.inl (fun _ => 0))))), (q2, .inl (tc 1, (105, .inr (.inl (fun _ => 0)))))] := hD
  refine lv_aload_n hx hb zd_0_20 rfl (lv_at hl 0 rfl) ?_
  refine lv_bipush (v := 30) hx hb zd_0_21 (by decide) ?_
  refine zl_newa (atype := .long) (ty := .long) (a0 := (30, .inr (.inl (fun _ => 0)))) hx hb (htg _ zk_a1) rfl (fun _ _ h => h) 1 rfl hK hP hD hS hA (fun _ => rfl) (by decide) (by decide) (Nat.le_of_ble_eq_true rfl) (Nat.le_of_ble_eq_true rfl) (Nat.le_of_ble_eq_true rfl) zd_0_23 (fun q3 H hP hD hS => ?_)
  have hP : va_P D zt_cl [(h0, .inr (0, [.ref q1, .ref q2, .null, .int 0, .int 0, .int 0])), (q1, .inl (tc 1, (64, .inr (.inl (fun _ => 0))))), (q2, .inl (tc 1, (105, .inr (.inl (fun _ => 0))))), (q3, .inl (tc 1, (30, .inr (.inl (fun _ => 0)))))] H := hP
  have hD : va_D A [(h0, .inr (0, [.ref q1, .ref q2, .null, .int 0, .int 0, .int 0])), (q1, .inl (tc 1, (64, .inr (.inl (fun _ => 0))))), (q2, .inl (tc 1, (105, .inr (.inl (fun _ => 0))))), (q3, .inl (tc 1, (30, .inr (.inl (fun _ => 0)))))] := hD
  refine W.widen (k := 3) (n := 199) (Nat.le_of_ble_eq_true rfl) (Nat.le_of_ble_eq_true rfl) ?_
  refine va_putF (D := D) (ci := 0) (v := .ref q3) (ty := .array .long) (C := zt_R0) (T := zt_T0) (N := 6) hx hb htg zt_l0 zt_y0 zt_yo0 zt_n0 hown hK hP hD hS 0 rfl rfl 2 (by decide) (htg _ zk_l0_18) (fun _ h9 => h9) rfl hin rfl (by decide +kernel) rfl rfl (Nat.le_of_ble_eq_true rfl) zd_0_25 (fun H locs hP hD hS => ?_)
  have hP : va_P D zt_cl [(h0, .inr (0, [.ref q1, .ref q2, .ref q3, .int 0, .int 0, .int 0])), (q1, .inl (tc 1, (64, .inr (.inl (fun _ => 0))))), (q2, .inl (tc 1, (105, .inr (.inl (fun _ => 0))))), (q3, .inl (tc 1, (30, .inr (.inl (fun _ => 0)))))] H := hP
  have hD : va_D A [(h0, .inr (0, [.ref q1, .ref q2, .ref q3, .int 0, .int 0, .int 0])), (q1, .inl (tc 1, (64, .inr (.inl (fun _ => 0))))), (q2, .inl (tc 1, (105, .inr (.inl (fun _ => 0))))), (q3, .inl (tc 1, (30, .inr (.inl (fun _ => 0)))))] := hD
  exact W.vret hx hb hr (fun t ht hW => ⟨⟨[(h0, .inr (0, [.ref q1, .ref q2, .ref q3, .int 0, .int 0, .int 0])), (q1, .inl (tc 1, (64, .inr (.inl (fun _ => 0))))), (q2, .inl (tc 1, (105, .inr (.inl (fun _ => 0))))), (q3, .inl (tc 1, (30, .inr (.inl (fun _ => 0)))))], rfl, ⟨q1, q2, q3, rfl⟩, by rw [ht]; exact hP, hD⟩, hS.F ht⟩) hS.2.2 zd_0_28
set_option maxHeartbeats 4000000 in
set_option maxRecDepth 100000 in
theorem zk_c5 (l : Launch) (D : va_G) (tc : Nat → ClassId) (h0 sz : Nat) : Met l zk_y5 (zk_ws zk_y5 zk_b5 1) { frames := 1, cells := 3, slots := 192, locals := 12 } (zk_Pc D tc [.ref h0] [(h0, .inr (5, [.int 0, .null, .null, .null, .int 0]))] sz) (zk_Qc D [(h0, .inr (5, [.int 0, .null, .null, .null, .int 0]))] sz (fun w => ∃ q1 q2 q3 : Nat, w = [(h0, .inr (5, [.int 0, .ref q1, .ref q2, .ref q3, .int 0])), (q1, .inl (tc 1, (64, .inr (.inl (fun _ => 0))))), (q2, .inl (tc 1, (64, .inr (.inl (fun _ => 0))))), (q3, .inl (tc 0, (64, .inl (fun _ => 0))))])) 3 192 (va_A [(h0, .inr (5, [.int 0, .null, .null, .null, .int 0]))] sz) := by
  refine Met.ofW (cc := zk_b5) (maxL := 1) (ret := none) (by decide +kernel) rfl ?_
  intro p e s m args below meth c s₁ B hml hv
  obtain ⟨rfl, hsz, hP, hK, hD0, hNw⟩ := hv
  have hx := B.exec
  have hb := B.bytes
  have hr := B.returns
  have hts := atoms_spec (ws := zk_ws zk_y5 zk_b5 1) B.pre
  have htg : ∀ w ∈ zt_gw, w.before _ s = true := fun w h => hts w (List.mem_cons_of_mem _ h)
  have hown : s.vm.findClass zt_R5 = some m.cls := findClass_of_methodNamed B.named
  have hlocks := B.notSynchronized
  have hin : meth.name = "<init>" := (name_of_methodNamed B.named B.method).1
  subst hsz
  have hD := hD0.self (sz := s.heap.size)
  unfold zk_Qc
  generalize hAe : va_A [(h0, .inr (5, [.int 0, .null, .null, .null, .int 0]))] s.heap.size = A at hD ⊢
  have hA : ∀ q : Nat, s.heap.size ≤ q → A q := fun q h => by rw [← hAe]; exact Or.inr h
  have hS : va_S A s.heap s.heap [] := va_S.rf
  have hl := lv_entry ([.ref h0]) (n := 1) (Nat.le_of_ble_eq_true rfl)
  rw [lg_entry_eq]
  generalize (lg_sl ([.ref h0]) ++ List.replicate (1 - (lg_sl ([.ref h0])).length) Slot.unset).toArray = ls at hl ⊢
  have hl : lv_has ls 1 [(0, .ref h0)] := hl
  refine lv_aload_n hx hb zd_5_0 rfl (lv_at hl 0 rfl) ?_
  refine W.objInit hx hb hown (htg _ zk_o5) (htg _ zk_oi) (htg _ zk_oc) rfl (by rw [hml]; exact hl.1) rfl zd_5_1 (Nat.le_of_ble_eq_true rfl) (Nat.le_of_ble_eq_true rfl) ?_
  refine W.eq (g2 := F0 m 4 ls []) rfl ?_
  refine lv_aload_n hx hb zd_5_4 rfl (lv_at hl 0 rfl) ?_
  refine lv_bipush (v := 64) hx hb zd_5_5 (by decide) ?_
  refine zl_newa (atype := .long) (ty := .long) (a0 := (64, .inr (.inl (fun _ => 0)))) hx hb (htg _ zk_a1) rfl (fun _ _ h => h) 1 rfl hK hP hD hS hA (fun _ => rfl) (by decide) (by decide) (Nat.le_of_ble_eq_true rfl) (Nat.le_of_ble_eq_true rfl) (Nat.le_of_ble_eq_true rfl) zd_5_7 (fun q1 H hP hD hS => ?_)
  have hP : va_P D zt_cl [(h0, .inr (5, [.int 0, .null, .null, .null, .int 0])), (q1, .inl (tc 1, (64, .inr (.inl (fun _ => 0)))))] H := hP
  have hD : va_D A [(h0, .inr (5, [.int 0, .null, .null, .null, .int 0])), (q1, .inl (tc 1, (64, .inr (.inl (fun _ => 0)))))] := hD
  refine W.widen (k := 1) (n := 64) (Nat.le_of_ble_eq_true rfl) (Nat.le_of_ble_eq_true rfl) ?_
  refine va_putF (D := D) (ci := 5) (v := .ref q1) (ty := .array .long) (C := zt_R5) (T := zt_T5) (N := 5) hx hb htg zt_l5 zt_y5 zt_yo5 zt_n5 hown hK hP hD hS 0 rfl rfl 1 (by decide) (htg _ zk_l5_9) (fun _ h9 => h9) rfl hin rfl (by decide +kernel) rfl rfl (Nat.le_of_ble_eq_true rfl) zd_5_9 (fun H locs hP hD hS => ?_)
  have hP : va_P D zt_cl [(h0, .inr (5, [.int 0, .ref q1, .null, .null, .int 0])), (q1, .inl (tc 1, (64, .inr (.inl (fun _ => 0)))))] H := hP
  have hD : va_D A [(h0, .inr (5, [.int 0, .ref q1, .null, .null, .int 0])), (q1, .inl (tc 1, (64, .inr (.inl (fun _ => 0)))))] := hD
  refine lv_aload_n hx hb zd_5_12 rfl (lv_at hl 0 rfl) ?_
  refine lv_bipush (v := 64) hx hb zd_5_13 (by decide) ?_
  refine zl_newa (atype := .long) (ty := .long) (a0 := (64, .inr (.inl (fun _ => 0)))) hx hb (htg _ zk_a1) rfl (fun _ _ h => h) 1 rfl hK hP hD hS hA (fun _ => rfl) (by decide) (by decide) (Nat.le_of_ble_eq_true rfl) (Nat.le_of_ble_eq_true rfl) (Nat.le_of_ble_eq_true rfl) zd_5_15 (fun q2 H hP hD hS => ?_)
  have hP : va_P D zt_cl [(h0, .inr (5, [.int 0, .ref q1, .null, .null, .int 0])), (q1, .inl (tc 1, (64, .inr (.inl (fun _ => 0))))), (q2, .inl (tc 1, (64, .inr (.inl (fun _ => 0)))))] H := hP
  have hD : va_D A [(h0, .inr (5, [.int 0, .ref q1, .null, .null, .int 0])), (q1, .inl (tc 1, (64, .inr (.inl (fun _ => 0))))), (q2, .inl (tc 1, (64, .inr (.inl (fun _ => 0)))))] := hD
  refine W.widen (k := 2) (n := 128) (Nat.le_of_ble_eq_true rfl) (Nat.le_of_ble_eq_true rfl) ?_
  refine va_putF (D := D) (ci := 5) (v := .ref q2) (ty := .array .long) (C := zt_R5) (T := zt_T5) (N := 5) hx hb htg zt_l5 zt_y5 zt_yo5 zt_n5 hown hK hP hD hS 0 rfl rfl 2 (by decide) (htg _ zk_l5_15) (fun _ h9 => h9) rfl hin rfl (by decide +kernel) rfl rfl (Nat.le_of_ble_eq_true rfl) zd_5_17 (fun H locs hP hD hS => ?_)
  have hP : va_P D zt_cl [(h0, .inr (5, [.int 0, .ref q1, .ref q2, .null, .int 0])), (q1, .inl (tc 1, (64, .inr (.inl (fun _ => 0))))), (q2, .inl (tc 1, (64, .inr (.inl (fun _ => 0)))))] H := hP
  have hD : va_D A [(h0, .inr (5, [.int 0, .ref q1, .ref q2, .null, .int 0])), (q1, .inl (tc 1, (64, .inr (.inl (fun _ => 0))))), (q2, .inl (tc 1, (64, .inr (.inl (fun _ => 0)))))] := hD
  refine lv_aload_n hx hb zd_5_20 rfl (lv_at hl 0 rfl) ?_
  refine lv_bipush (v := 64) hx hb zd_5_21 (by decide) ?_
  refine zl_newa (atype := .int) (ty := .int) (a0 := (64, .inl (fun _ => 0))) hx hb (htg _ zk_a0) rfl (fun _ _ h => h) 0 rfl hK hP hD hS hA (fun _ => rfl) (by decide) (by decide) (Nat.le_of_ble_eq_true rfl) (Nat.le_of_ble_eq_true rfl) (Nat.le_of_ble_eq_true rfl) zd_5_23 (fun q3 H hP hD hS => ?_)
  have hP : va_P D zt_cl [(h0, .inr (5, [.int 0, .ref q1, .ref q2, .null, .int 0])), (q1, .inl (tc 1, (64, .inr (.inl (fun _ => 0))))), (q2, .inl (tc 1, (64, .inr (.inl (fun _ => 0))))), (q3, .inl (tc 0, (64, .inl (fun _ => 0))))] H := hP
  have hD : va_D A [(h0, .inr (5, [.int 0, .ref q1, .ref q2, .null, .int 0])), (q1, .inl (tc 1, (64, .inr (.inl (fun _ => 0))))), (q2, .inl (tc 1, (64, .inr (.inl (fun _ => 0))))), (q3, .inl (tc 0, (64, .inl (fun _ => 0))))] := hD
  refine W.widen (k := 3) (n := 192) (Nat.le_of_ble_eq_true rfl) (Nat.le_of_ble_eq_true rfl) ?_
  refine va_putF (D := D) (ci := 5) (v := .ref q3) (ty := .array .int) (C := zt_R5) (T := zt_T5) (N := 5) hx hb htg zt_l5 zt_y5 zt_yo5 zt_n5 hown hK hP hD hS 0 rfl rfl 3 (by decide) (htg _ zk_l5_18) (fun _ h9 => h9) rfl hin rfl (by decide +kernel) rfl rfl (Nat.le_of_ble_eq_true rfl) zd_5_25 (fun H locs hP hD hS => ?_)
  have hP : va_P D zt_cl [(h0, .inr (5, [.int 0, .ref q1, .ref q2, .ref q3, .int 0])), (q1, .inl (tc 1, (64, .inr (.inl (fun _ => 0))))), (q2, .inl (tc 1, (64, .inr (.inl (fun _ => 0))))), (q3, .inl (tc 0, (64, .inl (fun _ => 0))))] H := hP
  have hD : va_D A [(h0, .inr (5, [.int 0, .ref q1, .ref q2, .ref q3, .int 0])), (q1, .inl (tc 1, (64, .inr (.inl (fun _ => 0))))), (q2, .inl (tc 1, (64, .inr (.inl (fun _ => 0))))), (q3, .inl (tc 0, (64, .inl (fun _ => 0))))] := hD
  exact W.vret hx hb hr (fun t ht hW => ⟨⟨[(h0, .inr (5, [.int 0, .ref q1, .ref q2, .ref q3, .int 0])), (q1, .inl (tc 1, (64, .inr (.inl (fun _ => 0))))), (q2, .inl (tc 1, (64, .inr (.inl (fun _ => 0))))), (q3, .inl (tc 0, (64, .inl (fun _ => 0))))], rfl, ⟨q1, q2, q3, rfl⟩, by rw [ht]; exact hP, hD⟩, hS.F ht⟩) hS.2.2 zd_5_28
set_option maxHeartbeats 4000000 in
set_option maxRecDepth 100000 in
theorem zk_c4 (l : Launch) (D : va_G) (tc : Nat → ClassId) (h0 x1 x2 sz : Nat) : Met l zk_y4 (zk_ws zk_y4 zk_b4 3) { frames := 1, cells := 0, slots := 0, locals := 12 } (zk_Pc D tc [.ref h0, .ref x1, .ref x2] [(h0, .inr (4, [.null, .null, .int 0, .long 0]))] sz) (zk_Qc D [(h0, .inr (4, [.null, .null, .int 0, .long 0]))] sz (fun w => w = [(h0, .inr (4, [.ref x1, .ref x2, .int 0, .long 0]))])) 0 0 (va_A [(h0, .inr (4, [.null, .null, .int 0, .long 0]))] sz) := by
  refine Met.ofW (cc := zk_b4) (maxL := 3) (ret := none) (by decide +kernel) rfl ?_
  intro p e s m args below meth c s₁ B hml hv
  obtain ⟨rfl, hsz, hP, hK, hD0, hNw⟩ := hv
  have hx := B.exec
  have hb := B.bytes
  have hr := B.returns
  have hts := atoms_spec (ws := zk_ws zk_y4 zk_b4 3) B.pre
  have htg : ∀ w ∈ zt_gw, w.before _ s = true := fun w h => hts w (List.mem_cons_of_mem _ h)
  have hown : s.vm.findClass zt_R4 = some m.cls := findClass_of_methodNamed B.named
  have hlocks := B.notSynchronized
  have hin : meth.name = "<init>" := (name_of_methodNamed B.named B.method).1
  subst hsz
  have hD := hD0.self (sz := s.heap.size)
  unfold zk_Qc
  generalize hAe : va_A [(h0, .inr (4, [.null, .null, .int 0, .long 0]))] s.heap.size = A at hD ⊢
  have hA : ∀ q : Nat, s.heap.size ≤ q → A q := fun q h => by rw [← hAe]; exact Or.inr h
  have hS : va_S A s.heap s.heap [] := va_S.rf
  have hl := lv_entry ([.ref h0, .ref x1, .ref x2]) (n := 3) (Nat.le_of_ble_eq_true rfl)
  rw [lg_entry_eq]
  generalize (lg_sl ([.ref h0, .ref x1, .ref x2]) ++ List.replicate (3 - (lg_sl ([.ref h0, .ref x1, .ref x2])).length) Slot.unset).toArray = ls at hl ⊢
  have hl : lv_has ls 3 [(0, .ref h0), (1, .ref x1), (2, .ref x2)] := hl
  refine lv_aload_n hx hb zd_4_0 rfl (lv_at hl 0 rfl) ?_
  refine W.objInit hx hb hown (htg _ zk_o4) (htg _ zk_oi) (htg _ zk_oc) rfl (by rw [hml]; exact hl.1) rfl zd_4_1 (Nat.le_of_ble_eq_true rfl) (Nat.le_of_ble_eq_true rfl) ?_
  refine W.eq (g2 := F0 m 4 ls []) rfl ?_
  refine lv_aload_n hx hb zd_4_4 rfl (lv_at hl 0 rfl) ?_
  refine lv_aload_n hx hb zd_4_5 rfl (lv_at hl 1 rfl) ?_
  refine va_putF (D := D) (ci := 4) (v := .ref x1) (ty := .object "QuadricFlats$Side") (C := zt_R4) (T := zt_T4) (N := 4) hx hb htg zt_l4 zt_y4 zt_yo4 zt_n4 hown hK hP hD hS 0 rfl rfl 0 (by decide) (htg _ zk_l4_9) (fun _ h9 => h9) rfl hin rfl (by decide +kernel) rfl rfl (Nat.le_of_ble_eq_true rfl) zd_4_6 (fun H locs hP hD hS => ?_)
  have hP : va_P D zt_cl [(h0, .inr (4, [.ref x1, .null, .int 0, .long 0]))] H := hP
  have hD : va_D A [(h0, .inr (4, [.ref x1, .null, .int 0, .long 0]))] := hD
  refine lv_aload_n hx hb zd_4_9 rfl (lv_at hl 0 rfl) ?_
  refine lv_aload_n hx hb zd_4_10 rfl (lv_at hl 2 rfl) ?_
  refine va_putF (D := D) (ci := 4) (v := .ref x2) (ty := .object "QuadricFlats$Side") (C := zt_R4) (T := zt_T4) (N := 4) hx hb htg zt_l4 zt_y4 zt_yo4 zt_n4 hown hK hP hD hS 0 rfl rfl 1 (by decide) (htg _ zk_l4_15) (fun _ h9 => h9) rfl hin rfl (by decide +kernel) rfl rfl (Nat.le_of_ble_eq_true rfl) zd_4_11 (fun H locs hP hD hS => ?_)
  have hP : va_P D zt_cl [(h0, .inr (4, [.ref x1, .ref x2, .int 0, .long 0]))] H := hP
  have hD : va_D A [(h0, .inr (4, [.ref x1, .ref x2, .int 0, .long 0]))] := hD
  exact W.vret hx hb hr (fun t ht hW => ⟨⟨[(h0, .inr (4, [.ref x1, .ref x2, .int 0, .long 0]))], rfl, rfl, by rw [ht]; exact hP, hD⟩, hS.F ht⟩) hS.2.2 zd_4_14
