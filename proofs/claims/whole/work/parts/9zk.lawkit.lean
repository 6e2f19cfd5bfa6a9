/-! constructors and the law: what their walks stand on -/
def zk_Pc (D : va_G) (tc : Nat → ClassId) (as : List Value) (ws : va_W) (sz : Nat) : Array Value → State → Prop := va_Pc as (fun U => U.heap.size = sz ∧ va_P D zt_cl ws U.heap ∧ va_K D zt_cl (zm_tys tc) U ∧ va_D (fun _ => True) ws ∧ ∀ x ∈ zt_nw, va_Nw x U)
def zk_Qc (D : va_G) (ws : va_W) (sz : Nat) (B : va_W → Prop) : Array Value → State → Outcome → State → Prop := va_Qv (fun w : va_W => B w) (fun w t => va_P D zt_cl w t.heap ∧ va_D (va_A ws sz) w) (va_A ws sz)
def zk_ws (y : MethodName) (b : ByteArray) (n : Nat) : List Jvm.Cond := .code y b n none :: zt_gw
theorem zk_good {y : MethodName} {b : ByteArray} {n : Nat} (h : Jvm.Cond.code y b n none ∈ zt_gw) : GoodIn zt_gw (zk_ws y b n) := by
  intro x hx
  rcases List.mem_cons.mp hx with rfl | hx
  · exact ⟨h, zt_good _ h⟩
  · exact ⟨hx, zt_good _ hx⟩
theorem zk_blind {D : va_G} {tc : Nat → ClassId} {as : List Value} {ws : va_W} {sz : Nat} : FrameBlind (zk_Pc D tc as ws sz) := by
  intro a U g mk q
  obtain ⟨q0, q1, qP, qK, qD, qN⟩ := q
  exact ⟨q0, q1, qP, va_K.moved (u := U) (U := U.calling g mk a) (Vm.Alike.refl U.vm) qK, qD, zm_nw_same (s := U) (U := U.calling g mk a) zt_nest rfl qN⟩
theorem zk_pre {D : va_G} {tc : Nat → ClassId} {as : List Value} {ws : va_W} {s : State} {H : Heap} {A : Nat → Prop} (hP : va_P D zt_cl ws H) (hD : va_D A ws) (hK : va_K D zt_cl (zm_tys tc) s) (hNw : ∀ x ∈ zt_nw, va_Nw x s) : PreS s H (zk_Pc D tc as ws H.size) as :=
  ⟨zk_blind, fun U hU hW => ⟨rfl, by rw [hU], by rw [hU]; exact hP, va_K.moved hW.alike hK, hD.weaken (fun _ _ _ _ => trivial), zm_nw_warm zt_nest hW hNw⟩⟩
theorem zk_sub {D : va_G} {cl : List vw_C} {ws wc : va_W} {H : Heap} {is : List Nat} (h : va_P D cl ws H) (hC : is.map (fun i => ws[i]?) = wc.map some) : va_P D cl wc H := by
  intro k q hq
  have h1 : (is.map (fun i => ws[i]?))[k]? = some (some q) := by rw [hC, List.getElem?_map, hq]; rfl
  rw [List.getElem?_map] at h1
  cases hi : is[k]? with
  | none => rw [hi] at h1; cases h1
  | some i => rw [hi] at h1; exact h i q (Option.some.inj h1)
section ZK
variable {p : Program} {l : Launch} {e : Env} {R : Room} {s : State} {m : MethodId} {args : Array Value} {below : List Frame} {meth : Method} {c : Code} {H : Heap} {locs : List Loc} {cells slots : Nat} {Q : State → Prop}
variable {cc : ByteArray} {pc : Nat} {ls : Array Slot} {rest : List Value} {A : Nat → Prop} {H0 : Heap} {D : va_G} {tc : Nat → ClassId} {ws wc wr : va_W}
/-- a new array: its class is the one that we know -/
theorem zl_newa (hx : p.tables.exec = Jvm.exec) (hb : c.code = cc) {atype : ArrayType} (harr : (Cond.arrayClass (newarray.typeOf atype)).before args s = true) {ty : FieldType} (hty : newarray.typeOf atype = ty) (hRA : ∀ (U : State) (cA : ClassId), va_RA U cA ty → U.vm.findClass ("[" ++ ty.toString) = some cA) (t : Nat) (ht : (zm_tys tc)[t]? = some (tc t, ty)) (hK : va_K D zt_cl (zm_tys tc) s) (hP : va_P D zt_cl ws H) (hD : va_D A ws) (hS : va_S A H0 H locs) (hA : ∀ q, H0.size ≤ q → A q)
    {n : Int32} {N' : Nat} {a0 : vp_A} (ha : ∀ cA : ClassId, vp_cell cA a0 = arrV cA N' (fun _ => defaultValue ty)) (hn : ¬ n < 0) (hN : n.toNatClampNeg = N') (hbytes : N' * componentBytes ty ≤ 536870912) (hcells : cells + 1 ≤ R.cells) (hslots : slots + N' ≤ R.slots) (hdg : decode cc pc = .ok (.newarray atype, 2))
    (kk : ∀ (q : Nat) (H1 : Heap), va_P D zt_cl (ws ++ [(q, .inl (tc t, a0))]) H1 → va_D A (ws ++ [(q, .inl (tc t, a0))]) → va_S A H0 H1 locs →
      W p l e R s m args below meth c H1 locs (cells + 1) (slots + N') Q (F0 m (pc + 2) ls (.ref q :: rest))) : W p l e R s m args below meth c H locs cells slots Q (F0 m pc ls (.int n :: rest)) := by
  refine va_newa hx hb harr hty hK hP hD hS hA ha hn hN hbytes hcells hslots hdg (fun q cA H1 hK1 hP1 hD1 hS1 => ?_)
  have h1 := hRA _ _ (hK1.2 3 (cA, ty) rfl).2
  have h2 := hRA _ _ (hK.2 t (tc t, ty) ht).2
  have e1 : cA = tc t := Option.some.inj (h1.symm.trans h2)
  subst e1
  exact kk q H1 hP1 hD1 hS1
theorem zk_callN {own host : String} {y : MethodName} {bytes : ByteArray} {maxL mc ms n nL index b : Nat} {rm : Room} {As : List Value} {B : va_W → Prop} (hx : p.tables.exec = Jvm.exec) (hb : c.code = cc) (hml : c.maxLocals = nL) (hown : s.vm.findClass own = some m.cls) (htg : ∀ w ∈ zt_gw, w.before args s = true) (hNw : ∀ x ∈ zt_nw, va_Nw x s) (hK : va_K D zt_cl (zm_tys tc) s) (hP : va_P D zt_cl ws H) (hD : va_D A ws) (hS : va_S A H0 H locs) (hA : ∀ q, H0.size ≤ q → A q)
    (isC isR : List Nat) (hC : isC.map (fun i => ws[i]?) = wc.map some) (hR : isR.map (fun i => ws[i]?) = wr.map some) (hnC : va_nd isC = true) (hnR : va_nd isR = true) (hdis : ∀ i ∈ isR, i ∉ isC)
    (hM : Met l y (zk_ws y bytes maxL) rm (zk_Pc D tc (.ref b :: As) wc H.size) (zk_Qc D wc H.size B) mc ms (va_A wc H.size)) (hcode : Cond.code y bytes maxL none ∈ zt_gw) (hrc : rm.cells = mc) (hrs : rm.slots = ms) (hlink : Cond.methodLinkNest own index y host ∈ zt_nw) (hini : Cond.initialized y.cls ∈ zt_gw) (hinst : Cond.instanceMethod y ∈ zt_gw) (hy1 : y.name = "<init>") (hd : y.cls ≠ "java/lang/invoke/MethodHandle" ∧ y.cls ≠ "java/lang/invoke/VarHandle" ∧ (parseMethodDescriptor y.desc).map (fun d => d.parameters.length) = some n)
    (hRm : rm.frames + 1 ≤ R.frames ∧ 8 + (maxL + 11) + rm.locals ≤ R.locals) (hn : As.length = n) (hsz : ls.size = nL) (hw8 : (rest.map fun v => v.category).sum ≤ 8) (hdg : decode cc pc = .ok (.invokespecial index, 3)) (hf : cells + mc ≤ R.cells ∧ slots + ms ≤ R.slots)
    (kk : ∀ (w : va_W) (H1 : Heap) (locs1 : List Loc), B w → va_P D zt_cl (wr ++ w) H1 → va_D A (wr ++ w) → va_S A H0 H1 locs1 → W p l e R s m args below meth c H1 locs1 (cells + mc) (slots + ms) Q (F0 m (pc + 3) ls rest)) : W p l e R s m args below meth c H locs cells slots Q (F0 m pc ls (As.reverse ++ .ref b :: rest)) := by
  have hFc := va_free hD hS hA isC hC
  refine va_callv (va_runIN (As := As) (rest := rest) ⟨hx, hb, hml, hown, htg⟩ hM ⟨va_cnB n htg (zk_good hcode) rfl hrc hrs (hNw _ hlink) (htg _ hini) hd hRm, hy1, htg _ hinst⟩ (zk_pre (zk_sub hP hC) (hD.sub isC hnC hC) hK hNw) rfl hn hsz rfl (lv_room hw8) hdg hf) hS (fun q _ h => hFc q h) hFc (fun w t H1 locs1 ht hvm hw hB hz1 hk1 hS1 => ?_)
  obtain ⟨hP1, hD1⟩ := hB
  rw [ht] at hP1
  obtain ⟨hP2, hD2⟩ := va_join hP hD isC isR hC hR hnR hdis hk1 hFc hP1 hD1
  exact kk w H1 locs1 hw hP2 hD2 hS1
theorem zk_callI {own : String} {y : MethodName} {bytes : ByteArray} {maxL mc ms n nL index b : Nat} {rm : Room} {As : List Value} {B : va_W → Prop} (hx : p.tables.exec = Jvm.exec) (hb : c.code = cc) (hml : c.maxLocals = nL) (hown : s.vm.findClass own = some m.cls) (htg : ∀ w ∈ zt_gw, w.before args s = true) (hNw : ∀ x ∈ zt_nw, va_Nw x s) (hK : va_K D zt_cl (zm_tys tc) s) (hP : va_P D zt_cl ws H) (hD : va_D A ws) (hS : va_S A H0 H locs) (hA : ∀ q, H0.size ≤ q → A q)
    (isC isR : List Nat) (hC : isC.map (fun i => ws[i]?) = wc.map some) (hR : isR.map (fun i => ws[i]?) = wr.map some) (hnC : va_nd isC = true) (hnR : va_nd isR = true) (hdis : ∀ i ∈ isR, i ∉ isC)
    (hM : Met l y (zk_ws y bytes maxL) rm (zk_Pc D tc (.ref b :: As) wc H.size) (zk_Qc D wc H.size B) mc ms (va_A wc H.size)) (hcode : Cond.code y bytes maxL none ∈ zt_gw) (hrc : rm.cells = mc) (hrs : rm.slots = ms) (hlink : Cond.methodLink own index y ∈ zt_gw) (hini : Cond.initialized y.cls ∈ zt_gw) (hinst : Cond.instanceMethod y ∈ zt_gw) (hy1 : y.name = "<init>") (hd : y.cls ≠ "java/lang/invoke/MethodHandle" ∧ y.cls ≠ "java/lang/invoke/VarHandle" ∧ (parseMethodDescriptor y.desc).map (fun d => d.parameters.length) = some n)
    (hRm : rm.frames + 1 ≤ R.frames ∧ 8 + (maxL + 11) + rm.locals ≤ R.locals) (hn : As.length = n) (hsz : ls.size = nL) (hw8 : (rest.map fun v => v.category).sum ≤ 8) (hdg : decode cc pc = .ok (.invokespecial index, 3)) (hf : cells + mc ≤ R.cells ∧ slots + ms ≤ R.slots)
    (kk : ∀ (w : va_W) (H1 : Heap) (locs1 : List Loc), B w → va_P D zt_cl (wr ++ w) H1 → va_D A (wr ++ w) → va_S A H0 H1 locs1 → W p l e R s m args below meth c H1 locs1 (cells + mc) (slots + ms) Q (F0 m (pc + 3) ls rest)) : W p l e R s m args below meth c H locs cells slots Q (F0 m pc ls (As.reverse ++ .ref b :: rest)) := by
  have hFc := va_free hD hS hA isC hC
  refine va_callv (va_runI (As := As) (rest := rest) ⟨hx, hb, hml, hown, htg⟩ hM (cwI n htg (zk_good hcode) rfl hrc hrs (htg _ hini) (htg _ hlink) (htg _ hinst) hy1 hd hRm) (zk_pre (zk_sub hP hC) (hD.sub isC hnC hC) hK hNw) rfl hn hsz rfl (lv_room hw8) hdg hf) hS (fun q _ h => hFc q h) hFc (fun w t H1 locs1 ht hvm hw hB hz1 hk1 hS1 => ?_)
  obtain ⟨hP1, hD1⟩ := hB
  rw [ht] at hP1
  obtain ⟨hP2, hD2⟩ := va_join hP hD isC isR hC hR hnR hdis hk1 hFc hP1 hD1
  exact kk w H1 locs1 hw hP2 hD2 hS1
/-- the law calls a public method: what our machine does, the JVM does; the other object's cells stay -/
theorem zl_call {own : String} {idx k ci nL d : Nat} {as : List Value} {v : Option Value} {ad : Nat → Nat} {w w' : List zm_E} {W2 : va_W} {M : zm_M} {fs : List Value} (hx : p.tables.exec = Jvm.exec) (hb : c.code = cc) (hml : c.maxLocals = nL) (hown : s.vm.findClass own = some m.cls) (htg : ∀ w ∈ zt_gw, w.before args s = true) (hNw : ∀ x ∈ zt_nw, va_Nw x s) (hK : va_K D zt_cl (zm_tys tc) s) (hA : ∀ q, s.heap.size ≤ q → A q)
    (hP : va_P D zt_cl (zm_w tc ad 0 w) H) (hD : va_D A (zm_w tc ad 0 w)) (hP2 : va_P D zt_cl W2 H) (hap : ∀ (k : Nat) (q : Nat × va_E), W2[k]? = some q → ∀ i, i < w.length → q.1 ≠ ad i) (hS : va_S A s.heap H locs)
    (hev : zm_ev zt_get d k (.ref 0 :: as) w v w') (hM : zt_get k = some M) (hlink : Cond.methodLink own idx M.1 ∈ zt_gw) (hn : M.2.2.2.2.1 = as.length) (hst : M.2.2.2.2.2.1 = false) (hci : M.2.2.2.2.2.2.1 = ci) (hw0 : zm_n w 0 = some (.inr (ci, fs))) (has : as.map (zm_v ad) = as) (hsz : ls.size = nL) (hw8 : (rest.map fun v => v.category).sum ≤ 8) (hdg : decode cc pc = .ok (.invokevirtual idx, 3)) (hRm : d + 1 ≤ R.frames ∧ 60 * d + 60 ≤ R.locals) (hf : cells ≤ R.cells ∧ slots ≤ R.slots)
    (kk : ∀ (H1 : Heap) (locs1 : List Loc), va_P D zt_cl (zm_w tc ad 0 w') H1 → w'.length = w.length → va_P D zt_cl W2 H1 → va_S A s.heap H1 locs1 → W p l e R s m args below meth c H1 locs1 cells slots Q (F0 m (pc + 3) ls ((v.map (zm_v ad)).toList ++ rest))) : W p l e R s m args below meth c H locs cells slots Q (F0 m pc ls (as.reverse ++ .ref (ad 0) :: rest)) := by
  obtain ⟨k1, k2, k3, k4, k5, k6, -, k8⟩ := (zt_getok hM).1
  obtain ⟨k9, k10, T, N, k11⟩ := k8 hst
  rw [hci] at k11
  have hMet := zt_met l D tc ad d k _ w v w' hev M hM H.size
  have hpre : PreV s H M.1.cls (ad 0) (zm_Pc D zt_cl tc ad zt_nw (.ref 0 :: as) w H.size) as := by
    refine ⟨zm_blind zt_nest, va_recv hK hP k11 (zm_w_at hw0), fun U hU hW => ⟨?_, by rw [hU], by rw [hU]; exact hP, va_K.moved hW.alike hK, hD.weaken (fun _ _ _ _ => trivial), zm_nw_warm zt_nest hW hNw⟩⟩
    show (Value.ref (ad 0) :: as).toArray = ((Value.ref 0 :: as).map (zm_v ad)).toArray
    rw [List.map_cons, has]; rfl
  have hFc : ∀ q, va_A (zm_w tc ad 0 w) H.size q → A q := by
    intro q h
    rcases h with ⟨j, x, h⟩ | h
    · exact hD.2 j (q, x) h
    · exact hA q (Nat.le_trans hS.1 h)
  have cw := cwV (own := own) (C := M.1.cls) (index := idx) (y := M.1) (ws := zm_ws zt_gw M) (ws' := zt_gw) (rm := zm_rm d) (R := R) (mc := 0) (ms := 0) as.length htg (fun x hx => by
    rcases List.mem_append.mp hx with h | h
    · rcases List.mem_cons.mp h with rfl | h
      · exact ⟨hlink, zt_good _ hlink⟩
      · rcases List.mem_cons.mp h with rfl | h
        · exact ⟨k9, zt_good _ k9⟩
        · rcases List.mem_cons.mp h with rfl | h
          · exact ⟨k10, zt_good _ k10⟩
          · rcases List.mem_cons.mp h with rfl | h
            · exact ⟨k3, zt_good _ k3⟩
            · exact absurd h List.not_mem_nil
    · exact zm_goodIn zt_good k2 x h) rfl rfl rfl ⟨rfl, k4.1, k4.2, by rw [← hn]; exact k5⟩ ⟨hRm.1, by show 8 + (M.2.2.1 + 11) + 60 * d ≤ R.locals; omega⟩
  intro T hT X
  obtain ⟨v2, st₀, t, T', L, h0, X', hL, e1, e2, hq, st⟩ := va_runV (cells := cells) (slots := slots) (locs := locs) (g := F0 m pc ls (as.reverse ++ .ref (ad 0) :: rest)) (rest := rest) ⟨hx, hb, hml, hown, htg⟩ hMet cw hpre rfl rfl hsz rfl (lv_room hw8) hdg ⟨hf.1, hf.2⟩ T hT X
  obtain ⟨⟨hv, hP1, hlen⟩, hF1, hF2⟩ := hq
  cases hv
  have hkeep : ∀ q, q < H.size → ¬ va_A (zm_w tc ad 0 w) H.size q → t.heap[q]? = H[q]? := fun q h1 h2 => by
    rw [hF2 q (by rw [h0]; exact h1) h2, h0]
  obtain ⟨t2, a1, b1⟩ := kk T'.heap (locs ++ L) (by rw [e1]; exact hP1) hlen (hP2.kept (fun j q hj => by
      rw [e1]
      refine hkeep q.1 (hP2 j q hj).lt (fun z => ?_)
      rcases z with ⟨i, x, z⟩ | z
      · obtain ⟨z1, z2⟩ := zm_w_ad z
        exact hap j q hj i z1 z2
      · have := (hP2 j q hj).lt
        omega)) ⟨Nat.le_trans hS.1 (by rw [e1, ← h0]; exact hF1), fun q h1 h2 => by
      have h3 := Nat.lt_of_lt_of_le h1 hS.1
      rw [e1, hkeep q h3 (fun z => h2 (hFc q z))]
      exact hS.2.1 q h1 h2, fun q hq => by
      rcases List.mem_append.mp hq with h | h
      · exact hS.2.2 q h
      · exact hFc _ (hL q h)⟩ T' rfl X'
  exact ⟨t2, st t2 a1, b1⟩
end ZK
