/-! Calls, answers, the whole: what our machine does, the JVM does. -/
def zm_nest (x : Jvm.Cond) : Prop := (∃ (a : String) (i : Nat) (b n d h : String), x = .fieldLinkNest a i b n d h) ∨ ∃ (a : String) (i : Nat) (y : MethodName) (h : String), x = .methodLinkNest a i y h
theorem zm_nw_warm {nw : List Jvm.Cond} {s U : State} (hn : ∀ x ∈ nw, zm_nest x) (hW : s.WarmedH U.vm) (h : ∀ x ∈ nw, va_Nw x s) : ∀ x ∈ nw, va_Nw x U := by
  intro x hx
  have h1 := h x hx
  rcases hn x hx with ⟨a, i, b, n, d, g, rfl⟩ | ⟨a, i, y, g, rfl⟩
  · exact va_Nw.warmF hW h1
  · exact va_Nw.warmM hW h1
theorem zm_nw_same {nw : List Jvm.Cond} {s U : State} (hn : ∀ x ∈ nw, zm_nest x) (hW : s.vm = U.vm) (h : ∀ x ∈ nw, va_Nw x s) : ∀ x ∈ nw, va_Nw x U := by
  intro x hx
  have h1 := h x hx
  rcases hn x hx with ⟨a, i, b, n, d, g, rfl⟩ | ⟨a, i, y, g, rfl⟩
  · exact va_Nw.same rfl hW h1
  · exact va_Nw.same rfl hW h1
def zm_Pc (D : va_G) (cl : List vw_C) (tc : Nat → ClassId) (ad : Nat → Nat) (nw : List Jvm.Cond) (as : List Value) (ws : List zm_E) (sz : Nat) : Array Value → State → Prop :=
  va_Pc (as.map (zm_v ad)) (fun U => U.heap.size = sz ∧ va_P D cl (zm_w tc ad 0 ws) U.heap ∧ va_K D cl (zm_tys tc) U ∧ va_D (fun _ => True) (zm_w tc ad 0 ws) ∧ ∀ x ∈ nw, va_Nw x U)
def zm_Qc (D : va_G) (cl : List vw_C) (tc : Nat → ClassId) (ad : Nat → Nat) (ws : List zm_E) (v : Option Value) (w : List zm_E) (sz : Nat) : Array Value → State → Outcome → State → Prop :=
  fun _ st oc t => (oc = .returned (v.map (zm_v ad)) ∧ va_P D cl (zm_w tc ad 0 w) t.heap ∧ w.length = ws.length) ∧ va_F (va_A (zm_w tc ad 0 ws) sz) st t
def zm_rm (d : Nat) : Room := { frames := d, cells := 0, slots := 0, locals := 60 * d }
def zm_ws (gw : List Jvm.Cond) (M : zm_M) : List Jvm.Cond := .code M.1 M.2.1 M.2.2.1 M.2.2.2.1 :: gw
def zm_okM (cl : List vw_C) (gw : List Jvm.Cond) (M : zm_M) : Prop := plainName M.1.cls = true ∧ Jvm.Cond.code M.1 M.2.1 M.2.2.1 M.2.2.2.1 ∈ gw ∧ Jvm.Cond.initialized M.1.cls ∈ gw ∧ (M.1.cls ≠ "java/lang/invoke/MethodHandle" ∧ M.1.cls ≠ "java/lang/invoke/VarHandle") ∧ (parseMethodDescriptor M.1.desc).map (fun d => d.parameters.length) = some M.2.2.2.2.1 ∧ M.2.2.1 ≤ 41 ∧ (M.2.2.2.2.2.1 = true → Jvm.Cond.static M.1 ∈ gw) ∧ (M.2.2.2.2.2.1 = false → Jvm.Cond.instanceMethod M.1 ∈ gw ∧ Jvm.Cond.selects M.1.cls M.1 M.1 ∈ gw ∧ ∃ (T : u_T) (N : Nat), cl[M.2.2.2.2.2.2.1]? = some (M.1.cls, T, N))
def zm_okG (get : Nat → Option zm_M) (gw nw : List Jvm.Cond) (own : String) (idx u w z : Nat) (b : Bool) : Prop := ∃ M', get u = some M' ∧ (Jvm.Cond.methodLink own idx M'.1 ∈ gw ∨ ∃ host, Jvm.Cond.methodLinkNest own idx M'.1 host ∈ nw) ∧ M'.2.2.2.2.1 = w ∧ M'.2.2.2.2.2.1 = b ∧ (b = false → M'.2.2.2.2.2.2.1 = z)
def zm_goodL (gw : List Jvm.Cond) : Prop := ∀ x ∈ gw, (x.onTables && x.keeps) = true ∨ ∃ ty, x = .arrayClass ty
theorem zm_goodIn {gw : List Jvm.Cond} {M : zm_M} (hg : zm_goodL gw) (hc : Jvm.Cond.code M.1 M.2.1 M.2.2.1 M.2.2.2.1 ∈ gw) : GoodIn gw (zm_ws gw M) := by
  intro x hx
  rcases List.mem_cons.mp hx with rfl | hx
  · exact ⟨hc, hg _ hc⟩
  · exact ⟨hx, hg _ hx⟩
theorem zm_w_len (tc : Nat → ClassId) (ad : Nat → Nat) (ws : List zm_E) (i : Nat) : (zm_w tc ad i ws).length = ws.length := by
  induction ws generalizing i with
  | nil => rfl
  | cons x l ih => simp [zm_w, ih]
/-- the addresses alone -/
theorem zm_w_ad {tc : Nat → ClassId} {ad : Nat → Nat} {ws : List zm_E} {a : Nat} {q : Nat × va_E} (h : (zm_w tc ad 0 ws)[a]? = some q) : a < ws.length ∧ q.1 = ad a := by
  have h0 := h
  rw [zm_w_get] at h
  cases hq : zm_n ws a with
  | none => rw [hq] at h; cases h
  | some x =>
    rw [hq, Nat.zero_add] at h
    cases h
    refine ⟨?_, rfl⟩
    have := (List.getElem?_eq_some_iff.mp h0).1
    rwa [zm_w_len] at this
theorem zm_w_ex {tc : Nat → ClassId} {ad : Nat → Nat} {ws : List zm_E} {a : Nat} (h : a < ws.length) : ∃ x, (zm_w tc ad 0 ws)[a]? = some (ad a, x) := by
  have h1 : a < (zm_w tc ad 0 ws).length := by rw [zm_w_len]; exact h
  have h2 := List.getElem?_eq_getElem h1
  obtain ⟨-, h3⟩ := zm_w_ad h2
  exact ⟨(zm_w tc ad 0 ws)[a].2, by rw [h2, ← h3]⟩
theorem zm_D_len {tc : Nat → ClassId} {ad : Nat → Nat} {A : Nat → Prop} {ws w : List zm_E} (h : va_D A (zm_w tc ad 0 ws)) (hl : w.length = ws.length) : va_D A (zm_w tc ad 0 w) := by
  refine ⟨fun i j p q hi hj e => ?_, fun k q hk => ?_⟩
  · obtain ⟨h1, h2⟩ := zm_w_ad hi
    obtain ⟨h3, h4⟩ := zm_w_ad hj
    obtain ⟨x, hx⟩ := zm_w_ex (tc := tc) (ad := ad) (show i < ws.length by omega)
    obtain ⟨y, hy⟩ := zm_w_ex (tc := tc) (ad := ad) (show j < ws.length by omega)
    exact h.1 i j _ _ hx hy (by rw [← h2, ← h4]; exact e)
  · obtain ⟨h1, h2⟩ := zm_w_ad hk
    obtain ⟨x, hx⟩ := zm_w_ex (tc := tc) (ad := ad) (show k < ws.length by omega)
    rw [h2]
    exact h.2 k _ hx
section ZMC
variable {p : Program} {l : Launch} {e : Env} {R : Room} {s : State} {m : MethodId} {args : Array Value} {below : List Frame} {meth : Method} {c : Code} {Q : State → Prop} {D : va_G} {cl : List vw_C} {tc : Nat → ClassId} {ad : Nat → Nat} {A : Nat → Prop} {nL L : Nat}
variable {cc : ByteArray} {pc : Nat} {lv : List (Option Value)} {st : List Value} {ws : List zm_E} {ev : Nat → List Value → List zm_E → Option Value → List zm_E → Prop} {v0 : Option Value} {w0 : List zm_E}
variable {k off lo hi : Int} {offs : Array Int} {kf : Fin 2} {kk : Fin 4} {u w z idx len d : Nat} {x y : Int32} {xl : Int64} {own : String} {gw nw : List Jvm.Cond} {ty : FieldType} {get : Nat → Option zm_M} {H : Heap} {locs : List Loc}
theorem zm_callg {mc ms : Nat} {ls : Array Slot} {st0 rest : List Value} {Qa : State → Outcome → State → Prop} {free : Addr → Prop} (hr : va_Run p l e R s m args below meth c H locs 0 0 0 0 (F0 m pc ls st0) rest Qa free)
    (kk : ∀ (v : Option Value) (st₀ t : State) (H1 : Heap) (locs1 : List Loc), st₀.heap = H → t.heap = H1 → Qa st₀ (.returned v) t → (∀ q ∈ locs1, q ∈ locs ∨ free q.base) → W p l e R s m args below meth c H1 locs1 0 0 Q (F0 m (pc + 3) ls (v.toList ++ rest))) : W p l e R s m args below meth c H locs 0 0 Q (F0 m pc ls st0) := by
  intro T hT X
  obtain ⟨v, st₀, t, T', L, h0, X', hL, e1, e2, hq, st⟩ := hr T hT X
  obtain ⟨t2, a1, b1⟩ := kk v st₀ t T'.heap (locs ++ L) h0 e1.symm hq (fun q hq => by
      rcases List.mem_append.mp hq with h | h
      · exact Or.inl h
      · exact Or.inr (hL q h)) T' rfl X'
  exact ⟨t2, st t2 a1, b1⟩
theorem zm_blind {as : List Value} {sz : Nat} (hnest : ∀ x ∈ nw, zm_nest x) : FrameBlind (zm_Pc D cl tc ad nw as ws sz) := by
  intro a U g mk q
  obtain ⟨q0, q1, qP, qK, qD, qN⟩ := q
  exact ⟨q0, q1, qP, va_K.moved (u := U) (U := U.calling g mk a) (Vm.Alike.refl U.vm) qK, qD, zm_nw_same (s := U) (U := U.calling g mk a) hnest rfl qN⟩
/-- behind a call: the callee's world is the caller's -/
theorem zm_back {ls : Array Slot} {r : List Value} {v1 : Option Value} {w1 : List zm_E} {st₀ t : State} {H1 : Heap} {locs1 : List Loc} {v : Option Value} {aa : Array Value} (hA : ∀ q, s.heap.size ≤ q → A q) (hL : zm_L ad ls nL lv) (hD : va_D A (zm_w tc ad 0 ws)) (hS : va_S A s.heap H locs) (hn : ws.length = L)
    (h0 : st₀.heap = H) (ht : t.heap = H1) (hq : zm_Qc D cl tc ad ws v1 w1 H.size aa st₀ (.returned v) t) (hloc : ∀ q ∈ locs1, q ∈ locs ∨ va_A (zm_w tc ad 0 ws) H.size q.base)
    (hg : zm_G p l e R s m args below meth c Q D cl tc ad A nL L (pc + 3, lv, v1.toList ++ r, w1)) : W p l e R s m args below meth c H1 locs1 0 0 Q (F0 m (pc + 3) ls (v.toList ++ r.map (zm_v ad))) := by
  obtain ⟨⟨hv, hP1, hlen⟩, hF1, hF2⟩ := hq
  cases hv
  have hfree : ∀ q, va_A (zm_w tc ad 0 ws) H.size q → A q := by
    intro q h
    rcases h with ⟨k, e, h⟩ | h
    · exact hD.2 k (q, e) h
    · exact hA q (Nat.le_trans hS.1 h)
  have h2 := hg H1 locs1 ls hL (by rw [← ht]; exact hP1) (zm_D_len hD hlen) ⟨Nat.le_trans hS.1 (by rw [← ht, ← h0]; exact hF1), fun q h1 h2 => by
      have h3 := Nat.lt_of_lt_of_le h1 hS.1
      rw [← ht, hF2 q (by rw [h0]; exact h3) (fun z => h2 (hfree q z)), h0]
      exact hS.2.1 q h1 h2, fun q hq => by
      rcases hloc q hq with h | h
      · exact hS.2.2 q h
      · exact hfree _ h⟩ (hlen.trans hn)
  have e1 : (v1.toList ++ r).map (zm_v ad) = (v1.map (zm_v ad)).toList ++ r.map (zm_v ad) := by cases v1 <;> simp
  rw [← e1]
  exact h2
abbrev zm_IH (l : Launch) (get : Nat → Option zm_M) (gw nw : List Jvm.Cond) (D : va_G) (cl : List vw_C) (tc : Nat → ClassId) (ad : Nat → Nat) (d : Nat) (ev : Nat → List Value → List zm_E → Option Value → List zm_E → Prop) : Prop := ∀ (k : Nat) (as : List Value) (ws : List zm_E) (v : Option Value) (w : List zm_E), ev k as ws v w → ∀ M', get k = some M' → ∀ sz, Met l M'.1 (zm_ws gw M') (zm_rm d) (zm_Pc D cl tc ad nw as ws sz) (zm_Qc D cl tc ad ws v w sz) 0 0 (va_A (zm_w tc ad 0 ws) sz)
theorem zg_cv (hx : p.tables.exec = Jvm.exec) (hb : c.code = cc) (hml : c.maxLocals = nL) (htg : ∀ x ∈ gw, x.before args s = true) (hgood : zm_goodL gw) (hNw : ∀ x ∈ nw, va_Nw x s) (hnest : ∀ x ∈ nw, zm_nest x) (hown : s.vm.findClass own = some m.cls) (hK : va_K D cl (zm_tys tc) s) (hA : ∀ q, s.heap.size ≤ q → A q)
    (hd : decode cc pc = .ok (.invokevirtual idx, 3)) (hG : zm_okG get gw nw own idx u w z false) (hokc : ∀ k M', get k = some M' → zm_okM cl gw M') (IH : zm_IH l get gw nw D cl tc ad d ev) (hR : d + 1 ≤ R.frames ∧ 60 * d + 60 ≤ R.locals)
    (h : zm_o ev (zm_G p l e R s m args below meth c Q D cl tc ad A nL L) v0 w0 (zm_cv (pc + 3) lv ws u z (st.take w) (st.drop w))) : zm_G p l e R s m args below meth c Q D cl tc ad A nL L (pc, lv, st, ws) := by
  rcases hdr : st.drop w with _ | ⟨b, r⟩
  · rw [hdr] at h; exact (show False from h).elim
  rw [hdr] at h
  cases b with
  | ref b =>
    rcases hq : zm_n ws b with _ | ⟨x | ⟨ci, fs⟩⟩
    · simp only [zm_cv, hq] at h; exact (show False from h).elim
    · simp only [zm_cv, hq] at h; exact (show False from h).elim
    · simp only [zm_cv, hq, zm_cv2] at h
      cases hc : Nat.beq ci z with
      | false => rw [hc] at h; exact (show False from h).elim
      | true =>
        rw [hc] at h
        cases hs8 : Nat.ble ((r.map fun v => v.category).sum) 8 with
        | false => rw [hs8] at h; exact (show False from h).elim
        | true =>
          rw [hs8] at h
          obtain ⟨v1, w1, hev, hgo⟩ : ∃ v1 w1, ev u (.ref b :: (st.take w).reverse) ws v1 w1 ∧ zm_G p l e R s m args below meth c Q D cl tc ad A nL L (pc + 3, lv, v1.toList ++ r, w1) := h
          have hcu := Nat.eq_of_beq_eq_true hc
          have h8 := Nat.le_of_ble_eq_true hs8
          obtain ⟨M', hM1, hM2, hM3, hM4, hM5⟩ := hG
          obtain ⟨k1, k2, k3, k4, k5, k6, -, k8⟩ := hokc u M' hM1
          obtain ⟨k9, k10, T, N, k11⟩ := k8 hM4
          rw [hM5 rfl, ← hcu] at k11
          have est : st = st.take w ++ .ref b :: r := by rw [← hdr, List.take_append_drop]
          have hwl : (st.take w).length = w := by
            have h1 : (st.drop w).length = st.length - w := List.length_drop
            rw [hdr] at h1
            simp only [List.length_cons] at h1
            rw [List.length_take]
            omega
          intro H locs ls hL hP hD hS hn
          have hMet := IH u _ ws v1 w1 hev M' hM1 H.size
          have hpre : PreV s H M'.1.cls (ad b) (zm_Pc D cl tc ad nw (.ref b :: (st.take w).reverse) ws H.size) ((st.take w).reverse.map (zm_v ad)) := ⟨zm_blind hnest, va_recv hK hP k11 (zm_w_at hq), fun U hU hW => ⟨rfl, by rw [hU], by rw [hU]; exact hP, va_K.moved hW.alike hK, hD.weaken (fun _ _ _ _ => trivial), zm_nw_warm hnest hW hNw⟩⟩
          have hstack : (F0 m pc ls (st.map (zm_v ad))).stack = ((st.take w).reverse.map (zm_v ad)).reverse ++ .ref (ad b) :: r.map (zm_v ad) := by
            show st.map (zm_v ad) = _
            rw [List.map_reverse, List.reverse_reverse]
            conv => lhs; rw [est]
            rw [List.map_append]
            rfl
          have hlen2 : ((st.take w).reverse.map (zm_v ad)).length = M'.2.2.2.2.1 := by rw [List.length_map, List.length_reverse, hwl, hM3]
          have hr8 : 2 * (F0 m pc ls (st.map (zm_v ad))).monitorRoom + ((r.map (zm_v ad)).map fun v => v.category).sum ≤ 8 := lv_room (by rw [zm_cats]; exact h8)
          have hroom : (zm_rm d).frames + 1 ≤ R.frames ∧ 8 + (M'.2.2.1 + 11) + (zm_rm d).locals ≤ R.locals := ⟨hR.1, by show 8 + (M'.2.2.1 + 11) + 60 * d ≤ R.locals; omega⟩
          rcases hM2 with hM2 | ⟨host, hM2⟩
          · have cw := cwV (own := own) (C := M'.1.cls) (index := idx) (y := M'.1) (ws := zm_ws gw M') (ws' := gw) (rm := zm_rm d) (R := R) (mc := 0) (ms := 0) M'.2.2.2.2.1 htg (fun x hx => by
              rcases List.mem_append.mp hx with h | h
              · rcases List.mem_cons.mp h with rfl | h
                · exact ⟨hM2, hgood _ hM2⟩
                rcases List.mem_cons.mp h with rfl | h
                · exact ⟨k9, hgood _ k9⟩
                rcases List.mem_cons.mp h with rfl | h
                · exact ⟨k10, hgood _ k10⟩
                rcases List.mem_cons.mp h with rfl | h
                · exact ⟨k3, hgood _ k3⟩
                · cases h
              · exact zm_goodIn hgood k2 x h) rfl rfl rfl ⟨rfl, k4.1, k4.2, k5⟩ hroom
            exact zm_callg (mc := 0) (ms := 0) (va_runV ⟨hx, hb, hml, hown, htg⟩ hMet cw hpre rfl hlen2 hL.1 hstack hr8 hd ⟨Nat.zero_le _, Nat.zero_le _⟩) (fun v st₀ t H1 locs1 h0 ht hq1 hloc => zm_back hA hL hD hS hn h0 ht hq1 hloc hgo)
          · have cw := va_cnB (own := own) (host := host) (index := idx) (y := M'.1) (ws := zm_ws gw M') (ws' := gw) (rm := zm_rm d) (R := R) (mc := 0) (ms := 0) M'.2.2.2.2.1 htg (zm_goodIn hgood k2) rfl rfl rfl (hNw _ hM2) (htg _ k3) ⟨k4.1, k4.2, k5⟩ hroom
            exact zm_callg (mc := 0) (ms := 0) (va_runVN ⟨hx, hb, hml, hown, htg⟩ hMet ⟨cw, htg _ k9, htg _ k10⟩ hpre rfl hlen2 hL.1 hstack hr8 hd ⟨Nat.zero_le _, Nat.zero_le _⟩) (fun v st₀ t H1 locs1 h0 ht hq1 hloc => zm_back hA hL hD hS hn h0 ht hq1 hloc hgo)
  | _ => exact (show False from h).elim
theorem zg_cs (hx : p.tables.exec = Jvm.exec) (hb : c.code = cc) (hml : c.maxLocals = nL) (htg : ∀ x ∈ gw, x.before args s = true) (hgood : zm_goodL gw) (hNw : ∀ x ∈ nw, va_Nw x s) (hnest : ∀ x ∈ nw, zm_nest x) (hown : s.vm.findClass own = some m.cls) (hK : va_K D cl (zm_tys tc) s) (hA : ∀ q, s.heap.size ≤ q → A q)
    (hd : decode cc pc = .ok (.invokestatic idx, 3)) (hG : zm_okG get gw nw own idx u w z true) (hokc : ∀ k M', get k = some M' → zm_okM cl gw M') (IH : zm_IH l get gw nw D cl tc ad d ev) (hR : d + 1 ≤ R.frames ∧ 60 * d + 60 ≤ R.locals)
    (h : zm_o ev (zm_G p l e R s m args below meth c Q D cl tc ad A nL L) v0 w0 (zm_cs (pc + 3) lv ws u w st)) : zm_G p l e R s m args below meth c Q D cl tc ad A nL L (pc, lv, st, ws) := by
  cases hc : Nat.ble w st.length with
  | false => simp only [zm_cs, hc] at h; exact (show False from h).elim
  | true =>
    simp only [zm_cs, hc] at h
    cases hs8 : Nat.ble (((st.drop w).map fun v => v.category).sum) 8 with
    | false => rw [hs8] at h; exact (show False from h).elim
    | true =>
      rw [hs8] at h
      obtain ⟨v1, w1, hev, hgo⟩ : ∃ v1 w1, ev u (st.take w).reverse ws v1 w1 ∧ zm_G p l e R s m args below meth c Q D cl tc ad A nL L (pc + 3, lv, v1.toList ++ st.drop w, w1) := h
      have hwl : (st.take w).length = w := by rw [List.length_take]; have := Nat.le_of_ble_eq_true hc; omega
      have h8 := Nat.le_of_ble_eq_true hs8
      obtain ⟨M', hM1, hM2, hM3, hM4, hM5⟩ := hG
      obtain ⟨k1, k2, k3, k4, k5, k6, k7, -⟩ := hokc u M' hM1
      have k9 := k7 hM4
      intro H locs ls hL hP hD hS hn
      have hMet := IH u _ ws v1 w1 hev M' hM1 H.size
      have hpre : PreS s H (zm_Pc D cl tc ad nw (st.take w).reverse ws H.size) ((st.take w).reverse.map (zm_v ad)) := ⟨zm_blind hnest, fun U hU hW => ⟨rfl, by rw [hU], by rw [hU]; exact hP, va_K.moved hW.alike hK, hD.weaken (fun _ _ _ _ => trivial), zm_nw_warm hnest hW hNw⟩⟩
      have hstack : (F0 m pc ls (st.map (zm_v ad))).stack = ((st.take w).reverse.map (zm_v ad)).reverse ++ (st.drop w).map (zm_v ad) := by
        show st.map (zm_v ad) = _
        rw [List.map_reverse, List.reverse_reverse, ← List.map_append, List.take_append_drop]
      have hlen2 : ((st.take w).reverse.map (zm_v ad)).length = M'.2.2.2.2.1 := by rw [List.length_map, List.length_reverse, hwl, hM3]
      have hr8 : 2 * (F0 m pc ls (st.map (zm_v ad))).monitorRoom + (((st.drop w).map (zm_v ad)).map fun v => v.category).sum ≤ 8 := lv_room (by rw [zm_cats]; exact h8)
      have hroom : (zm_rm d).frames + 1 ≤ R.frames ∧ 8 + (M'.2.2.1 + 11) + (zm_rm d).locals ≤ R.locals := ⟨hR.1, by show 8 + (M'.2.2.1 + 11) + 60 * d ≤ R.locals; omega⟩
      rcases hM2 with hM2 | ⟨host, hM2⟩
      · have cw := callB_of (own := own) (index := idx) (y := M'.1) (ws := zm_ws gw M') (ws' := gw) (rm := zm_rm d) (R := R) (mc := 0) (ms := 0) M'.2.2.2.2.1 htg (zm_goodIn hgood k2) rfl rfl rfl (htg _ k3) (htg _ hM2) ⟨k4.1, k4.2, k5⟩ hroom
        exact zm_callg (mc := 0) (ms := 0) (va_runS ⟨hx, hb, hml, hown, htg⟩ hMet ⟨cw, htg _ k9⟩ hpre rfl hlen2 hL.1 hstack hr8 hd ⟨Nat.zero_le _, Nat.zero_le _⟩) (fun v st₀ t H1 locs1 h0 ht hq1 hloc => zm_back hA hL hD hS hn h0 ht hq1 hloc hgo)
      · have cw := va_cnB (own := own) (host := host) (index := idx) (y := M'.1) (ws := zm_ws gw M') (ws' := gw) (rm := zm_rm d) (R := R) (mc := 0) (ms := 0) M'.2.2.2.2.1 htg (zm_goodIn hgood k2) rfl rfl rfl (hNw _ hM2) (htg _ k3) ⟨k4.1, k4.2, k5⟩ hroom
        exact zm_callg (mc := 0) (ms := 0) (va_runSN ⟨hx, hb, hml, hown, htg⟩ hMet ⟨cw, htg _ k9, trivial⟩ hpre rfl hlen2 hL.1 hstack hr8 hd ⟨Nat.zero_le _, Nat.zero_le _⟩) (fun v st₀ t H1 locs1 h0 ht hq1 hloc => zm_back hA hL hD hS hn h0 ht hq1 hloc hgo)
theorem zg_cpy (hx : p.tables.exec = Jvm.exec) (hb : c.code = cc) (hml : c.maxLocals = nL) (hown : s.vm.findClass own = some m.cls) (hK : va_K D cl (zm_tys tc) s)
    (hlink : (Jvm.Cond.methodLink own idx arraycopyName).before args s = true) (hnat : (Jvm.Cond.native arraycopyName).before args s = true) (hstat : (Jvm.Cond.static arraycopyName).before args s = true) (hini : (Jvm.Cond.initialized "java/lang/System").before args s = true)
    (hd : decode cc pc = .ok (.invokestatic idx, 3)) (hR : 1 ≤ R.frames ∧ 60 ≤ R.locals)
    (h : zm_o ev (zm_G p l e R s m args below meth c Q D cl tc ad A nL L) v0 w0 (zm_cpy (pc + 3) lv ws st)) : zm_G p l e R s m args below meth c Q D cl tc ad A nL L (pc, lv, st, ws) := by
  unfold zm_cpy at h
  split at h
  next n dp a sp a0 r =>
    cases hz : decide (dp = 0 ∧ sp = 0) with
    | false => rw [hz] at h; exact (show False from h).elim
    | true =>
      rw [hz] at h
      obtain ⟨rfl, rfl⟩ := of_decide_eq_true hz
      cases hs8 : Nat.ble ((r.map fun v => v.category).sum) 8 with
      | false => rw [hs8] at h; exact (show False from h).elim
      | true =>
        rw [hs8] at h
        have h8 := Nat.le_of_ble_eq_true hs8
        rcases hq0 : zm_n ws a0 with _ | ⟨⟨k0, n0, f | f⟩ | y⟩
        · simp only [hq0, zm_cpy1] at h; exact (show False from h).elim
        · simp only [hq0, zm_cpy1] at h
          cases hk0 : Nat.beq k0 0 with
          | false => rw [hk0] at h; exact (show False from h).elim
          | true =>
            rw [hk0] at h
            have e0 := Nat.eq_of_beq_eq_true hk0
            subst e0
            rcases hq1 : zm_n ws a with _ | ⟨⟨k1, n1, g | g⟩ | y⟩
            · simp only [hq1, zm_cpy2] at h; exact (show False from h).elim
            · simp only [hq1, zm_cpy2] at h
              cases hk1 : Nat.beq k1 0 with
              | false => rw [hk1] at h; exact (show False from h).elim
              | true =>
                rw [hk1] at h
                have e1 := Nat.eq_of_beq_eq_true hk1
                subst e1
                have h2 : (¬ n < 0 ∧ n.toNatClampNeg ≤ n0 ∧ n.toNatClampNeg ≤ n1) ∧ zm_G p l e R s m args below meth c Q D cl tc ad A nL L (pc + 3, lv, r, ws.set a (.inl (0, n1, .inl (va_cpy f g 0 0 n.toNatClampNeg)))) := h
                intro H locs ls hL hP hD hS hn
                have z0 : (0 : Int32).toNatClampNeg = 0 := by decide
                refine va_copyi hx hb (hml.trans hL.1.symm) hown hlink hnat hstat hini hK hP hD hS a0 a 0 0 (zm_w_at hq0) (zm_w_at hq1) rfl rfl rfl (by decide) (by decide) h2.1.1 (by rw [z0]; omega) (by rw [z0]; omega) (fun i _ => rfl) hR.1 ?_ hd (fun H1 locs1 hP1 hD1 hS1 => h2.2 H1 locs1 ls hL (by rw [← zm_w_set0]; rw [z0] at hP1; exact hP1) (by rw [← zm_w_set0]; rw [z0] at hD1; exact hD1) hS1 (by rw [← hn]; exact List.length_set))
                have e5 : nativeFrameWords "java/lang/System" "arraycopy" 5 = 7 := by decide
                rw [e5, zm_cats]
                omega
            · simp only [hq1, zm_cpy2] at h; exact (show False from h).elim
            · simp only [hq1, zm_cpy2] at h; exact (show False from h).elim
        · simp only [hq0, zm_cpy1] at h; exact (show False from h).elim
        · simp only [hq0, zm_cpy1] at h; exact (show False from h).elim
  next => exact h.elim
theorem zg_min (hx : p.tables.exec = Jvm.exec) (hb : c.code = cc) (hml : c.maxLocals = nL) (hown : s.vm.findClass own = some m.cls)
    (hlink : (Jvm.Cond.methodLink own idx Lib.Math.min.name).before args s = true) (hstat : (Jvm.Cond.static Lib.Math.min.name).before args s = true) (hini : (Jvm.Cond.initialized "java/lang/Math").before args s = true) (hcode : (Jvm.Cond.code Lib.Math.min.name Lib.Math.min.code 2 (some .int)).before args s = true)
    (hd : decode cc pc = .ok (.invokestatic idx, 3)) (hR : 1 ≤ R.frames ∧ 60 ≤ R.locals)
    (h : zm_o ev (zm_G p l e R s m args below meth c Q D cl tc ad A nL L) v0 w0 (zm_min (pc + 3) lv ws st)) : zm_G p l e R s m args below meth c Q D cl tc ad A nL L (pc, lv, st, ws) := by
  unfold zm_min at h
  split at h
  next y x r =>
    cases hs8 : Nat.ble ((r.map fun v => v.category).sum) 8 with
    | false => rw [hs8] at h; exact (show False from h).elim
    | true =>
      rw [hs8] at h
      have h8 := Nat.le_of_ble_eq_true hs8
      intro H locs ls hL hP hD hS hn
      exact va_mmin hx hb (hml.trans hL.1.symm) hown hlink hstat hini hcode hR.1 (by rw [zm_cats]; omega) (Nat.zero_le _) (Nat.zero_le _) hd (h.2 H locs ls hL hP hD hS hn)
  next => exact h.elim
end ZMC
