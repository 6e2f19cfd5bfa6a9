/-! THE CLAIM OUT OF ONE WALK OF THE LAW'S BODY. Your part is whole_start (and what it stands on); all else here is the same for every law, but numbers. -/
def lw_P (b : Addr) (xs : List Int32) (args : Array Value) (s : State) : Prop := args = #[.ref b] ∧ s.IntsAt b xs ∧ xs.length ≤ 2048 ∧ (Jvm.Cond.and given_1 narrow_1).before args s = true
def lw_Q (_ : Array Value) (s : State) (o : Outcome) (t : State) : Prop := o = .returned (some (.int 1)) ∧ Framed s o t [] 600000 7302250
def lw_Z (below : List Frame) (a : Array Value) (s : State) : State → Prop := fun t => ∃ o, t.status = .running ∧ Ended t below o ∧ lw_Q a s o t
/-- the law's own end, with 1 on the stack, nothing written that was there before, its room as the claim has it -/
theorem lw_ret {p : Program} {l : Launch} {e : Env} {s : State} {m : MethodId} {below : List Frame} {meth : Method} {c : Code} {b : Nat} (hx : p.tables.exec = Jvm.exec) (hb : c.code = code) (hr : meth.sig.returnType = ret) (hlocks : meth.locks = false) {pc : Nat} {H : Heap} {ls : Array Slot} (hdg : decode code pc = .ok (.ireturn, 1)) : W p l e room_1 s m #[Value.ref b] below meth c H [] 600000 7302250 (lw_Z below #[Value.ref b] s) (F0 m pc ls [.int 1]) := by
  intro T hT X
  obtain ⟨fs, hret, hrun, hended, hW, hframe⟩ := X.leave (v := some (.int 1)) (hlocks := hlocks) (fun h => by rw [hr] at h; cases h)
  have hmeth' : T.vm.method? m = some meth := X.method'
  refine ⟨T.setFrames fs, ?_, .returned (some (.int 1)), hrun, hended, rfl, ⟨_, rfl⟩, hW, hframe⟩
  jvm_step X.here [X.here.top, hx, hb, hdg, hmeth', hr, ret, narrow_b1]
  (try refine ⟨rfl, ?_⟩); (try refine ⟨rfl, ?_⟩)
  first | (intro acts; rw [hret _ acts rfl rfl rfl]) | rw [hret _ _ rfl rfl rfl]
  exact Steps.refl _
/-- what holds at the law's entry: the machine, the code, the tables' words (any of lw_tbl by 'hts w (by decide +kernel)'), the script of L ints xs at the cell b, what the Statement gives of the start (any of its parts by flat_of_before) -/
def lw_At (p : Program) (s : State) (m : MethodId) (meth : Method) (c : Code) (b L : Nat) (xs : Nat → Int32) : Prop :=
  p.tables.exec = Jvm.exec ∧ c.code = code ∧ meth.sig.returnType = ret ∧ c.maxLocals = 4 ∧ s.vm.findClass R_law = some m.cls ∧ (∀ w ∈ lw_tbl, w.before #[Value.ref b] s = true) ∧ va_X b L xs s s.heap ∧ b < s.heap.size ∧ meth.locks = false ∧ (Jvm.Cond.and given_1 narrow_1).before #[Value.ref b] s = true
/-! the law's walk: its state, its steps -/
theorem zREL_len {wC wM : List zm_E} (h : zREL wC wM) : (wC.length = 30 ∧ wM.length = 25) ∧ (∃ fs, zm_n wC 0 = some (.inr (6, fs))) ∧ ∃ fs, zm_n wM 0 = some (.inr (7, fs)) := by
  obtain ⟨P, N, c, n0, e0, n1, e1, n, cd, K, M, e, fr, fi, wa, nn, ff, hK, hM, -⟩ := h
  obtain ⟨g, gl, a, al, sv, bt, rfl, -⟩ := hK
  obtain ⟨g', gl', a', al', c2, e2, m0, rfl, -⟩ := hM
  exact ⟨⟨rfl, rfl⟩, ⟨_, rfl⟩, ⟨_, rfl⟩⟩
/-- the law's state: the two objects' cells, apart; the script untouched; the locals -/
def zl_J (D : va_G) (tc : Nat → ClassId) (s : State) (b : Nat) (ad ad' : Nat → Nat) (ls : Array Slot) (i : Nat) (H : Heap) (locs : List Loc) (wC wM : List zm_E) : Prop := (wC.length = 30 ∧ wM.length = 25) ∧ (va_P D zt_cl (zm_w tc ad 0 wC) H ∧ va_P D zt_cl (zm_w tc ad' 0 wM) H) ∧ (va_D (fun q : Nat => s.heap.size ≤ q) (zm_w tc ad 0 wC) ∧ va_D (fun q : Nat => s.heap.size ≤ q) (zm_w tc ad' 0 wM)) ∧ (∀ i j, i < 30 → j < 25 → ad i ≠ ad' j) ∧ va_S (fun q : Nat => s.heap.size ≤ q) s.heap H locs ∧ lv_has ls 4 [(0, .ref b), (1, .ref (ad 0)), (2, .ref (ad' 0)), (3, .int (nI i))]
/-- what stays the same in the law's walk -/
def zl_C (p : Program) (s : State) (m : MethodId) (meth : Method) (c : Code) (b L : Nat) (xs : Nat → Int32) (D : va_G) (tc : Nat → ClassId) : Prop := lw_At p s m meth c b L xs ∧ va_K D zt_cl (zm_tys tc) s ∧ ∀ x ∈ zt_nw, va_Nw x s
theorem zl_htg {args : Array Value} {s : State} (h : ∀ w ∈ lw_tbl, w.before args s = true) : ∀ w ∈ zt_gw, w.before args s = true := fun w hw => h w (List.mem_filter.mp hw).1
section ZLW
variable {p : Program} {l : Launch} {e : Env} {s : State} {m : MethodId} {below : List Frame} {meth : Method} {c : Code} {b L : Nat} {xs : Nat → Int32} {D : va_G} {tc : Nat → ClassId} {ad ad' : Nat → Nat} {ls : Array Slot} {i : Nat} {H : Heap} {locs : List Loc} {wC wM : List zm_E} {cells slots pc : Nat} {rest : List Value} {Q : State → Prop}
theorem zl_arg (hC : zl_C p s m meth c b L xs D tc) (hJ : zl_J D tc s b ad ad' ls i H locs wC wM) {j : Int} (k : Nat) (hj : Int32.ofInt j = nI k) (hk : k < 4) (hi : i + 4 ≤ L) (hL : L ≤ 2048) (d0 : decode code pc = .ok (.aload_n 0, 1)) (d1 : decode code (pc + 1) = .ok (.iload_n 3, 1)) (d2 : decode code (pc + 2) = .ok (.iconst j, 1)) (d3 : decode code (pc + 3) = .ok (.iadd, 1)) (d4 : decode code (pc + 4) = .ok (.iaload, 1))
    (kk : W p l e room_1 s m #[Value.ref b] below meth c H locs cells slots Q (F0 m (pc + 5) ls (.int (xs (i + k)) :: rest))) : W p l e room_1 s m #[Value.ref b] below meth c H locs cells slots Q (F0 m pc ls rest) := by
  obtain ⟨⟨hx, hb, hr, hml, hown, hts, hX, hbl, hlocks, hgv⟩, hK, hNw⟩ := hC
  obtain ⟨-, -, -, -, hS, hl⟩ := hJ
  have hbA : ¬ (fun q : Nat => s.heap.size ≤ q) b := Nat.not_le.mpr hbl
  refine lv_aload_n hx hb d0 rfl (lv_at hl 0 rfl) ?_
  refine lv_iload_n hx hb d1 rfl (lv_at hl 3 rfl) ?_
  refine lv_iconst hx hb d2 hj ?_
  refine lv_iadd hx hb d3 ?_
  rw [nI_add i k]
  have e1 : (nI (i + k)).toNatClampNeg = i + k := by
    unfold Int32.toNatClampNeg
    rw [nI_toInt (by omega)]; rfl
  refine va_sld hx hb hX hbl hbA hS (vp_in_nI (show i + k < L by omega) (by omega)) d4 ?_
  rw [e1]
  exact kk
theorem zl_callC (hC : zl_C p s m meth c b L xs D tc) (hJ : zl_J D tc s b ad ad' ls i H locs wC wM) {k idx : Nat} {as : List Value} {v : Value} {w' : List zm_E} {M : zm_M} {fs : List Value} (hev : zm_ev zt_get 46 k (.ref 0 :: as) wC (some v) w') (hM : zt_get k = some M) (hlink : Cond.methodLink R_law idx M.1 ∈ zt_gw) (hn : M.2.2.2.2.1 = as.length) (hst : M.2.2.2.2.2.1 = false) (hci : M.2.2.2.2.2.2.1 = 6) (hw0 : zm_n wC 0 = some (.inr (6, fs))) (has : as.map (zm_v ad) = as) (hv : zm_v ad v = v) (hw8 : (rest.map fun v => v.category).sum ≤ 8) (hdg : decode code pc = .ok (.invokevirtual idx, 3)) (hf : cells ≤ 600000 ∧ slots ≤ 7302250)
    (kk : ∀ (H1 : Heap) (locs1 : List Loc), zl_J D tc s b ad ad' ls i H1 locs1 w' wM → W p l e room_1 s m #[Value.ref b] below meth c H1 locs1 cells slots Q (F0 m (pc + 3) ls (v :: rest))) : W p l e room_1 s m #[Value.ref b] below meth c H locs cells slots Q (F0 m pc ls (as.reverse ++ .ref (ad 0) :: rest)) := by
  obtain ⟨⟨hx, hb, hr, hml, hown, hts, hX, hbl, hlocks, hgv⟩, hK, hNw⟩ := hC
  obtain ⟨⟨n1, n2⟩, ⟨hP, hP2⟩, ⟨hD, hD2⟩, hap, hS, hl⟩ := hJ
  refine zl_call (A := fun q : Nat => s.heap.size ≤ q) (own := R_law) hx hb hml hown (zl_htg hts) hNw hK (fun _ h => h) hP hD hP2 (fun j q hj i hi z => ?_) hS hev hM hlink hn hst hci hw0 has hl.1 hw8 hdg ⟨Nat.le_of_ble_eq_true rfl, Nat.le_of_ble_eq_true rfl⟩ hf (fun H1 locs1 hP1 hlen hP3 hS1 => ?_)
  · obtain ⟨z1, z2⟩ := zm_w_ad hj
    exact hap i j (by omega) (by omega) (by rw [← z, z2])
  · have hk := kk H1 locs1 ⟨⟨by omega, n2⟩, ⟨hP1, hP3⟩, ⟨zm_D_len hD hlen, hD2⟩, hap, hS1, hl⟩
    show W p l e room_1 s m #[Value.ref b] below meth c H1 locs1 cells slots Q (F0 m (pc + 3) ls (zm_v ad v :: rest))
    rw [hv]
    exact hk
theorem zl_callM (hC : zl_C p s m meth c b L xs D tc) (hJ : zl_J D tc s b ad ad' ls i H locs wC wM) {k idx : Nat} {as : List Value} {v : Value} {w' : List zm_E} {M : zm_M} {fs : List Value} (hev : zm_ev zt_get 46 k (.ref 0 :: as) wM (some v) w') (hM : zt_get k = some M) (hlink : Cond.methodLink R_law idx M.1 ∈ zt_gw) (hn : M.2.2.2.2.1 = as.length) (hst : M.2.2.2.2.2.1 = false) (hci : M.2.2.2.2.2.2.1 = 7) (hw0 : zm_n wM 0 = some (.inr (7, fs))) (has : as.map (zm_v ad') = as) (hv : zm_v ad' v = v) (hw8 : (rest.map fun v => v.category).sum ≤ 8) (hdg : decode code pc = .ok (.invokevirtual idx, 3)) (hf : cells ≤ 600000 ∧ slots ≤ 7302250)
    (kk : ∀ (H1 : Heap) (locs1 : List Loc), zl_J D tc s b ad ad' ls i H1 locs1 wC w' → W p l e room_1 s m #[Value.ref b] below meth c H1 locs1 cells slots Q (F0 m (pc + 3) ls (v :: rest))) : W p l e room_1 s m #[Value.ref b] below meth c H locs cells slots Q (F0 m pc ls (as.reverse ++ .ref (ad' 0) :: rest)) := by
  obtain ⟨⟨hx, hb, hr, hml, hown, hts, hX, hbl, hlocks, hgv⟩, hK, hNw⟩ := hC
  obtain ⟨⟨n1, n2⟩, ⟨hP, hP2⟩, ⟨hD, hD2⟩, hap, hS, hl⟩ := hJ
  refine zl_call (A := fun q : Nat => s.heap.size ≤ q) (own := R_law) hx hb hml hown (zl_htg hts) hNw hK (fun _ h => h) hP2 hD2 hP (fun j q hj i hi z => ?_) hS hev hM hlink hn hst hci hw0 has hl.1 hw8 hdg ⟨Nat.le_of_ble_eq_true rfl, Nat.le_of_ble_eq_true rfl⟩ hf (fun H1 locs1 hP1 hlen hP3 hS1 => ?_)
  · obtain ⟨z1, z2⟩ := zm_w_ad hj
    exact hap j i (by omega) (by omega) (by rw [← z, z2])
  · have hk := kk H1 locs1 ⟨⟨n1, by omega⟩, ⟨hP3, hP1⟩, ⟨hD, zm_D_len hD2 hlen⟩, hap, hS1, hl⟩
    show W p l e room_1 s m #[Value.ref b] below meth c H1 locs1 cells slots Q (F0 m (pc + 3) ls (zm_v ad' v :: rest))
    rw [hv]
    exact hk
end ZLW
theorem zl_31 (z : Int32) : ∃ k, k < 32 ∧ z &&& 31 = nI k := by
  refine ⟨(z &&& 31).toBitVec.toNat, ?_, ?_⟩
  · rw [Int32.toBitVec_and, BitVec.toNat_and]
    have h : z.toBitVec.toNat &&& (31 : Int32).toBitVec.toNat ≤ (31 : Int32).toBitVec.toNat := Nat.and_le_right
    have h2 : (31 : Int32).toBitVec.toNat = 31 := rfl
    omega
  · refine Int32.toBitVec_inj.mp ?_
    show _ = BitVec.ofNat 32 _
    rw [BitVec.ofNat_toNat, BitVec.setWidth_eq]
theorem zl_cmp {i L : Nat} (hL : L ≤ 2048) (hi : i ≤ L + 4) (h : ¬ Int32.ofNat L - 4 < nI i) : i + 4 ≤ L := by
  have e1 : (Int32.ofNat L).toInt = L := nI_toInt (show L < 2 ^ 31 by omega)
  rw [Int32.lt_iff_toInt_lt, Int32.toInt_sub, e1, nI_toInt (by omega), show (4 : Int32).toInt = 4 from rfl, Int.bmod_def] at h
  omega
