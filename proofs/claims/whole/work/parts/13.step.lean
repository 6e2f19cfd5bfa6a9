/-! Answers; one step whatever the instruction; a run of our machine is a contract. -/
abbrev zm_X : Type := List (Nat × Nat × Nat) × List (Nat × Nat × Nat × Nat) × List (Nat × Nat × Nat × Nat × Bool) × List (Nat × Int32) × List (Nat × Int64) × List Nat × List Nat
/-- what the constant pool of a class says, as the tables have it: fields read, fields written, methods, numbers, longs, arraycopy -/
def zm_okX (get : Nat → Option zm_M) (cl : List vw_C) (gw nw : List Jvm.Cond) (own : String) (X : zm_X) : Prop :=
  (∀ q ∈ X.1, zm_okF cl gw nw own q.1 q.2.1 q.2.2) ∧ (∀ q ∈ X.2.1, zm_okP cl gw nw own q.1 q.2.1 q.2.2.1 (zm_ft q.2.2.2)) ∧ (∀ q ∈ X.2.2.1, zm_okG get gw nw own q.1 q.2.1 q.2.2.1 q.2.2.2.1 q.2.2.2.2) ∧ (∀ q ∈ X.2.2.2.1, Jvm.Cond.constant own q.1 q.2 ∈ gw) ∧ (∀ q ∈ X.2.2.2.2.1, Jvm.Cond.constantLong own q.1 q.2 ∈ gw) ∧
  (∀ i ∈ X.2.2.2.2.2.1, Jvm.Cond.methodLink own i arraycopyName ∈ gw ∧ Jvm.Cond.native arraycopyName ∈ gw ∧ Jvm.Cond.static arraycopyName ∈ gw ∧ Jvm.Cond.initialized "java/lang/System" ∈ gw) ∧
  ∀ i ∈ X.2.2.2.2.2.2, Jvm.Cond.methodLink own i Lib.Math.min.name ∈ gw ∧ Jvm.Cond.static Lib.Math.min.name ∈ gw ∧ Jvm.Cond.initialized "java/lang/Math" ∈ gw ∧ Jvm.Cond.code Lib.Math.min.name Lib.Math.min.code 2 (some .int) ∈ gw
/-- an instruction's numbers are what the instruction says -/
def zm_okB (X : zm_X) (nL pc : Nat) (q : zm_I) : Bool :=
  match q.1 with
  | .iconst k => decide (q.2.1 = 1 ∧ Int32.ofInt k = q.2.2.1)
  | .bipush k => decide (q.2.1 = 2 ∧ (Int8.ofInt k).toInt32 = q.2.2.1)
  | .sipush k => decide (q.2.1 = 3 ∧ (Int16.ofInt k).toInt32 = q.2.2.1)
  | .ldc i => decide (q.2.1 = 2 ∧ (i, q.2.2.1) ∈ X.2.2.2.1)
  | .ldc_w i => decide (q.2.1 = 3 ∧ (i, q.2.2.1) ∈ X.2.2.2.1)
  | .lconst k => decide (q.2.1 = 1 ∧ Int64.ofNat (k : Nat) = q.2.2.2.1)
  | .ldc2_w i => decide (q.2.1 = 3 ∧ (i, q.2.2.2.1) ∈ X.2.2.2.2.1)
  | .iload_n k => decide (q.2.1 = 1 ∧ (k : Nat) = q.2.2.2.2.1)
  | .iload i => decide (q.2.1 = 2 ∧ i = q.2.2.2.2.1)
  | .lload_n k => decide (q.2.1 = 1 ∧ (k : Nat) = q.2.2.2.2.1)
  | .lload i => decide (q.2.1 = 2 ∧ i = q.2.2.2.2.1)
  | .aload_n k => decide (q.2.1 = 1 ∧ (k : Nat) = q.2.2.2.2.1)
  | .aload i => decide (q.2.1 = 2 ∧ i = q.2.2.2.2.1)
  | .istore_n k => decide (q.2.1 = 1 ∧ (k : Nat) = q.2.2.2.2.1 ∧ q.2.2.2.2.1 < nL)
  | .istore i => decide (q.2.1 = 2 ∧ i = q.2.2.2.2.1 ∧ q.2.2.2.2.1 < nL)
  | .lstore_n k => decide (q.2.1 = 1 ∧ (k : Nat) = q.2.2.2.2.1 ∧ q.2.2.2.2.1 + 1 < nL)
  | .lstore i => decide (q.2.1 = 2 ∧ i = q.2.2.2.2.1 ∧ q.2.2.2.2.1 + 1 < nL)
  | .astore_n k => decide (q.2.1 = 1 ∧ (k : Nat) = q.2.2.2.2.1 ∧ q.2.2.2.2.1 < nL)
  | .astore i => decide (q.2.1 = 2 ∧ i = q.2.2.2.2.1 ∧ q.2.2.2.2.1 < nL)
  | .iinc i k => decide (q.2.1 = 3 ∧ i = q.2.2.2.2.1 ∧ q.2.2.2.2.1 < nL ∧ Int32.ofInt k = q.2.2.1)
  | .ifCond _ off => decide (q.2.1 = 3 ∧ (pc : Int) + off = (q.2.2.2.2.1 : Int))
  | .if_icmp _ off => decide (q.2.1 = 3 ∧ (pc : Int) + off = (q.2.2.2.2.1 : Int))
  | .goto off => decide (q.2.1 = 3 ∧ (pc : Int) + off = (q.2.2.2.2.1 : Int))
  | .tableswitch d lo hi offs => decide (0 ≤ (pc : Int) + d) && (List.range (hi - lo + 1).toNat).all (fun i => match offs[i]? with
    | some off => decide (0 ≤ (pc : Int) + off)
    | none => false)
  | .getfield i => decide (q.2.1 = 3 ∧ (i, q.2.2.2.2.1, q.2.2.2.2.2.1) ∈ X.1)
  | .putfield i => decide (q.2.1 = 3 ∧ (i, q.2.2.2.2.1, q.2.2.2.2.2.1, q.2.2.2.2.2.2) ∈ X.2.1)
  | .invokevirtual i => decide (q.2.1 = 3 ∧ (i, q.2.2.2.2.1, q.2.2.2.2.2.1, q.2.2.2.2.2.2, false) ∈ X.2.2.1)
  | .invokestatic i => match Nat.beq q.2.2.2.2.2.2 99 with
    | true => decide (q.2.1 = 3 ∧ i ∈ X.2.2.2.2.2.1)
    | false => match Nat.beq q.2.2.2.2.2.2 98 with
      | true => decide (q.2.1 = 3 ∧ i ∈ X.2.2.2.2.2.2)
      | false => decide (q.2.1 = 3 ∧ (i, q.2.2.2.2.1, q.2.2.2.2.2.1, q.2.2.2.2.2.2, true) ∈ X.2.2.1)
  | _ => decide (q.2.1 = 1)
section ZMR
variable {p : Program} {l : Launch} {e : Env} {R : Room} {s : State} {m : MethodId} {args : Array Value} {below : List Frame} {meth : Method} {c : Code} {Q : State → Prop} {D : va_G} {cl : List vw_C} {tc : Nat → ClassId} {ad : Nat → Nat} {A : Nat → Prop} {nL L : Nat}
variable {cc : ByteArray} {pc : Nat} {lv : List (Option Value)} {st : List Value} {ws ws0 : List zm_E} {ev : Nat → List Value → List zm_E → Option Value → List zm_E → Prop} {v0 : Option Value} {w0 : List zm_E} {rt : Option FieldType}
variable {own : String} {gw nw : List Jvm.Cond} {get : Nat → Option zm_M} {d : Nat} {X : zm_X}

theorem zg_ri (hx : p.tables.exec = Jvm.exec) (hb : c.code = cc) (hr : meth.sig.returnType = rt) (hlocks : meth.locks = false) (hA : A = va_A (zm_w tc ad 0 ws0) s.heap.size) (hQ : Q = MQ below (zm_Qc D cl tc ad ws0 v0 w0 s.heap.size) args s 0 0 (va_A (zm_w tc ad 0 ws0) s.heap.size)) (hLn : L = ws0.length) (hd : decode cc pc = .ok (.ireturn, 1)) (h : zm_o ev (zm_G p l e R s m args below meth c Q D cl tc ad A nL L) v0 w0 (zm_ri ws rt st)) : zm_G p l e R s m args below meth c Q D cl tc ad A nL L (pc, lv, st, ws) := by
  subst hA; subst hQ; subst hLn
  unfold zm_ri at h
  split at h
  next x =>
    split at h
    next =>
      obtain ⟨h1, rfl, rfl⟩ : _ ∧ v0 = some (.int x) ∧ w0 = ws := h
      intro H locs ls hL hP hD hS hn
      exact W.iret hx hb hr (fun t ht hW => ⟨⟨rfl, by rw [ht]; exact hP, hn⟩, hS.F ht⟩) hS.2.2 hd (hlocks := hlocks)
    next =>
      obtain ⟨h1, rfl, rfl⟩ : _ ∧ v0 = some (.int x) ∧ w0 = ws := h
      intro H locs ls hL hP hD hS hn
      exact W.zret hx hb hr (by rcases h1 with rfl | rfl <;> decide) (fun t ht hW => ⟨⟨rfl, by rw [ht]; exact hP, hn⟩, hS.F ht⟩) hS.2.2 hd (hlocks := hlocks)
    next => exact (show False from h).elim
  next => exact h.elim
theorem zg_rl (hx : p.tables.exec = Jvm.exec) (hb : c.code = cc) (hr : meth.sig.returnType = rt) (hlocks : meth.locks = false) (hA : A = va_A (zm_w tc ad 0 ws0) s.heap.size) (hQ : Q = MQ below (zm_Qc D cl tc ad ws0 v0 w0 s.heap.size) args s 0 0 (va_A (zm_w tc ad 0 ws0) s.heap.size)) (hLn : L = ws0.length) (hd : decode cc pc = .ok (.lreturn, 1)) (h : zm_o ev (zm_G p l e R s m args below meth c Q D cl tc ad A nL L) v0 w0 (zm_rl ws rt st)) : zm_G p l e R s m args below meth c Q D cl tc ad A nL L (pc, lv, st, ws) := by
  subst hA; subst hQ; subst hLn
  unfold zm_rl at h
  split at h
  next x =>
    split at h
    next =>
      obtain ⟨h1, rfl, rfl⟩ : _ ∧ v0 = some (.long x) ∧ w0 = ws := h
      intro H locs ls hL hP hD hS hn
      exact W.lret hx hb hr (fun t ht hW => ⟨⟨rfl, by rw [ht]; exact hP, hn⟩, hS.F ht⟩) hS.2.2 hd (hlocks := hlocks)
    next => exact (show False from h).elim
  next => exact h.elim
theorem zg_ra (hx : p.tables.exec = Jvm.exec) (hb : c.code = cc) (hr : meth.sig.returnType = rt) (hlocks : meth.locks = false) (hA : A = va_A (zm_w tc ad 0 ws0) s.heap.size) (hQ : Q = MQ below (zm_Qc D cl tc ad ws0 v0 w0 s.heap.size) args s 0 0 (va_A (zm_w tc ad 0 ws0) s.heap.size)) (hLn : L = ws0.length) (hd : decode cc pc = .ok (.areturn, 1)) (h : zm_o ev (zm_G p l e R s m args below meth c Q D cl tc ad A nL L) v0 w0 (zm_ra ws rt st)) : zm_G p l e R s m args below meth c Q D cl tc ad A nL L (pc, lv, st, ws) := by
  subst hA; subst hQ; subst hLn
  unfold zm_ra at h
  split at h
  next x =>
    split at h
    next nm =>
      obtain ⟨h1, rfl, rfl⟩ : _ ∧ v0 = some (.ref x) ∧ w0 = ws := h
      intro H locs ls hL hP hD hS hn
      exact W.aret hx hb hr (Or.inl ⟨nm, rfl⟩) (Or.inr ⟨ad x, rfl⟩) (fun t ht hW => ⟨⟨rfl, by rw [ht]; exact hP, hn⟩, hS.F ht⟩) hS.2.2 hd (hlocks := hlocks)
    next => exact (show False from h).elim
  next => exact h.elim
theorem zg_rv (hx : p.tables.exec = Jvm.exec) (hb : c.code = cc) (hr : meth.sig.returnType = rt) (hlocks : meth.locks = false) (hA : A = va_A (zm_w tc ad 0 ws0) s.heap.size) (hQ : Q = MQ below (zm_Qc D cl tc ad ws0 v0 w0 s.heap.size) args s 0 0 (va_A (zm_w tc ad 0 ws0) s.heap.size)) (hLn : L = ws0.length) (hd : decode cc pc = .ok (.return_, 1)) (h : zm_o ev (zm_G p l e R s m args below meth c Q D cl tc ad A nL L) v0 w0 (zm_rv ws rt st)) : zm_G p l e R s m args below meth c Q D cl tc ad A nL L (pc, lv, st, ws) := by
  subst hA; subst hQ; subst hLn
  unfold zm_rv at h
  split at h
  next =>
    split at h
    next =>
      obtain ⟨h1, rfl, rfl⟩ : _ ∧ v0 = none ∧ w0 = ws := h
      intro H locs ls hL hP hD hS hn
      exact W.vret hx hb hr (fun t ht hW => ⟨⟨rfl, by rw [ht]; exact hP, hn⟩, hS.F ht⟩) hS.2.2 hd (hlocks := hlocks)
    next => exact (show False from h).elim
  next => exact h.elim
theorem zm_step (hx : p.tables.exec = Jvm.exec) (hb : c.code = cc) (hml : c.maxLocals = nL) (hr : meth.sig.returnType = rt) (hlocks : meth.locks = false) (htg : ∀ x ∈ gw, x.before args s = true) (hgood : zm_goodL gw) (hNw : ∀ x ∈ nw, va_Nw x s) (hnest : ∀ x ∈ nw, zm_nest x) (hown : s.vm.findClass own = some m.cls) (hK : va_K D cl (zm_tys tc) s)
    (hAe : A = va_A (zm_w tc ad 0 ws0) s.heap.size) (hQ : Q = MQ below (zm_Qc D cl tc ad ws0 v0 w0 s.heap.size) args s 0 0 (va_A (zm_w tc ad 0 ws0) s.heap.size)) (hLn : L = ws0.length)
    (hX : zm_okX get cl gw nw own X) (hokc : ∀ k M', get k = some M' → zm_okM cl gw M') (IH : zm_IH l get gw nw D cl tc ad d ev) (hR : d + 1 ≤ R.frames ∧ 60 * d + 60 ≤ R.locals)
    (q : zm_I) (hd : decode cc pc = .ok (q.1, q.2.1)) (hB : zm_okB X nL pc q = true) (h : zm_o ev (zm_G p l e R s m args below meth c Q D cl tc ad A nL L) v0 w0 (zm_x rt q pc lv st ws)) : zm_G p l e R s m args below meth c Q D cl tc ad A nL L (pc, lv, st, ws) := by
  have hA : ∀ q, s.heap.size ≤ q → A q := fun q h => by rw [hAe]; exact Or.inr h
  obtain ⟨I, len, ci, cl64, u, w, z⟩ := q
  dsimp only at hd
  cases I with
  | iconst k =>
    obtain ⟨hl, hv⟩ := of_decide_eq_true hB
    dsimp only at hl hv h hd
    subst hl; subst hv
    exact zg_iconst hx hb hd rfl h
  | bipush k =>
    obtain ⟨hl, hv⟩ := of_decide_eq_true hB
    dsimp only at hl hv h hd
    subst hl; subst hv
    exact zg_bipush hx hb hd rfl h
  | sipush k =>
    obtain ⟨hl, hv⟩ := of_decide_eq_true hB
    dsimp only at hl hv h hd
    subst hl; subst hv
    exact zg_sipush hx hb hd rfl h
  | ldc i =>
    obtain ⟨hl, hv⟩ := of_decide_eq_true hB
    dsimp only at hl hv h hd
    subst hl
    exact zg_ldc hx hb hd hown (htg _ (hX.2.2.2.1 _ hv)) h
  | ldc_w i =>
    obtain ⟨hl, hv⟩ := of_decide_eq_true hB
    dsimp only at hl hv h hd
    subst hl
    exact zg_ldc_w hx hb hd hown (htg _ (hX.2.2.2.1 _ hv)) h
  | lconst k =>
    obtain ⟨hl, hv⟩ := of_decide_eq_true hB
    dsimp only at hl hv h hd
    subst hl; subst hv
    exact zg_lconst hx hb hd rfl h
  | ldc2_w i =>
    obtain ⟨hl, hv⟩ := of_decide_eq_true hB
    dsimp only at hl hv h hd
    subst hl
    exact zg_ldc2 hx hb hd hown (htg _ (hX.2.2.2.2.1 _ hv)) h
  | iload_n k =>
    obtain ⟨hl, hv⟩ := of_decide_eq_true hB
    dsimp only at hl hv h hd
    subst hl
    exact zg_iload_n hx hb hd hv h
  | iload i =>
    obtain ⟨hl, hv⟩ := of_decide_eq_true hB
    dsimp only at hl hv h hd
    subst hl; subst hv
    exact zg_iload hx hb hd h
  | lload_n k =>
    obtain ⟨hl, hv⟩ := of_decide_eq_true hB
    dsimp only at hl hv h hd
    subst hl
    exact zg_lload_n hx hb hd hv h
  | lload i =>
    obtain ⟨hl, hv⟩ := of_decide_eq_true hB
    dsimp only at hl hv h hd
    subst hl; subst hv
    exact zg_lload hx hb hd h
  | aload_n k =>
    obtain ⟨hl, hv⟩ := of_decide_eq_true hB
    dsimp only at hl hv h hd
    subst hl
    exact zg_aload_n hx hb hd hv h
  | aload i =>
    obtain ⟨hl, hv⟩ := of_decide_eq_true hB
    dsimp only at hl hv h hd
    subst hl; subst hv
    exact zg_aload hx hb hd h
  | istore_n k =>
    obtain ⟨hl, hv, hu⟩ := of_decide_eq_true hB
    dsimp only at hl hv hu h hd
    subst hl
    exact zg_istore_n hx hb hd hv hu h
  | istore i =>
    obtain ⟨hl, hv, hu⟩ := of_decide_eq_true hB
    dsimp only at hl hv hu h hd
    subst hl; subst hv
    exact zg_istore hx hb hd hu h
  | lstore_n k =>
    obtain ⟨hl, hv, hu⟩ := of_decide_eq_true hB
    dsimp only at hl hv hu h hd
    subst hl
    exact zg_lstore_n hx hb hd hv hu h
  | lstore i =>
    obtain ⟨hl, hv, hu⟩ := of_decide_eq_true hB
    dsimp only at hl hv hu h hd
    subst hl; subst hv
    exact zg_lstore hx hb hd hu h
  | astore_n k =>
    obtain ⟨hl, hv, hu⟩ := of_decide_eq_true hB
    dsimp only at hl hv hu h hd
    subst hl
    exact zg_astore_n hx hb hd hv hu h
  | astore i =>
    obtain ⟨hl, hv, hu⟩ := of_decide_eq_true hB
    dsimp only at hl hv hu h hd
    subst hl; subst hv
    exact zg_astore hx hb hd hu h
  | iinc i k =>
    obtain ⟨hl, hv, hu, hk⟩ := of_decide_eq_true hB
    dsimp only at hl hv hu hk h hd
    subst hl; subst hv
    exact zg_iinc hx hb hd hk hu h
  | iadd =>
    have hl : len = 1 := of_decide_eq_true hB
    subst hl
    exact zg_iadd hx hb hd h
  | isub =>
    have hl : len = 1 := of_decide_eq_true hB
    subst hl
    exact zg_isub hx hb hd h
  | imul =>
    have hl : len = 1 := of_decide_eq_true hB
    subst hl
    exact zg_imul hx hb hd h
  | iand =>
    have hl : len = 1 := of_decide_eq_true hB
    subst hl
    exact zg_iand hx hb hd h
  | ishl =>
    have hl : len = 1 := of_decide_eq_true hB
    subst hl
    exact zg_ishl hx hb hd h
  | idiv =>
    have hl : len = 1 := of_decide_eq_true hB
    subst hl
    exact zg_idiv hx hb hd h
  | irem =>
    have hl : len = 1 := of_decide_eq_true hB
    subst hl
    exact zg_irem hx hb hd h
  | ineg =>
    have hl : len = 1 := of_decide_eq_true hB
    subst hl
    exact zg_ineg hx hb hd h
  | ladd =>
    have hl : len = 1 := of_decide_eq_true hB
    subst hl
    exact zg_ladd hx hb hd h
  | lsub =>
    have hl : len = 1 := of_decide_eq_true hB
    subst hl
    exact zg_lsub hx hb hd h
  | lmul =>
    have hl : len = 1 := of_decide_eq_true hB
    subst hl
    exact zg_lmul hx hb hd h
  | land =>
    have hl : len = 1 := of_decide_eq_true hB
    subst hl
    exact zg_land hx hb hd h
  | lor =>
    have hl : len = 1 := of_decide_eq_true hB
    subst hl
    exact zg_lor hx hb hd h
  | lxor =>
    have hl : len = 1 := of_decide_eq_true hB
    subst hl
    exact zg_lxor hx hb hd h
  | ldiv =>
    have hl : len = 1 := of_decide_eq_true hB
    subst hl
    exact zg_ldiv hx hb hd h
  | lrem =>
    have hl : len = 1 := of_decide_eq_true hB
    subst hl
    exact zg_lrem hx hb hd h
  | lneg =>
    have hl : len = 1 := of_decide_eq_true hB
    subst hl
    exact zg_lneg hx hb hd h
  | lshl =>
    have hl : len = 1 := of_decide_eq_true hB
    subst hl
    exact zg_lshl hx hb hd h
  | lshr =>
    have hl : len = 1 := of_decide_eq_true hB
    subst hl
    exact zg_lshr hx hb hd h
  | lushr =>
    have hl : len = 1 := of_decide_eq_true hB
    subst hl
    exact zg_lushr hx hb hd h
  | i2l =>
    have hl : len = 1 := of_decide_eq_true hB
    subst hl
    exact zg_i2l hx hb hd h
  | l2i =>
    have hl : len = 1 := of_decide_eq_true hB
    subst hl
    exact zg_l2i hx hb hd h
  | lcmp =>
    have hl : len = 1 := of_decide_eq_true hB
    subst hl
    exact zg_lcmp hx hb hd h
  | dup =>
    have hl : len = 1 := of_decide_eq_true hB
    subst hl
    exact zg_dup hx hb hd h
  | dup2 =>
    have hl : len = 1 := of_decide_eq_true hB
    subst hl
    exact zg_dup2 hx hb hd h
  | ifCond k off =>
    obtain ⟨hl, ht⟩ := of_decide_eq_true hB
    dsimp only at hl ht h hd
    subst hl
    cases k with
    | eq => exact zg_if_eq hx hb hd ht h
    | ne => exact zg_if_ne hx hb hd ht h
    | lt => exact zg_if_lt hx hb hd ht h
    | ge => exact zg_if_ge hx hb hd ht h
    | gt => exact zg_if_gt hx hb hd ht h
    | le => exact zg_if_le hx hb hd ht h
  | if_icmp k off =>
    obtain ⟨hl, ht⟩ := of_decide_eq_true hB
    dsimp only at hl ht h hd
    subst hl
    cases k with
    | eq => exact zg_icmp_eq hx hb hd ht h
    | ne => exact zg_icmp_ne hx hb hd ht h
    | lt => exact zg_icmp_lt hx hb hd ht h
    | ge => exact zg_icmp_ge hx hb hd ht h
    | gt => exact zg_icmp_gt hx hb hd ht h
    | le => exact zg_icmp_le hx hb hd ht h
  | goto off =>
    obtain ⟨hl, ht⟩ := of_decide_eq_true hB
    dsimp only at hl ht h hd
    subst hl
    exact zg_goto hx hb hd ht h
  | tableswitch dd lo hi offs =>
    simp only [zm_okB, Bool.and_eq_true, decide_eq_true_eq, List.all_eq_true, List.mem_range] at hB
    refine zg_switch hx hb hd ⟨hB.1, fun i hi2 => ?_⟩ h
    have h1 := hB.2 i (by omega)
    split at h1
    next off ho => exact ⟨off, ho, of_decide_eq_true h1⟩
    next => cases h1
  | getfield i =>
    obtain ⟨hl, hv⟩ := of_decide_eq_true hB
    dsimp only at hl hv h hd
    subst hl
    exact zg_get hx hb htg hNw hown hK hd (hX.1 _ hv) h
  | putfield i =>
    obtain ⟨hl, hv⟩ := of_decide_eq_true hB
    dsimp only at hl hv h hd
    subst hl
    exact zg_put hx hb htg hNw hown hK hd (hX.2.1 _ hv) h
  | iaload =>
    have hl : len = 1 := of_decide_eq_true hB
    subst hl
    exact zg_iaload hx hb hK hd h
  | baload =>
    have hl : len = 1 := of_decide_eq_true hB
    subst hl
    exact zg_baload hx hb hK hd h
  | laload =>
    have hl : len = 1 := of_decide_eq_true hB
    subst hl
    exact zg_laload hx hb hK hd h
  | iastore =>
    have hl : len = 1 := of_decide_eq_true hB
    subst hl
    exact zg_iastore hx hb hK hd h
  | bastore =>
    have hl : len = 1 := of_decide_eq_true hB
    subst hl
    exact zg_bastore hx hb hK hd h
  | lastore =>
    have hl : len = 1 := of_decide_eq_true hB
    subst hl
    exact zg_lastore hx hb hK hd h
  | invokevirtual i =>
    obtain ⟨hl, hv⟩ := of_decide_eq_true hB
    dsimp only at hl hv h hd
    subst hl
    exact zg_cv hx hb hml htg hgood hNw hnest hown hK hA hd (hX.2.2.1 _ hv) hokc IH hR h
  | invokestatic i =>
    cases hz : Nat.beq z 99 with
    | true =>
      simp only [zm_okB, hz] at hB
      simp only [zm_x, hz] at h
      obtain ⟨hl, hv⟩ := of_decide_eq_true hB
      subst hl
      obtain ⟨a1, a2, a3, a4⟩ := hX.2.2.2.2.2.1 _ hv
      exact zg_cpy hx hb hml hown hK (htg _ a1) (htg _ a2) (htg _ a3) (htg _ a4) hd ⟨by omega, by omega⟩ h
    | false =>
      cases hz2 : Nat.beq z 98 with
      | true =>
        simp only [zm_okB, hz, hz2] at hB
        simp only [zm_x, hz, hz2] at h
        obtain ⟨hl, hv⟩ := of_decide_eq_true hB
        subst hl
        obtain ⟨a1, a2, a3, a4⟩ := hX.2.2.2.2.2.2 _ hv
        exact zg_min hx hb hml hown (htg _ a1) (htg _ a2) (htg _ a3) (htg _ a4) hd ⟨by omega, by omega⟩ h
      | false =>
        simp only [zm_okB, hz, hz2] at hB
        simp only [zm_x, hz, hz2] at h
        obtain ⟨hl, hv⟩ := of_decide_eq_true hB
        subst hl
        exact zg_cs hx hb hml htg hgood hNw hnest hown hK hA hd (hX.2.2.1 _ hv) hokc IH hR h
  | ireturn =>
    have hl : len = 1 := of_decide_eq_true hB
    subst hl
    exact zg_ri hx hb hr hlocks hAe hQ hLn hd h
  | lreturn =>
    have hl : len = 1 := of_decide_eq_true hB
    subst hl
    exact zg_rl hx hb hr hlocks hAe hQ hLn hd h
  | areturn =>
    have hl : len = 1 := of_decide_eq_true hB
    subst hl
    exact zg_ra hx hb hr hlocks hAe hQ hLn hd h
  | return_ =>
    have hl : len = 1 := of_decide_eq_true hB
    subst hl
    exact zg_rv hx hb hr hlocks hAe hQ hLn hd h
  | _ => exact (show False from h).elim
theorem zm_le_L {ad : Nat → Nat} {ls : Array Slot} {nL : Nat} {a b : List (Option Value)} (hle : zm_le a b) (h : zm_L ad ls nL b) : zm_L ad ls nL a := by
  refine ⟨h.1, h.2.1, fun i v hi => h.2.2 i v ?_⟩
  have key : ∀ (a b : List (Option Value)) (i : Nat), zm_le a b → zm_n a i = some (some v) → zm_n b i = some (some v) := by
    intro a
    induction a with
    | nil => intro b i _ hi; cases hi
    | cons x a ih =>
      intro b i hle hi
      cases b with
      | nil => exact (show False from hle).elim
      | cons y b =>
        obtain ⟨h1, h2⟩ : (x = none ∨ x = y) ∧ zm_le a b := hle
        cases i with
        | zero =>
          cases hi
          rcases h1 with h1 | h1
          · cases h1
          · rw [← h1]; rfl
        | succ i => exact ih b i h2 hi
  exact key a b i hle hi
theorem zm_o_mono {ev : Nat → List Value → List zm_E → Option Value → List zm_E → Prop} {g1 g2 : zm_S → Prop} {v : Option Value} {w : List zm_E} {r : zm_R} (hg : ∀ t, g1 t → g2 t) (h : zm_o ev g1 v w r) : zm_o ev g2 v w r := by
  rcases r with _ | ⟨⟨c, t⟩ | ⟨c, t, f⟩ | ⟨c, v0, w0⟩ | ⟨k, as, t⟩⟩
  · exact h
  · exact ⟨h.1, hg _ h.2⟩
  · exact h.elim (fun q => Or.inl ⟨q.1, hg _ q.2⟩) (fun q => Or.inr ⟨q.1, hg _ q.2⟩)
  · exact h
  · obtain ⟨v1, w1, h1, h2⟩ := h
    exact ⟨v1, w1, h1, hg _ h2⟩
/-- a method's table is what its bytes say -/
def zm_okT (X : zm_X) (M : zm_M) : Prop := ∀ (pc : Nat) (q : zm_I), zm_n M.2.2.2.2.2.2.2 pc = some (some q) → decode M.2.1 pc = .ok (q.1, q.2.1) ∧ zm_okB X M.2.2.1 pc q = true
theorem zm_a0_has (ad : Nat → Nat) (as : List Value) : ∀ (i k : Nat) (v : Value), zm_n (zm_a0 as) i = some (some v) → (k + i, zm_v ad v) ∈ lv_args k (as.map (zm_v ad)) := by
  induction as with
  | nil => intro i k v h; cases h
  | cons a as ih =>
    have one : ∀ b : Value, b.category ≠ 2 → ∀ (i k : Nat) (v : Value), zm_n (some b :: zm_a0 as) i = some (some v) → (k + i, zm_v ad v) ∈ lv_args k ((b :: as).map (zm_v ad)) := by
      intro b hb i k v h
      show (k + i, zm_v ad v) ∈ (k, zm_v ad b) :: lv_args (if (zm_v ad b).category = 2 then k + 2 else k + 1) (as.map (zm_v ad))
      rw [zm_v_cat, if_neg hb]
      cases i with
      | zero => cases h; exact List.mem_cons_self
      | succ i =>
        refine List.mem_cons_of_mem _ ?_
        have := ih i (k + 1) v h
        rwa [show k + 1 + i = k + (i + 1) by omega] at this
    have two : ∀ b : Value, b.category = 2 → ∀ (i k : Nat) (v : Value), zm_n (some b :: none :: zm_a0 as) i = some (some v) → (k + i, zm_v ad v) ∈ lv_args k ((b :: as).map (zm_v ad)) := by
      intro b hb i k v h
      show (k + i, zm_v ad v) ∈ (k, zm_v ad b) :: lv_args (if (zm_v ad b).category = 2 then k + 2 else k + 1) (as.map (zm_v ad))
      rw [zm_v_cat, if_pos hb]
      rcases i with _ | _ | i
      · cases h; exact List.mem_cons_self
      · cases h
      · refine List.mem_cons_of_mem _ ?_
        have := ih i (k + 2) v h
        rwa [show k + 2 + i = k + (i + 2) by omega] at this
    cases a with
    | long x => exact two _ rfl
    | double x => exact two _ rfl
    | int x => exact one _ (by simp [Value.category])
    | float x => exact one _ (by simp [Value.category])
    | null => exact one _ (by simp [Value.category])
    | ref x => exact one _ (by simp [Value.category])
    | retAddr x => exact one _ (by simp [Value.category])
theorem zm_a0_len (ad : Nat → Nat) (as : List Value) : (lg_sl (as.map (zm_v ad))).length = (zm_a0 as).length := by
  induction as with
  | nil => rfl
  | cons a as ih =>
    have e : lg_sl ((a :: as).map (zm_v ad)) = (if (zm_v ad a).category = 2 then [.val (zm_v ad a), .second] else [.val (zm_v ad a)]) ++ lg_sl (as.map (zm_v ad)) := rfl
    rw [e, List.length_append, ih, zm_v_cat]
    cases a <;> simp [Value.category, zm_a0] <;> omega
theorem zm_n_app {as : List (Option Value)} {n i : Nat} {v : Value} (h : zm_n (as ++ List.replicate n none) i = some (some v)) : zm_n as i = some (some v) := by
  rw [zm_n_eq] at h ⊢
  by_cases hi : i < as.length
  · rwa [List.getElem?_append_left hi] at h
  · rw [List.getElem?_append_right (by omega)] at h
    have := List.eq_of_mem_replicate (List.mem_of_getElem? h)
    cases this

theorem zm_rn_G {M : zm_M} (hx : p.tables.exec = Jvm.exec) (hb : c.code = M.2.1) (hml : c.maxLocals = M.2.2.1) (hr : meth.sig.returnType = M.2.2.2.1) (hlocks : meth.locks = false) (htg : ∀ x ∈ gw, x.before args s = true) (hgood : zm_goodL gw) (hNw : ∀ x ∈ nw, va_Nw x s) (hnest : ∀ x ∈ nw, zm_nest x) (hown : s.vm.findClass own = some m.cls) (hK : va_K D cl (zm_tys tc) s)
    (hX : zm_okX get cl gw nw own X) (hT : zm_okT X M) (hokc : ∀ k M', get k = some M' → zm_okM cl gw M') (IH : zm_IH l get gw nw D cl tc ad d ev) (hR : d + 1 ≤ R.frames ∧ 60 * d + 60 ≤ R.locals) (n : Nat) : ∀ t : zm_S, zm_rn ev M v0 w0 n t → zm_G p l e R s m args below meth c (MQ below (zm_Qc D cl tc ad ws0 v0 w0 s.heap.size) args s 0 0 (va_A (zm_w tc ad 0 ws0) s.heap.size)) D cl tc ad (va_A (zm_w tc ad 0 ws0) s.heap.size) M.2.2.1 ws0.length t := by
  induction n with
  | zero => intro t h; exact (show False from h).elim
  | succ n ih =>
    intro t h
    rcases h with ⟨lv, hle, h⟩ | h
    · intro H locs ls hL hP hD hS hn
      exact ih _ h H locs ls (zm_le_L hle hL) hP hD hS hn
    · obtain ⟨pc, lv, st, ws⟩ := t
      have h2 := zm_o_mono ih h
      unfold zm_nx at h2
      split at h2
      next q hq =>
        obtain ⟨h3, h4⟩ := hT pc q hq
        exact zm_step hx hb hml hr hlocks htg hgood hNw hnest hown hK rfl rfl rfl hX hokc IH hR q h3 h4 h2
      next => exact (show False from h2).elim
end ZMR
/-- A RUN OF OUR MACHINE IS A CONTRACT -/
theorem zm_met {l : Launch} {get : Nat → Option zm_M} {gw nw : List Jvm.Cond} {D : va_G} {cl : List vw_C} {tc : Nat → ClassId} {ad : Nat → Nat} (hgood : zm_goodL gw) (hnest : ∀ x ∈ nw, zm_nest x) (hokc : ∀ k M', get k = some M' → zm_okM cl gw M') (hokx : ∀ k M', get k = some M' → ∃ X, zm_okX get cl gw nw M'.1.cls X ∧ zm_okT X M') (d : Nat) : zm_IH l get gw nw D cl tc ad d (zm_ev get d) := by
  induction d with
  | zero => intro k as ws v w h; exact (show False from h).elim
  | succ d ih =>
    intro k as ws v w h M hM sz
    obtain ⟨M', n, hM', hlen, hrn⟩ := h
    cases hM.symm.trans hM'
    obtain ⟨k1, k2, k3, k4, k5, k6, -, -⟩ := hokc k M hM
    obtain ⟨X, hX, hT⟩ := hokx k M hM
    refine Met.ofW (cc := M.2.1) (maxL := M.2.2.1) (ret := M.2.2.2.1) k1 rfl ?_
    intro p e s m args below meth c s₁ B hml hv
    obtain ⟨rfl, hsz, hP, hK, hD0, hNw⟩ := hv
    have hts := atoms_spec (ws := zm_ws gw M) B.pre
    have hown : s.vm.findClass M.1.cls = some m.cls := findClass_of_methodNamed B.named
    subst hsz
    have hl := lv_entry (as.map (zm_v ad)) (n := M.2.2.1) (by rw [zm_a0_len]; exact hlen)
    rw [lg_entry_eq]
    refine zm_rn_G (ws0 := ws) (R := zm_rm (d + 1)) B.exec B.bytes hml B.returns B.notSynchronized (fun x hx => hts x (List.mem_cons_of_mem _ hx)) hgood hNw hnest hown hK hX hT hokc ih ⟨Nat.le_refl _, by show 60 * d + 60 ≤ 60 * (d + 1); omega⟩ n _ hrn s.heap [] _ ⟨hl.1, hl.2.1, fun i v hi => ?_⟩ hP hD0.self va_S.rf rfl
    have h1 := zm_a0_has ad as i 0 v (zm_n_app hi)
    rw [Nat.zero_add] at h1
    exact hl.2.2 _ h1
