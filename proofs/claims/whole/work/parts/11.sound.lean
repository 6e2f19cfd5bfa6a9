/-! The step of our machine is the JVM's: each instruction by the kit's row. -/
theorem zm_n_eq {α : Type} (l : List α) (i : Nat) : zm_n l i = l[i]? := by
  induction l generalizing i with
  | nil => rfl
  | cons a l ih => cases i with
    | zero => rfl
    | succ i => simpa [zm_n] using ih i
theorem zm_w_get (tc : Nat → ClassId) (ad : Nat → Nat) (ws : List zm_E) (i a : Nat) : (zm_w tc ad i ws)[a]? = (zm_n ws a).map (fun x => (ad (i + a), zm_e tc ad x)) := by
  induction ws generalizing i a with
  | nil => rfl
  | cons x l ih => cases a with
    | zero => rfl
    | succ a =>
      show (zm_w tc ad (i + 1) l)[a]? = _
      rw [ih, show i + 1 + a = i + (a + 1) by omega]
      rfl
theorem zm_w_at {tc : Nat → ClassId} {ad : Nat → Nat} {ws : List zm_E} {a : Nat} {x : zm_E} (h : zm_n ws a = some x) : (zm_w tc ad 0 ws)[a]? = some (ad a, zm_e tc ad x) := by
  rw [zm_w_get, h, Nat.zero_add]; rfl
theorem zm_w_set (tc : Nat → ClassId) (ad : Nat → Nat) (ws : List zm_E) (x : zm_E) (i a : Nat) : zm_w tc ad i (ws.set a x) = (zm_w tc ad i ws).set a (ad (i + a), zm_e tc ad x) := by
  induction ws generalizing i a with
  | nil => rfl
  | cons y l ih => cases a with
    | zero => rfl
    | succ a =>
      show _ :: zm_w tc ad (i + 1) (l.set a x) = _ :: (zm_w tc ad (i + 1) l).set a _
      rw [ih, show i + 1 + a = i + (a + 1) by omega]
theorem zm_w_set0 (tc : Nat → ClassId) (ad : Nat → Nat) (ws : List zm_E) (x : zm_E) (a : Nat) : (zm_w tc ad 0 ws).set a (ad a, zm_e tc ad x) = zm_w tc ad 0 (ws.set a x) := by
  rw [zm_w_set, Nat.zero_add]
theorem zm_v_cat (ad : Nat → Nat) (v : Value) : (zm_v ad v).category = v.category := by cases v <;> rfl
theorem zm_cats (ad : Nat → Nat) (r : List Value) : ((r.map (zm_v ad)).map fun v => v.category) = r.map fun v => v.category := by
  rw [List.map_map]; exact List.map_congr_left fun v _ => zm_v_cat ad v
/-- the locals of the machine are those of the picture -/
def zm_L (ad : Nat → Nat) (ls : Array Slot) (nL : Nat) (lv : List (Option Value)) : Prop := ls.size = nL ∧ lv_wf ls ∧ ∀ (i : Nat) (v : Value), zm_n lv i = some (some v) → ls[i]? = some (.val (zm_v ad v))
theorem zm_L.list {ad : Nat → Nat} {ls : Array Slot} {nL : Nat} {lv : List (Option Value)} (h : zm_L ad ls nL lv) : ∃ l, lv_has ls nL l ∧ ∀ (i : Nat) (v : Value), zm_n lv i = some (some v) → (i, zm_v ad v) ∈ l := by
  refine ⟨(List.range lv.length).filterMap (fun i => match zm_n lv i with
    | some (some v) => some (i, zm_v ad v)
    | _ => none), ⟨h.1, h.2.1, fun q hq => ?_⟩, fun i v hi => ?_⟩
  · obtain ⟨i, -, hi⟩ := List.mem_filterMap.mp hq
    split at hi
    next v hv => cases hi; exact h.2.2 i v hv
    next => cases hi
  · refine List.mem_filterMap.mpr ⟨i, ?_, by rw [hi]⟩
    rw [zm_n_eq] at hi
    exact List.mem_range.mpr (List.getElem?_eq_some_iff.mp hi).1
theorem zm_k_get {lv : List (Option Value)} {i j : Nat} {v : Value} (h : zm_n (zm_k lv i) j = some (some v)) : zm_n lv j = some (some v) ∧ ¬ (j + 1 = i ∧ v.category = 2) := by
  cases i with
  | zero => exact ⟨h, fun q => by omega⟩
  | succ i =>
    have key : ∀ w : Value, zm_n lv i = some (some w) → zm_n (lv.set i none) j = some (some v) → zm_n lv j = some (some v) ∧ ¬ (j + 1 = i + 1 ∧ v.category = 2) := by
      intro w hw hj
      rw [zm_n_eq] at hj hw ⊢
      by_cases e : i = j
      · subst e
        rw [List.getElem?_set_self (List.getElem?_eq_some_iff.mp hw).1] at hj
        cases hj
      · rw [List.getElem?_set_ne e] at hj
        exact ⟨hj, fun q => e (by omega)⟩
    simp only [zm_k] at h
    split at h
    next x hx => exact key _ hx h
    next x hx => exact key _ hx h
    next h1 h2 =>
      refine ⟨h, fun q => ?_⟩
      have e : j = i := by omega
      subst e
      cases v with
      | long x => exact h1 x h
      | double x => exact h2 x h
      | _ => exact absurd q.2 (by simp [Value.category])
theorem zm_L.s1 {ad : Nat → Nat} {ls' : Array Slot} {nL i : Nat} {lv : List (Option Value)} {v : Value} {l : List (Nat × Value)} (hl : ∀ (i : Nat) (v : Value), zm_n lv i = some (some v) → (i, zm_v ad v) ∈ l) (h : lv_has ls' nL ((i, zm_v ad v) :: l.filter (fun q => !(q.1 == i) && !(q.1 + 1 == i && q.2.category == 2)))) : zm_L ad ls' nL (zm_s1 lv i v) := by
  refine ⟨h.1, h.2.1, fun j w hj => ?_⟩
  unfold zm_s1 at hj
  rw [zm_n_eq] at hj
  by_cases e : i = j
  · subst e
    by_cases hi : i < (zm_k lv i).length
    · rw [List.getElem?_set_self hi] at hj
      cases hj
      exact h.2.2 _ List.mem_cons_self
    · rw [List.getElem?_eq_none (by rw [List.length_set]; omega)] at hj
      cases hj
  · rw [List.getElem?_set_ne e, ← zm_n_eq] at hj
    obtain ⟨h1, h2⟩ := zm_k_get hj
    refine h.2.2 (j, zm_v ad w) (List.mem_cons_of_mem _ (List.mem_filter.mpr ⟨hl j w h1, ?_⟩))
    simp only [zm_v_cat, Bool.and_eq_true, Bool.not_eq_true', beq_eq_false_iff_ne, Bool.and_eq_false_iff, ne_eq]
    refine ⟨fun q => e q.symm, ?_⟩
    by_cases q1 : j + 1 = i
    · exact Or.inr fun q2 => h2 ⟨q1, q2⟩
    · exact Or.inl q1
theorem zm_L.s2 {ad : Nat → Nat} {ls' : Array Slot} {nL i : Nat} {lv : List (Option Value)} {v : Value} {l : List (Nat × Value)} (hl : ∀ (i : Nat) (v : Value), zm_n lv i = some (some v) → (i, zm_v ad v) ∈ l) (h : lv_has ls' nL ((i, zm_v ad v) :: l.filter (fun q => !(q.1 == i) && (!(q.1 == i + 1) && !(q.1 + 1 == i && q.2.category == 2))))) : zm_L ad ls' nL (zm_s2 lv i v) := by
  refine ⟨h.1, h.2.1, fun j w hj => ?_⟩
  unfold zm_s2 at hj
  rw [zm_n_eq] at hj
  by_cases e : i = j
  · subst e
    by_cases hi : i < ((zm_k lv i).set (i + 1) none).length
    · rw [List.getElem?_set_self hi] at hj
      cases hj
      exact h.2.2 _ List.mem_cons_self
    · rw [List.getElem?_eq_none (by rw [List.length_set]; omega)] at hj
      cases hj
  · rw [List.getElem?_set_ne e] at hj
    by_cases e2 : i + 1 = j
    · subst e2
      by_cases hi : i + 1 < (zm_k lv i).length
      · rw [List.getElem?_set_self hi] at hj
        cases hj
      · rw [List.getElem?_eq_none (by rw [List.length_set]; omega)] at hj
        cases hj
    · rw [List.getElem?_set_ne e2, ← zm_n_eq] at hj
      obtain ⟨h1, h2⟩ := zm_k_get hj
      refine h.2.2 (j, zm_v ad w) (List.mem_cons_of_mem _ (List.mem_filter.mpr ⟨hl j w h1, ?_⟩))
      simp only [zm_v_cat, Bool.and_eq_true, Bool.not_eq_true', beq_eq_false_iff_ne, Bool.and_eq_false_iff, ne_eq]
      refine ⟨fun q => e q.symm, fun q => e2 q.symm, ?_⟩
      by_cases q1 : j + 1 = i
      · exact Or.inr fun q2 => h2 ⟨q1, q2⟩
      · exact Or.inl q1
def zm_ft : Nat → FieldType
  | 0 => .int
  | 1 => .long
  | _ => .boolean
abbrev zm_tys (tc : Nat → ClassId) : List (ClassId × FieldType) := [(tc 0, .int), (tc 1, .long), (tc 2, .boolean)]
/-- a field's place, as the tables say it -/
def zm_okF (cl : List vw_C) (Ts nw : List Jvm.Cond) (own : String) (idx u w : Nat) : Prop := ∃ (C : String) (T : u_T) (N : Nat), cl[u]? = some (C, T, N) ∧ (∀ x ∈ u_ws C T N, x ∈ Ts) ∧ w < N ∧ (Jvm.Cond.fieldLink own idx (T w).1 (T w).2.1 (T w).2.2.1 ∈ Ts ∨ ∃ host, Jvm.Cond.fieldLinkNest own idx (T w).1 (T w).2.1 (T w).2.2.1 host ∈ nw)
def zm_okP (cl : List vw_C) (Ts nw : List Jvm.Cond) (own : String) (idx u w : Nat) (ty : FieldType) : Prop := zm_okF cl Ts nw own idx u w ∧ ∃ (C : String) (T : u_T) (N : Nat), cl[u]? = some (C, T, N) ∧ ∃ ty0 : Nat → FieldType, (∀ k, k < N → parseFieldDescriptor (T k).2.2.1 = some (ty0 k)) ∧ (∀ a, a < N → ∀ b, b < N → a ≠ b → (T a).2.1 ≠ (T b).2.1) ∧ (T w).2.2.2 = false ∧ parseFieldDescriptor (T w).2.2.1 = some ty
/-- from this place of the picture the machine comes to Q -/
def zm_G (p : Program) (l : Launch) (e : Env) (R : Room) (s : State) (m : MethodId) (args : Array Value) (below : List Frame) (meth : Method) (c : Code) (Q : State → Prop) (D : va_G) (cl : List vw_C) (tc : Nat → ClassId) (ad : Nat → Nat) (A : Nat → Prop) (nL L : Nat) (t : zm_S) : Prop :=
  ∀ (H : Heap) (locs : List Loc) (ls : Array Slot), zm_L ad ls nL t.2.1 → va_P D cl (zm_w tc ad 0 t.2.2.2) H → va_D A (zm_w tc ad 0 t.2.2.2) → va_S A s.heap H locs → t.2.2.2.length = L → W p l e R s m args below meth c H locs 0 0 Q (F0 m t.1 ls (t.2.2.1.map (zm_v ad)))
section ZMG
variable {p : Program} {l : Launch} {e : Env} {R : Room} {s : State} {m : MethodId} {args : Array Value} {below : List Frame} {meth : Method} {c : Code} {Q : State → Prop} {D : va_G} {cl : List vw_C} {tc : Nat → ClassId} {ad : Nat → Nat} {A : Nat → Prop} {nL L : Nat}
variable {cc : ByteArray} {pc : Nat} {lv : List (Option Value)} {st : List Value} {ws : List zm_E} {ev : Nat → List Value → List zm_E → Option Value → List zm_E → Prop} {v0 : Option Value} {w0 : List zm_E}
variable {k off d lo hi : Int} {offs : Array Int} {kf : Fin 2} {kk : Fin 4} {u w z idx len : Nat} {x y : Int32} {xl : Int64} {own : String} {Ts nw : List Jvm.Cond} {ty : FieldType}

theorem zg_iconst (hx : p.tables.exec = Jvm.exec) (hb : c.code = cc) (hd : decode cc pc = .ok (.iconst k, 1)) (hv : Int32.ofInt k = x) (h : zm_o ev (zm_G p l e R s m args below meth c Q D cl tc ad A nL L) v0 w0 (zm_r0 (pc + 1, lv, .int x :: st, ws))) : zm_G p l e R s m args below meth c Q D cl tc ad A nL L (pc, lv, st, ws) := by
  intro H locs ls hL hP hD hS hn
  exact lv_iconst hx hb hd hv (h.2 H locs ls hL hP hD hS hn)
theorem zg_bipush (hx : p.tables.exec = Jvm.exec) (hb : c.code = cc) (hd : decode cc pc = .ok (.bipush k, 2)) (hv : (Int8.ofInt k).toInt32 = x) (h : zm_o ev (zm_G p l e R s m args below meth c Q D cl tc ad A nL L) v0 w0 (zm_r0 (pc + 2, lv, .int x :: st, ws))) : zm_G p l e R s m args below meth c Q D cl tc ad A nL L (pc, lv, st, ws) := by
  intro H locs ls hL hP hD hS hn
  exact lv_bipush hx hb hd hv (h.2 H locs ls hL hP hD hS hn)
theorem zg_sipush (hx : p.tables.exec = Jvm.exec) (hb : c.code = cc) (hd : decode cc pc = .ok (.sipush k, 3)) (hv : (Int16.ofInt k).toInt32 = x) (h : zm_o ev (zm_G p l e R s m args below meth c Q D cl tc ad A nL L) v0 w0 (zm_r0 (pc + 3, lv, .int x :: st, ws))) : zm_G p l e R s m args below meth c Q D cl tc ad A nL L (pc, lv, st, ws) := by
  intro H locs ls hL hP hD hS hn
  exact lv_sipush hx hb hd hv (h.2 H locs ls hL hP hD hS hn)
theorem zg_lconst (hx : p.tables.exec = Jvm.exec) (hb : c.code = cc) (hd : decode cc pc = .ok (.lconst kf, 1)) (hv : Int64.ofNat (kf : Nat) = xl) (h : zm_o ev (zm_G p l e R s m args below meth c Q D cl tc ad A nL L) v0 w0 (zm_r0 (pc + 1, lv, .long xl :: st, ws))) : zm_G p l e R s m args below meth c Q D cl tc ad A nL L (pc, lv, st, ws) := by
  intro H locs ls hL hP hD hS hn
  exact lv_lconst hx hb hd hv (h.2 H locs ls hL hP hD hS hn)
theorem zg_ldc (hx : p.tables.exec = Jvm.exec) (hb : c.code = cc) (hd : decode cc pc = .ok (.ldc idx, 2)) (hown : s.vm.findClass own = some m.cls) (hc : (Jvm.Cond.constant own idx x).before args s = true) (h : zm_o ev (zm_G p l e R s m args below meth c Q D cl tc ad A nL L) v0 w0 (zm_r0 (pc + 2, lv, .int x :: st, ws))) : zm_G p l e R s m args below meth c Q D cl tc ad A nL L (pc, lv, st, ws) := by
  intro H locs ls hL hP hD hS hn
  exact lv_ldc hx hb hown hc hd (h.2 H locs ls hL hP hD hS hn)
theorem zg_ldc_w (hx : p.tables.exec = Jvm.exec) (hb : c.code = cc) (hd : decode cc pc = .ok (.ldc_w idx, 3)) (hown : s.vm.findClass own = some m.cls) (hc : (Jvm.Cond.constant own idx x).before args s = true) (h : zm_o ev (zm_G p l e R s m args below meth c Q D cl tc ad A nL L) v0 w0 (zm_r0 (pc + 3, lv, .int x :: st, ws))) : zm_G p l e R s m args below meth c Q D cl tc ad A nL L (pc, lv, st, ws) := by
  intro H locs ls hL hP hD hS hn
  exact lv_ldcw hx hb hown hc hd (h.2 H locs ls hL hP hD hS hn)
theorem zg_ldc2 (hx : p.tables.exec = Jvm.exec) (hb : c.code = cc) (hd : decode cc pc = .ok (.ldc2_w idx, 3)) (hown : s.vm.findClass own = some m.cls) (hc : (Jvm.Cond.constantLong own idx xl).before args s = true) (h : zm_o ev (zm_G p l e R s m args below meth c Q D cl tc ad A nL L) v0 w0 (zm_r0 (pc + 3, lv, .long xl :: st, ws))) : zm_G p l e R s m args below meth c Q D cl tc ad A nL L (pc, lv, st, ws) := by
  intro H locs ls hL hP hD hS hn
  exact lv_ldc2 hx hb hown hc hd (h.2 H locs ls hL hP hD hS hn)
theorem zg_iload_n (hx : p.tables.exec = Jvm.exec) (hb : c.code = cc) (hd : decode cc pc = .ok (.iload_n kk, 1)) (hu : (kk : Nat) = u) (h : zm_o ev (zm_G p l e R s m args below meth c Q D cl tc ad A nL L) v0 w0 (zm_xld (pc + 1) lv ws st 0 (zm_n lv u))) : zm_G p l e R s m args below meth c Q D cl tc ad A nL L (pc, lv, st, ws) := by
  rcases hq : zm_n lv u with _ | _ | v
  · rw [hq] at h; exact (show False from h).elim
  · rw [hq] at h; exact (show False from h).elim
  · rw [hq] at h
    cases v with
    | int x =>
      intro H locs ls hL hP hD hS hn
      exact lv_iload_n hx hb hd hu (hL.2.2 u _ hq) ((show True ∧ zm_G p l e R s m args below meth c Q D cl tc ad A nL L (pc + 1, lv, .int x :: st, ws) from h).2 H locs ls hL hP hD hS hn)
    | _ => exact (show False from h).elim
theorem zg_iload (hx : p.tables.exec = Jvm.exec) (hb : c.code = cc) (hd : decode cc pc = .ok (.iload u, 2))  (h : zm_o ev (zm_G p l e R s m args below meth c Q D cl tc ad A nL L) v0 w0 (zm_xld (pc + 2) lv ws st 0 (zm_n lv u))) : zm_G p l e R s m args below meth c Q D cl tc ad A nL L (pc, lv, st, ws) := by
  rcases hq : zm_n lv u with _ | _ | v
  · rw [hq] at h; exact (show False from h).elim
  · rw [hq] at h; exact (show False from h).elim
  · rw [hq] at h
    cases v with
    | int x =>
      intro H locs ls hL hP hD hS hn
      exact lv_iload hx hb hd (hL.2.2 u _ hq) ((show True ∧ zm_G p l e R s m args below meth c Q D cl tc ad A nL L (pc + 2, lv, .int x :: st, ws) from h).2 H locs ls hL hP hD hS hn)
    | _ => exact (show False from h).elim
theorem zg_lload_n (hx : p.tables.exec = Jvm.exec) (hb : c.code = cc) (hd : decode cc pc = .ok (.lload_n kk, 1)) (hu : (kk : Nat) = u) (h : zm_o ev (zm_G p l e R s m args below meth c Q D cl tc ad A nL L) v0 w0 (zm_xld (pc + 1) lv ws st 1 (zm_n lv u))) : zm_G p l e R s m args below meth c Q D cl tc ad A nL L (pc, lv, st, ws) := by
  rcases hq : zm_n lv u with _ | _ | v
  · rw [hq] at h; exact (show False from h).elim
  · rw [hq] at h; exact (show False from h).elim
  · rw [hq] at h
    cases v with
    | long x =>
      intro H locs ls hL hP hD hS hn
      exact lv_lload_n hx hb hd hu (hL.2.2 u _ hq) ((show True ∧ zm_G p l e R s m args below meth c Q D cl tc ad A nL L (pc + 1, lv, .long x :: st, ws) from h).2 H locs ls hL hP hD hS hn)
    | _ => exact (show False from h).elim
theorem zg_lload (hx : p.tables.exec = Jvm.exec) (hb : c.code = cc) (hd : decode cc pc = .ok (.lload u, 2))  (h : zm_o ev (zm_G p l e R s m args below meth c Q D cl tc ad A nL L) v0 w0 (zm_xld (pc + 2) lv ws st 1 (zm_n lv u))) : zm_G p l e R s m args below meth c Q D cl tc ad A nL L (pc, lv, st, ws) := by
  rcases hq : zm_n lv u with _ | _ | v
  · rw [hq] at h; exact (show False from h).elim
  · rw [hq] at h; exact (show False from h).elim
  · rw [hq] at h
    cases v with
    | long x =>
      intro H locs ls hL hP hD hS hn
      exact lv_lload hx hb hd (hL.2.2 u _ hq) ((show True ∧ zm_G p l e R s m args below meth c Q D cl tc ad A nL L (pc + 2, lv, .long x :: st, ws) from h).2 H locs ls hL hP hD hS hn)
    | _ => exact (show False from h).elim
theorem zg_aload_n (hx : p.tables.exec = Jvm.exec) (hb : c.code = cc) (hd : decode cc pc = .ok (.aload_n kk, 1)) (hu : (kk : Nat) = u) (h : zm_o ev (zm_G p l e R s m args below meth c Q D cl tc ad A nL L) v0 w0 (zm_xld (pc + 1) lv ws st 2 (zm_n lv u))) : zm_G p l e R s m args below meth c Q D cl tc ad A nL L (pc, lv, st, ws) := by
  rcases hq : zm_n lv u with _ | _ | v
  · rw [hq] at h; exact (show False from h).elim
  · rw [hq] at h; exact (show False from h).elim
  · rw [hq] at h
    cases v with
    | ref x =>
      intro H locs ls hL hP hD hS hn
      exact lv_aload_n hx hb hd hu (hL.2.2 u _ hq) ((show True ∧ zm_G p l e R s m args below meth c Q D cl tc ad A nL L (pc + 1, lv, .ref x :: st, ws) from h).2 H locs ls hL hP hD hS hn)
    | _ => exact (show False from h).elim
theorem zg_aload (hx : p.tables.exec = Jvm.exec) (hb : c.code = cc) (hd : decode cc pc = .ok (.aload u, 2))  (h : zm_o ev (zm_G p l e R s m args below meth c Q D cl tc ad A nL L) v0 w0 (zm_xld (pc + 2) lv ws st 2 (zm_n lv u))) : zm_G p l e R s m args below meth c Q D cl tc ad A nL L (pc, lv, st, ws) := by
  rcases hq : zm_n lv u with _ | _ | v
  · rw [hq] at h; exact (show False from h).elim
  · rw [hq] at h; exact (show False from h).elim
  · rw [hq] at h
    cases v with
    | ref x =>
      intro H locs ls hL hP hD hS hn
      exact lv_aload hx hb hd (hL.2.2 u _ hq) ((show True ∧ zm_G p l e R s m args below meth c Q D cl tc ad A nL L (pc + 2, lv, .ref x :: st, ws) from h).2 H locs ls hL hP hD hS hn)
    | _ => exact (show False from h).elim
theorem zg_istore_n (hx : p.tables.exec = Jvm.exec) (hb : c.code = cc) (hd : decode cc pc = .ok (.istore_n kk, 1)) (hu : (kk : Nat) = u) (hb2 : u < nL) (h : zm_o ev (zm_G p l e R s m args below meth c Q D cl tc ad A nL L) v0 w0 (zm_xsi (pc + 1) lv ws u st)) : zm_G p l e R s m args below meth c Q D cl tc ad A nL L (pc, lv, st, ws) := by
  unfold zm_xsi at h
  split at h
  next x r =>
    intro H locs ls hL hP hD hS hn
    obtain ⟨lst, hhas, hmem⟩ := hL.list
    exact lv_istore_n hx hb hd hu hhas hb2 rfl (fun ls' hl' => h.2 H locs ls' (zm_L.s1 (v := .int x) hmem hl') hP hD hS hn)
  next => exact h.elim
theorem zg_istore (hx : p.tables.exec = Jvm.exec) (hb : c.code = cc) (hd : decode cc pc = .ok (.istore u, 2))  (hb2 : u < nL) (h : zm_o ev (zm_G p l e R s m args below meth c Q D cl tc ad A nL L) v0 w0 (zm_xsi (pc + 2) lv ws u st)) : zm_G p l e R s m args below meth c Q D cl tc ad A nL L (pc, lv, st, ws) := by
  unfold zm_xsi at h
  split at h
  next x r =>
    intro H locs ls hL hP hD hS hn
    obtain ⟨lst, hhas, hmem⟩ := hL.list
    exact lv_istore hx hb hd hhas hb2 rfl (fun ls' hl' => h.2 H locs ls' (zm_L.s1 (v := .int x) hmem hl') hP hD hS hn)
  next => exact h.elim
theorem zg_lstore_n (hx : p.tables.exec = Jvm.exec) (hb : c.code = cc) (hd : decode cc pc = .ok (.lstore_n kk, 1)) (hu : (kk : Nat) = u) (hb2 : u + 1 < nL) (h : zm_o ev (zm_G p l e R s m args below meth c Q D cl tc ad A nL L) v0 w0 (zm_xsl (pc + 1) lv ws u st)) : zm_G p l e R s m args below meth c Q D cl tc ad A nL L (pc, lv, st, ws) := by
  unfold zm_xsl at h
  split at h
  next x r =>
    intro H locs ls hL hP hD hS hn
    obtain ⟨lst, hhas, hmem⟩ := hL.list
    exact lv_lstore_n hx hb hd hu hhas hb2 rfl (fun ls' hl' => h.2 H locs ls' (zm_L.s2 (v := .long x) hmem hl') hP hD hS hn)
  next => exact h.elim
theorem zg_lstore (hx : p.tables.exec = Jvm.exec) (hb : c.code = cc) (hd : decode cc pc = .ok (.lstore u, 2))  (hb2 : u + 1 < nL) (h : zm_o ev (zm_G p l e R s m args below meth c Q D cl tc ad A nL L) v0 w0 (zm_xsl (pc + 2) lv ws u st)) : zm_G p l e R s m args below meth c Q D cl tc ad A nL L (pc, lv, st, ws) := by
  unfold zm_xsl at h
  split at h
  next x r =>
    intro H locs ls hL hP hD hS hn
    obtain ⟨lst, hhas, hmem⟩ := hL.list
    exact lv_lstore hx hb hd hhas hb2 rfl (fun ls' hl' => h.2 H locs ls' (zm_L.s2 (v := .long x) hmem hl') hP hD hS hn)
  next => exact h.elim
theorem zg_astore_n (hx : p.tables.exec = Jvm.exec) (hb : c.code = cc) (hd : decode cc pc = .ok (.astore_n kk, 1)) (hu : (kk : Nat) = u) (hb2 : u < nL) (h : zm_o ev (zm_G p l e R s m args below meth c Q D cl tc ad A nL L) v0 w0 (zm_xsa (pc + 1) lv ws u st)) : zm_G p l e R s m args below meth c Q D cl tc ad A nL L (pc, lv, st, ws) := by
  unfold zm_xsa at h
  split at h
  next x r =>
    intro H locs ls hL hP hD hS hn
    obtain ⟨lst, hhas, hmem⟩ := hL.list
    exact lv_astore_n hx hb hd hu hhas hb2 rfl (fun ls' hl' => h.2 H locs ls' (zm_L.s1 (v := .ref x) hmem hl') hP hD hS hn)
  next => exact h.elim
theorem zg_astore (hx : p.tables.exec = Jvm.exec) (hb : c.code = cc) (hd : decode cc pc = .ok (.astore u, 2))  (hb2 : u < nL) (h : zm_o ev (zm_G p l e R s m args below meth c Q D cl tc ad A nL L) v0 w0 (zm_xsa (pc + 2) lv ws u st)) : zm_G p l e R s m args below meth c Q D cl tc ad A nL L (pc, lv, st, ws) := by
  unfold zm_xsa at h
  split at h
  next x r =>
    intro H locs ls hL hP hD hS hn
    obtain ⟨lst, hhas, hmem⟩ := hL.list
    exact lv_astore hx hb hd hhas hb2 rfl (fun ls' hl' => h.2 H locs ls' (zm_L.s1 (v := .ref x) hmem hl') hP hD hS hn)
  next => exact h.elim
theorem zg_iinc (hx : p.tables.exec = Jvm.exec) (hb : c.code = cc) (hd : decode cc pc = .ok (.iinc u k, 3)) (hv : Int32.ofInt k = y) (hb2 : u < nL) (h : zm_o ev (zm_G p l e R s m args below meth c Q D cl tc ad A nL L) v0 w0 (zm_xinc (pc + 3) lv ws st u y (zm_n lv u))) : zm_G p l e R s m args below meth c Q D cl tc ad A nL L (pc, lv, st, ws) := by
  rcases hq : zm_n lv u with _ | _ | v
  · rw [hq] at h; exact (show False from h).elim
  · rw [hq] at h; exact (show False from h).elim
  · rw [hq] at h
    cases v with
    | int x =>
      intro H locs ls hL hP hD hS hn
      obtain ⟨lst, hhas, hmem⟩ := hL.list
      obtain ⟨j, hj⟩ := List.getElem?_of_mem (hmem u _ hq)
      exact lv_iinc hx hb hd hhas hj (by rw [hv]) hb2 rfl (fun ls' hl' => (show True ∧ zm_G p l e R s m args below meth c Q D cl tc ad A nL L (pc + 3, zm_s1 lv u (.int (x + y)), st, ws) from h).2 H locs ls' (zm_L.s1 (v := .int (x + y)) hmem hl') hP hD hS hn)
    | _ => exact (show False from h).elim
theorem zg_iadd (hx : p.tables.exec = Jvm.exec) (hb : c.code = cc) (hd : decode cc pc = .ok (.iadd, 1)) (h : zm_o ev (zm_G p l e R s m args below meth c Q D cl tc ad A nL L) v0 w0 (zm_xi2 (pc + 1) lv ws (fun x y => x + y) st)) : zm_G p l e R s m args below meth c Q D cl tc ad A nL L (pc, lv, st, ws) := by
  unfold zm_xi2 at h
  split at h
  next y x r =>
    intro H locs ls hL hP hD hS hn
    exact lv_iadd hx hb hd (h.2 H locs ls hL hP hD hS hn)
  next => exact h.elim
theorem zg_isub (hx : p.tables.exec = Jvm.exec) (hb : c.code = cc) (hd : decode cc pc = .ok (.isub, 1)) (h : zm_o ev (zm_G p l e R s m args below meth c Q D cl tc ad A nL L) v0 w0 (zm_xi2 (pc + 1) lv ws (fun x y => x - y) st)) : zm_G p l e R s m args below meth c Q D cl tc ad A nL L (pc, lv, st, ws) := by
  unfold zm_xi2 at h
  split at h
  next y x r =>
    intro H locs ls hL hP hD hS hn
    exact lv_isub hx hb hd (h.2 H locs ls hL hP hD hS hn)
  next => exact h.elim
theorem zg_imul (hx : p.tables.exec = Jvm.exec) (hb : c.code = cc) (hd : decode cc pc = .ok (.imul, 1)) (h : zm_o ev (zm_G p l e R s m args below meth c Q D cl tc ad A nL L) v0 w0 (zm_xi2 (pc + 1) lv ws (fun x y => x * y) st)) : zm_G p l e R s m args below meth c Q D cl tc ad A nL L (pc, lv, st, ws) := by
  unfold zm_xi2 at h
  split at h
  next y x r =>
    intro H locs ls hL hP hD hS hn
    exact lv_imul hx hb hd (h.2 H locs ls hL hP hD hS hn)
  next => exact h.elim
theorem zg_iand (hx : p.tables.exec = Jvm.exec) (hb : c.code = cc) (hd : decode cc pc = .ok (.iand, 1)) (h : zm_o ev (zm_G p l e R s m args below meth c Q D cl tc ad A nL L) v0 w0 (zm_xi2 (pc + 1) lv ws (fun x y => x &&& y) st)) : zm_G p l e R s m args below meth c Q D cl tc ad A nL L (pc, lv, st, ws) := by
  unfold zm_xi2 at h
  split at h
  next y x r =>
    intro H locs ls hL hP hD hS hn
    exact lv_iand hx hb hd (h.2 H locs ls hL hP hD hS hn)
  next => exact h.elim
theorem zg_ishl (hx : p.tables.exec = Jvm.exec) (hb : c.code = cc) (hd : decode cc pc = .ok (.ishl, 1)) (h : zm_o ev (zm_G p l e R s m args below meth c Q D cl tc ad A nL L) v0 w0 (zm_xi2 (pc + 1) lv ws (fun x y => x <<< (y &&& 31)) st)) : zm_G p l e R s m args below meth c Q D cl tc ad A nL L (pc, lv, st, ws) := by
  unfold zm_xi2 at h
  split at h
  next y x r =>
    intro H locs ls hL hP hD hS hn
    exact lv_ishl hx hb hd (h.2 H locs ls hL hP hD hS hn)
  next => exact h.elim
theorem zg_idiv (hx : p.tables.exec = Jvm.exec) (hb : c.code = cc) (hd : decode cc pc = .ok (.idiv, 1)) (h : zm_o ev (zm_G p l e R s m args below meth c Q D cl tc ad A nL L) v0 w0 (zm_xd2 (pc + 1) lv ws (fun x y => x / y) st)) : zm_G p l e R s m args below meth c Q D cl tc ad A nL L (pc, lv, st, ws) := by
  unfold zm_xd2 at h
  split at h
  next y x r =>
    intro H locs ls hL hP hD hS hn
    exact lv_idiv hx hb hd h.1 (h.2 H locs ls hL hP hD hS hn)
  next => exact h.elim
theorem zg_irem (hx : p.tables.exec = Jvm.exec) (hb : c.code = cc) (hd : decode cc pc = .ok (.irem, 1)) (h : zm_o ev (zm_G p l e R s m args below meth c Q D cl tc ad A nL L) v0 w0 (zm_xd2 (pc + 1) lv ws (fun x y => x - x / y * y) st)) : zm_G p l e R s m args below meth c Q D cl tc ad A nL L (pc, lv, st, ws) := by
  unfold zm_xd2 at h
  split at h
  next y x r =>
    intro H locs ls hL hP hD hS hn
    exact lv_irem hx hb hd h.1 (h.2 H locs ls hL hP hD hS hn)
  next => exact h.elim
theorem zg_ladd (hx : p.tables.exec = Jvm.exec) (hb : c.code = cc) (hd : decode cc pc = .ok (.ladd, 1)) (h : zm_o ev (zm_G p l e R s m args below meth c Q D cl tc ad A nL L) v0 w0 (zm_xl2 (pc + 1) lv ws (fun x y => x + y) st)) : zm_G p l e R s m args below meth c Q D cl tc ad A nL L (pc, lv, st, ws) := by
  unfold zm_xl2 at h
  split at h
  next y x r =>
    intro H locs ls hL hP hD hS hn
    exact lv_ladd hx hb hd (h.2 H locs ls hL hP hD hS hn)
  next => exact h.elim
theorem zg_lsub (hx : p.tables.exec = Jvm.exec) (hb : c.code = cc) (hd : decode cc pc = .ok (.lsub, 1)) (h : zm_o ev (zm_G p l e R s m args below meth c Q D cl tc ad A nL L) v0 w0 (zm_xl2 (pc + 1) lv ws (fun x y => x - y) st)) : zm_G p l e R s m args below meth c Q D cl tc ad A nL L (pc, lv, st, ws) := by
  unfold zm_xl2 at h
  split at h
  next y x r =>
    intro H locs ls hL hP hD hS hn
    exact lv_lsub hx hb hd (h.2 H locs ls hL hP hD hS hn)
  next => exact h.elim
theorem zg_lmul (hx : p.tables.exec = Jvm.exec) (hb : c.code = cc) (hd : decode cc pc = .ok (.lmul, 1)) (h : zm_o ev (zm_G p l e R s m args below meth c Q D cl tc ad A nL L) v0 w0 (zm_xl2 (pc + 1) lv ws (fun x y => x * y) st)) : zm_G p l e R s m args below meth c Q D cl tc ad A nL L (pc, lv, st, ws) := by
  unfold zm_xl2 at h
  split at h
  next y x r =>
    intro H locs ls hL hP hD hS hn
    exact lv_lmul hx hb hd (h.2 H locs ls hL hP hD hS hn)
  next => exact h.elim
theorem zg_land (hx : p.tables.exec = Jvm.exec) (hb : c.code = cc) (hd : decode cc pc = .ok (.land, 1)) (h : zm_o ev (zm_G p l e R s m args below meth c Q D cl tc ad A nL L) v0 w0 (zm_xl2 (pc + 1) lv ws (fun x y => x &&& y) st)) : zm_G p l e R s m args below meth c Q D cl tc ad A nL L (pc, lv, st, ws) := by
  unfold zm_xl2 at h
  split at h
  next y x r =>
    intro H locs ls hL hP hD hS hn
    exact lv_land hx hb hd (h.2 H locs ls hL hP hD hS hn)
  next => exact h.elim
theorem zg_lor (hx : p.tables.exec = Jvm.exec) (hb : c.code = cc) (hd : decode cc pc = .ok (.lor, 1)) (h : zm_o ev (zm_G p l e R s m args below meth c Q D cl tc ad A nL L) v0 w0 (zm_xl2 (pc + 1) lv ws (fun x y => x ||| y) st)) : zm_G p l e R s m args below meth c Q D cl tc ad A nL L (pc, lv, st, ws) := by
  unfold zm_xl2 at h
  split at h
  next y x r =>
    intro H locs ls hL hP hD hS hn
    exact lv_lor hx hb hd (h.2 H locs ls hL hP hD hS hn)
  next => exact h.elim
theorem zg_lxor (hx : p.tables.exec = Jvm.exec) (hb : c.code = cc) (hd : decode cc pc = .ok (.lxor, 1)) (h : zm_o ev (zm_G p l e R s m args below meth c Q D cl tc ad A nL L) v0 w0 (zm_xl2 (pc + 1) lv ws (fun x y => x ^^^ y) st)) : zm_G p l e R s m args below meth c Q D cl tc ad A nL L (pc, lv, st, ws) := by
  unfold zm_xl2 at h
  split at h
  next y x r =>
    intro H locs ls hL hP hD hS hn
    exact lv_lxor hx hb hd (h.2 H locs ls hL hP hD hS hn)
  next => exact h.elim
theorem zg_ldiv (hx : p.tables.exec = Jvm.exec) (hb : c.code = cc) (hd : decode cc pc = .ok (.ldiv, 1)) (h : zm_o ev (zm_G p l e R s m args below meth c Q D cl tc ad A nL L) v0 w0 (zm_xm2 (pc + 1) lv ws (fun x y => x / y) st)) : zm_G p l e R s m args below meth c Q D cl tc ad A nL L (pc, lv, st, ws) := by
  unfold zm_xm2 at h
  split at h
  next y x r =>
    intro H locs ls hL hP hD hS hn
    exact lv_ldiv hx hb hd h.1 (h.2 H locs ls hL hP hD hS hn)
  next => exact h.elim
theorem zg_lrem (hx : p.tables.exec = Jvm.exec) (hb : c.code = cc) (hd : decode cc pc = .ok (.lrem, 1)) (h : zm_o ev (zm_G p l e R s m args below meth c Q D cl tc ad A nL L) v0 w0 (zm_xm2 (pc + 1) lv ws (fun x y => x - x / y * y) st)) : zm_G p l e R s m args below meth c Q D cl tc ad A nL L (pc, lv, st, ws) := by
  unfold zm_xm2 at h
  split at h
  next y x r =>
    intro H locs ls hL hP hD hS hn
    exact lv_lrem hx hb hd h.1 (h.2 H locs ls hL hP hD hS hn)
  next => exact h.elim
theorem zg_lshl (hx : p.tables.exec = Jvm.exec) (hb : c.code = cc) (hd : decode cc pc = .ok (.lshl, 1)) (h : zm_o ev (zm_G p l e R s m args below meth c Q D cl tc ad A nL L) v0 w0 (zm_xs2 (pc + 1) lv ws (fun x y => x <<< (y.toInt64 &&& 63)) st)) : zm_G p l e R s m args below meth c Q D cl tc ad A nL L (pc, lv, st, ws) := by
  unfold zm_xs2 at h
  split at h
  next y x r =>
    intro H locs ls hL hP hD hS hn
    exact lv_lshl hx hb hd rfl (h.2 H locs ls hL hP hD hS hn)
  next => exact h.elim
theorem zg_lshr (hx : p.tables.exec = Jvm.exec) (hb : c.code = cc) (hd : decode cc pc = .ok (.lshr, 1)) (h : zm_o ev (zm_G p l e R s m args below meth c Q D cl tc ad A nL L) v0 w0 (zm_xs2 (pc + 1) lv ws (fun x y => x >>> (y.toInt64 &&& 63)) st)) : zm_G p l e R s m args below meth c Q D cl tc ad A nL L (pc, lv, st, ws) := by
  unfold zm_xs2 at h
  split at h
  next y x r =>
    intro H locs ls hL hP hD hS hn
    exact lv_lshr hx hb hd rfl (h.2 H locs ls hL hP hD hS hn)
  next => exact h.elim
theorem zg_lushr (hx : p.tables.exec = Jvm.exec) (hb : c.code = cc) (hd : decode cc pc = .ok (.lushr, 1)) (h : zm_o ev (zm_G p l e R s m args below meth c Q D cl tc ad A nL L) v0 w0 (zm_xs2 (pc + 1) lv ws (fun x y => (x.toUInt64 >>> (y.toInt64.toUInt64 &&& Int64.toUInt64 63)).toInt64) st)) : zm_G p l e R s m args below meth c Q D cl tc ad A nL L (pc, lv, st, ws) := by
  unfold zm_xs2 at h
  split at h
  next y x r =>
    intro H locs ls hL hP hD hS hn
    exact lv_lushr hx hb hd rfl (h.2 H locs ls hL hP hD hS hn)
  next => exact h.elim
theorem zg_ineg (hx : p.tables.exec = Jvm.exec) (hb : c.code = cc) (hd : decode cc pc = .ok (.ineg, 1)) (h : zm_o ev (zm_G p l e R s m args below meth c Q D cl tc ad A nL L) v0 w0 (zm_x1 (pc + 1) lv ws (fun x => -x) st)) : zm_G p l e R s m args below meth c Q D cl tc ad A nL L (pc, lv, st, ws) := by
  unfold zm_x1 at h
  split at h
  next x r =>
    intro H locs ls hL hP hD hS hn
    exact lv_ineg hx hb hd (h.2 H locs ls hL hP hD hS hn)
  next => exact h.elim
theorem zg_lneg (hx : p.tables.exec = Jvm.exec) (hb : c.code = cc) (hd : decode cc pc = .ok (.lneg, 1)) (h : zm_o ev (zm_G p l e R s m args below meth c Q D cl tc ad A nL L) v0 w0 (zm_x1l (pc + 1) lv ws (fun x => -x) st)) : zm_G p l e R s m args below meth c Q D cl tc ad A nL L (pc, lv, st, ws) := by
  unfold zm_x1l at h
  split at h
  next x r =>
    intro H locs ls hL hP hD hS hn
    exact lv_lneg hx hb hd (h.2 H locs ls hL hP hD hS hn)
  next => exact h.elim
theorem zg_i2l (hx : p.tables.exec = Jvm.exec) (hb : c.code = cc) (hd : decode cc pc = .ok (.i2l, 1)) (h : zm_o ev (zm_G p l e R s m args below meth c Q D cl tc ad A nL L) v0 w0 (zm_xi2l (pc + 1) lv ws st)) : zm_G p l e R s m args below meth c Q D cl tc ad A nL L (pc, lv, st, ws) := by
  unfold zm_xi2l at h
  split at h
  next x r =>
    intro H locs ls hL hP hD hS hn
    exact lv_i2l hx hb hd rfl (h.2 H locs ls hL hP hD hS hn)
  next => exact h.elim
theorem zg_l2i (hx : p.tables.exec = Jvm.exec) (hb : c.code = cc) (hd : decode cc pc = .ok (.l2i, 1)) (h : zm_o ev (zm_G p l e R s m args below meth c Q D cl tc ad A nL L) v0 w0 (zm_xl2i (pc + 1) lv ws st)) : zm_G p l e R s m args below meth c Q D cl tc ad A nL L (pc, lv, st, ws) := by
  unfold zm_xl2i at h
  split at h
  next x r =>
    intro H locs ls hL hP hD hS hn
    exact lv_l2i hx hb hd rfl (h.2 H locs ls hL hP hD hS hn)
  next => exact h.elim
theorem zg_lcmp (hx : p.tables.exec = Jvm.exec) (hb : c.code = cc) (hd : decode cc pc = .ok (.lcmp, 1)) (h : zm_o ev (zm_G p l e R s m args below meth c Q D cl tc ad A nL L) v0 w0 (zm_xcmp (pc + 1) lv ws st)) : zm_G p l e R s m args below meth c Q D cl tc ad A nL L (pc, lv, st, ws) := by
  unfold zm_xcmp at h
  split at h
  next y x r =>
    intro H locs ls hL hP hD hS hn
    exact W.lcmp hx hb hd (h.2 H locs ls hL hP hD hS hn)
  next => exact h.elim
theorem zg_dup (hx : p.tables.exec = Jvm.exec) (hb : c.code = cc) (hd : decode cc pc = .ok (.dup, 1)) (h : zm_o ev (zm_G p l e R s m args below meth c Q D cl tc ad A nL L) v0 w0 (zm_dup (pc + 1) lv ws st)) : zm_G p l e R s m args below meth c Q D cl tc ad A nL L (pc, lv, st, ws) := by
  unfold zm_dup at h
  split at h
  next a r =>
    cases hc : Nat.beq a.category 1 with
    | true =>
      rw [hc] at h
      intro H locs ls hL hP hD hS hn
      exact lv_dup hx hb hd (by rw [zm_v_cat]; exact Nat.eq_of_beq_eq_true hc) (h.2 H locs ls hL hP hD hS hn)
    | false => rw [hc] at h; exact (show False from h).elim
  next => exact h.elim
theorem zg_dup2 (hx : p.tables.exec = Jvm.exec) (hb : c.code = cc) (hd : decode cc pc = .ok (.dup2, 1)) (h : zm_o ev (zm_G p l e R s m args below meth c Q D cl tc ad A nL L) v0 w0 (zm_dup2 (pc + 1) lv ws st)) : zm_G p l e R s m args below meth c Q D cl tc ad A nL L (pc, lv, st, ws) := by
  unfold zm_dup2 at h
  split at h
  next a b r =>
    cases hc : Nat.beq a.category 1 with
    | true =>
      rw [hc] at h
      cases hc2 : Nat.beq b.category 1 with
      | true =>
        rw [hc2] at h
        intro H locs ls hL hP hD hS hn
        exact lv_dup2_11 hx hb hd (by rw [zm_v_cat]; exact Nat.eq_of_beq_eq_true hc) (by rw [zm_v_cat]; exact Nat.eq_of_beq_eq_true hc2) (h.2 H locs ls hL hP hD hS hn)
      | false => rw [hc2] at h; exact (show False from h).elim
    | false => rw [hc] at h; exact (show False from h).elim
  next => exact h.elim
theorem zg_if_eq (hx : p.tables.exec = Jvm.exec) (hb : c.code = cc) (hd : decode cc pc = .ok (.ifCond .eq off, 3)) (ht : (pc : Int) + off = (u : Int)) (h : zm_o ev (zm_G p l e R s m args below meth c Q D cl tc ad A nL L) v0 w0 (zm_b1 (pc + 3) lv ws (fun x => x = 0) u st)) : zm_G p l e R s m args below meth c Q D cl tc ad A nL L (pc, lv, st, ws) := by
  unfold zm_b1 at h
  split at h
  next x r =>
    intro H locs ls hL hP hD hS hn
    exact lv_if_eq hx hb hd ht (fun hc => h.elim (fun q => q.2 H locs ls hL hP hD hS hn) (fun q => absurd hc q.1)) (fun hc => h.elim (fun q => absurd q.1 hc) (fun q => q.2 H locs ls hL hP hD hS hn))
  next => exact h.elim
theorem zg_if_lt (hx : p.tables.exec = Jvm.exec) (hb : c.code = cc) (hd : decode cc pc = .ok (.ifCond .lt off, 3)) (ht : (pc : Int) + off = (u : Int)) (h : zm_o ev (zm_G p l e R s m args below meth c Q D cl tc ad A nL L) v0 w0 (zm_b1 (pc + 3) lv ws (fun x => x < 0) u st)) : zm_G p l e R s m args below meth c Q D cl tc ad A nL L (pc, lv, st, ws) := by
  unfold zm_b1 at h
  split at h
  next x r =>
    intro H locs ls hL hP hD hS hn
    exact lv_if_lt hx hb hd ht (fun hc => h.elim (fun q => q.2 H locs ls hL hP hD hS hn) (fun q => absurd hc q.1)) (fun hc => h.elim (fun q => absurd q.1 hc) (fun q => q.2 H locs ls hL hP hD hS hn))
  next => exact h.elim
theorem zg_if_ge (hx : p.tables.exec = Jvm.exec) (hb : c.code = cc) (hd : decode cc pc = .ok (.ifCond .ge off, 3)) (ht : (pc : Int) + off = (u : Int)) (h : zm_o ev (zm_G p l e R s m args below meth c Q D cl tc ad A nL L) v0 w0 (zm_b1 (pc + 3) lv ws (fun x => 0 ≤ x) u st)) : zm_G p l e R s m args below meth c Q D cl tc ad A nL L (pc, lv, st, ws) := by
  unfold zm_b1 at h
  split at h
  next x r =>
    intro H locs ls hL hP hD hS hn
    exact lv_if_ge hx hb hd ht (fun hc => h.elim (fun q => q.2 H locs ls hL hP hD hS hn) (fun q => absurd hc q.1)) (fun hc => h.elim (fun q => absurd q.1 hc) (fun q => q.2 H locs ls hL hP hD hS hn))
  next => exact h.elim
theorem zg_if_gt (hx : p.tables.exec = Jvm.exec) (hb : c.code = cc) (hd : decode cc pc = .ok (.ifCond .gt off, 3)) (ht : (pc : Int) + off = (u : Int)) (h : zm_o ev (zm_G p l e R s m args below meth c Q D cl tc ad A nL L) v0 w0 (zm_b1 (pc + 3) lv ws (fun x => 0 < x) u st)) : zm_G p l e R s m args below meth c Q D cl tc ad A nL L (pc, lv, st, ws) := by
  unfold zm_b1 at h
  split at h
  next x r =>
    intro H locs ls hL hP hD hS hn
    exact lv_if_gt hx hb hd ht (fun hc => h.elim (fun q => q.2 H locs ls hL hP hD hS hn) (fun q => absurd hc q.1)) (fun hc => h.elim (fun q => absurd q.1 hc) (fun q => q.2 H locs ls hL hP hD hS hn))
  next => exact h.elim
theorem zg_if_le (hx : p.tables.exec = Jvm.exec) (hb : c.code = cc) (hd : decode cc pc = .ok (.ifCond .le off, 3)) (ht : (pc : Int) + off = (u : Int)) (h : zm_o ev (zm_G p l e R s m args below meth c Q D cl tc ad A nL L) v0 w0 (zm_b1 (pc + 3) lv ws (fun x => x ≤ 0) u st)) : zm_G p l e R s m args below meth c Q D cl tc ad A nL L (pc, lv, st, ws) := by
  unfold zm_b1 at h
  split at h
  next x r =>
    intro H locs ls hL hP hD hS hn
    exact lv_if_le hx hb hd ht (fun hc => h.elim (fun q => q.2 H locs ls hL hP hD hS hn) (fun q => absurd hc q.1)) (fun hc => h.elim (fun q => absurd q.1 hc) (fun q => q.2 H locs ls hL hP hD hS hn))
  next => exact h.elim
theorem zg_if_ne (hx : p.tables.exec = Jvm.exec) (hb : c.code = cc) (hd : decode cc pc = .ok (.ifCond .ne off, 3)) (ht : (pc : Int) + off = (u : Int)) (h : zm_o ev (zm_G p l e R s m args below meth c Q D cl tc ad A nL L) v0 w0 (zm_b1n (pc + 3) lv ws u st)) : zm_G p l e R s m args below meth c Q D cl tc ad A nL L (pc, lv, st, ws) := by
  unfold zm_b1n at h
  split at h
  next x r =>
    intro H locs ls hL hP hD hS hn
    exact lv_if_ne hx hb hd ht (fun hc => h.elim (fun q => absurd q.1 hc) (fun q => q.2 H locs ls hL hP hD hS hn)) (fun hc => h.elim (fun q => q.2 H locs ls hL hP hD hS hn) (fun q => absurd hc q.1))
  next => exact h.elim
theorem zg_icmp_eq (hx : p.tables.exec = Jvm.exec) (hb : c.code = cc) (hd : decode cc pc = .ok (.if_icmp .eq off, 3)) (ht : (pc : Int) + off = (u : Int)) (h : zm_o ev (zm_G p l e R s m args below meth c Q D cl tc ad A nL L) v0 w0 (zm_b2 (pc + 3) lv ws (fun x y => x = y) u st)) : zm_G p l e R s m args below meth c Q D cl tc ad A nL L (pc, lv, st, ws) := by
  unfold zm_b2 at h
  split at h
  next y x r =>
    intro H locs ls hL hP hD hS hn
    exact lv_icmp_eq hx hb hd ht (fun hc => h.elim (fun q => q.2 H locs ls hL hP hD hS hn) (fun q => absurd hc q.1)) (fun hc => h.elim (fun q => absurd q.1 hc) (fun q => q.2 H locs ls hL hP hD hS hn))
  next => exact h.elim
theorem zg_icmp_lt (hx : p.tables.exec = Jvm.exec) (hb : c.code = cc) (hd : decode cc pc = .ok (.if_icmp .lt off, 3)) (ht : (pc : Int) + off = (u : Int)) (h : zm_o ev (zm_G p l e R s m args below meth c Q D cl tc ad A nL L) v0 w0 (zm_b2 (pc + 3) lv ws (fun x y => x < y) u st)) : zm_G p l e R s m args below meth c Q D cl tc ad A nL L (pc, lv, st, ws) := by
  unfold zm_b2 at h
  split at h
  next y x r =>
    intro H locs ls hL hP hD hS hn
    exact lv_icmp_lt hx hb hd ht (fun hc => h.elim (fun q => q.2 H locs ls hL hP hD hS hn) (fun q => absurd hc q.1)) (fun hc => h.elim (fun q => absurd q.1 hc) (fun q => q.2 H locs ls hL hP hD hS hn))
  next => exact h.elim
theorem zg_icmp_ge (hx : p.tables.exec = Jvm.exec) (hb : c.code = cc) (hd : decode cc pc = .ok (.if_icmp .ge off, 3)) (ht : (pc : Int) + off = (u : Int)) (h : zm_o ev (zm_G p l e R s m args below meth c Q D cl tc ad A nL L) v0 w0 (zm_b2 (pc + 3) lv ws (fun x y => y ≤ x) u st)) : zm_G p l e R s m args below meth c Q D cl tc ad A nL L (pc, lv, st, ws) := by
  unfold zm_b2 at h
  split at h
  next y x r =>
    intro H locs ls hL hP hD hS hn
    exact lv_icmp_ge hx hb hd ht (fun hc => h.elim (fun q => q.2 H locs ls hL hP hD hS hn) (fun q => absurd hc q.1)) (fun hc => h.elim (fun q => absurd q.1 hc) (fun q => q.2 H locs ls hL hP hD hS hn))
  next => exact h.elim
theorem zg_icmp_gt (hx : p.tables.exec = Jvm.exec) (hb : c.code = cc) (hd : decode cc pc = .ok (.if_icmp .gt off, 3)) (ht : (pc : Int) + off = (u : Int)) (h : zm_o ev (zm_G p l e R s m args below meth c Q D cl tc ad A nL L) v0 w0 (zm_b2 (pc + 3) lv ws (fun x y => y < x) u st)) : zm_G p l e R s m args below meth c Q D cl tc ad A nL L (pc, lv, st, ws) := by
  unfold zm_b2 at h
  split at h
  next y x r =>
    intro H locs ls hL hP hD hS hn
    exact lv_icmp_gt hx hb hd ht (fun hc => h.elim (fun q => q.2 H locs ls hL hP hD hS hn) (fun q => absurd hc q.1)) (fun hc => h.elim (fun q => absurd q.1 hc) (fun q => q.2 H locs ls hL hP hD hS hn))
  next => exact h.elim
theorem zg_icmp_le (hx : p.tables.exec = Jvm.exec) (hb : c.code = cc) (hd : decode cc pc = .ok (.if_icmp .le off, 3)) (ht : (pc : Int) + off = (u : Int)) (h : zm_o ev (zm_G p l e R s m args below meth c Q D cl tc ad A nL L) v0 w0 (zm_b2 (pc + 3) lv ws (fun x y => x ≤ y) u st)) : zm_G p l e R s m args below meth c Q D cl tc ad A nL L (pc, lv, st, ws) := by
  unfold zm_b2 at h
  split at h
  next y x r =>
    intro H locs ls hL hP hD hS hn
    exact lv_icmp_le hx hb hd ht (fun hc => h.elim (fun q => q.2 H locs ls hL hP hD hS hn) (fun q => absurd hc q.1)) (fun hc => h.elim (fun q => absurd q.1 hc) (fun q => q.2 H locs ls hL hP hD hS hn))
  next => exact h.elim
theorem zg_icmp_ne (hx : p.tables.exec = Jvm.exec) (hb : c.code = cc) (hd : decode cc pc = .ok (.if_icmp .ne off, 3)) (ht : (pc : Int) + off = (u : Int)) (h : zm_o ev (zm_G p l e R s m args below meth c Q D cl tc ad A nL L) v0 w0 (zm_b2n (pc + 3) lv ws u st)) : zm_G p l e R s m args below meth c Q D cl tc ad A nL L (pc, lv, st, ws) := by
  unfold zm_b2n at h
  split at h
  next y x r =>
    intro H locs ls hL hP hD hS hn
    exact lv_icmp_ne hx hb hd ht (fun hc => h.elim (fun q => absurd q.1 hc) (fun q => q.2 H locs ls hL hP hD hS hn)) (fun hc => h.elim (fun q => q.2 H locs ls hL hP hD hS hn) (fun q => absurd hc q.1))
  next => exact h.elim
theorem zg_goto (hx : p.tables.exec = Jvm.exec) (hb : c.code = cc) (hd : decode cc pc = .ok (.goto off, 3)) (ht : (pc : Int) + off = (u : Int)) (h : zm_o ev (zm_G p l e R s m args below meth c Q D cl tc ad A nL L) v0 w0 (zm_r0 (u, lv, st, ws))) : zm_G p l e R s m args below meth c Q D cl tc ad A nL L (pc, lv, st, ws) := by
  intro H locs ls hL hP hD hS hn
  exact lv_goto hx hb hd ht (h.2 H locs ls hL hP hD hS hn)
theorem zg_switch (hx : p.tables.exec = Jvm.exec) (hb : c.code = cc) (hd : decode cc pc = .ok (.tableswitch d lo hi offs, len)) (ht : 0 ≤ (pc : Int) + d ∧ ∀ i : Nat, (i : Int) ≤ hi - lo → ∃ off, offs[i]? = some off ∧ 0 ≤ (pc : Int) + off) (h : zm_o ev (zm_G p l e R s m args below meth c Q D cl tc ad A nL L) v0 w0 (zm_xsw lv ws pc d lo hi offs st)) : zm_G p l e R s m args below meth c Q D cl tc ad A nL L (pc, lv, st, ws) := by
  unfold zm_xsw at h
  split at h
  next x r =>
    intro H locs ls hL hP hD hS hn
    have h2 := h.2 H locs ls hL hP hD hS hn
    by_cases hc : x.toInt < lo ∨ hi < x.toInt
    · rw [show zm_sw pc d lo hi offs x = ((pc : Int) + d).toNat from if_pos hc] at h2
      exact lv_tableOut hx hb hd hc (Int.toNat_of_nonneg ht.1).symm h2
    · have a1 : ¬ x.toInt < lo := fun q => hc (Or.inl q)
      have a2 : ¬ hi < x.toInt := fun q => hc (Or.inr q)
      obtain ⟨off, ho, h0⟩ := ht.2 (x.toInt - lo).toNat (by omega)
      have e1 : zm_sw pc d lo hi offs x = ((pc : Int) + off).toNat := by
        rw [show zm_sw pc d lo hi offs x = ((pc : Int) + (offs[(x.toInt - lo).toNat]?).getD 0).toNat from if_neg hc, ho]
        rfl
      rw [e1] at h2
      exact lv_tableIn hx hb hd a1 a2 ho (Int.toNat_of_nonneg h0).symm h2
  next => exact h.elim
theorem zg_get (hx : p.tables.exec = Jvm.exec) (hb : c.code = cc) (hts : ∀ x ∈ Ts, x.before args s = true) (hNw : ∀ x ∈ nw, va_Nw x s) (hown : s.vm.findClass own = some m.cls) (hK : va_K D cl (zm_tys tc) s) (hd : decode cc pc = .ok (.getfield idx, 3)) (hF : zm_okF cl Ts nw own idx u w) (h : zm_o ev (zm_G p l e R s m args below meth c Q D cl tc ad A nL L) v0 w0 (zm_gf (pc + 3) lv ws u w st)) : zm_G p l e R s m args below meth c Q D cl tc ad A nL L (pc, lv, st, ws) := by
  unfold zm_gf at h
  split at h
  next a r =>
    rcases hq : zm_n ws a with _ | ⟨x | ⟨ci, fs⟩⟩
    · rw [hq] at h; exact (show False from h).elim
    · rw [hq] at h; exact (show False from h).elim
    · rw [hq] at h
      cases hc : Nat.beq ci u with
      | false => simp only [zm_xget, hc] at h; exact (show False from h).elim
      | true =>
        simp only [zm_xget, hc] at h
        have hcu := Nat.eq_of_beq_eq_true hc
        subst hcu
        rcases hv : zm_n fs w with _ | v
        · rw [hv] at h; exact (show False from h).elim
        · rw [hv] at h
          have h2 : True ∧ zm_G p l e R s m args below meth c Q D cl tc ad A nL L (pc + 3, lv, v :: r, ws) := h
          obtain ⟨C, T, N, h3, h4, h5, h6⟩ := hF
          have hv2 : (fs.map (zm_v ad))[w]? = some (zm_v ad v) := by rw [List.getElem?_map, ← zm_n_eq, hv]; rfl
          intro H locs ls hL hP hD hS hn
          rcases h6 with h6 | ⟨host, h6⟩
          · exact va_get hx hb hts h4 hown hK hP a (zm_w_at hq) h3 w h5 (hts _ h6) (fun _ h9 => h9) hv2 hd (h2.2 H locs ls hL hP hD hS hn)
          · exact va_getN hx hb hts h4 hown hK hP a (zm_w_at hq) h3 w h5 (va_Nw.use rfl (hNw _ h6)) (fun _ h9 => h9) hv2 hd (h2.2 H locs ls hL hP hD hS hn)
  next => exact h.elim
theorem zg_put1 (hx : p.tables.exec = Jvm.exec) (hb : c.code = cc) (hts : ∀ x ∈ Ts, x.before args s = true) (hNw : ∀ x ∈ nw, va_Nw x s) (hown : s.vm.findClass own = some m.cls) (hK : va_K D cl (zm_tys tc) s) (hd : decode cc pc = .ok (.putfield idx, 3)) (hF : zm_okP cl Ts nw own idx u w ty) {a : Nat} {r : List Value} {v : Value} {P : Option Prop} (hn1 : zm_c P → narrow ty (zm_v ad v) = zm_v ad v ∧ fits ty (zm_v ad v) = true) (h : zm_o ev (zm_G p l e R s m args below meth c Q D cl tc ad A nL L) v0 w0 (zm_xput (pc + 3) lv ws a r u w v P (zm_n ws a))) : zm_G p l e R s m args below meth c Q D cl tc ad A nL L (pc, lv, v :: .ref a :: r, ws) := by
  rcases hq : zm_n ws a with _ | ⟨x | ⟨ci, fs⟩⟩
  · rw [hq] at h; exact (show False from h).elim
  · rw [hq] at h; exact (show False from h).elim
  · rw [hq] at h
    cases hc : Nat.beq ci u with
    | false => simp only [zm_xput, hc] at h; exact (show False from h).elim
    | true =>
      simp only [zm_xput, hc] at h
      have hcu := Nat.eq_of_beq_eq_true hc
      subst hcu
      cases hv : Nat.ble (w + 1) fs.length with
      | false => rw [hv] at h; exact (show False from h).elim
      | true =>
        rw [hv] at h
        have h2 : zm_c P ∧ zm_G p l e R s m args below meth c Q D cl tc ad A nL L (pc + 3, lv, r, ws.set a (.inr (ci, fs.set w v))) := h
        obtain ⟨⟨C, T, N, h3, h4, h5, h6⟩, C', T', N', h3', ty0, h7, h8, h9, h10⟩ := hF
        have e1 := h3.symm.trans h3'
        cases e1
        have hlen : w < (fs.map (zm_v ad)).length := by rw [List.length_map]; exact Nat.le_of_ble_eq_true hv
        have hset : ∀ H1 : Heap, va_P D cl ((zm_w tc ad 0 ws).set a (ad a, .inr (ci, (fs.map (zm_v ad)).set w (zm_v ad v)))) H1 → va_P D cl (zm_w tc ad 0 (ws.set a (.inr (ci, fs.set w v)))) H1 := by
          intro H1 h
          rw [← zm_w_set0]
          show va_P D cl ((zm_w tc ad 0 ws).set a (ad a, .inr (ci, (fs.set w v).map (zm_v ad)))) H1
          rw [List.map_set]
          exact h
        have hset2 : va_D A ((zm_w tc ad 0 ws).set a (ad a, .inr (ci, (fs.map (zm_v ad)).set w (zm_v ad v)))) → va_D A (zm_w tc ad 0 (ws.set a (.inr (ci, fs.set w v)))) := by
          intro h
          rw [← zm_w_set0]
          show va_D A ((zm_w tc ad 0 ws).set a (ad a, .inr (ci, (fs.set w v).map (zm_v ad))))
          rw [List.map_set]
          exact h
        intro H locs ls hL hP hD hS hn
        obtain ⟨n1, n2⟩ := hn1 h2.1
        rcases h6 with h6 | ⟨host, h6⟩
        · exact va_put hx hb hts h4 ty0 h7 h8 hown hK hP hD hS a (zm_w_at hq) h3 w h5 (hts _ h6) (fun _ h9 => h9) h9 h10 n1 n2 hlen hd (fun H1 locs1 hP1 hD1 hS1 => h2.2 H1 locs1 ls hL (hset H1 hP1) (hset2 hD1) hS1 (by rw [← hn]; exact List.length_set))
        · exact va_putN hx hb hts h4 ty0 h7 h8 hown hK hP hD hS a (zm_w_at hq) h3 w h5 (va_Nw.use rfl (hNw _ h6)) (fun _ h9 => h9) h9 h10 n1 n2 hlen hd (fun H1 locs1 hP1 hD1 hS1 => h2.2 H1 locs1 ls hL (hset H1 hP1) (hset2 hD1) hS1 (by rw [← hn]; exact List.length_set))
theorem zg_put (hx : p.tables.exec = Jvm.exec) (hb : c.code = cc) (hts : ∀ x ∈ Ts, x.before args s = true) (hNw : ∀ x ∈ nw, va_Nw x s) (hown : s.vm.findClass own = some m.cls) (hK : va_K D cl (zm_tys tc) s) (hd : decode cc pc = .ok (.putfield idx, 3)) (hF : zm_okP cl Ts nw own idx u w (zm_ft z)) (h : zm_o ev (zm_G p l e R s m args below meth c Q D cl tc ad A nL L) v0 w0 (zm_xput0 (pc + 3) lv ws u w z st)) : zm_G p l e R s m args below meth c Q D cl tc ad A nL L (pc, lv, st, ws) := by
  unfold zm_xput0 at h
  split at h
  next x a r =>
    rcases z with _ | _ | _ | z
    · exact zg_put1 hx hb hts hNw hown hK hd hF (P := none) (fun _ => ⟨rfl, rfl⟩) h
    · exact (show False from h).elim
    · refine zg_put1 hx hb hts hNw hown hK hd hF (P := some (x = 0 ∨ x = 1)) (fun q => ?_) h
      rcases (show x = 0 ∨ x = 1 from q) with rfl | rfl
      · exact ⟨show narrow .boolean (.int 0) = .int 0 by decide, show fits .boolean (.int 0) = true by decide⟩
      · exact ⟨show narrow .boolean (.int 1) = .int 1 by decide, show fits .boolean (.int 1) = true by decide⟩
    · exact (show False from h).elim
  next x a r =>
    rcases z with _ | _ | z
    · exact (show False from h).elim
    · exact zg_put1 hx hb hts hNw hown hK hd hF (P := none) (fun _ => ⟨rfl, rfl⟩) h
    · exact (show False from h).elim
  next => exact h.elim
theorem zg_iaload (hx : p.tables.exec = Jvm.exec) (hb : c.code = cc) (hK : va_K D cl (zm_tys tc) s) (hd : decode cc pc = .ok (.iaload, 1)) (h : zm_o ev (zm_G p l e R s m args below meth c Q D cl tc ad A nL L) v0 w0 (zm_al (pc + 1) lv ws 0 st)) : zm_G p l e R s m args below meth c Q D cl tc ad A nL L (pc, lv, st, ws) := by
  unfold zm_al at h
  split at h
  next i a r =>
    rcases hq : zm_n ws a with _ | ⟨⟨k, n, f | f⟩ | x⟩
    · rw [hq] at h; exact (show False from h).elim
    · rw [hq] at h
      cases hc : Nat.beq k 0 with
      | false => simp only [zm_xald, hc] at h; exact (show False from h).elim
      | true =>
        simp only [zm_xald, hc] at h
        have hcu := Nat.eq_of_beq_eq_true hc
        subst hcu
        have h2 : vp_in i n ∧ zm_G p l e R s m args below meth c Q D cl tc ad A nL L (pc + 1, lv, .int (f i.toNatClampNeg) :: r, ws) := h
        intro H locs ls hL hP hD hS hn
        exact va_iald hx hb hK hP a 0 (zm_w_at hq) rfl h2.1 hd (h2.2 H locs ls hL hP hD hS hn)
    · rw [hq] at h; exact (show False from h).elim
    · rw [hq] at h; exact (show False from h).elim
  next => exact h.elim
theorem zg_baload (hx : p.tables.exec = Jvm.exec) (hb : c.code = cc) (hK : va_K D cl (zm_tys tc) s) (hd : decode cc pc = .ok (.baload, 1)) (h : zm_o ev (zm_G p l e R s m args below meth c Q D cl tc ad A nL L) v0 w0 (zm_al (pc + 1) lv ws 2 st)) : zm_G p l e R s m args below meth c Q D cl tc ad A nL L (pc, lv, st, ws) := by
  unfold zm_al at h
  split at h
  next i a r =>
    rcases hq : zm_n ws a with _ | ⟨⟨k, n, f | f⟩ | x⟩
    · rw [hq] at h; exact (show False from h).elim
    · rw [hq] at h
      cases hc : Nat.beq k 2 with
      | false => simp only [zm_xald, hc] at h; exact (show False from h).elim
      | true =>
        simp only [zm_xald, hc] at h
        have hcu := Nat.eq_of_beq_eq_true hc
        subst hcu
        have h2 : vp_in i n ∧ zm_G p l e R s m args below meth c Q D cl tc ad A nL L (pc + 1, lv, .int (f i.toNatClampNeg) :: r, ws) := h
        intro H locs ls hL hP hD hS hn
        exact va_zald hx hb hK hP a 2 (zm_w_at hq) rfl h2.1 hd (h2.2 H locs ls hL hP hD hS hn)
    · rw [hq] at h; exact (show False from h).elim
    · rw [hq] at h; exact (show False from h).elim
  next => exact h.elim
theorem zg_laload (hx : p.tables.exec = Jvm.exec) (hb : c.code = cc) (hK : va_K D cl (zm_tys tc) s) (hd : decode cc pc = .ok (.laload, 1)) (h : zm_o ev (zm_G p l e R s m args below meth c Q D cl tc ad A nL L) v0 w0 (zm_lal (pc + 1) lv ws st)) : zm_G p l e R s m args below meth c Q D cl tc ad A nL L (pc, lv, st, ws) := by
  unfold zm_lal at h
  split at h
  next i a r =>
    rcases hq : zm_n ws a with _ | ⟨⟨k, n, f | f | f⟩ | x⟩
    · rw [hq] at h; exact (show False from h).elim
    · rw [hq] at h; exact (show False from h).elim
    · rw [hq] at h
      cases hc : Nat.beq k 1 with
      | false => simp only [zm_xlald, hc] at h; exact (show False from h).elim
      | true =>
        simp only [zm_xlald, hc] at h
        have hcu := Nat.eq_of_beq_eq_true hc
        subst hcu
        have h2 : vp_in i n ∧ zm_G p l e R s m args below meth c Q D cl tc ad A nL L (pc + 1, lv, .long (f i.toNatClampNeg) :: r, ws) := h
        intro H locs ls hL hP hD hS hn
        exact va_lald hx hb hK hP a 1 (zm_w_at hq) rfl h2.1 hd (h2.2 H locs ls hL hP hD hS hn)
    · rw [hq] at h; exact (show False from h).elim
    · rw [hq] at h; exact (show False from h).elim
  next => exact h.elim
theorem zg_iastore (hx : p.tables.exec = Jvm.exec) (hb : c.code = cc) (hK : va_K D cl (zm_tys tc) s) (hd : decode cc pc = .ok (.iastore, 1)) (h : zm_o ev (zm_G p l e R s m args below meth c Q D cl tc ad A nL L) v0 w0 (zm_as (pc + 1) lv ws 0 (fun x => x) st)) : zm_G p l e R s m args below meth c Q D cl tc ad A nL L (pc, lv, st, ws) := by
  unfold zm_as at h
  split at h
  next x i a r =>
    rcases hq : zm_n ws a with _ | ⟨⟨k, n, f | f⟩ | y⟩
    · rw [hq] at h; exact (show False from h).elim
    · rw [hq] at h
      cases hc : Nat.beq k 0 with
      | false => simp only [zm_xast, hc] at h; exact (show False from h).elim
      | true =>
        simp only [zm_xast, hc] at h
        have hcu := Nat.eq_of_beq_eq_true hc
        subst hcu
        have h2 : vp_in i n ∧ zm_G p l e R s m args below meth c Q D cl tc ad A nL L (pc + 1, lv, r, ws.set a (.inl (0, n, .inl (upd f i.toNatClampNeg x)))) := h
        intro H locs ls hL hP hD hS hn
        exact va_iast hx hb hK hP hD hS a 0 (zm_w_at hq) rfl h2.1 hd (fun H1 locs1 hP1 hD1 hS1 => h2.2 H1 locs1 ls hL (by rw [← zm_w_set0]; exact hP1) (by rw [← zm_w_set0]; exact hD1) hS1 (by rw [← hn]; exact List.length_set))
    · rw [hq] at h; exact (show False from h).elim
    · rw [hq] at h; exact (show False from h).elim
  next => exact h.elim
theorem zg_bastore (hx : p.tables.exec = Jvm.exec) (hb : c.code = cc) (hK : va_K D cl (zm_tys tc) s) (hd : decode cc pc = .ok (.bastore, 1)) (h : zm_o ev (zm_G p l e R s m args below meth c Q D cl tc ad A nL L) v0 w0 (zm_as (pc + 1) lv ws 2 (vp_nar .boolean) st)) : zm_G p l e R s m args below meth c Q D cl tc ad A nL L (pc, lv, st, ws) := by
  unfold zm_as at h
  split at h
  next x i a r =>
    rcases hq : zm_n ws a with _ | ⟨⟨k, n, f | f⟩ | y⟩
    · rw [hq] at h; exact (show False from h).elim
    · rw [hq] at h
      cases hc : Nat.beq k 2 with
      | false => simp only [zm_xast, hc] at h; exact (show False from h).elim
      | true =>
        simp only [zm_xast, hc] at h
        have hcu := Nat.eq_of_beq_eq_true hc
        subst hcu
        have h2 : vp_in i n ∧ zm_G p l e R s m args below meth c Q D cl tc ad A nL L (pc + 1, lv, r, ws.set a (.inl (2, n, .inl (upd f i.toNatClampNeg (vp_nar .boolean x))))) := h
        intro H locs ls hL hP hD hS hn
        exact va_zast hx hb hK hP hD hS a 2 (zm_w_at hq) rfl h2.1 hd (fun H1 locs1 hP1 hD1 hS1 => h2.2 H1 locs1 ls hL (by rw [← zm_w_set0]; exact hP1) (by rw [← zm_w_set0]; exact hD1) hS1 (by rw [← hn]; exact List.length_set))
    · rw [hq] at h; exact (show False from h).elim
    · rw [hq] at h; exact (show False from h).elim
  next => exact h.elim
theorem zg_lastore (hx : p.tables.exec = Jvm.exec) (hb : c.code = cc) (hK : va_K D cl (zm_tys tc) s) (hd : decode cc pc = .ok (.lastore, 1)) (h : zm_o ev (zm_G p l e R s m args below meth c Q D cl tc ad A nL L) v0 w0 (zm_las (pc + 1) lv ws st)) : zm_G p l e R s m args below meth c Q D cl tc ad A nL L (pc, lv, st, ws) := by
  unfold zm_las at h
  split at h
  next x i a r =>
    rcases hq : zm_n ws a with _ | ⟨⟨k, n, f | f | f⟩ | y⟩
    · rw [hq] at h; exact (show False from h).elim
    · rw [hq] at h; exact (show False from h).elim
    · rw [hq] at h
      cases hc : Nat.beq k 1 with
      | false => simp only [zm_xlast, hc] at h; exact (show False from h).elim
      | true =>
        simp only [zm_xlast, hc] at h
        have hcu := Nat.eq_of_beq_eq_true hc
        subst hcu
        have h2 : vp_in i n ∧ zm_G p l e R s m args below meth c Q D cl tc ad A nL L (pc + 1, lv, r, ws.set a (.inl (1, n, .inr (.inl (vp_updL f i.toNatClampNeg x))))) := h
        intro H locs ls hL hP hD hS hn
        exact va_last hx hb hK hP hD hS a 1 (zm_w_at hq) rfl h2.1 hd (fun H1 locs1 hP1 hD1 hS1 => h2.2 H1 locs1 ls hL (by rw [← zm_w_set0]; exact hP1) (by rw [← zm_w_set0]; exact hD1) hS1 (by rw [← hn]; exact List.length_set))
    · rw [hq] at h; exact (show False from h).elim
    · rw [hq] at h; exact (show False from h).elim
  next => exact h.elim
end ZMG
