/-! exact covers as sets; the first one -/
/-- T: pieces below n, apart from x and from each other, that make a together with x -/
def zval (C : Nat → Int64) (a : Int64) (n : Nat) (x T : Int64) : Prop := (∀ i, lb T i = true → i < n ∧ C i &&& x = 0) ∧ (∀ i j, lb T i = true → lb T j = true → i ≠ j → C i &&& C j = 0) ∧ ∀ j, j < 64 → (lb a j = true ↔ lb x j = true ∨ ∃ i, lb T i = true ∧ lb (C i) j = true)
theorem zval_add {C : Nat → Int64} {a : Int64} {n : Nat} {x T : Int64} {k : Nat} (hk : k < n) (hn : n ≤ 64) (hd : C k &&& x = 0) (h : zval C a n (x ||| C k) T) : zval C a n x (T ||| zf_b k) := by
  obtain ⟨h1, h2, h3⟩ := h
  have hb : ∀ i, lb (T ||| zf_b k) i = true ↔ lb T i = true ∨ k = i := fun i => by
    rw [lb_or, Bool.or_eq_true, zf_b_lb (by omega), decide_eq_true_iff]
  refine ⟨fun i hi => ?_, fun i j hi hj hij => ?_, fun j hj => ?_⟩
  · rcases (hb i).mp hi with q | q
    · exact ⟨(h1 i q).1, (zand_or.mp (h1 i q).2).1⟩
    · subst q; exact ⟨hk, hd⟩
  · rcases (hb i).mp hi with q | q
    · rcases (hb j).mp hj with q2 | q2
      · exact h2 i j q q2 hij
      · subst q2; exact (zand_or.mp (h1 i q).2).2
    · subst q
      rcases (hb j).mp hj with q2 | q2
      · exact zand_c.mp (zand_or.mp (h1 j q2).2).2
      · exact absurd q2 hij
  · rw [h3 j hj, lb_or, Bool.or_eq_true]
    constructor
    · rintro ((q | q) | ⟨i, q1, q2⟩)
      · exact Or.inl q
      · exact Or.inr ⟨k, (hb k).mpr (Or.inr rfl), q⟩
      · exact Or.inr ⟨i, (hb i).mpr (Or.inl q1), q2⟩
    · rintro (q | ⟨i, q1, q2⟩)
      · exact Or.inl (Or.inl q)
      · rcases (hb i).mp q1 with q | q
        · exact Or.inr ⟨i, q, q2⟩
        · subst q; exact Or.inl (Or.inr q2)
theorem zval_b {T : Int64} {k : Nat} (hk : k < 64) (i : Nat) : lb (T &&& (zf_b k ^^^ -1)) i = true ↔ lb T i = true ∧ k ≠ i := by
  by_cases q : i < 64
  · rw [lb_an q, Bool.and_eq_true, Bool.not_eq_true', zf_b_lb hk, decide_eq_false_iff_not]
  · rw [lb_ge (by omega), lb_ge (x := T) (by omega)]
    exact ⟨fun z => (by cases z), fun z => (by cases z.1)⟩
theorem zval_rem {C : Nat → Int64} {a : Int64} {n : Nat} {x T : Int64} {k : Nat} (hn : n ≤ 64) (hk : lb T k = true) (h : zval C a n x T) : zval C a n (x ||| C k) (T &&& (zf_b k ^^^ -1)) := by
  obtain ⟨h1, h2, h3⟩ := h
  have hk64 : k < 64 := by have := (h1 k hk).1; omega
  have hb := zval_b (T := T) hk64
  refine ⟨fun i hi => ?_, fun i j hi hj hij => h2 i j ((hb i).mp hi).1 ((hb j).mp hj).1 hij, fun j hj => ?_⟩
  · obtain ⟨q1, q2⟩ := (hb i).mp hi
    exact ⟨(h1 i q1).1, zand_or.mpr ⟨(h1 i q1).2, h2 i k q1 hk (fun e => q2 e.symm)⟩⟩
  · rw [h3 j hj, lb_or, Bool.or_eq_true]
    constructor
    · rintro (q | ⟨i, q1, q2⟩)
      · exact Or.inl (Or.inl q)
      · by_cases e : k = i
        · subst e; exact Or.inl (Or.inr q2)
        · exact Or.inr ⟨i, (hb i).mpr ⟨q1, e⟩, q2⟩
    · rintro ((q | q) | ⟨i, q1, q2⟩)
      · exact Or.inl q
      · exact Or.inr ⟨k, hk, q⟩
      · exact Or.inr ⟨i, ((hb i).mp q1).1, q2⟩
theorem zval_up {C : Nat → Int64} {a : Int64} {n : Nat} {x T : Int64} (h : zval C a n x T) : zval C a (n + 1) x T :=
  ⟨fun i hi => ⟨Nat.lt_succ_of_lt (h.1 i hi).1, (h.1 i hi).2⟩, h.2.1, h.2.2⟩
theorem zval_dn {C : Nat → Int64} {a : Int64} {n : Nat} {x T : Int64} (h : zval C a (n + 1) x T) (hb : ¬ lb T n = true) : zval C a n x T :=
  ⟨fun i hi => ⟨by
    have h1 := (h.1 i hi).1
    have h2 : i ≠ n := fun e => hb (by rw [← e]; exact hi)
    omega, (h.1 i hi).2⟩, h.2.1, h.2.2⟩
theorem zec_pos {C : Nat → Int64} {a : Int64} : ∀ n x, n ≤ 64 → (zec C a n x ≠ 0 ↔ ∃ T, zval C a n x T)
  | 0, x, hn => by
    show (if x = a then 1 else 0) ≠ 0 ↔ _
    constructor
    · intro h
      have e : x = a := Decidable.byContradiction (fun q => h (if_neg q))
      refine ⟨0, fun i hi => (by rw [lb_0] at hi; cases hi), fun i j hi => (by rw [lb_0] at hi; cases hi), fun j hj => ?_⟩
      rw [e]
      refine ⟨Or.inl, fun z => ?_⟩
      rcases z with z | ⟨i, z, -⟩
      · exact z
      · rw [lb_0] at z; cases z
    · rintro ⟨T, h1, -, h3⟩
      have e : x = a := lb_ext (fun j hj => zb_iff (by
        rw [h3 j hj]
        refine ⟨Or.inl, fun z => ?_⟩
        rcases z with z | ⟨i, z, -⟩
        · exact z
        · exact absurd (h1 i z).1 (Nat.not_lt_zero i)))
      rw [if_pos e]; decide
  | n + 1, x, hn => by
    have ih := fun x => zec_pos (C := C) (a := a) n x (by omega)
    show zec C a n x + (if C n &&& x = 0 then zec C a n (x ||| C n) else 0) ≠ 0 ↔ _
    constructor
    · intro h
      by_cases q : zec C a n x = 0
      · have hc : C n &&& x = 0 := Decidable.byContradiction (fun z => h (by rw [q, if_neg z]))
        rw [if_pos hc, q, Nat.zero_add] at h
        obtain ⟨T, hT⟩ := (ih _).mp h
        exact ⟨_, zval_add (by omega) hn hc (zval_up hT)⟩
      · obtain ⟨T, hT⟩ := (ih _).mp q
        exact ⟨T, zval_up hT⟩
    · rintro ⟨T, hT⟩ h
      obtain ⟨h4, h5⟩ := Nat.add_eq_zero_iff.mp h
      by_cases q : lb T n = true
      · rw [if_pos (hT.1 n q).2] at h5
        refine (ih (x ||| C n)).mpr ⟨_, zval_dn (zval_rem hn q hT) (fun z => ?_)⟩ h5
        exact ((zval_b (by omega) n).mp z).2 rfl
      · exact (ih x).mpr ⟨T, zval_dn hT q⟩ h4
/-- the order of sets: the one that has the lowest that is not in both -/
def zlt (u t : Int64) : Prop := ∃ i, i < 64 ∧ lb u i = true ∧ lb t i = false ∧ ∀ j, j < i → lb u j = lb t j
def zpre (u t : Int64) : Prop := u = t ∨ zlt u t
theorem zxor_f {a b : Bool} : (a ^^ b) = false ↔ a = b := by cases a <;> cases b <;> decide
theorem ztri (t u : Int64) : (t = u ∧ ((t &&& (t ^^^ u)) &&& -(t ^^^ u) = 0)) ∨ (zlt t u ∧ ¬ (t &&& (t ^^^ u)) &&& -(t ^^^ u) = 0) ∨ (zlt u t ∧ (t &&& (t ^^^ u)) &&& -(t ^^^ u) = 0) := by
  have hbit : ∀ j, lb ((t &&& (t ^^^ u)) &&& -(t ^^^ u)) j = (lb t j && (decide (j < 64) && decide (j = lb_low (t ^^^ u)))) := fun j => by
    rw [← lb_lowest, lb_and, lb_and, lb_and, Bool.and_assoc]
  rcases lb_low_ge (x := t ^^^ u) with ⟨h1, h2⟩ | ⟨h1, h2, h3⟩
  · refine Or.inl ⟨lb_ext (fun k hk => ?_), lb_is0.mpr (fun k hk => ?_)⟩
    · have := h2 k hk
      rw [lb_xor] at this
      exact zxor_f.mp this
    · rw [hbit, h1, decide_eq_false (show ¬ k = 64 by omega), Bool.and_false, Bool.and_false]
  · have h4 : ∀ j, j < lb_low (t ^^^ u) → lb t j = lb u j := fun j hj => by
      have := h3 j hj
      rw [lb_xor] at this
      exact zxor_f.mp this
    rw [lb_xor] at h2
    generalize lb_low (t ^^^ u) = p at *
    cases ht : lb t p with
    | true =>
      have hu : lb u p = false := by
        rw [ht] at h2
        cases hq : lb u p
        · rfl
        · rw [hq] at h2; cases h2
      refine Or.inr (Or.inl ⟨⟨p, h1, ht, hu, h4⟩, fun z => ?_⟩)
      have := hbit p
      rw [z, lb_0, ht, decide_eq_true h1, decide_eq_true rfl] at this
      cases this
    | false =>
      have hu : lb u p = true := by
        rw [ht] at h2
        cases hq : lb u p
        · rw [hq] at h2; cases h2
        · rfl
      refine Or.inr (Or.inr ⟨⟨p, h1, hu, ht, fun j hj => (h4 j hj).symm⟩, lb_is0.mpr (fun k hk => ?_)⟩)
      rw [hbit]
      by_cases e : k = p
      · rw [e, ht]; rfl
      · rw [decide_eq_false e, Bool.and_false, Bool.and_false]
theorem zpre_tr {u t v : Int64} (h1 : zpre u t) (h2 : zpre t v) : zpre u v := by
  rcases h1 with rfl | ⟨i, a1, a2, a3, a4⟩
  · exact h2
  · rcases h2 with rfl | ⟨k, b1, b2, b3, b4⟩
    · exact Or.inr ⟨i, a1, a2, a3, a4⟩
    · right
      rcases Nat.lt_trichotomy i k with e | e | e
      · exact ⟨i, a1, a2, by rw [← b4 i e]; exact a3, fun j hj => (a4 j hj).trans (b4 j (by omega))⟩
      · rw [e, b2] at a3; cases a3
      · exact ⟨k, b1, by rw [a4 k e]; exact b2, b3, fun j hj => (a4 j (by omega)).trans (b4 j hj)⟩
/-- so many are found, and the first of them -/
def zrs (z : Int64) (s : Nat × Int64) (S : Int64 → Prop) : Prop := (s.1 = 0 ∧ s.2 = z ∧ ∀ t, ¬ S t) ∨ (s.1 ≠ 0 ∧ S s.2 ∧ ∀ t, S t → zpre s.2 t)
theorem zrs_cg {z : Int64} {s : Nat × Int64} {S S2 : Int64 → Prop} (h : ∀ v, S v ↔ S2 v) (hs : zrs z s S) : zrs z s S2 := by
  rcases hs with ⟨h1, h4, h2⟩ | ⟨h1, h2, h3⟩
  · exact Or.inl ⟨h1, h4, fun t ht => h2 t ((h t).mpr ht)⟩
  · exact Or.inr ⟨h1, (h _).mp h2, fun t ht => h3 t ((h t).mpr ht)⟩
theorem zrs_nt {z : Int64} {s : Nat × Int64} {S : Int64 → Prop} {t : Int64} (hs : zrs z s S) : zrs z (zg_nt t s) (fun v => S v ∨ v = t) := by
  refine Or.inr ⟨Nat.succ_ne_zero _, ?_⟩
  show (S (if s.1 = 0 ∨ ¬ (t &&& (t ^^^ s.2)) &&& -(t ^^^ s.2) = 0 then t else s.2) ∨ (if s.1 = 0 ∨ ¬ (t &&& (t ^^^ s.2)) &&& -(t ^^^ s.2) = 0 then t else s.2) = t) ∧ ∀ v, S v ∨ v = t → zpre (if s.1 = 0 ∨ ¬ (t &&& (t ^^^ s.2)) &&& -(t ^^^ s.2) = 0 then t else s.2) v
  rcases hs with ⟨h1, -, h2⟩ | ⟨h1, h2, h3⟩
  · rw [if_pos (Or.inl h1)]
    refine ⟨Or.inr rfl, fun v hv => ?_⟩
    rcases hv with hv | hv
    · exact absurd hv (h2 v)
    · exact Or.inl hv.symm
  · rcases ztri t s.2 with ⟨e1, e2⟩ | ⟨e1, e2⟩ | ⟨e1, e2⟩
    · rw [if_neg (fun z => by rcases z with z | z; exact h1 z; exact z e2)]
      refine ⟨Or.inl h2, fun v hv => ?_⟩
      rcases hv with hv | hv
      · exact h3 v hv
      · rw [hv, e1]; exact Or.inl rfl
    · rw [if_pos (Or.inr e2)]
      refine ⟨Or.inr rfl, fun v hv => ?_⟩
      rcases hv with hv | hv
      · exact zpre_tr (Or.inr e1) (h3 v hv)
      · exact Or.inl hv.symm
    · rw [if_neg (fun z => by rcases z with z | z; exact h1 z; exact z e2)]
      refine ⟨Or.inl h2, fun v hv => ?_⟩
      rcases hv with hv | hv
      · exact h3 v hv
      · rw [hv]; exact Or.inr e1
theorem zfold_2 {z0 : Int64} {h : Nat → Nat × Int64 → Nat × Int64} {X : Int64} {G : Nat → Int64 → Prop} (hh : ∀ k s S, lb X k = true → zrs z0 s S → zrs z0 (h k s) (fun v => S v ∨ G k v)) {s : Nat × Int64} {S : Int64 → Prop} (hs : zrs z0 s S) : ∀ n, zrs z0 (zg_fold h X n s) (fun v => S v ∨ ∃ k, k < n ∧ lb X k = true ∧ G k v)
  | 0 => zrs_cg (fun v => ⟨Or.inl, fun z => by
      rcases z with z | ⟨k, hk, -⟩
      · exact z
      · exact absurd hk (Nat.not_lt_zero k)⟩) hs
  | n + 1 => by
    have ih := zfold_2 hh hs n
    cases hb : lb X n with
    | true =>
      rw [zg_fold_y hb]
      refine zrs_cg (fun v => ?_) (hh n _ _ hb ih)
      constructor
      · rintro ((z | ⟨k, hk, z⟩) | z)
        · exact Or.inl z
        · exact Or.inr ⟨k, by omega, z⟩
        · exact Or.inr ⟨n, by omega, hb, z⟩
      · rintro (z | ⟨k, hk, z1, z2⟩)
        · exact Or.inl (Or.inl z)
        · by_cases e : k = n
          · subst e; exact Or.inr z2
          · exact Or.inl (Or.inr ⟨k, by omega, z1, z2⟩)
    | false =>
      rw [zg_fold_n hb]
      refine zrs_cg (fun v => ?_) ih
      constructor
      · rintro (z | ⟨k, hk, z⟩)
        · exact Or.inl z
        · exact Or.inr ⟨k, by omega, z⟩
      · rintro (z | ⟨k, hk, z1, z2⟩)
        · exact Or.inl z
        · by_cases e : k = n
          · subst e; rw [z1] at hb; cases hb
          · exact Or.inr ⟨k, by omega, z1, z2⟩
theorem zC_orw {x y : Int64} (h : x &&& y = 0) {w : Nat} (hw : w ≤ 64) : zC (lb (x ||| y)) w = zC (lb x) w + zC (lb y) w := by
  rw [← zS_zC, ← zS_zC, ← zS_zC, ← zS_add]
  refine zS_congr _ (fun s hs => ?_)
  have := zand0.mp h s (by omega)
  show zin (lb (x ||| y) s) = zin (lb x s) + zin (lb y s)
  rw [lb_or]
  cases hx : lb x s <;> cases hy : lb y s
  · rfl
  · rfl
  · rfl
  · exact absurd ⟨hx, hy⟩ this
