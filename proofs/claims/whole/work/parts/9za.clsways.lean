/-! the class's search counts the exact covers -/
theorem zfold_1 {h : Nat → Nat × Int64 → Nat × Int64} {X : Int64} {g : Nat → Nat} (hh : ∀ k s, lb X k = true → (h k s).1 = s.1 + g k) (s : Nat × Int64) : ∀ n, (zg_fold h X n s).1 = s.1 + zS (fun k => if lb X k = true then g k else 0) n
  | 0 => rfl
  | n + 1 => by
    have ih := zfold_1 hh s n
    show _ = s.1 + (zS (fun k => if lb X k = true then g k else 0) n + (if lb X n = true then g n else 0))
    cases hb : lb X n with
    | true => rw [zg_fold_y hb, hh n _ hb, ih, if_pos rfl, Nat.add_assoc]
    | false => rw [zg_fold_n hb, ih, if_neg (by decide), Nat.add_zero]
theorem zfc_ex {D : Nat → Int64} {o f : Int64} : ∀ k, (zg_fc D o f k = (0, 65) ∧ ∀ j, j < k → lb o j = false) ∨ ((zg_fc D o f k).2 ≤ 64 ∧ ∃ j, j < k ∧ lb o j = true ∧ (zg_fc D o f k).1 = D j &&& f)
  | 0 => Or.inl ⟨rfl, fun j hj => absurd hj (Nat.not_lt_zero j)⟩
  | k + 1 => by
    have hle := zC_le (lb (D k &&& f)) 64
    have e : zg_fc D o f (k + 1) = zg_f1 D o f k (zg_fc D o f k) := rfl
    rw [e]
    unfold zg_f1
    rcases zfc_ex (D := D) (o := o) (f := f) k with ⟨h1, h2⟩ | ⟨h1, j, hj, h2, h3⟩
    · rw [h1]
      cases hb : lb o k with
      | true =>
        rw [if_pos ⟨by decide, rfl, (by show zC (lb (D k &&& f)) 64 < 65; omega)⟩]
        exact Or.inr ⟨hle, k, by omega, hb, rfl⟩
      | false =>
        rw [if_neg (fun w => by cases w.2.1)]
        refine Or.inl ⟨rfl, fun j hj => ?_⟩
        by_cases q : j = k
        · rw [q]; exact hb
        · exact h2 j (by omega)
    · by_cases hc : 1 < (zg_fc D o f k).2 ∧ lb o k = true ∧ zC (lb (D k &&& f)) 64 < (zg_fc D o f k).2
      · rw [if_pos hc]
        exact Or.inr ⟨hle, k, by omega, hc.2.1, rfl⟩
      · rw [if_neg hc]
        exact Or.inr ⟨h1, j, by omega, h2, h3⟩
theorem zwk_1 {C K D : Nat → Int64} {n w : Nat} (hn : n ≤ 64) (hw : w < 64) (hC : ∀ k, k < n → zy_sub w (C k)) (hne : ∀ k, k < n → ¬ C k &&& zy_all w = 0) (hK : ∀ k, k < n → ∀ i, lb (K k) i = true ↔ i < n ∧ ¬ C i &&& C k = 0) (hD : ∀ j, j < w → ∀ k, lb (D j) k = true ↔ k < n ∧ lb (C k) j = true) : ∀ (r : Nat) (x o f t : Int64) (s : Nat × Int64), zy_sub w x → (∀ k, lb o k = (decide (k < w) && !lb x k)) → (∀ k, lb f k = true ↔ k < n ∧ C k &&& x = 0) → w ≤ zC (lb x) w + r → (zg_wk C K D w r o f t s).1 = s.1 + zec C (zy_all w) n x := by
  have hz : ∀ (x o : Int64), zy_sub w x → (∀ k, lb o k = (decide (k < w) && !lb x k)) → (o = 0 ↔ x = zy_all w) := by
    intro x o hx ho
    constructor
    · intro e
      refine Decidable.byContradiction (fun hq => ?_)
      obtain ⟨j, hj, hj2⟩ := zy_miss hw hx hq
      have := ho j
      rw [e, lb_0, decide_eq_true hj, hj2] at this; cases this
    · intro e
      refine lb_ext (fun k _ => ?_)
      rw [ho, e, zy_alls hw, lb_0]
      cases decide (k < w) <;> rfl
  intro r
  induction r with
  | zero =>
    intro x o f t s hx ho hf hr
    have e : x = zy_all w := Decidable.byContradiction (fun hq => by have := zy_few hw hx hq; omega)
    show (if o = 0 then zg_nt t s else s).1 = _
    rw [if_pos ((hz x o hx ho).mpr e), e, zec_all n hne]; rfl
  | succ r ih =>
    intro x o f t s hx ho hf hr
    show (if o = 0 then zg_nt t s else zg_fold (fun k s => zg_wk C K D w r (o &&& (C k ^^^ -1)) (f &&& (K k ^^^ -1)) (t ||| zf_b k) s) (zg_fc D o f w).1 64 s).1 = _
    by_cases e : x = zy_all w
    · rw [if_pos ((hz x o hx ho).mpr e), e, zec_all n hne]; rfl
    · rw [if_neg (fun q => e ((hz x o hx ho).mp q))]
      rcases zfc_ex (D := D) (o := o) (f := f) w with ⟨-, h2⟩ | ⟨-, j, hj, h2, h3⟩
      · exfalso
        refine e ((hz x o hx ho).mp (lb_ext (fun k _ => ?_)))
        rw [lb_0]
        by_cases q : k < w
        · exact h2 k q
        · rw [ho, decide_eq_false q]; rfl
      · have hjx : lb x j = false := by
          have := ho j
          rw [h2, decide_eq_true hj, Bool.true_and] at this
          cases hb : lb x j
          · rfl
          · rw [hb] at this; cases this
        have hX : ∀ k, lb (zg_fc D o f w).1 k = true ↔ k < n ∧ (C k &&& x = 0 ∧ lb (C k) j = true) := fun k => by
          rw [h3, lb_and, Bool.and_eq_true, hD j hj, hf]
          exact ⟨fun z => ⟨z.1.1, z.2.2, z.1.2⟩, fun z => ⟨⟨z.1, z.2.2⟩, z.1, z.2.1⟩⟩
        rw [zfold_1 (g := fun k => zec C (zy_all w) n (x ||| C k)) (fun k s hb => ?_), zec_br (j := j) (by omega) (by rw [zy_alls hw]; exact decide_eq_true hj) n x hjx]
        · congr 1
          rw [zS_skip hn (fun k h1 _ => if_neg (fun q => by have := ((hX k).mp q).1; omega))]
          refine zS_congr n (fun k hk => ?_)
          unfold zebr
          by_cases q : C k &&& x = 0 ∧ lb (C k) j = true
          · rw [if_pos q, if_pos ((hX k).mpr ⟨hk, q⟩)]
          · rw [if_neg q, if_neg (fun z => q ((hX k).mp z).2)]
        · obtain ⟨hk, hk1, hk2⟩ := (hX k).mp hb
          refine ih (x ||| C k) _ _ _ _ (zy_sub_or hx (hC k hk)) (fun i => ?_) (fun i => ?_) ?_
          · by_cases q : i < 64
            · rw [lb_an q, ho, lb_or]
              cases decide (i < w) <;> cases lb x i <;> cases lb (C k) i <;> rfl
            · rw [lb_ge (by omega), decide_eq_false (by omega)]; rfl
          · by_cases q : i < 64
            · rw [lb_an q, Bool.and_eq_true, Bool.not_eq_true', hf, zand_or]
              constructor
              · rintro ⟨⟨z1, z2⟩, z3⟩
                exact ⟨z1, z2, Decidable.byContradiction (fun z4 => by rw [(hK k hk i).mpr ⟨z1, z4⟩] at z3; cases z3)⟩
              · rintro ⟨z1, z2, z3⟩
                exact ⟨⟨z1, z2⟩, Bool.eq_false_iff.mpr (fun z4 => ((hK k hk i).mp z4).2 z3)⟩
            · rw [lb_ge (by omega)]
              exact ⟨fun z => (by cases z), fun z => by omega⟩
          · have := zC_gain (f := lb x) (h := lb (x ||| C k)) (fun t ht => by rw [lb_or, ht]; rfl) hjx (by rw [lb_or, hk2, Bool.or_true]) w hj
            omega
