/-! the class's search: the first set, the count; the reference's greedy set is the first one -/
theorem zval_end {C : Nat → Int64} {n w : Nat} (hne : ∀ k, k < n → ¬ C k &&& zy_all w = 0) (T : Int64) : zval C (zy_all w) n (zy_all w) T ↔ T = 0 := by
  constructor
  · rintro ⟨h1, -, -⟩
    refine lb_is0.mpr (fun k hk => Bool.eq_false_iff.mpr (fun z => ?_))
    exact hne k (h1 k z).1 (h1 k z).2
  · intro e
    subst e
    refine ⟨fun i hi => (by rw [lb_0] at hi; cases hi), fun i j hi => (by rw [lb_0] at hi; cases hi), fun j hj => ⟨Or.inl, fun z => ?_⟩⟩
    rcases z with z | ⟨i, z, -⟩
    · exact z
    · rw [lb_0] at z; cases z
theorem zor_0 {t : Int64} : t ||| 0 = t := lb_ext (fun k _ => by rw [lb_or, lb_0, Bool.or_false])
theorem zwk_m {C K D : Nat → Int64} {n w m : Nat} (hn : n ≤ 64) (hw : w < 64) (hC : ∀ k, k < n → zy_sub w (C k)) (hne : ∀ k, k < n → ¬ C k &&& zy_all w = 0) (hK : ∀ k, k < n → ∀ i, lb (K k) i = true ↔ i < n ∧ ¬ C i &&& C k = 0) (hD : ∀ j, j < w → ∀ k, lb (D j) k = true ↔ k < n ∧ lb (C k) j = true) (hm : ∀ k, k < n → m ≤ zC (lb (C k)) w) : ∀ (r : Nat) (x o f t z0 : Int64) (s : Nat × Int64) (S : Int64 → Prop), zy_sub w x → (∀ k, lb o k = (decide (k < w) && !lb x k)) → (∀ k, lb f k = true ↔ k < n ∧ C k &&& x = 0) → w ≤ zC (lb x) w + m * r → zrs z0 s S → zrs z0 (zg_wk C K D w r o f t s) (fun v => S v ∨ ∃ T, zval C (zy_all w) n x T ∧ v = t ||| T) ∧ (zg_wk C K D w r o f t s).1 = s.1 + zec C (zy_all w) n x := by
  have hz : ∀ (x o : Int64), zy_sub w x → (∀ k, lb o k = (decide (k < w) && !lb x k)) → (o = 0 ↔ x = zy_all w) := by
    intro x o hx ho
    constructor
    · intro e
      refine Decidable.byContradiction (fun hq => ?_)
      obtain ⟨j, hj, hj2⟩ := zy_miss hw hx hq
      have := ho j
      rw [e, lb_0, decide_eq_true hj, hj2] at this; cases this
    · intro e
      refine lb_ext (fun k _ => ?_)
      rw [ho, e, zy_alls hw, lb_0]
      cases decide (k < w) <;> rfl
  have hend : ∀ (t z0 : Int64) (s : Nat × Int64) (S : Int64 → Prop), zrs z0 s S → zrs z0 (zg_nt t s) (fun v => S v ∨ ∃ T, zval C (zy_all w) n (zy_all w) T ∧ v = t ||| T) ∧ (zg_nt t s).1 = s.1 + zec C (zy_all w) n (zy_all w) := by
    intro t z0 s S hs
    refine ⟨zrs_cg (fun v => ?_) (zrs_nt (t := t) hs), by rw [zec_all n hne]; rfl⟩
    constructor
    · rintro (z | z)
      · exact Or.inl z
      · exact Or.inr ⟨0, (zval_end hne 0).mpr rfl, by rw [zor_0]; exact z⟩
    · rintro (z | ⟨T, z1, z2⟩)
      · exact Or.inl z
      · rw [(zval_end hne T).mp z1, zor_0] at z2
        exact Or.inr z2
  intro r
  induction r with
  | zero =>
    intro x o f t z0 s S hx ho hf hr hs
    have e : x = zy_all w := Decidable.byContradiction (fun hq => by have := zy_few hw hx hq; omega)
    have e2 : zg_wk C K D w 0 o f t s = zg_nt t s := if_pos ((hz x o hx ho).mpr e)
    rw [e2, e]
    exact hend t z0 s S hs
  | succ r ih =>
    intro x o f t z0 s S hx ho hf hr hs
    by_cases e : x = zy_all w
    · have e2 : zg_wk C K D w (r + 1) o f t s = zg_nt t s := if_pos ((hz x o hx ho).mpr e)
      rw [e2, e]
      exact hend t z0 s S hs
    · have e2 : zg_wk C K D w (r + 1) o f t s = zg_fold (fun k s => zg_wk C K D w r (o &&& (C k ^^^ -1)) (f &&& (K k ^^^ -1)) (t ||| zf_b k) s) (zg_fc D o f w).1 64 s := if_neg (fun q => e ((hz x o hx ho).mp q))
      rw [e2]
      rcases zfc_ex (D := D) (o := o) (f := f) w with ⟨-, h2⟩ | ⟨-, j, hj, h2, h3⟩
      · exfalso
        refine e ((hz x o hx ho).mp (lb_ext (fun k _ => ?_)))
        rw [lb_0]
        by_cases q : k < w
        · exact h2 k q
        · rw [ho, decide_eq_false q]; rfl
      · have hjx : lb x j = false := by
          have := ho j
          rw [h2, decide_eq_true hj, Bool.true_and] at this
          cases hb : lb x j
          · rfl
          · rw [hb] at this; cases this
        have hja : lb (zy_all w) j = true := by rw [zy_alls hw]; exact decide_eq_true hj
        have hX : ∀ k, lb (zg_fc D o f w).1 k = true ↔ k < n ∧ (C k &&& x = 0 ∧ lb (C k) j = true) := fun k => by
          rw [h3, lb_and, Bool.and_eq_true, hD j hj, hf]
          exact ⟨fun z => ⟨z.1.1, z.2.2, z.1.2⟩, fun z => ⟨⟨z.1, z.2.2⟩, z.1, z.2.1⟩⟩
        have hgo : ∀ z0 k s S, lb (zg_fc D o f w).1 k = true → zrs z0 s S → zrs z0 (zg_wk C K D w r (o &&& (C k ^^^ -1)) (f &&& (K k ^^^ -1)) (t ||| zf_b k) s) (fun v => S v ∨ ∃ T, zval C (zy_all w) n (x ||| C k) T ∧ v = t ||| zf_b k ||| T) ∧ (zg_wk C K D w r (o &&& (C k ^^^ -1)) (f &&& (K k ^^^ -1)) (t ||| zf_b k) s).1 = s.1 + zec C (zy_all w) n (x ||| C k) := by
          intro z0 k s S hb hs
          obtain ⟨hk, hk1, hk2⟩ := (hX k).mp hb
          refine ih (x ||| C k) _ _ _ _ _ _ (zy_sub_or hx (hC k hk)) (fun i => ?_) (fun i => ?_) ?_ hs
          · by_cases q : i < 64
            · rw [lb_an q, ho, lb_or]
              cases decide (i < w) <;> cases lb x i <;> cases lb (C k) i <;> rfl
            · rw [lb_ge (by omega), decide_eq_false (by omega)]; rfl
          · by_cases q : i < 64
            · rw [lb_an q, Bool.and_eq_true, Bool.not_eq_true', hf, zand_or]
              constructor
              · rintro ⟨⟨z1, z2⟩, z3⟩
                exact ⟨z1, z2, Decidable.byContradiction (fun z4 => by rw [(hK k hk i).mpr ⟨z1, z4⟩] at z3; cases z3)⟩
              · rintro ⟨z1, z2, z3⟩
                exact ⟨⟨z1, z2⟩, Bool.eq_false_iff.mpr (fun z4 => ((hK k hk i).mp z4).2 z3)⟩
            · rw [lb_ge (by omega)]
              exact ⟨fun z => (by cases z), fun z => by omega⟩
          · rw [zC_orw (zand_c.mp hk1) (by omega)]
            have h5 := hm k hk
            rw [Nat.mul_succ] at hr
            omega
        constructor
        · refine zrs_cg (fun v => ?_) (zfold_2 (G := fun k v => ∃ T, zval C (zy_all w) n (x ||| C k) T ∧ v = t ||| zf_b k ||| T) (fun k s S hb hs => (hgo z0 k s S hb hs).1) hs 64)
          constructor
          · rintro (z | ⟨k, -, hb, T, z1, z2⟩)
            · exact Or.inl z
            · obtain ⟨hk, hk1, hk2⟩ := (hX k).mp hb
              refine Or.inr ⟨T ||| zf_b k, zval_add hk hn hk1 z1, ?_⟩
              rw [z2]
              exact lb_ext (fun i _ => by rw [lb_or, lb_or, lb_or, lb_or, Bool.or_assoc, Bool.or_comm (lb T i)])
          · rintro (z | ⟨T, z1, z2⟩)
            · exact Or.inl z
            · rcases (z1.2.2 j (by omega)).mp hja with q | ⟨k, q1, q2⟩
              · rw [q] at hjx; cases hjx
              · obtain ⟨hk, hk1⟩ := z1.1 k q1
                refine Or.inr ⟨k, by omega, (hX k).mpr ⟨hk, hk1, q2⟩, _, zval_rem hn q1 z1, ?_⟩
                rw [z2]
                refine lb_ext (fun i hi => ?_)
                rw [lb_or, lb_or, lb_or, lb_an hi, zf_b_lb (by omega)]
                by_cases q : k = i
                · subst q
                  rw [q1, decide_eq_true rfl]
                  cases lb t k <;> rfl
                · rw [decide_eq_false q]
                  cases lb t i <;> cases lb T i <;> rfl
        · rw [zfold_1 (g := fun k => zec C (zy_all w) n (x ||| C k)) (fun k s hb => (hgo s.2 k s (fun t => s.1 ≠ 0 ∧ t = s.2) hb (by
            by_cases q : s.1 = 0
            · exact Or.inl ⟨q, rfl, fun t ht => ht.1 q⟩
            · exact Or.inr ⟨q, ⟨q, rfl⟩, fun t ht => Or.inl ht.2.symm⟩)).2), zec_br (j := j) (by omega) hja n x hjx]
          congr 1
          · rw [zS_skip hn (fun k h1 _ => if_neg (fun q => by have := ((hX k).mp q).1; omega))]
            refine zS_congr n (fun k hk => ?_)
            unfold zebr
            by_cases q : C k &&& x = 0 ∧ lb (C k) j = true
            · rw [if_pos q, if_pos ((hX k).mpr ⟨hk, q⟩)]
            · rw [if_neg q, if_neg (fun z => q ((hX k).mp z).2)]
theorem zways_pos {C : Nat → Int64} {n w : Nat} (hn : n ≤ 64) (hw : w < 64) (hC : ∀ k, k < n → zy_sub w (C k)) (hne : ∀ k, k < n → ¬ C k &&& zy_all w = 0) {y : Int64} (hy : zy_sub w y) (most : Nat) (h1 : 1 ≤ most) : 0 < zy_ways C n w most y ↔ ∃ T, zval C (zy_all w) n y T := by
  rw [← zec_pos n y hn]
  unfold zy_ways
  by_cases e : y = zy_all w
  · rw [if_pos e, e, zec_all n hne]; decide
  · rw [if_neg e, zyW_eq hw hC hne 64 y hy e (by omega)]
    omega
theorem zfirst {C : Nat → Int64} {n w : Nat} {x t0 M : Int64} (hn : n ≤ 64) (hw : w < 64) (hC : ∀ k, k < n → zy_sub w (C k)) (hne : ∀ k, k < n → ¬ C k &&& zy_all w = 0) (hx : zy_sub w x) (ht0 : ∀ k, lb t0 k = true → ¬ C k &&& x = 0) (hM : zval C (zy_all w) n x M) (hmax : ∀ T, zval C (zy_all w) n x T → zpre (t0 ||| M) (t0 ||| T)) : ∀ k, k ≤ n → (∀ i, i < k → zy_gt C n w x i = lb M i) ∧ zval C (zy_all w) n (zy_gb C n w x k) (zg_rest M k) ∧ ∀ T, zval C (zy_all w) n (zy_gb C n w x k) T → zval C (zy_all w) n x (T ||| zL (lb M) k)
  | 0, _ => by
    refine ⟨fun i hi => absurd hi (Nat.not_lt_zero i), ?_, fun T hT => ?_⟩
    · rw [zg_rest_0]; exact hM
    · have e : T ||| zL (lb M) 0 = T := zor_0
      rw [e]; exact hT
  | k + 1, hk => by
    obtain ⟨i1, i2, i3⟩ := zfirst hn hw hC hne hx ht0 hM hmax k (by omega)
    have hb := zy_gb_sub hx hC k (by omega)
    have hgt : zy_gt C n w x k = lb M k := by
      refine zb_iff ?_
      unfold zy_gt
      rw [decide_eq_true_iff, zways_pos hn hw hC hne (zy_sub_or hb (hC k (by omega))) 1 (Nat.le_refl _)]
      constructor
      · rintro ⟨g1, T, hT⟩
        have hU := i3 _ (zval_add (by omega) hn g1 hT)
        have hUb : ∀ i, lb (T ||| zf_b k ||| zL (lb M) k) i = (lb T i || decide (k = i) || (decide (i < k) && lb M i)) := fun i => by
          rw [lb_or, lb_or, zf_b_lb (by omega), lb_L k (by omega)]
        have hUk : lb (T ||| zf_b k ||| zL (lb M) k) k = true := by
          rw [hUb, decide_eq_true rfl, Bool.or_true, Bool.true_or]
        have ht : lb t0 k = false := Bool.eq_false_iff.mpr (fun z => ht0 k z (hU.1 k hUk).2)
        rcases hmax _ hU with e | ⟨i, a1, a2, a3, a4⟩
        · have : lb (t0 ||| M) k = lb (t0 ||| (T ||| zf_b k ||| zL (lb M) k)) k := congrArg (fun q => lb q k) e
          rw [lb_or, lb_or, ht, hUk, Bool.false_or] at this
          exact this
        · rw [lb_or, Bool.or_eq_false_iff] at a3
          rw [lb_or, a3.1, Bool.false_or] at a2
          rcases Nat.lt_trichotomy i k with q | q | q
          · have := a3.2
            rw [hUb, a2, decide_eq_true q, Bool.and_true, Bool.or_true] at this; cases this
          · rw [q, hUk] at a3; cases a3.2
          · have := a4 k q
            rw [lb_or, lb_or, ht, hUk, Bool.false_or] at this
            exact this
      · intro hk1
        have hr : lb (zg_rest M k) k = true := by rw [zg_rest_lb, hk1, decide_eq_true (Nat.le_refl k)]; rfl
        exact ⟨(i2.1 k hr).2, _, zval_rem hn hr i2⟩
    refine ⟨fun i hi => ?_, ?_⟩
    · by_cases e : i = k
      · rw [e]; exact hgt
      · exact i1 i (by omega)
    · cases hb2 : lb M k with
      | true =>
        rw [hb2] at hgt
        rw [zy_gb_y hgt]
        have hr : lb (zg_rest M k) k = true := by rw [zg_rest_lb, hb2, decide_eq_true (Nat.le_refl k)]; rfl
        have e1 : zg_rest M k &&& (zf_b k ^^^ -1) = zg_rest M (k + 1) := lb_ext (fun i hi => by
          rw [lb_an hi, zg_rest_lb, zg_rest_lb, zf_b_lb (by omega)]
          by_cases q : k = i
          · subst q
            rw [decide_eq_true rfl, decide_eq_false (show ¬ k + 1 ≤ k by omega), Bool.not_true, Bool.and_false, Bool.false_and]
          · rw [decide_eq_false q, Bool.not_false, Bool.and_true]
            congr 1
            by_cases q2 : k ≤ i
            · rw [decide_eq_true q2, decide_eq_true (by omega)]
            · rw [decide_eq_false q2, decide_eq_false (by omega)])
        refine ⟨?_, fun T hT => ?_⟩
        · rw [← e1]
          exact zval_rem hn hr i2
        · have h5 := i3 _ (zval_add (by omega) hn (i2.1 k hr).2 hT)
          have e2 : T ||| zL (lb M) (k + 1) = T ||| zf_b k ||| zL (lb M) k := lb_ext (fun i _ => by
            rw [lb_or, lb_or, lb_or, lb_L (k + 1) (by omega), lb_L k (by omega), zf_b_lb (by omega), Bool.or_assoc]
            congr 1
            by_cases q : k = i
            · subst q
              rw [decide_eq_true rfl, decide_eq_true (Nat.lt_succ_self k), hb2, Bool.true_or]; rfl
            · rw [decide_eq_false q, Bool.false_or]
              congr 1
              by_cases q2 : i < k
              · rw [decide_eq_true q2, decide_eq_true (by omega)]
              · rw [decide_eq_false q2, decide_eq_false (by omega)])
          rw [e2]; exact h5
      | false =>
        rw [hb2] at hgt
        rw [zy_gb_n hgt, zg_rest_n hb2]
        refine ⟨i2, fun T hT => ?_⟩
        have e2 : zL (lb M) (k + 1) = zL (lb M) k := lb_ext (fun i _ => by
          rw [lb_L (k + 1) (by omega), lb_L k (by omega)]
          by_cases q : k = i
          · subst q; rw [hb2, Bool.and_false, Bool.and_false]
          · congr 1
            by_cases q2 : i < k
            · rw [decide_eq_true q2, decide_eq_true (by omega)]
            · rw [decide_eq_false q2, decide_eq_false (by omega)])
        rw [e2]; exact i3 T hT
