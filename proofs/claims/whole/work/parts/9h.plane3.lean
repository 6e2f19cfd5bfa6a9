/-! P is 2, N is 6: the class's planes -/
def zpl (c : Nat → Nat) (p q r s : Nat) : Prop := zsp 2 6 [zj_v 2 6 c p, zj_v 2 6 c q, zj_v 2 6 c r] (zj_v 2 6 c s)
def zS3 (c : Nat → Nat) (p q r : Nat) : Int64 := zf_sp (zf_L 2 6 c) (zw_on 2 6 c) (zS2 2 6 c p q ||| zf_b r)
/-- a line and a member that is linked with it and not on it -/
def zlr (c : Nat → Nat) (p q r : Nat) : Prop := p < zw_on 2 6 c ∧ q < zw_on 2 6 c ∧ r < zw_on 2 6 c ∧ p ≠ q ∧ zf_k 2 6 c p q = true ∧ zf_k 2 6 c p r = true ∧ zf_k 2 6 c q r = true ∧ ¬ zon 2 6 c p q r
theorem zpl_l {c : Nat → Nat} {p q r s : Nat} (h : zon 2 6 c p q s) : zpl c p q r s := zsp_trans (by decide) _ (fun y hy => zsp_mem (by decide) _ (by
    simp only [List.mem_cons, List.not_mem_nil, or_false] at hy ⊢
    rcases hy with h | h
    · exact Or.inl h
    · exact Or.inr (Or.inl h))) h
theorem zlr_ts {c : Nat → Nat} {p q r : Nat} (h : zlr c p q r) : zts 2 6 c [zj_v 2 6 c p, zj_v 2 6 c q, zj_v 2 6 c r] := by
  obtain ⟨hp, hq, hr, -, h1, h2, h3, -⟩ := h
  refine zts_cons (zj_v_0 hp) (fun y hy => ?_) (zts_cons (zj_v_0 hq) (fun y hy => ?_) (zts1 (zj_v_0 hr)))
  · simp only [List.mem_cons, List.not_mem_nil, or_false] at hy
    rw [zB_comm]
    rcases hy with rfl | rfl
    · exact (zf_k_B hp).mp h1
    · exact (zf_k_B hp).mp h2
  · rw [List.mem_singleton.mp hy, zB_comm]; exact (zf_k_B hq).mp h3
theorem zpl_lk {c : Nat → Nat} {p q r s t : Nat} (h : zlr c p q r) (hs : s < zw_on 2 6 c) (h1 : zpl c p q r s) (h2 : zpl c p q r t) : zf_k 2 6 c s t = true := by
  have hts := zlr_ts h
  exact (zf_k_B hs).mpr (zsp_orth _ _ (fun y hy => by rw [zB_comm]; exact zsp_orth _ _ (fun x hx => hts.2 y hy x hx) h1) h2)
theorem zS3_iff {c : Nat → Nat} (hNS : zNS 2 6 c) (h64 : zw_on 2 6 c ≤ 64) {p q r s : Nat} (h : zlr c p q r) : lb (zS3 c p q r) s = true ↔ s < zw_on 2 6 c ∧ zpl c p q r s := by
  obtain ⟨hp, hq, hr, hpq, h1, h2, h3, h4⟩ := id h
  have hx : ∀ t, lb (zS2 2 6 c p q ||| zf_b r) t = true ↔ t < zw_on 2 6 c ∧ (zon 2 6 c p q t ∨ t = r) := fun t => by
    rw [lb_or, Bool.or_eq_true, zS2_iff zok26 hNS h64 hp hq h1, zf_b_lb (by omega), decide_eq_true_iff]
    constructor
    · rintro (⟨a, b⟩ | rfl)
      · exact ⟨a, Or.inl b⟩
      · exact ⟨hr, Or.inr rfl⟩
    · rintro ⟨a, b | b⟩
      · exact Or.inl ⟨a, b⟩
      · exact Or.inr b.symm
  have hin : ∀ t, t ∈ (List.range (zw_on 2 6 c)).filter (fun t => lb (zS2 2 6 c p q ||| zf_b r) t) ↔ t < zw_on 2 6 c ∧ (zon 2 6 c p q t ∨ t = r) := fun t => by
    rw [List.mem_filter, List.mem_range, hx]
    exact ⟨fun z => z.2, fun z => ⟨z.1, z⟩⟩
  have hpl : ∀ t, t < zw_on 2 6 c ∧ (zon 2 6 c p q t ∨ t = r) → zpl c p q r t := fun t ht => by
    rcases ht.2 with z | rfl
    · exact zpl_l z
    · exact zsp_mem (by decide) _ (by simp)
  have hne : (List.range (zw_on 2 6 c)).filter (fun t => lb (zS2 2 6 c p q ||| zf_b r) t) ≠ [] := fun z => by
    have : r ∈ (List.range (zw_on 2 6 c)).filter (fun t => lb (zS2 2 6 c p q ||| zf_b r) t) := (hin r).mpr ⟨hr, Or.inr rfl⟩
    rw [z] at this; exact absurd this List.not_mem_nil
  have hmain := zf_sp_iff zok26 hNS h64 (x := zS2 2 6 c p q ||| zf_b r) (s := s) hne (fun t => by rw [hx, hin]) (fun t ht => ((hin t).mp ht).1) (fun t ht u hu => zpl_lk h ((hin t).mp ht).1 (hpl t ((hin t).mp ht)) (hpl u ((hin u).mp hu)))
  refine hmain.trans ⟨fun z => ⟨z.1, zsp_trans (by decide) _ (fun x hx2 => ?_) z.2⟩, fun z => ⟨z.1, zsp_trans (by decide) _ (fun x hx2 => ?_) z.2⟩⟩
  · obtain ⟨t, ht, rfl⟩ := List.mem_map.mp hx2
    exact hpl t ((hin t).mp ht)
  · refine zsp_mem (by decide) _ ?_
    simp only [List.mem_cons, List.not_mem_nil, or_false] at hx2
    rcases hx2 with rfl | rfl | rfl
    · exact List.mem_map_of_mem ((hin p).mpr ⟨hp, Or.inl (zsp_l (by decide) _ _)⟩)
    · exact List.mem_map_of_mem ((hin q).mpr ⟨hq, Or.inl (zsp_r (by decide) _ _)⟩)
    · exact List.mem_map_of_mem ((hin r).mpr ⟨hr, Or.inr rfl⟩)
/-- another point of the plane beside the line gives the same plane -/
theorem zpl_same {c : Nat → Nat} {p q r s : Nat} (hs : zpl c p q r s) (hsl : ¬ zon 2 6 c p q s) (t : Nat) : zpl c p q s t ↔ zpl c p q r t := by
  have hrs : zpl c p q s r := by
    obtain ⟨α, β, γ, h⟩ := hs
    have h : ∀ i, i < 6 → (zj_v 2 6 c s i + α * zj_v 2 6 c p i + β * zj_v 2 6 c q i + γ * zj_v 2 6 c r i) % 2 = 0 := h
    have hγ : γ % 2 = 1 := by
      rcases (show γ % 2 = 0 ∨ γ % 2 = 1 by omega) with e | e
      · exact absurd ⟨α, β, fun i hi => by have := h i hi; rw [zmd_a0 (by rw [Nat.mul_mod, e, Nat.zero_mul, Nat.zero_mod])] at this; exact this⟩ hsl
      · exact e
    refine ⟨α, β, 1, fun i hi => ?_⟩
    show (zj_v 2 6 c r i + α * zj_v 2 6 c p i + β * zj_v 2 6 c q i + 1 * zj_v 2 6 c s i) % 2 = 0
    have h1 := h i hi
    have h2 : (γ * zj_v 2 6 c r i) % 2 = zj_v 2 6 c r i % 2 := by rw [Nat.mul_mod, hγ, Nat.one_mul, Nat.mod_mod]
    generalize γ * zj_v 2 6 c r i = w at *
    omega
  have tr : ∀ x y, zpl c p q x y → zpl c p q y t → zpl c p q x t := fun x y hxy ht => zsp_trans (by decide) _ (fun v hv => by
    simp only [List.mem_cons, List.not_mem_nil, or_false] at hv
    rcases hv with rfl | rfl | rfl
    · exact zsp_mem (by decide) _ (by simp)
    · exact zsp_mem (by decide) _ (by simp)
    · exact hxy) ht
  exact ⟨fun z => tr r s hs z, fun z => tr s r hrs z⟩
theorem zr2_iff {c : Nat → Nat} (hNS : zNS 2 6 c) (h64 : zw_on 2 6 c ≤ 64) {p q : Nat} (hp : p < zw_on 2 6 c) (hq : q < zw_on 2 6 c) (hpq : p ≠ q) (hl : zf_k 2 6 c p q = true) : ∀ m, m ≤ zw_on 2 6 c → ∀ s, lb (zf_r2 (zf_L 2 6 c) (zw_on 2 6 c) (zS2 2 6 c p q) m) s = true ↔ zlr c p q s ∧ ∀ t, t < m → ¬ zon 2 6 c p q t → ¬ zpl c p q s t
  | 0, _ => fun s => by
    constructor
    · intro h
      have hs64 : s < 64 := by
        rcases Nat.lt_or_ge s 64 with z | z
        · exact z
        · rw [lb_ge z] at h; cases h
      obtain ⟨a1, a2⟩ := zr2_sub hs64 0 h
      have ga := (zf_all_iff hs64).mp a1
      have k1 := ga p hp ((zS2_iff zok26 hNS h64 hp hq hl).mpr ⟨hp, zsp_l (by decide) _ _⟩)
      have k2 := ga q hq ((zS2_iff zok26 hNS h64 hp hq hl).mpr ⟨hq, zsp_r (by decide) _ _⟩)
      have hs := zf_L_lt h64 k1
      rw [zf_L_lb h64, decide_eq_true hs, Bool.true_and] at k1 k2
      exact ⟨⟨hp, hq, hs, hpq, hl, k1, k2, fun z => by rw [(zS2_iff zok26 hNS h64 hp hq hl).mpr ⟨hs, z⟩] at a2; cases a2⟩, fun t ht => absurd ht (Nat.not_lt_zero t)⟩
    · rintro ⟨⟨-, -, hs, -, -, k1, k2, k3⟩, -⟩
      show lb (zf_all (zf_L 2 6 c) (zS2 2 6 c p q) (zw_on 2 6 c) &&& (zS2 2 6 c p q ^^^ -1)) s = true
      rw [lb_an (by omega), Bool.and_eq_true, Bool.not_eq_true']
      refine ⟨(zf_all_iff (by omega)).mpr (fun r hr hb => ?_), Bool.eq_false_iff.mpr (fun z => k3 ((zS2_iff zok26 hNS h64 hp hq hl).mp z).2)⟩
      rw [zf_L_lb h64, decide_eq_true hs, Bool.true_and, zf_k_s]
      refine (zf_k_B hs).mpr (zsp_orth _ _ (fun x hx => ?_) ((zS2_iff zok26 hNS h64 hp hq hl).mp hb).2)
      simp only [List.mem_cons, List.not_mem_nil, or_false] at hx
      rw [zB_comm]
      rcases hx with rfl | rfl
      · exact (zf_k_B hp).mp k1
      · exact (zf_k_B hq).mp k2
  | m + 1, hm => fun s => by
    have ih := zr2_iff hNS h64 hp hq hpq hl m (by omega)
    cases hb : lb (zf_r2 (zf_L 2 6 c) (zw_on 2 6 c) (zS2 2 6 c p q) m) m with
    | true =>
      obtain ⟨m1, m2⟩ := (ih m).mp hb
      rw [zf_r2_y hb]
      have hS : zf_sp (zf_L 2 6 c) (zw_on 2 6 c) (zS2 2 6 c p q ||| zf_b m) = zS3 c p q m := rfl
      rw [hS]
      constructor
      · intro h
        have hs64 : s < 64 := by
          rcases Nat.lt_or_ge s 64 with z | z
          · exact z
          · rw [lb_ge z] at h; cases h
        rw [lb_an hs64, Bool.and_eq_true, Bool.not_eq_true'] at h
        obtain ⟨s1, s2⟩ := (ih s).mp h.1
        refine ⟨s1, fun t ht htl hz => ?_⟩
        by_cases e : t = m
        · subst e
          have h5 : zpl c p q t s := (zpl_same hz htl s).mpr (zsp_mem (by decide) _ (by simp))
          have h7 := h.2
          rw [(zS3_iff hNS h64 m1).mpr ⟨s1.2.2.1, h5⟩] at h7; cases h7
        · exact s2 t (by omega) htl hz
      · rintro ⟨s1, s2⟩
        have hs := s1.2.2.1
        rw [lb_an (by omega), Bool.and_eq_true, Bool.not_eq_true']
        refine ⟨(ih s).mpr ⟨s1, fun t ht => s2 t (by omega)⟩, Bool.eq_false_iff.mpr (fun z => ?_)⟩
        have h5 := ((zS3_iff hNS h64 m1).mp z).2
        have h6 : zpl c p q s m := (zpl_same h5 s1.2.2.2.2.2.2.2 m).mpr (zsp_mem (by decide) _ (by simp))
        exact s2 m (by omega) m1.2.2.2.2.2.2.2 h6
    | false =>
      rw [zf_r2_n hb, ih s]
      constructor
      · rintro ⟨s1, s2⟩
        refine ⟨s1, fun t ht htl hz => ?_⟩
        by_cases e : t = m
        · subst e
          have htn : t < zw_on 2 6 c := by omega
          have hsp : zpl c p q s p := zsp_mem (by decide) _ (by simp)
          have hsq : zpl c p q s q := zsp_mem (by decide) _ (by simp)
          have hlr : zlr c p q t := ⟨hp, hq, htn, hpq, hl, zpl_lk s1 hp hsp hz, zpl_lk s1 hq hsq hz, htl⟩
          have : lb (zf_r2 (zf_L 2 6 c) (zw_on 2 6 c) (zS2 2 6 c p q) t) t = true := (ih t).mpr ⟨hlr, fun u hu hul hz2 => s2 u hu hul ((zpl_same hz htl u).mp hz2)⟩
          rw [this] at hb; cases hb
        · exact s2 t (by omega) htl hz
      · rintro ⟨s1, s2⟩
        exact ⟨s1, fun t ht => s2 t (by omega)⟩
/-- the two lowest bits -/
theorem zl2_iff {x : Int64} {j : Nat} (hj : j < 64) : lb (zf_l2 x) j = true ↔ lb x j = true ∧ zC (lb x) j ≤ 1 := by
  have hlow : ∀ (y : Int64) (k : Nat), k < 64 → ((k = lb_low y) ↔ lb y k = true ∧ zC (lb y) k = 0) := by
    intro y k hk
    rcases lb_low_ge (x := y) with ⟨a1, a2⟩ | ⟨a1, a2, a3⟩
    · constructor
      · intro e; omega
      · rintro ⟨e, -⟩; rw [a2 k hk] at e; cases e
    · constructor
      · intro e
        rw [e]
        exact ⟨a2, zC_no (fun s hs => a3 s hs)⟩
      · rintro ⟨e1, e2⟩
        rcases Nat.lt_trichotomy k (lb_low y) with z | z | z
        · rw [a3 k z] at e1; cases e1
        · exact z
        · have := zC_lt a2 z; omega
  unfold zf_l2
  rw [lb_or, lb_lowest, lb_lowest, decide_eq_true hj, Bool.true_and, Bool.true_and, Bool.or_eq_true, decide_eq_true_iff, decide_eq_true_iff, hlow x j hj, hlow _ j hj, lb_pred hj]
  have hcount : ∀ k, k ≤ 64 → zC (lb (x &&& (x - 1))) k + zin (decide (lb_low x < k)) = zC (lb x) k ∨ lb_low x = 64 := by
    intro k
    rcases lb_low_ge (x := x) with ⟨a1, -⟩ | ⟨a1, a2, a3⟩
    · exact fun _ => Or.inr a1
    · induction k with
      | zero => intro _; exact Or.inl rfl
      | succ k ih =>
        intro hk
        rcases ih (by omega) with e | e
        · refine Or.inl ?_
          show zC (lb (x &&& (x - 1))) k + (lb (x &&& (x - 1)) k).toNat + zin (decide (lb_low x < k + 1)) = zC (lb x) k + (lb x k).toNat
          rw [lb_pred (by omega)]
          by_cases e1 : k = lb_low x
          · rw [← e1] at e ⊢
            rw [decide_eq_true rfl, Bool.not_true, Bool.and_false, decide_eq_true (show k < k + 1 by omega)]
            rw [decide_eq_false (show ¬ k < k by omega)] at e
            have a4 : lb x k = true := by rw [e1]; exact a2
            rw [a4]
            have e : zC (lb (x &&& (x - 1))) k + 0 = zC (lb x) k := e
            show zC (lb (x &&& (x - 1))) k + 0 + 1 = zC (lb x) k + 1
            omega
          · rw [decide_eq_false e1, Bool.not_false, Bool.and_true]
            have e3 : decide (lb_low x < k + 1) = decide (lb_low x < k) := zb_iff (by rw [decide_eq_true_iff, decide_eq_true_iff]; omega)
            rw [e3]
            omega
        · omega
  constructor
  · rintro (⟨h1, h2⟩ | ⟨h1, h2⟩)
    · exact ⟨h1, by omega⟩
    · rw [Bool.and_eq_true] at h1
      refine ⟨h1.1, ?_⟩
      rcases hcount j (by omega) with e | e
      · have : zin (decide (lb_low x < j)) ≤ 1 := zb_le _
        omega
      · rcases lb_low_ge (x := x) with ⟨-, a2⟩ | ⟨a1, -, -⟩
        · rw [a2 j hj] at h1; exact absurd h1.1 (by decide)
        · omega
  · rintro ⟨h1, h2⟩
    by_cases e : zC (lb x) j = 0
    · exact Or.inl ⟨h1, e⟩
    · have hne : j ≠ lb_low x := fun z => e ((hlow x j hj).mp z).2
      refine Or.inr ⟨by rw [h1, decide_eq_false hne]; rfl, ?_⟩
      rcases hcount j (by omega) with e2 | e2
      · have hlt : lb_low x < j := by
          rcases lb_low_ge (x := x) with ⟨-, a2⟩ | ⟨a1, a2, a3⟩
          · rw [a2 j hj] at h1; cases h1
          · rcases Nat.lt_or_ge (lb_low x) j with z | z
            · exact z
            · rw [a3 j (by omega)] at h1; cases h1
        rw [decide_eq_true hlt] at e2
        have e2 : zC (lb (x &&& (x - 1))) j + 1 = zC (lb x) j := e2
        omega
      · rcases lb_low_ge (x := x) with ⟨-, a2⟩ | ⟨a1, -, -⟩
        · rw [a2 j hj] at h1; cases h1
        · omega
