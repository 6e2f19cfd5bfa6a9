/-! pick, gather, drop, chosen: the same answers, the same conditions -/
def aw_pick (P N : Nat) (c : Nat → Nat) (nn : Nat → Nat) (ff : Nat → Nat → Nat) (x : Int32) : Int32 := if zw_sound P N c = true then (if (zx_in x (zv_np P N) = true ∧ zw_oo P N c (zx_k x) = true) then (if (zw_rd P N c 0 (ff 0) (nn 0) &&& zw_rc P N c 0 (zx_k x)) = 0 then nI (nn 0 + 1) else -103) else -101) else -103
def zw_g0 (P N : Nat) (c : Nat → Nat) (nn : Nat → Nat) (ff : Nat → Nat → Nat) (x : Int32) : Prop := zw_sound P N c = true ∧ (zx_in x (zv_np P N) = true ∧ zw_oo P N c (zx_k x) = true) ∧ (zw_rd P N c 0 (ff 0) (nn 0) &&& zw_rc P N c 0 (zx_k x)) = 0
def aw_gather (P N : Nat) (c : Nat → Nat) (nn : Nat → Nat) (ff : Nat → Nat → Nat) (x : Int32) : Int32 := if zw_sound P N c = true then (if zx_in x (zw_gm P N c) = true then (if (zw_rd P N c 1 (ff 1) (nn 1) &&& zw_rc P N c 1 (zx_k x)) = 0 then nI (nn 1 + 1) else -103) else -101) else -103
def zw_g1 (P N : Nat) (c : Nat → Nat) (nn : Nat → Nat) (ff : Nat → Nat → Nat) (x : Int32) : Prop := zw_sound P N c = true ∧ zx_in x (zw_gm P N c) = true ∧ (zw_rd P N c 1 (ff 1) (nn 1) &&& zw_rc P N c 1 (zx_k x)) = 0
def aw_drop (nn : Nat → Nat) (ff : Nat → Nat → Nat) (x : Int32) : Int32 := if zx_in x 2 = true then (if nn (zx_k x) = 0 then -103 else nI (ff (zx_k x) (nn (zx_k x) - 1))) else -102
def aw_chosen (nn : Nat → Nat) (ff : Nat → Nat → Nat) (x z : Int32) : Int32 := if zx_in x 2 = true then (if zx_in z (nn (zx_k x)) = true then nI (ff (zx_k x) (zx_k z)) else -101) else -102
theorem zmb_iff {P N : Nat} {c : Nat → Nat} {x : Int32} : zj_mb P N c x = true ↔ zx_in x (zv_np P N) = true ∧ zw_oo P N c (zx_k x) = true := by unfold zj_mb; rw [Bool.and_eq_true]
theorem zb_pick {P N : Nat} {c : Nat → Nat} {nn : Nat → Nat} {ff : Nat → Nat → Nat} {n0 n1 : Nat} {e0 e1 : Nat → Nat} (h : 0 < P → zv_ok P N) (hl : zlst P N c nn ff n0 e0 n1 e1) (x : Int32) : ac_pick P N c n0 e0 x = aw_pick P N c nn ff x ∧ (zj_g0 P N c n0 e0 x ↔ zw_g0 P N c nn ff x) := by
  unfold ac_pick aw_pick zj_g0 zw_g0
  rw [zok_eq h]
  by_cases hs : zw_sound P N c = true
  · obtain ⟨hok, hNS, h0⟩ := zok_NS h hs
    rw [if_pos hs, if_pos hs]
    by_cases hx : zx_in x (zv_np P N) = true ∧ zw_oo P N c (zx_k x) = true
    · have hr := zb_r0 hok hNS hl hx
      rw [if_pos (zmb_iff.mpr hx), if_pos hx, hl.1]
      refine ⟨zif_cg (by rw [hr, hl.1]), fun z => ⟨hs, hx, ?_⟩, fun z => ⟨hs, zmb_iff.mpr hx, ?_⟩⟩
      · have := hr.mp z.2.2
        rw [hl.1] at this; exact this
      · refine hr.mpr ?_
        rw [hl.1]; exact z.2.2
    · rw [if_neg (fun w => hx (zmb_iff.mp w)), if_neg hx]
      exact ⟨rfl, fun z => absurd (zmb_iff.mp z.2.1) hx, fun z => absurd z.2.1 hx⟩
  · rw [if_neg hs, if_neg hs]
    exact ⟨rfl, fun z => absurd z.1 hs, fun z => absurd z.1 hs⟩
theorem zb_gather {P N : Nat} {c : Nat → Nat} {nn : Nat → Nat} {ff : Nat → Nat → Nat} {n0 n1 : Nat} {e0 e1 : Nat → Nat} (h : 0 < P → zv_ok P N) (hl : zlst P N c nn ff n0 e0 n1 e1) (x : Int32) : ac_gather P N c n1 e1 x = aw_gather P N c nn ff x ∧ (zj_g1 P N c n1 e1 x ↔ zw_g1 P N c nn ff x) := by
  unfold ac_gather aw_gather zj_g1 zw_g1
  rw [zok_eq h]
  by_cases hs : zw_sound P N c = true
  · obtain ⟨hok, hNS, h0⟩ := zok_NS h hs
    rw [if_pos hs, if_pos hs, zj_gm_eq hok hNS]
    by_cases hx : zx_in x (zw_gm P N c) = true
    · have hr := zb_r1 hok hNS h0 hl hx
      have hr2 := hr
      rw [hl.2.1] at hr2
      rw [if_pos hx, if_pos hx, hl.2.1]
      exact ⟨zif_cg hr2, fun z => ⟨hs, hx, hr2.mp z.2.2⟩, fun z => ⟨hs, hx, hr2.mpr z.2.2⟩⟩
    · rw [if_neg hx, if_neg hx]
      exact ⟨rfl, fun z => absurd z.2.1 hx, fun z => absurd z.2.1 hx⟩
  · rw [if_neg hs, if_neg hs]
    exact ⟨rfl, fun z => absurd z.1 hs, fun z => absurd z.1 hs⟩
theorem zx_two {x : Int32} (h : zx_in x 2 = true) : (x = 0 ∧ zx_k x = 0) ∨ (x = 1 ∧ zx_k x = 1) := by
  obtain ⟨h1, h2⟩ := zx_of h
  rcases (show zx_k x = 0 ∨ zx_k x = 1 by omega) with e | e
  · rw [e] at h2; exact Or.inl ⟨h2, e⟩
  · rw [e] at h2; exact Or.inr ⟨h2, e⟩
theorem zb_drop {P N : Nat} {c : Nat → Nat} {nn : Nat → Nat} {ff : Nat → Nat → Nat} {n0 n1 : Nat} {e0 f1 : Nat → Nat} (hl : zlst P N c nn ff n0 e0 n1 f1) (x : Int32) : ac_drop P N c n0 e0 n1 f1 x = aw_drop nn ff x := by
  unfold ac_drop aw_drop
  by_cases hx : zx_in x 2 = true
  · rw [if_pos hx, if_pos hx]
    unfold zj_nq zj_en
    obtain ⟨l0, l1, l2, l3⟩ := hl
    rcases zx_two hx with ⟨e1, e2⟩ | ⟨e1, e2⟩
    · have q : (if x = 0 then n0 else n1) = n0 := if_pos e1
      have q2 : ∀ k, (if 0 = 0 then zj_x P N c (e0 k) else f1 k) = zj_x P N c (e0 k) := fun k => if_pos rfl
      rw [e2, q, l0]
      by_cases hn : n0 = 0
      · rw [if_pos hn, if_pos hn]
      · rw [if_neg hn, if_neg hn, (l2 _ (by omega)).2, q2]
    · have q : (if x = 0 then n0 else n1) = n1 := if_neg (by rw [e1]; decide)
      have q2 : ∀ k, (if 1 = 0 then zj_x P N c (e0 k) else f1 k) = f1 k := fun k => if_neg (by decide)
      rw [e2, q, l1]
      by_cases hn : n1 = 0
      · rw [if_pos hn, if_pos hn]
      · rw [if_neg hn, if_neg hn, (l3 _ (by omega)).2, q2]
  · rw [if_neg hx, if_neg hx]
theorem zb_chosen {P N : Nat} {c : Nat → Nat} {nn : Nat → Nat} {ff : Nat → Nat → Nat} {n0 n1 : Nat} {e0 f1 : Nat → Nat} (hl : zlst P N c nn ff n0 e0 n1 f1) (x y : Int32) : ac_chosen P N c n0 e0 n1 f1 x y = aw_chosen nn ff x y := by
  unfold ac_chosen aw_chosen
  by_cases hx : zx_in x 2 = true
  · rw [if_pos hx, if_pos hx]
    unfold zj_nq zj_en
    obtain ⟨l0, l1, l2, l3⟩ := hl
    rcases zx_two hx with ⟨e1, e2⟩ | ⟨e1, e2⟩
    · have q : (if x = 0 then n0 else n1) = n0 := if_pos e1
      have q2 : ∀ k, (if 0 = 0 then zj_x P N c (e0 k) else f1 k) = zj_x P N c (e0 k) := fun k => if_pos rfl
      rw [e2, q, l0]
      by_cases hn : zx_in y n0 = true
      · rw [if_pos hn, if_pos hn, (l2 _ (zx_of hn).1).2, q2]
      · rw [if_neg hn, if_neg hn]
    · have q : (if x = 0 then n0 else n1) = n1 := if_neg (by rw [e1]; decide)
      have q2 : ∀ k, (if 1 = 0 then zj_x P N c (e0 k) else f1 k) = f1 k := fun k => if_neg (by decide)
      rw [e2, q, l1]
      by_cases hn : zx_in y n1 = true
      · rw [if_pos hn, if_pos hn, (l3 _ (zx_of hn).1).2, q2]
      · rw [if_neg hn, if_neg hn]
  · rw [if_neg hx, if_neg hx]
