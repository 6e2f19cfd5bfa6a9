/-! the answers of the two sides are the same -/
theorem zM_x {o f : Nat → Bool} {n : Nat} : zM (fun p => o p && f p) 0 n = if zM (fun u => f (zX o n u)) 0 (zC o n) < zC o n then zX o n (zM (fun u => f (zX o n u)) 0 (zC o n)) else n := by
  obtain ⟨-, m2, m3⟩ := zM_ge (fun u => f (zX o n u)) (zC o n) 0
  have m4 := zM_bef (f := fun u => f (zX o n u)) (zC o n) 0
  by_cases h : zM (fun u => f (zX o n u)) 0 (zC o n) < zC o n
  · rw [if_pos h]
    have m3 := m3 (by omega)
    generalize zM (fun u => f (zX o n u)) 0 (zC o n) = m at *
    obtain ⟨x1, x2, x3⟩ := zX_ok h
    refine zM_is (f := fun p => o p && f p) ?_ n 0 (by omega) (by omega) (fun s _ hs => ?_)
    · show (o (zX o n m) && f (zX o n m)) = true
      rw [x2]; exact m3
    · show (o s && f s) = false
      cases ho : o s with
      | false => rfl
      | true =>
        have h1 := zC_lt ho hs
        have h2 := m4 (zC o s) (by omega) (by omega)
        have h2 : f (zX o n (zC o s)) = false := h2
        rw [zX_at ho (by omega)] at h2
        rw [h2]; rfl
  · rw [if_neg h]
    obtain ⟨-, k2, k3⟩ := zM_ge (fun p => o p && f p) n 0
    have k3 := fun q => k3 q
    rcases Nat.lt_or_ge (zM (fun p => o p && f p) 0 n) n with z | z
    · exfalso
      have h1 := k3 (by omega)
      generalize zM (fun p => o p && f p) 0 n = t at *
      have h1 : (o t && f t) = true := h1
      rw [Bool.and_eq_true] at h1
      have h2 := zC_lt h1.1 z
      have h3 := zM_le (f := fun u => f (zX o n u)) (j := zC o t) (by show f (zX o n (zC o t)) = true; rw [zX_at h1.1 z]; exact h1.2) (zC o n) 0 (by omega) (by omega)
      omega
    · omega
theorem zC_x {o f : Nat → Bool} {n : Nat} : zC (fun p => o p && f p) n = zC (fun u => f (zX o n u)) (zC o n) ∧ ∀ l, l < zC (fun u => f (zX o n u)) (zC o n) → zX (fun p => o p && f p) n l = zX o n (zX (fun u => f (zX o n u)) (zC o n) l) := by
  refine zemb (φ := zX o n) zX_inc (fun t ht => (zX_ok ht).1) (fun t ht => ?_) (fun u hu hg => ?_)
  · show f (zX o n t) = (o (zX o n t) && f (zX o n t))
    rw [(zX_ok ht).2.1]; rfl
  · have hg : (o u && f u) = true := hg
    rw [Bool.and_eq_true] at hg
    exact ⟨zC o u, zC_lt hg.1 hu, zX_at hg.1 hu⟩
theorem zok_eq {P N : Nat} {c : Nat → Nat} (h : 0 < P → zv_ok P N) : zj_ok P N c = zw_sound P N c := by
  unfold zj_ok zw_sound
  by_cases hP : 0 < P
  · rw [zj_ns_eq (h hP)]
  · rw [decide_eq_false hP]; rfl
theorem zok_NS {P N : Nat} {c : Nat → Nat} (h : 0 < P → zv_ok P N) (hs : zw_sound P N c = true) : zv_ok P N ∧ zNS P N c ∧ zw_ns P N c = 0 := by
  unfold zw_sound at hs
  rw [Bool.and_eq_true, decide_eq_true_iff, decide_eq_true_iff] at hs
  exact ⟨h hs.1, zNS_of (h hs.1) (by rw [← zj_ns_eq (h hs.1)]; exact hs.2), hs.2⟩
theorem zb_about {P N : Nat} {c : Nat → Nat} (h : 0 < P → zv_ok P N) (x : Int32) : ac_about P N c x = aw_about P N c x := by
  unfold ac_about aw_about
  by_cases hP : 0 < P
  · rw [if_pos hP, if_pos hP]
    have e : ac_ab P N c (zx_k x) = aw_ab P N c (zx_k x) := by
      unfold ac_ab aw_ab
      rw [zj_ns_eq (h hP), zj_kd_eq (h hP)]
      by_cases h0 : zj_ns P N c = 0
      · rw [if_neg (show ¬ 0 < zj_ns P N c by omega), if_pos h0, (zall (h hP) (zNS_of (h hP) h0)).1]
      · rw [if_pos (show 0 < zj_ns P N c by omega), if_neg h0]
    rw [e]
  · rw [if_neg hP, if_neg hP]
theorem zb_coef {P N : Nat} {c : Nat → Nat} (h : P = 0 → N = 0) (x y : Int32) : ac_coef N c x y = aw_coef P N c x y := by
  unfold ac_coef aw_coef
  by_cases hP : 0 < P
  · by_cases hx : zx_in x N = true ∧ zx_in y N = true
    · rw [if_pos hx, if_pos ⟨hP, hx⟩]; rfl
    · rw [if_neg hx, if_neg (fun z => hx z.2)]
  · rw [if_neg (fun z => ?_), if_neg (fun z => hP z.1)]
    have := (zx_of z.1).1
    have := h (by omega)
    omega
theorem zif_cg {p q : Prop} [Decidable p] [Decidable q] {a b : Int32} (h : p ↔ q) : (if p then a else b) = if q then a else b := by
  by_cases hp : p
  · rw [if_pos hp, if_pos (h.mp hp)]
  · rw [if_neg hp, if_neg (fun z => hp (h.mpr z))]
theorem zpt_iff {P N : Nat} {x : Int32} : ac_pt P N x = true ↔ 0 < P ∧ zx_in x (zv_np P N) = true := by
  unfold ac_pt
  rw [Bool.and_eq_true, decide_eq_true_iff]
theorem zb_point {P N : Nat} (x y : Int32) : ac_point P N x y = aw_point P N x y := by
  unfold ac_point aw_point
  exact zif_cg (by rw [zpt_iff, and_assoc])
theorem zb_value {P N : Nat} {c : Nat → Nat} (x : Int32) : ac_value P N c x = aw_value P N c x := by
  unfold ac_value aw_value
  exact zif_cg zpt_iff
theorem zpt2_iff {P N : Nat} {x y : Int32} : (ac_pt P N x = true ∧ ac_pt P N y = true) ↔ (0 < P ∧ zx_in x (zv_np P N) = true ∧ zx_in y (zv_np P N) = true) := by
  rw [zpt_iff, zpt_iff]
  exact ⟨fun z => ⟨z.1.1, z.1.2, z.2.2⟩, fun z => ⟨⟨z.1, z.2.1⟩, z.1, z.2.2⟩⟩
theorem zb_joined {P N : Nat} {c : Nat → Nat} (h : 0 < P → zv_ok P N) (x y : Int32) : ac_joined P N c x y = aw_joined P N c x y := by
  unfold ac_joined aw_joined
  by_cases hx : ac_pt P N x = true ∧ ac_pt P N y = true
  · have hx2 := zpt2_iff.mp hx
    rw [if_pos hx, if_pos hx2, ← zj_jn_eq (h hx2.1) (zx_of hx2.2.1).1 (zx_of hx2.2.2).1]; rfl
  · rw [if_neg hx, if_neg (fun z => hx (zpt2_iff.mpr z))]
theorem zb_flats {P N : Nat} {c : Nat → Nat} (h : 0 < P → zv_ok P N) (x : Int32) : ac_flats P N c x = aw_flats P N c x := by
  unfold ac_flats aw_flats
  rw [zok_eq h]
  by_cases hs : zw_sound P N c = true
  · obtain ⟨hok, hNS, -⟩ := zok_NS h hs
    rw [if_pos hs, if_pos hs, zj_tot_eq hok hNS]
  · rw [if_neg hs, if_neg hs]
