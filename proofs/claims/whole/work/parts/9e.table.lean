/-! the numbers of members and lines -/
theorem zK1_f {P N : Nat} {c : Nat → Nat} {r : Nat} (hr : r < zw_on P N c) : zK1 P N c r = zC (zf1 P N c [zj_v P N c r]) (zv_np P N) := by
  have h := zC_of (zw_oo P N c) (fun k => zo P N c [zj_v P N c r] (zv_y P N k)) (zv_np P N) (zv_np P N) (Nat.le_refl _)
  have e : zC (zf1 P N c [zj_v P N c r]) (zv_np P N) = zC (fun k => zw_oo P N c k && zo P N c [zj_v P N c r] (zv_y P N k)) (zv_np P N) := rfl
  rw [e, ← h]
  refine zC_congr _ (fun s _ => zb_iff ?_)
  rw [zf_k_B hr, zo_iff]
  constructor
  · intro h x hx
    rw [List.mem_singleton.mp hx]; exact h
  · intro h
    exact h _ List.mem_cons_self
/-- P, N, members, links of each beside itself, lines -/
def ztbl : List (Nat × Nat × Nat × Nat × Nat) := [(2, 3, 3, 0, 0), (2, 4, 9, 4, 6), (2, 4, 5, 0, 0), (2, 5, 15, 6, 15), (2, 6, 35, 18, 105), (2, 6, 27, 10, 45), (3, 3, 4, 0, 0), (3, 4, 16, 6, 8), (3, 4, 10, 0, 0), (3, 5, 40, 12, 40), (5, 3, 6, 0, 0), (5, 4, 36, 10, 12), (5, 4, 26, 0, 0)]
def ztT (P N : Nat) (c : Nat → Nat) (κ : Nat) : Prop := (P, N, zw_on P N c, κ, zf_nl (zf_L P N c) (zw_on P N c)) ∈ ztbl ∧ ∀ r, r < zw_on P N c → zK1 P N c r = κ + 1
theorem zK1_v {P N : Nat} {c : Nat → Nat} (hok : zv_ok P N) (hNS : zNS P N c) {r : Nat} (hr : r < zw_on P N c) : ∃ C, C * P = P ^ N ∧ P * (1 + (P - 1) * zw_on P N c) + C = P * (1 + (P - 1) * zK1 P N c r) + P ^ N := by
  obtain ⟨x1, x2, -⟩ := zj_x_ok hr
  obtain ⟨h1, h2⟩ := zL1 hok hNS x1 x2
  exact ⟨_, h1, by rw [zK1_f hr]; exact h2⟩
theorem ztab {P N : Nat} {c : Nat → Nat} (hok : zv_ok P N) (hNS : zNS P N c) : ∃ κ, ztT P N c κ := by
  have fin : ∀ on κ nl, zw_on P N c = on → on ≤ 64 → (P, N, on, κ, nl) ∈ ztbl → (∀ C K, C * P = P ^ N → P * (1 + (P - 1) * on) + C = P * (1 + (P - 1) * K) + P ^ N → K = κ + 1) → (∀ L, L * ((P + 1) * P) = on * κ → L = nl) → ∃ κ, ztT P N c κ := by
    intro on κ nl h1 h2 h3 h4 h5
    have hκ : ∀ r, r < zw_on P N c → zK1 P N c r = κ + 1 := fun r hr => by
      obtain ⟨C, c1, c2⟩ := zK1_v hok hNS hr
      rw [h1] at c2
      exact h4 C _ c1 c2
    have h6 := znl hok hNS (by omega) hκ
    refine ⟨κ, ?_, hκ⟩
    rw [h1] at h6 ⊢
    rw [h5 _ h6]
    exact h3
  have hP := hok.1
  rcases hP with rfl | rfl | rfl
  · rcases zon2 hok hNS with ⟨rfl, h⟩ | ⟨rfl, h | h⟩ | ⟨rfl, h⟩ | ⟨rfl, h | h⟩
    · exact fin 3 0 0 h (by decide) (by decide) (fun C K a b => by omega) (fun L a => by omega)
    · exact fin 9 4 6 h (by decide) (by decide) (fun C K a b => by omega) (fun L a => by omega)
    · exact fin 5 0 0 h (by decide) (by decide) (fun C K a b => by omega) (fun L a => by omega)
    · exact fin 15 6 15 h (by decide) (by decide) (fun C K a b => by omega) (fun L a => by omega)
    · exact fin 35 18 105 h (by decide) (by decide) (fun C K a b => by omega) (fun L a => by omega)
    · exact fin 27 10 45 h (by decide) (by decide) (fun C K a b => by omega) (fun L a => by omega)
  · rcases zon3 hok hNS with ⟨rfl, h⟩ | ⟨rfl, h | h⟩ | ⟨rfl, h⟩
    · exact fin 4 0 0 h (by decide) (by decide) (fun C K a b => by omega) (fun L a => by omega)
    · exact fin 16 6 8 h (by decide) (by decide) (fun C K a b => by omega) (fun L a => by omega)
    · exact fin 10 0 0 h (by decide) (by decide) (fun C K a b => by omega) (fun L a => by omega)
    · exact fin 40 12 40 h (by decide) (by decide) (fun C K a b => by omega) (fun L a => by omega)
  · rcases zon5 hok hNS with ⟨rfl, h⟩ | ⟨rfl, h | h⟩
    · exact fin 6 0 0 h (by decide) (by decide) (fun C K a b => by omega) (fun L a => by omega)
    · exact fin 36 10 12 h (by decide) (by decide) (fun C K a b => by omega) (fun L a => by omega)
    · exact fin 26 0 0 h (by decide) (by decide) (fun C K a b => by omega) (fun L a => by omega)
theorem zon64 {P N : Nat} {c : Nat → Nat} (hok : zv_ok P N) (hNS : zNS P N c) : zw_on P N c ≤ 40 := by
  obtain ⟨κ, h, -⟩ := ztab hok hNS
  have key : ∀ q ∈ ztbl, q.2.2.1 ≤ 40 := by decide
  exact key _ h
/-- members that are linked with two -/
def zK2 (P N : Nat) (c : Nat → Nat) (r s : Nat) : Nat := zC (fun t => zf_k P N c r t && zf_k P N c s t) (zw_on P N c)
theorem zK2_f {P N : Nat} {c : Nat → Nat} {r s : Nat} (hr : r < zw_on P N c) (hs : s < zw_on P N c) : zK2 P N c r s = zC (zf1 P N c [zj_v P N c s, zj_v P N c r]) (zv_np P N) := by
  have h := zC_of (zw_oo P N c) (fun k => zo P N c [zj_v P N c s, zj_v P N c r] (zv_y P N k)) (zv_np P N) (zv_np P N) (Nat.le_refl _)
  have e : zC (zf1 P N c [zj_v P N c s, zj_v P N c r]) (zv_np P N) = zC (fun k => zw_oo P N c k && zo P N c [zj_v P N c s, zj_v P N c r] (zv_y P N k)) (zv_np P N) := rfl
  rw [e, ← h]
  refine zC_congr _ (fun t _ => zb_iff ?_)
  rw [Bool.and_eq_true, zf_k_B hr, zf_k_B hs, zo_iff]
  constructor
  · rintro ⟨h1, h2⟩ x hx
    simp only [List.mem_cons, List.not_mem_nil, or_false] at hx
    rcases hx with rfl | rfl
    · exact h2
    · exact h1
  · intro h
    exact ⟨h _ (List.mem_cons_of_mem _ List.mem_cons_self), h _ List.mem_cons_self⟩
theorem zK2_v {P N : Nat} {c : Nat → Nat} (hok : zv_ok P N) (hNS : zNS P N c) {κ : Nat} (hT : ztT P N c κ) {r s : Nat} (hr : r < zw_on P N c) (hs : s < zw_on P N c) (hrs : r ≠ s) (hl : zf_k P N c r s = true) : zK2 P N c r s = if (P, N, zw_on P N c) = (2, 6, 35) then 11 else P + 1 := by
  obtain ⟨x1, x2, x3⟩ := zj_x_ok hr
  obtain ⟨y1, y2, y3⟩ := zj_x_ok hs
  obtain ⟨h1, h2⟩ := zL1 hok hNS x1 x2
  have hne : zj_x P N c s ≠ zj_x P N c r := fun e => hrs (zj_x_inj hr hs e.symm)
  have hf : zf1 P N c [zv_y P N (zj_x P N c r)] (zj_x P N c s) = true := zf1_iff.mpr ⟨zj_v_0 hs, fun x hx => by rw [List.mem_singleton.mp hx]; exact (zf_k_B hr).mp hl⟩
  obtain ⟨-, h3, h4⟩ := zL2 hok hNS x1 x2 y1 hf hne
  have k1 : zC (zf1 P N c [zv_y P N (zj_x P N c r)]) (zv_np P N) = κ + 1 := by rw [← hT.2 r hr, zK1_f hr]; rfl
  have k2 : zC (zf1 P N c [zv_y P N (zj_x P N c s), zv_y P N (zj_x P N c r)]) (zv_np P N) = zK2 P N c r s := by rw [zK2_f hr hs]; rfl
  have hκ0 : 1 ≤ κ := by
    have h5 := zCge (f := zf_k P N c r) (n := zw_on P N c) [r, s] (by simp [hrs]) (fun t ht => by
      simp only [List.mem_cons, List.not_mem_nil, or_false] at ht
      rcases ht with rfl | rfl
      · exact ⟨hr, zf_k_r _⟩
      · exact ⟨hs, hl⟩)
    have h6 : zC (zf_k P N c r) (zw_on P N c) = κ + 1 := hT.2 r hr
    have h5 : 2 ≤ _ := h5
    omega
  rw [k1] at h2 h4
  rw [k2] at h4
  obtain ⟨hm, -⟩ := hT
  generalize zCC P N c [zv_y P N (zj_x P N c r)] = C1 at *
  generalize zCC P N c [zv_y P N (zj_x P N c s), zv_y P N (zj_x P N c r)] = C2 at *
  generalize zK2 P N c r s = K at *
  generalize zw_on P N c = on at *
  generalize zf_nl (zf_L P N c) on = nl at *
  unfold ztbl at hm
  simp only [List.mem_cons, Prod.mk.injEq, List.not_mem_nil, or_false] at hm
  rcases hm with ⟨rfl, rfl, rfl, rfl, rfl⟩ | ⟨rfl, rfl, rfl, rfl, rfl⟩ | ⟨rfl, rfl, rfl, rfl, rfl⟩ | ⟨rfl, rfl, rfl, rfl, rfl⟩ | ⟨rfl, rfl, rfl, rfl, rfl⟩ | ⟨rfl, rfl, rfl, rfl, rfl⟩ | ⟨rfl, rfl, rfl, rfl, rfl⟩ | ⟨rfl, rfl, rfl, rfl, rfl⟩ | ⟨rfl, rfl, rfl, rfl, rfl⟩ | ⟨rfl, rfl, rfl, rfl, rfl⟩ | ⟨rfl, rfl, rfl, rfl, rfl⟩ | ⟨rfl, rfl, rfl, rfl, rfl⟩ | ⟨rfl, rfl, rfl, rfl, rfl⟩ <;> first | omega | (rw [if_neg (by decide)]; omega) | (rw [if_pos (by decide)]; omega)
