/-! the lists go on holding the same; their rooms -/
theorem zlst_pick {P N : Nat} {c : Nat → Nat} {nn mm : Nat → Nat} {ff gg : Nat → Nat → Nat} {n0 n1 : Nat} {e0 e1 : Nat → Nat} (hl : zlst P N c nn ff n0 e0 n1 e1) {x : Int32} (hg : zw_g0 P N c nn ff x) (m0 : mm 0 = nn 0 + 1) (m1 : mm 1 = nn 1) (g0 : ∀ k, k < nn 0 → gg 0 k = ff 0 k) (g1 : gg 0 (nn 0) = zx_k x) (g2 : ∀ k, k < nn 1 → gg 1 k = ff 1 k) : zlst P N c mm gg (n0 + 1) (zu_c e0 n0 (zj_rk P N c x)) n1 e1 := by
  obtain ⟨l0, l1, l2, l3⟩ := hl
  have hxk := (zx_of hg.2.1.1).1
  have hr : zj_rk P N c x < zw_on P N c := zC_lt hg.2.1.2 hxk
  have hxr : zj_x P N c (zj_rk P N c x) = zx_k x := zX_at hg.2.1.2 hxk
  refine ⟨by omega, by omega, fun k hk => ?_, fun k hk => ?_⟩
  · unfold zu_c
    by_cases e : k = n0
    · rw [if_pos e, e, ← l0, g1, hxr]; exact ⟨hr, rfl⟩
    · rw [if_neg e, g0 k (by omega)]; exact l2 k (by omega)
  · rw [g2 k (by omega)]; exact l3 k hk
theorem zlst_gather {P N : Nat} {c : Nat → Nat} {nn mm : Nat → Nat} {ff gg : Nat → Nat → Nat} {n0 n1 : Nat} {e0 e1 : Nat → Nat} (hl : zlst P N c nn ff n0 e0 n1 e1) {x : Int32} (hg : zw_g1 P N c nn ff x) (m0 : mm 0 = nn 0) (m1 : mm 1 = nn 1 + 1) (g0 : ∀ k, k < nn 0 → gg 0 k = ff 0 k) (g1 : gg 1 (nn 1) = zx_k x) (g2 : ∀ k, k < nn 1 → gg 1 k = ff 1 k) : zlst P N c mm gg n0 e0 (n1 + 1) (zu_c e1 n1 (zx_k x)) := by
  obtain ⟨l0, l1, l2, l3⟩ := hl
  have hxk := (zx_of hg.2.1).1
  refine ⟨by omega, by omega, fun k hk => ?_, fun k hk => ?_⟩
  · rw [g0 k (by omega)]; exact l2 k hk
  · unfold zu_c
    by_cases e : k = n1
    · rw [if_pos e, e, ← l1, g1]; exact ⟨hxk, rfl⟩
    · rw [if_neg e, g2 k (by omega)]; exact l3 k (by omega)
theorem zlst_less {P N : Nat} {c : Nat → Nat} {nn mm : Nat → Nat} {ff : Nat → Nat → Nat} {n0 n1 : Nat} {e0 e1 : Nat → Nat} (hl : zlst P N c nn ff n0 e0 n1 e1) {a b : Nat} (ha : a ≤ n0) (hb : b ≤ n1) (m0 : mm 0 = a) (m1 : mm 1 = b) : zlst P N c mm ff a e0 b e1 := by
  obtain ⟨l0, l1, l2, l3⟩ := hl
  exact ⟨m0, m1, fun k hk => l2 k (by omega), fun k hk => l3 k (by omega)⟩
theorem zC_or {x y : Int64} (h : x &&& y = 0) : zC (lb (x ||| y)) 64 = zC (lb x) 64 + zC (lb y) 64 := by
  rw [← zS_zC, ← zS_zC, ← zS_zC, ← zS_add]
  refine zS_congr _ (fun s hs => ?_)
  have := zand0.mp h s hs
  show zin (lb (x ||| y) s) = zin (lb x s) + zin (lb y s)
  rw [lb_or]
  cases hx : lb x s <;> cases hy : lb y s
  · rfl
  · rfl
  · rfl
  · exact absurd ⟨hx, hy⟩ this
theorem zC_few {x : Int64} {m : Nat} (hm : m ≤ 64) (h : ∀ s, s < 64 → lb x s = true → s < m) : zC (lb x) 64 ≤ m := by
  have h1 := (zC_sub (f := lb x) (g := fun k => decide (k < m)) 64 (fun k hk hb => decide_eq_true (h k hk hb))).1
  rw [zC_lt_n, Nat.min_eq_left hm] at h1
  exact h1
theorem zC_pos {x : Int64} {s : Nat} (hs : s < 64) (h : lb x s = true) : 1 ≤ zC (lb x) 64 := by
  have := zC_lt h hs
  omega
