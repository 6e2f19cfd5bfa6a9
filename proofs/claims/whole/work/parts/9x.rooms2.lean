/-! the rooms of the lists: what is chosen covers disjoint pieces -/
def zrm (F : Nat → Int64) (n : Nat) (e : Nat → Nat) : Prop := ∀ m, m ≤ n → m ≤ zC (lb (zg_or (fun k => F (e k)) m)) 64
theorem zg_or_cg {f g : Nat → Int64} : ∀ n, (∀ k, k < n → f k = g k) → zg_or f n = zg_or g n
  | 0, _ => rfl
  | n + 1, h => by
    show zg_or f n ||| f n = zg_or g n ||| g n
    rw [zg_or_cg n (fun k hk => h k (by omega)), h n (by omega)]
theorem zrm_0 {F : Nat → Int64} {e : Nat → Nat} : zrm F 0 e := fun m hm => by
  have : m = 0 := by omega
  rw [this]; exact Nat.zero_le _
theorem zrm_less {F : Nat → Int64} {n a : Nat} {e : Nat → Nat} (h : zrm F n e) (ha : a ≤ n) : zrm F a e := fun m hm => h m (by omega)
theorem zrm_step {F : Nat → Int64} {n r : Nat} {e : Nat → Nat} (h : zrm F n e) (hd : zg_or (fun k => F (e k)) n &&& F r = 0) (hp : 1 ≤ zC (lb (F r)) 64) : zrm F (n + 1) (zu_c e n r) := fun m hm => by
  have hc : ∀ j, j ≤ n → zg_or (fun k => F (zu_c e n r k)) j = zg_or (fun k => F (e k)) j := fun j hj => zg_or_cg j (fun k hk => by
    show F (if k = n then r else e k) = F (e k)
    rw [if_neg (by omega)])
  rcases Nat.lt_or_ge n m with q | q
  · have e1 : m = n + 1 := by omega
    subst e1
    have e2 : zg_or (fun k => F (zu_c e n r k)) (n + 1) = zg_or (fun k => F (e k)) n ||| F r := by
      show zg_or (fun k => F (zu_c e n r k)) n ||| F (if n = n then r else e n) = _
      rw [hc n (Nat.le_refl _), if_pos rfl]
    rw [e2, zC_or hd]
    have := h n (Nat.le_refl _)
    omega
  · rw [hc m q]; exact h m q
theorem zrm_le {F : Nat → Int64} {n B : Nat} {e : Nat → Nat} (h : zrm F n e) (hB : B ≤ 64) (hb : ∀ k, k < n → ∀ s, lb (F (e k)) s = true → s < B) : n ≤ B := by
  refine Nat.le_trans (h n (Nat.le_refl _)) (zC_few hB (fun s _ hs => ?_))
  obtain ⟨k, hk, h1⟩ := (zg_or_lb n).mp hs
  exact hb k hk s h1
/-- the two lists' rooms -/
theorem zroom0 {P N : Nat} {c : Nat → Nat} (hok : zv_ok P N) (hNS : zNS P N c) {n : Nat} {e : Nat → Nat} (h : zrm (zj_p P N c) n e) : n ≤ 45 := by
  have hg := zgm45 hok hNS
  have := zrm_le h (show zw_gm P N c ≤ 64 by omega) (fun k _ s hs => ((zj_p_lb hok hNS).mp hs).1)
  omega
theorem zroom1 {P N : Nat} {c : Nat → Nat} (hok : zv_ok P N) (hNS : zNS P N c) (h0 : zw_ns P N c = 0) {n : Nat} {e : Nat → Nat} (he : ∀ k, k < n → e k < zw_gm P N c) (h : zrm (zj_m P N c) n e) : n ≤ 45 := by
  have h64 := zon64 hok hNS
  have := zrm_le h (show zw_on P N c ≤ 64 by omega) (fun k hk s hs => zj_m_in hok hNS h0 (he k hk) hs)
  omega
theorem zp_some {P N : Nat} {c : Nat → Nat} (hok : zv_ok P N) (hNS : zNS P N c) {r : Nat} (hr : r < zw_on P N c) : 1 ≤ zC (lb (zj_p P N c r)) 64 := by
  have hg := zgm45 hok hNS
  obtain ⟨k, hk, hb⟩ := zm_thru hok hNS hr
  exact zC_pos (show k < 64 by omega) ((zj_p_lb hok hNS).mpr ⟨hk, hb⟩)
theorem zm_some {P N : Nat} {c : Nat → Nat} (hok : zv_ok P N) (hNS : zNS P N c) {k : Nat} (hk : k < zw_gm P N c) : 1 ≤ zC (lb (zj_m P N c k)) 64 := by
  have hd := zj_d13 (c := c) hok
  obtain ⟨m1, -⟩ := zmk_pin hok hNS hd.1 hd.2 (f := k) (by rw [(zall hok hNS).1]; exact hk)
  have hm : zj_m P N c k = zj_mk P N c (zj_d P N c) k := rfl
  rw [hm, m1]
  unfold zq_sz
  split
  · omega
  · split <;> omega
