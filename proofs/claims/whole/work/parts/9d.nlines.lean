/-! how many lines: exactly one through two linked members -/
theorem zon_c {P N : Nat} {c : Nat → Nat} (hok : zv_ok P N) {p q s : Nat} (h : zon P N c p q s) : zon P N c q p s := zsp_comm (zv_P5 hok.1).1 h
theorem zon_eq {P N : Nat} {c : Nat → Nat} (hok : zv_ok P N) {p q r s : Nat} (hp : p < zw_on P N c) (hr : r < zw_on P N c) (hs : s < zw_on P N c) (hrs : r ≠ s) (h1 : zon P N c p q r) (h2 : zon P N c p q s) (t : Nat) : zon P N c r s t ↔ zon P N c p q t := by
  by_cases e : r = p
  · subst e
    exact zon_same hok hp hs (fun z => hrs z.symm) h2 t
  · have a1 := zon_same hok hp hr e h1
    have a2 := zon_same hok hr hs (fun z => hrs z.symm) (zon_c hok ((a1 s).mpr h2)) t
    rw [a2, ← a1 t]
    exact ⟨fun h => zon_c hok h, fun h => zon_c hok h⟩
theorem zon_lk {P N : Nat} {c : Nat → Nat} {p q r s : Nat} (hp : p < zw_on P N c) (hq : q < zw_on P N c) (hr : r < zw_on P N c) (hl : zf_k P N c p q = true) (h1 : zon P N c p q r) (h2 : zon P N c p q s) : zf_k P N c r s = true := by
  have key : ∀ x ∈ [zj_v P N c p, zj_v P N c q], ∀ y ∈ [zj_v P N c p, zj_v P N c q], zB N c x y % P = 0 := by
    intro x hx y hy
    simp only [List.mem_cons, List.not_mem_nil, or_false] at hx hy
    rcases hx with rfl | rfl <;> rcases hy with rfl | rfl
    · exact (zf_k_B hp).mp (zf_k_r p)
    · exact (zf_k_B hp).mp hl
    · rw [zB_comm]; exact (zf_k_B hp).mp hl
    · exact (zf_k_B hq).mp (zf_k_r q)
  exact (zf_k_B hr).mpr (zsp_orth _ _ (fun y hy => by rw [zB_comm]; exact zsp_orth _ _ (fun x hx => key y hy x hx) h1) h2)
def zinl (P N : Nat) (c : Nat → Nat) (l r : Nat) : Bool := lb (zf_lm (zf_L P N c) (zw_on P N c) l) r
theorem zS2_on {P N : Nat} {c : Nat → Nat} (hok : zv_ok P N) (hNS : zNS P N c) (h64 : zw_on P N c ≤ 64) {p q : Nat} (hp : p < zw_on P N c) (hq : q < zw_on P N c) (hpq : p ≠ q) (hl : zf_k P N c p q = true) : zC (lb (zS2 P N c p q)) (zw_on P N c) = P + 1 := by
  have h := (zS2_ln hok hNS h64 hp hq hpq hl).2
  have e := zC_flat (f := lb (zS2 P N c p q)) (p := zw_on P N c) (64 - zw_on P N c) (fun k h1 _ => Bool.eq_false_iff.mpr (fun z => by have := ((zS2_iff hok hNS h64 hp hq hl).mp z).1; omega))
  rw [show zw_on P N c + (64 - zw_on P N c) = 64 by omega, h] at e
  exact e.symm
theorem zoneL {P N : Nat} {c : Nat → Nat} (hok : zv_ok P N) (hNS : zNS P N c) (h64 : zw_on P N c ≤ 64) {r s : Nat} (hr : r < zw_on P N c) (hs : s < zw_on P N c) (hrs : r ≠ s) : zS (fun l => zin (zinl P N c l r && zinl P N c l s)) (zf_nl (zf_L P N c) (zw_on P N c)) = zin (zf_k P N c r s) := by
  have hP0 := (zv_P5 hok.1).1
  have hlines := (zlines hok hNS h64).2
  cases hk : zf_k P N c r s with
  | false =>
    rw [zS_congr (g := fun _ => 0) _ (fun l hl => ?_), zS_zero]
    · rfl
    · obtain ⟨p, q, hp, hq, ht, -, -, hm, -⟩ := hlines l hl
      cases hb : zinl P N c l r && zinl P N c l s with
      | false => rfl
      | true =>
        rw [Bool.and_eq_true] at hb
        unfold zinl at hb
        rw [hm] at hb
        obtain ⟨b1, b2⟩ := hb
        have := zon_lk hp hq hr ht.1 ((zS2_iff hok hNS h64 hp hq ht.1).mp b1).2 ((zS2_iff hok hNS h64 hp hq ht.1).mp b2).2
        rw [this] at hk; cases hk
  | true =>
    obtain ⟨l1, l2⟩ := zS2_ln hok hNS h64 hr hs hrs hk
    have c0 := zX_ok (f := lb (zS2 P N c r s)) (n := 64) (l := 0) (by omega)
    have c1 := zX_ok (f := lb (zS2 P N c r s)) (n := 64) (l := 1) (by omega)
    have hlt := zX_inc (f := lb (zS2 P N c r s)) (n := 64) 0 1 (by omega) (by omega)
    have hp := (l1 0 (by omega)).1
    have hq := (l1 1 (by omega)).1
    have hlow : ∀ t, lb (zS2 P N c r s) t = true → t = zX (lb (zS2 P N c r s)) 64 0 ∨ zX (lb (zS2 P N c r s)) 64 1 ≤ t := by
      intro t ht
      have ht64 : t < 64 := by
        rcases Nat.lt_or_ge t 64 with q | q
        · exact q
        · rw [lb_ge q] at ht; cases ht
      have e := zX_at ht ht64
      have e2 := zC_lt ht ht64
      rcases Nat.eq_zero_or_pos (zC (lb (zS2 P N c r s)) t) with q | q
      · rw [q] at e; exact Or.inl e.symm
      · rcases Nat.eq_or_lt_of_le (show 1 ≤ zC (lb (zS2 P N c r s)) t from q) with q2 | q2
        · rw [← q2] at e; exact Or.inr (by omega)
        · have := zX_inc (f := lb (zS2 P N c r s)) (n := 64) 1 _ q2 (by omega)
          exact Or.inr (by omega)
    generalize zX (lb (zS2 P N c r s)) 64 0 = p at *
    generalize zX (lb (zS2 P N c r s)) 64 1 = q at *
    have o0 := ((zS2_iff hok hNS h64 hr hs hk).mp c0.2.1).2
    have o1 := ((zS2_iff hok hNS h64 hr hs hk).mp c1.2.1).2
    have hsame := zon_eq hok hr hp hq (by omega) o0 o1
    have htwo : ztwo P N c p q := ⟨zon_lk hr hs hp hk o0 o1, hlt, fun t ht hz => hlow t ((zS2_iff hok hNS h64 hr hs hk).mpr ⟨ht, (hsame t).mp hz⟩)⟩
    have hn : 0 < zw_on P N c := by omega
    have ht1 : p * zw_on P N c + q < zw_on P N c * zw_on P N c := by
      have := Nat.mul_le_mul_right (zw_on P N c) (show p + 1 ≤ zw_on P N c from hp)
      rw [Nat.add_mul, Nat.one_mul] at this
      omega
    have d1 : (p * zw_on P N c + q) / zw_on P N c = p := by rw [Nat.mul_comm, Nat.mul_add_div hn, Nat.div_eq_of_lt hq, Nat.add_zero]
    have d2 : (p * zw_on P N c + q) % zw_on P N c = q := by rw [Nat.mul_comm, Nat.mul_add_mod, Nat.mod_eq_of_lt hq]
    have hg : zf_gl (zf_L P N c) (zw_on P N c) (p * zw_on P N c + q) = true := by
      unfold zf_gl
      rw [d1, d2]
      exact (zgd_iff hok hNS h64 hp hq).mpr htwo
    have hl0 := zC_lt hg ht1
    have hl0 : zC (zf_gl (zf_L P N c) (zw_on P N c)) (p * zw_on P N c + q) < zf_nl (zf_L P N c) (zw_on P N c) := hl0
    have hX := zX_at hg ht1
    rw [zS_at (k := zC (zf_gl (zf_L P N c) (zw_on P N c)) (p * zw_on P N c + q)) _ (fun l hl hne => ?_), if_pos hl0]
    · have hm : zf_lm (zf_L P N c) (zw_on P N c) (zC (zf_gl (zf_L P N c) (zw_on P N c)) (p * zw_on P N c + q)) = zS2 P N c p q := by
        unfold zf_lm
        rw [hX, d1, d2]; rfl
      unfold zinl
      rw [hm, (zS2_iff hok hNS h64 hp hq htwo.1).mpr ⟨hr, (hsame r).mpr (zsp_l hP0 _ _)⟩, (zS2_iff hok hNS h64 hp hq htwo.1).mpr ⟨hs, (hsame s).mpr (zsp_r hP0 _ _)⟩]; rfl
    · obtain ⟨p', q', hp', hq', ht', e1, e2, hm, -⟩ := hlines l hl
      cases hb : zinl P N c l r && zinl P N c l s with
      | false => rfl
      | true =>
        exfalso
        rw [Bool.and_eq_true] at hb
        unfold zinl at hb
        rw [hm] at hb
        obtain ⟨b1, b2⟩ := hb
        have g1 := zon_eq hok hp' hr hs hrs ((zS2_iff hok hNS h64 hp' hq' ht'.1).mp b1).2 ((zS2_iff hok hNS h64 hp' hq' ht'.1).mp b2).2
        have hpp : p = p' ∨ q' ≤ p := ht'.2.2 p hp ((g1 p).mp o0)
        have hqq : q = p' ∨ q' ≤ q := ht'.2.2 q hq ((g1 q).mp o1)
        have hpp2 : p' = p ∨ q ≤ p' := htwo.2.2 p' hp' ((hsame p').mpr ((g1 p').mpr (zsp_l hP0 _ _)))
        have hqq2 : q' = p ∨ q ≤ q' := htwo.2.2 q' hq' ((hsame q').mpr ((g1 q').mpr (zsp_r hP0 _ _)))
        have h3 := ht'.2.1
        have h4 := htwo.2.1
        have ep : p' = p := by omega
        have eq : q' = q := by omega
        have et : zX (zf_gl (zf_L P N c) (zw_on P N c)) (zw_on P N c * zw_on P N c) l = p * zw_on P N c + q := by
          have := Nat.div_add_mod (zX (zf_gl (zf_L P N c) (zw_on P N c)) (zw_on P N c * zw_on P N c) l) (zw_on P N c)
          rw [e1, e2, ep, eq, Nat.mul_comm] at this
          exact this.symm
        have h5 := (zX_ok (f := zf_gl (zf_L P N c) (zw_on P N c)) (n := zw_on P N c * zw_on P N c) hl).2.2
        rw [et] at h5
        exact hne h5.symm
/-- the sum over all lines of the pairs of different points -/
theorem zpairs {f : Nat → Bool} {n m : Nat} (h : zC f n = m) : zS (fun r => zS (fun s => zin (f r && f s) * zin (!decide (r = s))) n) n + m = m * m := by
  have e1 : zS (fun r => zS (fun s => zin (f r && f s)) n) n = m * m := by
    rw [zS_congr (g := fun r => zin (f r) * m) n (fun r _ => by rw [zS_congr (g := fun s => zin (f r) * zin (f s)) n (fun s _ => zin_and _ _), zS_mull, zS_zC, h]), zS_mulr, zS_zC, h]
  have e2 : ∀ r, r < n → zS (fun s => zin (f r && f s)) n = zS (fun s => zin (f r && f s) * zin (!decide (r = s))) n + zin (f r) := by
    intro r hr
    have : zS (fun s => zin (f r && f s) * zin (decide (r = s))) n = zin (f r) := by
      rw [zS_at (k := r) n (fun i _ q => by rw [decide_eq_false (fun z => q z.symm)]; exact Nat.mul_zero _), if_pos hr, decide_eq_true rfl, Bool.and_self]
      exact Nat.mul_one _
    rw [← this, ← zS_add]
    refine zS_congr n (fun s _ => ?_)
    rw [← Nat.mul_add, Nat.add_comm, zin_not, Nat.mul_one]
  rw [← e1, zS_congr n e2, zS_add, zS_zC, h]
/-- members that are linked with one -/
def zK1 (P N : Nat) (c : Nat → Nat) (r : Nat) : Nat := zC (zf_k P N c r) (zw_on P N c)
theorem znl {P N : Nat} {c : Nat → Nat} (hok : zv_ok P N) (hNS : zNS P N c) (h64 : zw_on P N c ≤ 64) {κ : Nat} (hκ : ∀ r, r < zw_on P N c → zK1 P N c r = κ + 1) : zf_nl (zf_L P N c) (zw_on P N c) * ((P + 1) * P) = zw_on P N c * κ := by
  have hlines := (zlines hok hNS h64).2
  have e1 : zS (fun l => zS (fun r => zS (fun s => zin (zinl P N c l r && zinl P N c l s) * zin (!decide (r = s))) (zw_on P N c)) (zw_on P N c)) (zf_nl (zf_L P N c) (zw_on P N c)) = zf_nl (zf_L P N c) (zw_on P N c) * ((P + 1) * P) := by
    rw [zS_congr (g := fun _ => (P + 1) * P) _ (fun l hl => ?_), zS_const]
    obtain ⟨p, q, hp, hq, ht, -, -, hm, -⟩ := hlines l hl
    have := zpairs (f := zinl P N c l) (n := zw_on P N c) (m := P + 1) (by
      show zC (lb (zf_lm (zf_L P N c) (zw_on P N c) l)) _ = _
      rw [hm]
      exact zS2_on hok hNS h64 hp hq (by have := ht.2.1; omega) ht.1)
    have e : (P + 1) * (P + 1) = (P + 1) * P + (P + 1) := by grind
    omega
  rw [← e1]
  rw [← zS_swap, zS_congr (g := fun r => κ) (zw_on P N c) (fun r hr => ?_), zS_const]
  rw [← zS_swap, zS_congr (g := fun s => zin (zf_k P N c r s) * zin (!decide (r = s))) (zw_on P N c) (fun s hs => ?_)]
  · have h1 := hκ r hr
    unfold zK1 at h1
    rw [← zS_zC] at h1
    have h2 : zS (fun s => zin (zf_k P N c r s)) (zw_on P N c) = zS (fun s => zin (zf_k P N c r s) * zin (!decide (r = s))) (zw_on P N c) + 1 := by
      have : zS (fun s => zin (zf_k P N c r s) * zin (decide (r = s))) (zw_on P N c) = 1 := by
        rw [zS_at (k := r) _ (fun i _ q => by rw [decide_eq_false (fun z => q z.symm)]; exact Nat.mul_zero _), if_pos hr, decide_eq_true rfl, zf_k_r]; rfl
      rw [← this, ← zS_add]
      refine zS_congr _ (fun s _ => ?_)
      rw [← Nat.mul_add, Nat.add_comm, zin_not, Nat.mul_one]
    omega
  · rw [zS_mulr]
    by_cases e : r = s
    · rw [decide_eq_true e]
      show _ * 0 = _ * 0
      rw [Nat.mul_zero, Nat.mul_zero]
    · rw [zoneL hok hNS h64 hr hs e]
