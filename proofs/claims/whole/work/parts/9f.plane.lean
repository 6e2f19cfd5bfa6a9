/-! planes: where there are none; spans of more vectors -/
theorem zsp_md {P N : Nat} : ∀ (ys : List (Nat → Nat)) {g h : Nat → Nat}, (∀ i, i < N → g i % P = h i % P) → zsp P N ys g → zsp P N ys h
  | [], g, h, e, q => fun i hi => by rw [← e i hi]; exact q i hi
  | y :: ys, g, h, e, ⟨t, q⟩ => ⟨t, zsp_md ys (fun i hi => zmd_add (e i hi) rfl) q⟩
theorem zsp_add {P N : Nat} (t : Nat) : ∀ (ys : List (Nat → Nat)) {g h : Nat → Nat}, zsp P N ys g → zsp P N ys h → zsp P N ys (fun i => g i + t * h i)
  | [], g, h, q1, q2 => fun i hi => by rw [Nat.add_mod, q1 i hi, Nat.mul_mod, q2 i hi, Nat.mul_zero, Nat.zero_mod, Nat.add_zero, Nat.zero_mod]
  | y :: ys, g, h, ⟨a, q1⟩, ⟨b, q2⟩ => by
    refine ⟨a + t * b, ?_⟩
    have e : (fun i => g i + t * h i + (a + t * b) * y i) = (fun i => (fun i => g i + a * y i) i + t * (fun i => h i + b * y i) i) := by
      funext i
      show _ = g i + a * y i + t * (h i + b * y i)
      grind
    rw [e]
    exact zsp_add t ys q1 q2
theorem zsp_0 {P N : Nat} : ∀ (ys : List (Nat → Nat)), zsp P N ys (fun _ => 0)
  | [] => fun _ _ => Nat.zero_mod P
  | y :: ys => ⟨0, by
    have e : (fun i => 0 + 0 * y i) = (fun _ => (0 : Nat)) := by funext i; rw [Nat.zero_mul]
    rw [e]; exact zsp_0 ys⟩
theorem zsp_trans {P N : Nat} (hP0 : 0 < P) {ys : List (Nat → Nat)} : ∀ (xs : List (Nat → Nat)) {g : Nat → Nat}, (∀ x ∈ xs, zsp P N ys x) → zsp P N xs g → zsp P N ys g
  | [], g, _, h => zsp_md ys (g := fun _ => 0) (fun i hi => by rw [h i hi, Nat.zero_mod]) (zsp_0 ys)
  | x :: xs, g, hx, ⟨t, h⟩ => by
    have h1 := zsp_trans hP0 xs (fun y hy => hx y (List.mem_cons_of_mem _ hy)) h
    have h2 := zsp_add ((P - 1) * t) ys h1 (hx x List.mem_cons_self)
    refine zsp_md ys (fun i _ => ?_) h2
    show (g i + t * x i + (P - 1) * t * x i) % P = g i % P
    rw [Nat.add_assoc, Nat.mul_assoc]
    exact zmd_a0 (zmd_n hP0 _)
theorem zsp_mem {P N : Nat} (hP0 : 0 < P) {x : Nat → Nat} : ∀ (ys : List (Nat → Nat)), x ∈ ys → zsp P N ys x
  | [], h => absurd h List.not_mem_nil
  | y :: ys, h => by
    by_cases e : x = y
    · subst e
      exact ⟨P - 1, zsp_md ys (g := fun _ => 0) (fun i _ => by rw [Nat.zero_mod]; exact (zmd_n hP0 _).symm) (zsp_0 ys)⟩
    · have h1 := zsp_mem (N := N) hP0 ys ((List.mem_cons.mp h).resolve_left e)
      refine ⟨0, zsp_md ys (fun i _ => ?_) h1⟩
      rw [Nat.zero_mul, Nat.add_zero]
/-! the class: something linked with all of a line -/
theorem zr2_sub {L : Nat → Int64} {n : Nat} {x : Int64} {s : Nat} (hs : s < 64) : ∀ m, lb (zf_r2 L n x m) s = true → lb (zf_all L x n) s = true ∧ lb x s = false
  | 0, h => by
    have h1 : lb (zf_all L x n &&& (x ^^^ -1)) s = true := h
    rw [lb_an hs, Bool.and_eq_true, Bool.not_eq_true'] at h1
    exact h1
  | m + 1, h => by
    cases hb : lb (zf_r2 L n x m) m with
    | true =>
      rw [zf_r2_y hb, lb_and, Bool.and_eq_true] at h
      exact zr2_sub hs m h.1
    | false =>
      rw [zf_r2_n hb] at h
      exact zr2_sub hs m h
/-- a member linked with all of a line and not on it: only at (2, 6, 35) -/
theorem zout {P N : Nat} {c : Nat → Nat} (hok : zv_ok P N) (hNS : zNS P N c) {p q r : Nat} (hp : p < zw_on P N c) (hq : q < zw_on P N c) (hr : r < zw_on P N c) (hpq : p ≠ q) (hl : zf_k P N c p q = true) (h1 : zf_k P N c p r = true) (h2 : zf_k P N c q r = true) (h3 : ¬ zon P N c p q r) : (P, N, zw_on P N c) = (2, 6, 35) := by
  have h64 := zon64 hok hNS
  obtain ⟨κ, hT⟩ := ztab hok hNS
  have hK := zK2_v hok hNS hT hp hq hpq hl
  refine Classical.byContradiction (fun z => ?_)
  rw [if_neg z] at hK
  have hS := zS2_on hok hNS (by omega) hp hq hpq hl
  have hg := zC_gain (f := lb (zS2 P N c p q)) (h := fun t => zf_k P N c p t && zf_k P N c q t) (fun t ht => by
    obtain ⟨t1, t2⟩ := (zS2_iff hok hNS (by omega) hp hq hl).mp ht
    show (zf_k P N c p t && zf_k P N c q t) = true
    rw [zon_link hp hl t2, zon_link hq (by rw [zf_k_s]; exact hl) (zon_c hok t2)]; rfl) (j := r) (Bool.eq_false_iff.mpr (fun q2 => h3 ((zS2_iff hok hNS (by omega) hp hq hl).mp q2).2)) (by show (zf_k P N c p r && zf_k P N c q r) = true; rw [h1, h2]; rfl) (zw_on P N c) hr
  have hK : zC (fun t => zf_k P N c p t && zf_k P N c q t) (zw_on P N c) = P + 1 := hK
  omega
theorem znp0 {P N : Nat} {c : Nat → Nat} (hok : zv_ok P N) (hNS : zNS P N c) (hno : (P, N, zw_on P N c) ≠ (2, 6, 35)) : zf_np (zf_L P N c) (zw_on P N c) = 0 := by
  have h64 := zon64 hok hNS
  have hlines := (zlines hok hNS (by omega)).2
  have e : zC (zf_gq (zf_L P N c) (zw_on P N c)) (zw_on P N c * zf_nl (zf_L P N c) (zw_on P N c)) = zC (fun _ => false) (zw_on P N c * zf_nl (zf_L P N c) (zw_on P N c)) := zC_congr _ (fun s hs => Bool.eq_false_iff.mpr (fun hg => ?_))
  · have e2 : ∀ n, zC (fun _ => false) n = 0 := fun n => by induction n with | zero => rfl | succ n ih => show zC _ n + 0 = 0; rw [ih]
    show zC _ _ = 0
    rw [e, e2]
  · have hl : s / zw_on P N c < zf_nl (zf_L P N c) (zw_on P N c) := Nat.div_lt_of_lt_mul hs
    have hn : 0 < zw_on P N c := by
      rcases Nat.eq_zero_or_pos (zw_on P N c) with q | q
      · rw [q, Nat.zero_mul] at hs; omega
      · exact q
    have hr := Nat.mod_lt s hn
    obtain ⟨p, q, hp, hq, ht, -, -, hm, -⟩ := hlines _ hl
    unfold zf_gq zf_gp at hg
    rw [Bool.and_eq_true] at hg
    obtain ⟨g1, g2⟩ := zr2_sub (by omega) _ hg.1
    rw [hm] at g1 g2
    have hP0 := (zv_P5 hok.1).1
    have hpq : p ≠ q := by have := ht.2.1; omega
    have ga := (zf_all_iff (by omega)).mp g1
    have k1 := ga p hp ((zS2_iff hok hNS (by omega) hp hq ht.1).mpr ⟨hp, zsp_l hP0 _ _⟩)
    have k2 := ga q hq ((zS2_iff hok hNS (by omega) hp hq ht.1).mpr ⟨hq, zsp_r hP0 _ _⟩)
    rw [zf_L_lb (by omega), decide_eq_true hr, Bool.true_and] at k1 k2
    refine hno (zout hok hNS hp hq hr hpq ht.1 k1 k2 (fun z => ?_))
    rw [(zS2_iff hok hNS (by omega) hp hq ht.1).mpr ⟨hr, z⟩] at g2
    cases g2
/-! the reference's planes -/
def zwf (P N : Nat) (f : Nat → Nat) (p s : Nat) : Nat → Nat := zv_wf P N (zv_y P N) f p s
theorem zwf_mm {P N : Nat} {f : Nat → Nat} {p z : Nat} : ∀ s, zmm (zwf P N f p s) (P + 2 + s) z ↔ z = p ∨ zmm f (P + 1) z ∨ ∃ t, t < s ∧ z = zpb P N (f (t / (P - 1))) p (t % (P - 1) + 1)
  | 0 => by
    show zmm (zv_ins f p (P + 1)) (P + 1 + 1) z ↔ _
    rw [zv_ins_mm]
    constructor
    · rintro (h | h)
      · exact Or.inl h
      · exact Or.inr (Or.inl h)
    · rintro (h | h | ⟨t, ht, -⟩)
      · exact Or.inl h
      · exact Or.inr h
      · omega
  | s + 1 => by
    show zmm (zv_ins (zwf P N f p s) (zpb P N (f (s / (P - 1))) p (s % (P - 1) + 1)) (P + 2 + s)) (P + 2 + s + 1) z ↔ _
    rw [zv_ins_mm, zwf_mm s]
    constructor
    · rintro (h | h | h | ⟨t, ht, h⟩)
      · exact Or.inr (Or.inr ⟨s, by omega, h⟩)
      · exact Or.inl h
      · exact Or.inr (Or.inl h)
      · exact Or.inr (Or.inr ⟨t, by omega, h⟩)
    · rintro (h | h | ⟨t, ht, h⟩)
      · exact Or.inr (Or.inl h)
      · exact Or.inr (Or.inr (Or.inl h))
      · by_cases e : t = s
        · subst e; exact Or.inl h
        · exact Or.inr (Or.inr (Or.inr ⟨t, by omega, h⟩))
/-- two members whose sum is a member are linked -/
theorem zlink_of {P N : Nat} {c : Nat → Nat} (hok : zv_ok P N) {a b : Nat} (ha : a < zv_np P N) (hb : b < zv_np P N) (hab : a ≠ b) (oa : zw_oo P N c a = true) (ob : zw_oo P N c b = true) (h : zw_oo P N c (zpb P N a b 1) = true) : zB N c (zv_y P N a) (zv_y P N b) % P = 0 := by
  have hb1 : 1 < P := by rcases hok.1 with rfl | rfl | rfl <;> decide
  obtain ⟨hv, -⟩ := zv_hv hok a b 1 ha hb hab hb1
  have h8 : zw_oo P N c (zv_pt P N (zv_mx P 1 1 (zv_y P N a) (zv_y P N b))) = true := h
  rw [zw_oo_pt hok hv, beq_iff_eq, zv_val_mx, zmd_b (zoo_iff.mp oa) (zoo_iff.mp ob), Nat.one_mul, Nat.one_mul] at h8
  exact h8
/-- what the reference asks of a line and a point -/
def zrefp (P N : Nat) (c : Nat → Nat) (a b p : Nat) : Prop := zw_oo P N c p = true ∧ ¬ zmm (zln P N a b P) (P + 1) p ∧ zwf P N (zln P N a b P) p ((P + 1) * (P - 1)) 0 = a ∧ zwf P N (zln P N a b P) p ((P + 1) * (P - 1)) 1 = b ∧ (∀ k, k < P + 2 + (P + 1) * (P - 1) → p ≤ zwf P N (zln P N a b P) p ((P + 1) * (P - 1)) k ∨ zmm (zln P N a b P) (P + 1) (zwf P N (zln P N a b P) p ((P + 1) * (P - 1)) k)) ∧ ∀ k, k < P + 2 + (P + 1) * (P - 1) → zw_oo P N c (zwf P N (zln P N a b P) p ((P + 1) * (P - 1)) k) = true
theorem zE_iff {f : Nat → Bool} {n : Nat} : zE f n = true ↔ ∃ k, k < n ∧ f k = true := by
  constructor
  · intro h
    refine Classical.byContradiction (fun q => ?_)
    have : ∀ m, m ≤ n → zE f m = false := by
      intro m
      induction m with
      | zero => intro _; rfl
      | succ m ih =>
        intro hm
        exact zE_nn (ih (by omega)) (Bool.eq_false_iff.mpr (fun z => q ⟨m, by omega, z⟩))
    rw [this n (Nat.le_refl _)] at h; cases h
  · rintro ⟨k, hk, hf⟩
    exact zE_yes hf n hk
theorem zmm_E {f : Nat → Nat} {n z : Nat} : zE (fun k => f k == z) n = true ↔ zmm f n z := by
  rw [zE_iff]
  exact ⟨fun ⟨k, h1, h2⟩ => ⟨k, h1, eq_of_beq h2⟩, fun ⟨k, h1, h2⟩ => ⟨k, h1, by rw [h2]; exact beq_self_eq_true z⟩⟩
theorem zgq_iff {P N : Nat} {c : Nat → Nat} {p0 q0 : Nat → Nat} {s : Nat} : zv_gq P N (zv_np P N) (zv_y P N) (zw_oo P N c) p0 q0 s = true ↔ zrefp P N c (p0 (s / zv_np P N)) (q0 (s / zv_np P N)) (s % zv_np P N) := by
  unfold zv_gq zv_gp zrefp zwf zln
  rw [Bool.and_eq_true, Bool.and_eq_true, Bool.and_eq_true, Bool.and_eq_true, Bool.and_eq_true, Bool.not_eq_true', beq_iff_eq, beq_iff_eq, zA_iff, zA_iff, ← Bool.not_eq_true, zmm_E]
  have e : (∀ k, k < P + 2 + (P + 1) * (P - 1) → (decide (s % zv_np P N ≤ zv_wf P N (zv_y P N) (zv_lnf P N (zv_y P N) (p0 (s / zv_np P N)) (q0 (s / zv_np P N)) P) (s % zv_np P N) ((P + 1) * (P - 1)) k) || zE (fun t => zv_lnf P N (zv_y P N) (p0 (s / zv_np P N)) (q0 (s / zv_np P N)) P t == zv_wf P N (zv_y P N) (zv_lnf P N (zv_y P N) (p0 (s / zv_np P N)) (q0 (s / zv_np P N)) P) (s % zv_np P N) ((P + 1) * (P - 1)) k) (P + 1)) = true) ↔ (∀ k, k < P + 2 + (P + 1) * (P - 1) → s % zv_np P N ≤ zv_wf P N (zv_y P N) (zv_lnf P N (zv_y P N) (p0 (s / zv_np P N)) (q0 (s / zv_np P N)) P) (s % zv_np P N) ((P + 1) * (P - 1)) k ∨ zmm (zv_lnf P N (zv_y P N) (p0 (s / zv_np P N)) (q0 (s / zv_np P N)) P) (P + 1) (zv_wf P N (zv_y P N) (zv_lnf P N (zv_y P N) (p0 (s / zv_np P N)) (q0 (s / zv_np P N)) P) (s % zv_np P N) ((P + 1) * (P - 1)) k)) := by
    constructor
    · intro h k hk
      have := h k hk
      rw [Bool.or_eq_true, decide_eq_true_iff, zmm_E] at this
      exact this
    · intro h k hk
      rw [Bool.or_eq_true, decide_eq_true_iff, zmm_E]
      exact h k hk
  rw [e]
  constructor
  · rintro ⟨a1, a2, ⟨⟨a3, a4⟩, a5⟩, a6⟩
    exact ⟨a1, a2, a3, a4, a5, a6⟩
  · rintro ⟨a1, a2, a3, a4, a5, a6⟩
    exact ⟨a1, a2, ⟨⟨a3, a4⟩, a5⟩, a6⟩
