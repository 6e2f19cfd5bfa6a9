/-! what is linked with all that is linked with some members: the span of them -/
theorem zmd_z {P a b : Nat} (t : Nat) (hb : b % P = 0) : (a + t * b) % P = a % P := by
  rw [Nat.add_mod, Nat.mul_mod, hb, Nat.mul_zero, Nat.zero_mod, Nat.add_zero, Nat.mod_mod]
theorem zB_axr (N : Nat) (c x y z : Nat → Nat) (t : Nat) : zB N c x (fun i => y i + t * z i) = zB N c x y + t * zB N c x z := zv_dot_add_r N y z (zz_nr N c x) t
theorem zB_axl (N : Nat) (c x y z : Nat → Nat) (t : Nat) : zB N c (fun i => y i + t * z i) x = zB N c y x + t * zB N c z x := by
  rw [zB_comm, zB_axr, zB_comm N c x y, zB_comm N c x z]
theorem zv_sum_ax (N : Nat) (c x y : Nat → Nat) (t : Nat) : zv_sum N c (fun i => x i + t * y i) = zv_sum N c x + t * t * zv_sum N c y + t * zB N c x y := by
  rw [show (fun i => x i + t * y i) = (fun i => x i + (fun j => t * y j) i) from rfl, zv_sum_add, zv_sum_mul, zB_mul_r]
theorem zz_nr_ax (N : Nat) (c x y : Nat → Nat) (t : Nat) : (fun i => zz_nr N c x i + t * zz_nr N c y i) = zz_nr N c (fun i => x i + t * y i) := by
  funext i
  rw [show (fun i => x i + t * y i) = (fun i => x i + (fun j => t * y j) i) from rfl, zz_nr_add, zz_nr_mul]
/-- isotropic, orthogonal to each other -/
def zts (P N : Nat) (c : Nat → Nat) (xs : List (Nat → Nat)) : Prop := (∀ x ∈ xs, zv_sum N c x % P = 0) ∧ ∀ x ∈ xs, ∀ y ∈ xs, zB N c x y % P = 0
theorem zts_tl {P N : Nat} {c : Nat → Nat} {x : Nat → Nat} {xs : List (Nat → Nat)} (h : zts P N c (x :: xs)) : zts P N c xs := ⟨fun y hy => h.1 y (List.mem_cons_of_mem _ hy), fun y hy z hz => h.2 y (List.mem_cons_of_mem _ hy) z (List.mem_cons_of_mem _ hz)⟩
theorem zsp_nr {P N : Nat} {c : Nat → Nat} (hNS : zNS P N c) : ∀ (xs : List (Nat → Nat)) (z : Nat → Nat), zts P N c xs → zv_sum N c z % P = 0 → (∀ x ∈ xs, zB N c x z % P = 0) → zsp P N (xs.map (zz_nr N c)) (zz_nr N c z) → zsp P N xs z
  | [], z, _, hz, _, h => hNS z hz h
  | x :: xs, z, hx, hz, hxz, ⟨t, h⟩ => by
    refine ⟨t, zsp_nr hNS xs (fun i => z i + t * x i) (zts_tl hx) ?_ (fun y hy => ?_) ?_⟩
    · rw [zv_sum_ax, zmd_z t (by rw [zB_comm]; exact hxz x List.mem_cons_self), zmd_z (t * t) (hx.1 x List.mem_cons_self)]
      exact hz
    · rw [zB_axr, zmd_z t (hx.2 y (List.mem_cons_of_mem _ hy) x List.mem_cons_self)]
      exact hxz y (List.mem_cons_of_mem _ hy)
    · rw [zz_nr_ax] at h
      exact h
theorem zsp_orth {P N : Nat} {c r : Nat → Nat} : ∀ (xs : List (Nat → Nat)) (z : Nat → Nat), (∀ x ∈ xs, zB N c r x % P = 0) → zsp P N xs z → zB N c r z % P = 0
  | [], z, _, h => by
    have e : zB N c r z % P = zS (fun _ => 0) N % P := zS_md N (fun i hi => by rw [Nat.mul_mod, h i hi, Nat.mul_zero, Nat.zero_mod])
    rw [e, zS_zero, Nat.zero_mod]
  | x :: xs, z, hx, ⟨t, h⟩ => by
    have h1 := zsp_orth xs _ (fun y hy => hx y (List.mem_cons_of_mem _ hy)) h
    rw [zB_axr, zmd_z t (hx x List.mem_cons_self)] at h1
    exact h1
/-- the members' vectors, by their order -/
def zj_v (P N : Nat) (c : Nat → Nat) (r : Nat) : Nat → Nat := zv_y P N (zj_x P N c r)
theorem zj_x_ok {P N : Nat} {c : Nat → Nat} {r : Nat} (h : r < zw_on P N c) : zj_x P N c r < zv_np P N ∧ zw_oo P N c (zj_x P N c r) = true ∧ zC (zw_oo P N c) (zj_x P N c r) = r := zX_ok h
theorem zj_v_0 {P N : Nat} {c : Nat → Nat} {r : Nat} (h : r < zw_on P N c) : zv_sum N c (zj_v P N c r) % P = 0 := by
  have h1 : (zv_val P N c (zv_y P N (zj_x P N c r)) == 0) = true := (zj_x_ok h).2.1
  exact eq_of_beq h1
theorem zf_k_B {P N : Nat} {c : Nat → Nat} {r s : Nat} (hr : r < zw_on P N c) : zf_k P N c r s = true ↔ zB N c (zj_v P N c r) (zj_v P N c s) % P = 0 := by
  unfold zf_k
  by_cases e : r = s
  · subst e
    rw [decide_eq_true rfl, Bool.true_or, zB_self, Nat.mul_mod, zj_v_0 hr, Nat.mul_zero, Nat.zero_mod]
    exact ⟨fun _ => rfl, fun _ => rfl⟩
  · rw [decide_eq_false e, Bool.false_or]
    unfold zf_R
    rw [beq_iff_eq, zv_dot_B]
    rcases Nat.lt_or_ge r s with q | q
    · rw [Nat.max_eq_right (by omega), Nat.min_eq_left (by omega), zB_comm]; rfl
    · rw [Nat.max_eq_left q, Nat.min_eq_right q]; rfl
/-- a member for each isotropic vector -/
theorem zj_mem {P N : Nat} {c w : Nat → Nat} (hok : zv_ok P N) {k : Nat} (hk : k < N) (hwk : w k % P ≠ 0) (hw : zv_sum N c w % P = 0) : ∃ r s, r < zw_on P N c ∧ s ≤ 4 ∧ s % P ≠ 0 ∧ ∀ i, i < N → zj_v P N c r i % P = (s * w i) % P := by
  obtain ⟨p, s, hp, hs1, hs4, hs, hy⟩ := zv_point hok hk hwk
  have e1 : zw_oo P N c p = true := by
    show (zv_val P N c (zv_y P N p) == 0) = true
    rw [beq_iff_eq]
    unfold zv_val
    rw [zv_sum_md (y := fun i => s * w i) hy, zv_sum_mul, Nat.mul_mod, hw, Nat.mul_zero, Nat.zero_mod]
  refine ⟨zC (zw_oo P N c) p, s, zC_lt e1 hp, hs4, hs, fun i hi => ?_⟩
  have e2 : zj_x P N c (zC (zw_oo P N c) p) = p := zX_at e1 hp
  unfold zj_v
  rw [e2]
  exact hy i hi
theorem zB_nz {P N : Nat} {c x w : Nat → Nat} (h : zB N c x w % P ≠ 0) : ∃ k, k < N ∧ w k % P ≠ 0 := by
  refine Classical.byContradiction (fun q => h ?_)
  have e : zB N c x w % P = zS (fun _ => 0) N % P := zS_md N (fun i hi => by
    have : w i % P = 0 := Classical.byContradiction (fun z => q ⟨i, hi, z⟩)
    rw [Nat.mul_mod, this, Nat.mul_zero, Nat.zero_mod])
  rw [e, zS_zero, Nat.zero_mod]
/-- THE SPAN of members that are linked with each other -/
theorem zbp {P N : Nat} {c : Nat → Nat} (hok : zv_ok P N) (hNS : zNS P N c) {ps : List Nat} (hps : ∀ p ∈ ps, p < zw_on P N c) (hl : ∀ p ∈ ps, ∀ q ∈ ps, zf_k P N c p q = true) {s : Nat} (hs : s < zw_on P N c) : (∀ r, r < zw_on P N c → (∀ p ∈ ps, zf_k P N c p r = true) → zf_k P N c r s = true) ↔ zsp P N (ps.map (zj_v P N c)) (zj_v P N c s) := by
  constructor
  · intro h
    have hps2 : ∀ p ∈ ps, zB N c (zj_v P N c p) (zj_v P N c s) % P = 0 := fun p hp => (zf_k_B (hps p hp)).mp (h p (hps p hp) (fun q hq => hl q hq p hp))
    have hts : zts P N c (ps.map (zj_v P N c)) := by
      constructor
      · intro x hx
        obtain ⟨p, hp, rfl⟩ := List.mem_map.mp hx
        exact zj_v_0 (hps p hp)
      · intro x hx y hy
        obtain ⟨p, hp, rfl⟩ := List.mem_map.mp hx
        obtain ⟨q, hq, rfl⟩ := List.mem_map.mp hy
        exact (zf_k_B (hps p hp)).mp (hl p hp q hq)
    have hxz : ∀ x ∈ ps.map (zj_v P N c), zB N c x (zj_v P N c s) % P = 0 := by
      intro x hx
      obtain ⟨p, hp, rfl⟩ := List.mem_map.mp hx
      exact hps2 p hp
    refine Classical.byContradiction (fun q => ?_)
    obtain ⟨w, w1, w2, w3⟩ := zperp (c := c) hok.1 (zj_v_0 hs) hxz (fun z => q (zsp_nr hNS _ _ hts (zj_v_0 hs) hxz z))
    obtain ⟨k, hk, hwk⟩ := zB_nz w3
    obtain ⟨r, t, hr, ht4, ht, hv⟩ := zj_mem hok hk hwk w1
    have e : ∀ x : Nat → Nat, zB N c x (zj_v P N c r) % P = (t * zB N c x w) % P := fun x => by
      rw [← zB_mul_r]
      exact zB_md (fun _ _ => rfl) hv
    have h1 := h r hr (fun p hp => (zf_k_B (hps p hp)).mpr (by
      rw [e, Nat.mul_mod, w2 _ (List.mem_map_of_mem hp), Nat.mul_zero, Nat.zero_mod]))
    have h2 := (zf_k_B hr).mp h1
    rw [zB_comm, e] at h2
    exact w3 ((zmd_1 hok.1 ht4 ht).mp h2)
  · intro h r hr hpr
    refine (zf_k_B hr).mpr (zsp_orth _ _ (fun x hx => ?_) h)
    obtain ⟨p, hp, rfl⟩ := List.mem_map.mp hx
    rw [zB_comm]
    exact (zf_k_B (hps p hp)).mp (hpr p hp)
/-! the same by bits -/
theorem zf_all_lb {L : Nat → Int64} {x : Int64} {s : Nat} (hs : s < 64) : ∀ n, lb (zf_all L x n) s = zA (fun r => !lb x r || lb (L r) s) n
  | 0 => lb_m1 hs
  | n + 1 => by
    show lb (if lb x n = true then zf_all L x n &&& L n else zf_all L x n) s = (zA (fun r => !lb x r || lb (L r) s) n && (!lb x n || lb (L n) s))
    cases h : lb x n with
    | true => rw [if_pos rfl, lb_and, zf_all_lb hs n, Bool.not_true, Bool.false_or]
    | false => rw [if_neg (by decide), zf_all_lb hs n, Bool.not_false, Bool.true_or, Bool.and_true]
theorem zf_all_iff {L : Nat → Int64} {x : Int64} {n s : Nat} (hs : s < 64) : lb (zf_all L x n) s = true ↔ ∀ r, r < n → lb x r = true → lb (L r) s = true := by
  rw [zf_all_lb hs, zA_iff]
  constructor
  · intro h r hr hx
    have := h r hr
    rw [hx, Bool.not_true, Bool.false_or] at this
    exact this
  · intro h r hr
    cases hx : lb x r with
    | true => rw [Bool.not_true, Bool.false_or]; exact h r hr hx
    | false => rfl
theorem zf_L_lb {P N : Nat} {c : Nat → Nat} {r s : Nat} (h : zw_on P N c ≤ 64) : lb (zf_L P N c r) s = (decide (s < zw_on P N c) && zf_k P N c r s) := lb_L _ h
/-- a set of members, by bits -/
theorem zf_sp_iff {P N : Nat} {c : Nat → Nat} (hok : zv_ok P N) (hNS : zNS P N c) (h64 : zw_on P N c ≤ 64) {ps : List Nat} {x : Int64} (hne : ps ≠ []) (hx : ∀ r, lb x r = true ↔ r ∈ ps) (hps : ∀ p ∈ ps, p < zw_on P N c) (hl : ∀ p ∈ ps, ∀ q ∈ ps, zf_k P N c p q = true) {s : Nat} : lb (zf_sp (zf_L P N c) (zw_on P N c) x) s = true ↔ s < zw_on P N c ∧ zsp P N (ps.map (zj_v P N c)) (zj_v P N c s) := by
  have key : s < zw_on P N c → (lb (zf_sp (zf_L P N c) (zw_on P N c) x) s = true ↔ zsp P N (ps.map (zj_v P N c)) (zj_v P N c s)) := by
    intro hs
    rw [← zbp hok hNS hps hl hs]
    unfold zf_sp
    rw [zf_all_iff (by omega)]
    constructor
    · intro h r hr hp
      have h1 := h r hr ((zf_all_iff (by omega)).mpr (fun q hq hxq => by rw [zf_L_lb h64, decide_eq_true hr, Bool.true_and]; exact hp q ((hx q).mp hxq)))
      rw [zf_L_lb h64, decide_eq_true hs, Bool.true_and] at h1
      exact h1
    · intro h r hr hxr
      rw [zf_L_lb h64, decide_eq_true hs, Bool.true_and]
      refine h r hr (fun p hp => ?_)
      have h1 := (zf_all_iff (by omega)).mp hxr p (hps p hp) ((hx p).mpr hp)
      rw [zf_L_lb h64, decide_eq_true hr, Bool.true_and] at h1
      exact h1
  constructor
  · intro h
    have hs : s < zw_on P N c := by
      have hs64 : s < 64 := by
        rcases Nat.lt_or_ge s 64 with q | q
        · exact q
        · rw [lb_ge q] at h; cases h
      obtain ⟨p0, hp0⟩ := List.exists_mem_of_ne_nil ps hne
      have h2 := (zf_all_iff hs64).mp h p0 (hps p0 hp0) ((zf_all_iff (by have := hps p0 hp0; omega)).mpr (fun q hq hxq => by
        rw [zf_L_lb h64, decide_eq_true (hps p0 hp0), Bool.true_and]
        exact hl q ((hx q).mp hxq) p0 hp0))
      exact zf_L_lt h64 h2
    exact ⟨hs, (key hs).mp h⟩
  · rintro ⟨hs, h⟩
    exact (key hs).mpr h
