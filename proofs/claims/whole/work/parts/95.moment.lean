/-! the second moment of the values -/
def zNj (P N : Nat) (c : Nat → Nat) (j : Nat) : Nat := zVS P N (fun v => zin (zv_sum N c v % P == j))
def zrb (P N : Nat) (c u : Nat → Nat) : Bool := zA (fun i => zz_nr N c u i % P == 0) N
def zzb (P N : Nat) (u : Nat → Nat) : Bool := zA (fun i => u i % P == 0) N
theorem zNj_per {P N : Nat} {c : Nat → Nat} {j : Nat} : zper P N (fun v => zin (zv_sum N c v % P == j)) := fun v w h => by
  show zin _ = zin _
  rw [zv_sum_md h]
theorem zNj_sum {P N : Nat} {c : Nat → Nat} (hP0 : 0 < P) : zS (zNj P N c) P = P ^ N := by
  unfold zNj
  rw [← zVS_S, zVS_congr N (g := fun _ => 1) (fun v => zS_one (Nat.mod_lt _ hP0)), zVS_const, Nat.one_mul]
theorem zNj_0 (P N : Nat) (c : Nat → Nat) : zNj P N c 0 = zAA P N c [] := zVS_congr N (fun v => by show _ = zin ((zv_sum N c v % P == 0) && true); rw [Bool.and_true])
theorem zA_cg {f g : Nat → Bool} : ∀ n, (∀ i, i < n → f i = g i) → zA f n = zA g n
  | 0, _ => rfl
  | n + 1, h => by show (zA f n && f n) = (zA g n && g n); rw [zA_cg n (fun i hi => h i (by omega)), h n (by omega)]
theorem zzb_1 {P : Nat} (hP0 : 0 < P) : ∀ n, zVS P n (fun u => zin (zzb P n u)) = 1
  | 0 => rfl
  | n + 1 => by
    have e : ∀ a, zVS P n (fun x => zin (zzb P (n + 1) (zup x n a))) = zin (a % P == 0) := by
      intro a
      have e1 : ∀ x, zin (zzb P (n + 1) (zup x n a)) = zin (a % P == 0) * zin (zzb P n x) := by
        intro x
        rw [← zin_and, Bool.and_comm]
        show zin (zA (fun i => zup x n a i % P == 0) n && (zup x n a n % P == 0)) = zin (zA (fun i => x i % P == 0) n && (a % P == 0))
        rw [show zup x n a n = a from if_pos rfl, zA_cg (g := fun i => x i % P == 0) n (fun i hi => by rw [show zup x n a i = x i from if_neg (by omega)])]
      rw [zVS_congr n e1, zVS_mul, zzb_1 hP0 n, Nat.mul_one]
    show zS (fun a => zVS P n (fun x => zin (zzb P (n + 1) (zup x n a)))) P = 1
    rw [zS_congr P (fun a _ => e a), zS_congr (g := fun a => zin (0 == a)) P (fun a ha => by rw [Nat.mod_eq_of_lt ha, show (a == 0) = (0 == a) from zb_iff (by rw [beq_iff_eq, beq_iff_eq]; exact ⟨fun h => h.symm, fun h => h.symm⟩)])]
    exact zS_one hP0
theorem zVS_sq {P N : Nat} (f g : (Nat → Nat) → Nat) : zVS P N f * zVS P N g = zVS P N (fun v => zVS P N (fun w => f v * g w)) := by
  have e : zVS P N (fun v => zVS P N (fun w => f v * g w)) = zVS P N (fun v => zVS P N g * f v) := zVS_congr N (fun v => by rw [zVS_mul, Nat.mul_comm])
  rw [e, zVS_mul, Nat.mul_comm]
theorem zS_eqj {P a b : Nat} (ha : a < P) : zS (fun j => zin (a == j) * zin (b == j)) P = zin (a == b) := by
  rw [zS_at (k := a) P (fun i _ q => by rw [show (a == i) = false from beq_eq_false_iff_ne.mpr (fun z => q z.symm)]; exact Nat.zero_mul _), if_pos ha, show (a == a) = true from beq_self_eq_true a]
  show 1 * _ = _
  rw [Nat.one_mul, show (b == a) = (a == b) from zb_iff (by rw [beq_iff_eq, beq_iff_eq]; exact ⟨fun h => h.symm, fun h => h.symm⟩)]
theorem zmd_q {P a b q : Nat} (hP : P = 2 ∨ P = 3 ∨ P = 5) : (a % P == (q + a + b) % P) = ((q + b) % P == 0) := by
  refine zb_iff ?_
  rw [beq_iff_eq, beq_iff_eq]
  rcases hP with rfl | rfl | rfl <;> omega
theorem zM2_1 {P N : Nat} {c : Nat → Nat} (hP : P = 2 ∨ P = 3 ∨ P = 5) : zS (fun j => zNj P N c j * zNj P N c j) P = zVS P N (fun u => zVS P N (fun v => zin ((zv_sum N c u + zB N c u v) % P == 0))) := by
  have hP0 : 0 < P := by omega
  have e1 : ∀ j, zNj P N c j * zNj P N c j = zVS P N (fun v => zVS P N (fun w => zin (zv_sum N c v % P == j) * zin (zv_sum N c w % P == j))) := fun j => zVS_sq _ _
  rw [zS_congr P (fun j _ => e1 j), ← zVS_S]
  rw [zVS_congr N (g := fun v => zVS P N (fun u => zin ((zv_sum N c u + zB N c u v) % P == 0))) (fun v => ?_)]
  · exact zVS_V N _
  · rw [← zVS_S, zVS_congr N (fun w => zS_eqj (Nat.mod_lt _ hP0))]
    rw [← zVS_tr v N (f := fun w => zin (zv_sum N c v % P == zv_sum N c w % P)) (fun x y h => by show zin _ = zin _; rw [zv_sum_md h])]
    refine zVS_congr N (fun u => ?_)
    show zin (zv_sum N c v % P == zv_sum N c (fun i => u i + v i) % P) = _
    rw [zv_sum_add, zmd_q hP]
theorem zmd_j {P q b : Nat} (hP : P = 2 ∨ P = 3 ∨ P = 5) : ((q + b) % P == 0) = (b % P == (P - q % P) % P) := by
  refine zb_iff ?_
  rw [beq_iff_eq, beq_iff_eq]
  rcases hP with rfl | rfl | rfl <;> omega
theorem zrb_no {P N : Nat} {c u : Nat → Nat} (hP : P = 2 ∨ P = 3 ∨ P = 5) (h : zrb P N c u = false) : ∃ w, zB N c u w % P = 1 := by
  have ⟨k, hk, hk2⟩ : ∃ k, k < N ∧ zz_nr N c u k % P ≠ 0 := by
    refine Classical.byContradiction (fun q => ?_)
    have : zrb P N c u = true := zA_iff.mpr (fun i hi => by rw [beq_iff_eq]; exact Classical.byContradiction (fun z => q ⟨i, hi, z⟩))
    rw [this] at h; cases h
  obtain ⟨t, ht⟩ := zmd_inv hP hk2
  refine ⟨fun i => t * zv_e k i, ?_⟩
  rw [zB_mul_r, zB_e hk, ht]
  rcases hP with rfl | rfl | rfl <;> rfl
theorem zM2_2 {P N : Nat} {c u : Nat → Nat} (hP : P = 2 ∨ P = 3 ∨ P = 5) (hN : 1 ≤ N) : zVS P N (fun v => zin ((zv_sum N c u + zB N c u v) % P == 0)) = if zrb P N c u = true then (if zv_sum N c u % P = 0 then P ^ N else 0) else P ^ (N - 1) := by
  have hP0 : 0 < P := by omega
  cases h : zrb P N c u with
  | true =>
    rw [if_pos rfl]
    have e : ∀ v, zB N c u v % P = 0 := fun v => zB_nm0 (fun i hi => by have := zA_iff.mp h i hi; rw [beq_iff_eq] at this; exact this)
    rw [zVS_congr N (g := fun _ => zin (zv_sum N c u % P == 0)) (fun v => by rw [zmd_a0 (e v)]), zVS_const]
    by_cases q : zv_sum N c u % P = 0
    · rw [if_pos q, zb_eq0 q]; show 1 * _ = _; rw [Nat.one_mul]
    · rw [if_neg q, zb_ne0 q]; show 0 * _ = _; rw [Nat.zero_mul]
  | false =>
    rw [if_neg (by decide)]
    obtain ⟨w, hw⟩ := zrb_no hP h
    have e1 : zVS P N (fun v => zin ((zv_sum N c u + zB N c u v) % P == 0)) = zEE P N c u [] ((P - zv_sum N c u % P) % P) := zVS_congr N (fun v => by rw [zmd_j hP]; show _ = zin (_ && true); rw [Bool.and_true])
    rw [e1, zEE_0 hP hw (fun y hy => absurd hy List.not_mem_nil) _ (Nat.mod_lt _ hP0)]
    have e2 := zCC_cons (c := c) (xs := []) hP hw (fun y hy => absurd hy List.not_mem_nil)
    rw [zCC_nil] at e2
    have e3 : zEE P N c u [] 0 = zCC P N c [u] := rfl
    rw [e3]
    have e4 : P ^ N = P * P ^ (N - 1) := by rw [Nat.mul_comm, ← Nat.pow_succ, Nat.succ_eq_add_one, show N - 1 + 1 = N by omega]
    exact Nat.eq_of_mul_eq_mul_left hP0 (e2.symm.trans e4)
/-- THE SECOND MOMENT of a nonsingular form -/
theorem zM2 {P N : Nat} {c : Nat → Nat} (hP : P = 2 ∨ P = 3 ∨ P = 5) (hN : 1 ≤ N) (hNS : zNS P N c) : zS (fun j => zNj P N c j * zNj P N c j) P + zVS P N (fun u => zin (zrb P N c u)) * P ^ (N - 1) = P ^ N + P ^ N * P ^ (N - 1) := by
  have hP0 : 0 < P := by omega
  rw [zM2_1 hP, zVS_congr N (g := fun u => P ^ N * zin (zzb P N u) + P ^ (N - 1) * zin (!zrb P N c u)) (fun u => ?_)]
  · rw [zVS_add, zVS_mul, zVS_mul, zzb_1 hP0, Nat.mul_one]
    have e : zVS P N (fun u => zin (zrb P N c u)) + zVS P N (fun u => zin (!zrb P N c u)) = P ^ N := by
      rw [← zVS_add, zVS_congr N (g := fun _ => 1) (fun u => zin_not _), zVS_const, Nat.one_mul]
    rw [Nat.add_assoc, Nat.mul_comm (P ^ (N - 1)), ← Nat.add_mul, Nat.add_comm (zVS P N fun u => zin !zrb P N c u), e]
  · rw [zM2_2 hP hN]
    cases h : zrb P N c u with
    | true =>
      rw [if_pos rfl]
      have hr : ∀ i, i < N → zz_nr N c u i % P = 0 := fun i hi => by have := zA_iff.mp h i hi; rw [beq_iff_eq] at this; exact this
      show _ = P ^ N * _ + P ^ (N - 1) * 0
      rw [Nat.mul_zero, Nat.add_zero]
      by_cases q : zv_sum N c u % P = 0
      · rw [if_pos q, show zzb P N u = true from zA_iff.mpr (fun i hi => by rw [beq_iff_eq]; exact hNS u q hr i hi)]
        show _ = _ * 1; rw [Nat.mul_one]
      · rw [if_neg q, show zzb P N u = false from Bool.eq_false_iff.mpr (fun z => q ?_)]
        · show _ = _ * 0; rw [Nat.mul_zero]
        · have e : zv_sum N c u % P = zv_sum N c (fun _ => 0) % P := zv_sum_md (fun i hi => by have := zA_iff.mp z i hi; rw [beq_iff_eq] at this; rw [this, Nat.zero_mod])
          rw [e, show zv_sum N c (fun _ => 0) = 0 * 0 * zv_sum N c (fun _ => 0) from zv_sum_mul N c (fun _ => 0) 0, Nat.zero_mul, Nat.zero_mod]
    | false =>
      rw [if_neg (by decide), show zzb P N u = false from Bool.eq_false_iff.mpr (fun z => ?_)]
      · show _ = _ * 0 + _ * 1
        rw [Nat.mul_zero, Nat.mul_one, Nat.zero_add]
      · have : zrb P N c u = true := zA_iff.mpr (fun i hi => by
          rw [beq_iff_eq, zz_nr_md (y := fun i => 0 * u i) (fun j hj => by have := zA_iff.mp z j hj; rw [beq_iff_eq] at this; rw [this, Nat.zero_mul, Nat.zero_mod]) hi, zz_nr_mul, Nat.zero_mul, Nat.zero_mod])
        rw [this] at h; cases h
