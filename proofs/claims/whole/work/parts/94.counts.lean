/-! how many vectors are orthogonal to some, and isotropic -/
def zo (P N : Nat) (c : Nat → Nat) : List (Nat → Nat) → (Nat → Nat) → Bool
  | [], _ => true
  | x :: xs, v => (zB N c x v % P == 0) && zo P N c xs v
theorem zo_iff {P N : Nat} {c v : Nat → Nat} : ∀ xs, zo P N c xs v = true ↔ ∀ x ∈ xs, zB N c x v % P = 0
  | [] => ⟨fun _ x hx => absurd hx List.not_mem_nil, fun _ => rfl⟩
  | x :: xs => by
    show ((zB N c x v % P == 0) && zo P N c xs v) = true ↔ _
    rw [Bool.and_eq_true, beq_iff_eq, zo_iff xs, List.forall_mem_cons]
theorem zo_md {P N : Nat} {c v w : Nat → Nat} (h : ∀ i, i < N → v i % P = w i % P) : ∀ xs, zo P N c xs v = zo P N c xs w
  | [] => rfl
  | x :: xs => by
    show ((zB N c x v % P == 0) && zo P N c xs v) = ((zB N c x w % P == 0) && zo P N c xs w)
    rw [zo_md h xs, zB_md (x' := x) (fun _ _ => rfl) h]
theorem zB_pl (N : Nat) (c x v w : Nat → Nat) : zB N c x (fun i => v i + w i) = zB N c x v + zB N c x w := zB_add_r N c x v w
theorem zmd_a0 {P a b : Nat} (hb : b % P = 0) : (a + b) % P = a % P := by rw [Nat.add_mod, hb, Nat.add_zero, Nat.mod_mod]
theorem zo_tr {P N : Nat} {c v w : Nat → Nat} : ∀ xs, (∀ x ∈ xs, zB N c x w % P = 0) → zo P N c xs (fun i => v i + w i) = zo P N c xs v
  | [], _ => rfl
  | x :: xs, h => by
    show ((zB N c x (fun i => v i + w i) % P == 0) && zo P N c xs (fun i => v i + w i)) = ((zB N c x v % P == 0) && zo P N c xs v)
    rw [zo_tr xs (fun y hy => h y (List.mem_cons_of_mem _ hy)), zB_pl, zmd_a0 (h x List.mem_cons_self)]
def zCC (P N : Nat) (c : Nat → Nat) (xs : List (Nat → Nat)) : Nat := zVS P N (fun v => zin (zo P N c xs v))
def zAA (P N : Nat) (c : Nat → Nat) (xs : List (Nat → Nat)) : Nat := zVS P N (fun v => zin ((zv_sum N c v % P == 0) && zo P N c xs v))
def zEE (P N : Nat) (c : Nat → Nat) (x : Nat → Nat) (xs : List (Nat → Nat)) (j : Nat) : Nat := zVS P N (fun v => zin ((zB N c x v % P == j) && zo P N c xs v))
theorem zEE_per {P N : Nat} {c x : Nat → Nat} {xs : List (Nat → Nat)} {j : Nat} : zper P N (fun v => zin ((zB N c x v % P == j) && zo P N c xs v)) := fun v w h => by
  show zin _ = zin _
  rw [zo_md h xs, zB_md (x' := x) (fun _ _ => rfl) h]
theorem zS_one {P b : Nat} (hb : b < P) : zS (fun j => zin (b == j)) P = 1 := by
  rw [zS_at (k := b) P (fun i _ q => by rw [show (b == i) = false from beq_eq_false_iff_ne.mpr (fun z => q z.symm)]; rfl), if_pos hb]
  rw [show (b == b) = true from beq_self_eq_true b]; rfl
theorem zmd_s1 {P b j w : Nat} (hP : P = 2 ∨ P = 3 ∨ P = 5) (hw : w % P = 1) (hj : j + 1 < P) : ((b + w) % P == j + 1) = (b % P == j) := by
  refine zb_iff ?_
  rw [beq_iff_eq, beq_iff_eq]
  rcases hP with rfl | rfl | rfl <;> omega
/-- all values of a functional are taken equally often -/
theorem zEE_0 {P N : Nat} {c x w : Nat → Nat} {xs : List (Nat → Nat)} (hP : P = 2 ∨ P = 3 ∨ P = 5) (hw : zB N c x w % P = 1) (hxs : ∀ y ∈ xs, zB N c y w % P = 0) : ∀ j, j < P → zEE P N c x xs j = zEE P N c x xs 0
  | 0, _ => rfl
  | j + 1, hj => by
    rw [← zEE_0 hP hw hxs j (by omega)]
    unfold zEE
    rw [← zVS_tr w N zEE_per]
    refine zVS_congr N (fun v => ?_)
    show zin ((zB N c x (fun i => v i + w i) % P == j + 1) && zo P N c xs (fun i => v i + w i)) = _
    rw [zo_tr xs hxs, zB_pl, zmd_s1 hP hw hj]
theorem zEE_sum {P N : Nat} {c x : Nat → Nat} {xs : List (Nat → Nat)} (hP0 : 0 < P) : zS (zEE P N c x xs) P = zCC P N c xs := by
  unfold zEE zCC
  rw [← zVS_S]
  refine zVS_congr N (fun v => ?_)
  rw [zS_congr (g := fun j => zin (zB N c x v % P == j) * zin (zo P N c xs v)) P (fun j _ => zin_and _ _), zS_mulr, zS_one (Nat.mod_lt _ hP0), Nat.one_mul]
theorem zCC_cons {P N : Nat} {c x w : Nat → Nat} {xs : List (Nat → Nat)} (hP : P = 2 ∨ P = 3 ∨ P = 5) (hw : zB N c x w % P = 1) (hxs : ∀ y ∈ xs, zB N c y w % P = 0) : zCC P N c xs = P * zCC P N c (x :: xs) := by
  rw [← zEE_sum (x := x) (by omega), zS_congr (g := fun _ => zCC P N c (x :: xs)) P (fun j hj => zEE_0 hP hw hxs j hj), zS_const]
theorem zCC_nil (P N : Nat) (c : Nat → Nat) : zCC P N c [] = P ^ N := by
  show zVS P N (fun _ => 1) = _
  rw [zVS_const, Nat.one_mul]
def zs1_c (P q b : Nat) : Bool := b == 0 || zS (fun a => zin ((q + a * b) % P == 0)) P == 1
theorem zs1_9 (P : Nat) (h : P = 2 ∨ P = 3 ∨ P = 5) : zA (fun q => zA (zs1_c P q) P) P = true := by
  rcases h with rfl | rfl | rfl <;> decide +kernel
theorem zs1 {P q b : Nat} (h : P = 2 ∨ P = 3 ∨ P = 5) (hb : b % P ≠ 0) : zS (fun a => zin ((q + a * b) % P == 0)) P = 1 := by
  have hP0 : 0 < P := by omega
  have h1 := zA_iff.mp (zA_iff.mp (zs1_9 P h) (q % P) (Nat.mod_lt _ hP0)) (b % P) (Nat.mod_lt _ hP0)
  unfold zs1_c at h1
  rw [zb_ne0 hb, Bool.false_or, beq_iff_eq] at h1
  rw [← h1]
  refine zS_congr P (fun a _ => ?_)
  rw [zmd_add (Nat.mod_mod q P).symm (zmd_mul (b' := b % P) (rfl : a % P = a % P) (Nat.mod_mod b P).symm)]
/-- isotropic ones among them -/
theorem zAA_cons {P N : Nat} {c x : Nat → Nat} {xs : List (Nat → Nat)} (hP : P = 2 ∨ P = 3 ∨ P = 5) (hx : zv_sum N c x % P = 0) (hxs : ∀ y ∈ xs, zB N c y x % P = 0) : P * zAA P N c xs + zCC P N c (x :: xs) = P * zAA P N c (x :: xs) + zCC P N c xs := by
  have hxx : zB N c x x % P = 0 := by rw [zB_self, Nat.mul_mod, hx, Nat.mul_zero, Nat.zero_mod]
  have hA : zAA P N c xs = zAA P N c (x :: xs) + zVS P N (fun v => zin (((zv_sum N c v % P == 0) && zo P N c xs v) && !(zB N c x v % P == 0))) := by
    unfold zAA
    rw [← zVS_add]
    refine zVS_congr N (fun v => ?_)
    rw [zin_split _ (zB N c x v % P == 0)]
    congr 2
    show _ = ((zv_sum N c v % P == 0) && ((zB N c x v % P == 0) && zo P N c xs v))
    cases (zv_sum N c v % P == 0) <;> cases (zB N c x v % P == 0) <;> cases zo P N c xs v <;> rfl
  have hC : zCC P N c xs = zCC P N c (x :: xs) + zVS P N (fun v => zin (zo P N c xs v && !(zB N c x v % P == 0))) := by
    unfold zCC
    rw [← zVS_add]
    refine zVS_congr N (fun v => ?_)
    rw [zin_split _ (zB N c x v % P == 0)]
    congr 2
    show _ = ((zB N c x v % P == 0) && zo P N c xs v)
    cases (zB N c x v % P == 0) <;> cases zo P N c xs v <;> rfl
  have hD : zVS P N (fun v => zin (zo P N c xs v && !(zB N c x v % P == 0))) = P * zVS P N (fun v => zin (((zv_sum N c v % P == 0) && zo P N c xs v) && !(zB N c x v % P == 0))) := by
    have e1 : ∀ v, zin (zo P N c xs v && !(zB N c x v % P == 0)) = zS (fun a => zin (((zv_sum N c (fun i => v i + a * x i) % P == 0) && zo P N c xs (fun i => v i + a * x i)) && !(zB N c x (fun i => v i + a * x i) % P == 0))) P := by
      intro v
      have e2 : ∀ a, zin (((zv_sum N c (fun i => v i + a * x i) % P == 0) && zo P N c xs (fun i => v i + a * x i)) && !(zB N c x (fun i => v i + a * x i) % P == 0)) = zin ((zv_sum N c v + a * zB N c x v) % P == 0) * zin (zo P N c xs v && !(zB N c x v % P == 0)) := by
        intro a
        rw [show zo P N c xs (fun i => v i + a * x i) = zo P N c xs v from zo_tr (w := fun i => a * x i) xs (fun y hy => by rw [zB_mul_r, Nat.mul_mod, hxs y hy, Nat.mul_zero, Nat.zero_mod]), zB_axr, zmd_z a hxx, zv_sum_ax, zB_comm N c v x]
        rw [show (zv_sum N c v + a * a * zv_sum N c x + a * zB N c x v) % P = (zv_sum N c v + a * zB N c x v) % P from by
          rw [show zv_sum N c v + a * a * zv_sum N c x + a * zB N c x v = (zv_sum N c v + a * zB N c x v) + a * a * zv_sum N c x by omega, zmd_z (a * a) hx]]
        rw [Bool.and_assoc, zin_and]
      rw [zS_congr P (fun a _ => e2 a), zS_mulr]
      by_cases q : zB N c x v % P = 0
      · rw [zb_eq0 q, Bool.not_true, Bool.and_false]; show 0 = _ * 0; rw [Nat.mul_zero]
      · rw [zs1 hP q, Nat.one_mul]
    rw [zVS_congr N e1, zVS_S, zS_congr (g := fun _ => zVS P N (fun v => zin (((zv_sum N c v % P == 0) && zo P N c xs v) && !(zB N c x v % P == 0)))) P (fun a _ => ?_), zS_const]
    exact zVS_tr (fun i => a * x i) N (f := fun v => zin (((zv_sum N c v % P == 0) && zo P N c xs v) && !(zB N c x v % P == 0))) (fun v w h => by
      show zin _ = zin _
      rw [zo_md h xs, zB_md (x' := x) (fun _ _ => rfl) h, zv_sum_md h])
  rw [hA, hC, hD, Nat.mul_add]
  omega
