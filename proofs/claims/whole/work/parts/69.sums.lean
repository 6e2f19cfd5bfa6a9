/-! sums; the value as the class computes it -/
theorem zS_add (f g : Nat → Nat) : ∀ n, zS (fun i => f i + g i) n = zS f n + zS g n
  | 0 => rfl
  | n + 1 => by
    show zS (fun i => f i + g i) n + (f n + g n) = zS f n + f n + (zS g n + g n)
    rw [zS_add f g n]; omega
theorem zS_mulr (f : Nat → Nat) (k : Nat) : ∀ n, zS (fun i => f i * k) n = zS f n * k
  | 0 => (Nat.zero_mul k).symm
  | n + 1 => by
    show zS (fun i => f i * k) n + f n * k = (zS f n + f n) * k
    rw [zS_mulr f k n, Nat.add_mul]
theorem zS_mull (f : Nat → Nat) (k : Nat) : ∀ n, zS (fun i => k * f i) n = k * zS f n
  | 0 => rfl
  | n + 1 => by
    show zS (fun i => k * f i) n + k * f n = k * (zS f n + f n)
    rw [zS_mull f k n, Nat.mul_add]
theorem zS_zero : ∀ n, zS (fun _ => 0) n = 0
  | 0 => rfl
  | n + 1 => by show zS (fun _ => 0) n + 0 = 0; rw [zS_zero n]
theorem zS_swap (f : Nat → Nat → Nat) (m : Nat) : ∀ n, zS (fun i => zS (f i) m) n = zS (fun j => zS (fun i => f i j) n) m
  | 0 => by
    show 0 = zS (fun _ => 0) m
    rw [zS_zero]
  | n + 1 => by
    show zS (fun i => zS (f i) m) n + zS (f n) m = zS (fun j => zS (fun i => f i j) n + f n j) m
    rw [zS_swap f m n, ← zS_add]
/-- a form's normal at a vector, not reduced -/
def zz_nr (N : Nat) (c x : Nat → Nat) (i : Nat) : Nat := c (zq_pl i i) * x i + zS (fun j => c (zq_pl i j) * x j) N
def zz_nm (P N : Nat) (c x : Nat → Nat) (i : Nat) : Nat := zz_nr N c x i % P
def zz_tw (N : Nat) (c x : Nat → Nat) : Nat := zS (fun i => zz_nr N c x i * x i) N
theorem zz_tri (M : Nat → Nat → Nat) (hM : ∀ i j, M i j = M j i) : ∀ n, zS (fun i => zS (fun j => M i j) n) n + zS (fun i => M i i) n = 2 * zS (fun i => zS (fun t => M i (i + t)) (n - i)) n
  | 0 => rfl
  | n + 1 => by
    have ih := zz_tri M hM n
    have e1 : zS (fun i => zS (fun j => M i j) (n + 1)) (n + 1) = zS (fun i => zS (fun j => M i j) n) n + zS (fun i => M i n) n + (zS (fun j => M n j) n + M n n) := by
      show zS (fun i => zS (fun j => M i j) n + M i n) n + (zS (fun j => M n j) n + M n n) = _
      rw [zS_add]
    have e2 : zS (fun i => zS (fun t => M i (i + t)) (n + 1 - i)) (n + 1) = zS (fun i => zS (fun t => M i (i + t)) (n - i)) n + zS (fun i => M i n) n + M n n := by
      show zS (fun i => zS (fun t => M i (i + t)) (n + 1 - i)) n + zS (fun t => M n (n + t)) (n + 1 - n) = _
      rw [show n + 1 - n = 0 + 1 by omega]
      show _ + (0 + M n (n + 0)) = _
      rw [Nat.zero_add, Nat.add_zero, ← zS_add]
      congr 1
      refine zS_congr n (fun i hi => ?_)
      rw [show n + 1 - i = (n - i) + 1 by omega]
      show _ + M i (i + (n - i)) = _
      rw [show i + (n - i) = n by omega]
    have e3 : zS (fun j => M n j) n = zS (fun i => M i n) n := zS_congr n (fun i _ => hM n i)
    have e4 : zS (fun i => M i i) (n + 1) = zS (fun i => M i i) n + M n n := rfl
    rw [e1, e2, e3, e4]
    omega
theorem zz_tw2 (N : Nat) (c x : Nat → Nat) : zz_tw N c x = 2 * zv_sum N c x := by
  have h := zz_tri (fun i j => c (zq_pl i j) * x i * x j) (fun i j => by show c (zq_pl i j) * x i * x j = c (zq_pl j i) * x j * x i; rw [zq_pl_c i j, Nat.mul_assoc, Nat.mul_assoc, Nat.mul_comm (x i)]) N
  have e : zv_sum N c x = zS (fun i => zS (fun t => c (zq_pl i (i + t)) * x i * x (i + t)) (N - i)) N := by
    unfold zv_sum zv_row
    refine zS_congr N (fun i _ => zS_congr _ (fun t _ => ?_))
    rw [zq_pl_le (Nat.le_add_right i t)]
  rw [e, ← h]
  unfold zz_tw zz_nr
  rw [← zS_add]
  refine zS_congr N (fun i _ => ?_)
  rw [Nat.add_mul, ← zS_mulr, Nat.add_comm]
  congr 1
  refine zS_congr N (fun j _ => ?_)
  rw [Nat.mul_assoc, Nat.mul_assoc, Nat.mul_comm (x j)]
theorem zz_val (P N : Nat) (c x : Nat → Nat) : zz_tw N c x / 2 % P = zv_val P N c x := by
  rw [zz_tw2, Nat.mul_div_right _ (by decide)]; rfl
theorem zz_nr_le {N : Nat} {c x : Nat → Nat} (hN : N ≤ 6) (hc : ∀ k, k < 36 → c k ≤ 4) (hx : ∀ i, i < N → x i ≤ 4) {i : Nat} (hi : i < N) : zz_nr N c x i ≤ 112 := by
  have h1 : c (zq_pl i i) * x i ≤ 4 * 4 := Nat.mul_le_mul (hc _ (zx_36 (by omega) (by omega))) (hx i hi)
  have h2 : zS (fun j => c (zq_pl i j) * x j) N ≤ N * 16 := zS_le N (fun j hj => Nat.mul_le_mul (hc _ (zx_36 (by omega) (by omega))) (hx j hj))
  unfold zz_nr; omega
theorem zz_nm_lt {P N : Nat} {c x : Nat → Nat} (h : 0 < P) (i : Nat) : zz_nm P N c x i < P := Nat.mod_lt _ h
/-- the class's points -/
def zQ_P (g : Nat → Int32) (a : Nat → Nat → Int32) (P N : Nat) : Prop := zv_ok P N ∧ g 15 = nI P ∧ g 16 = nI N ∧ g 17 = nI (zv_np P N) ∧ ∀ p i, p < zv_np P N → i < N → a 15 (p * 6 + i) = nI (zv_y P N p i)
theorem zv_y4 {P N p i : Nat} (h : zv_ok P N) : zv_y P N p i ≤ 4 := by
  have h1 := zv_P5 h.1
  have := zv_y_lt (P := P) (N := N) (p := p) (i := i) h1.1
  omega
/-- counting among those that are chosen, by their order -/
theorem zC_of (o h : Nat → Bool) (n : Nat) : ∀ m, m ≤ n → zC (fun r => h (zX o n r)) (zC o m) = zC (fun k => o k && h k) m
  | 0, _ => rfl
  | m + 1, hm => by
    have ih := zC_of o h n m (by omega)
    show zC _ (zC o m + (o m).toNat) = zC (fun k => o k && h k) m + (o m && h m).toNat
    cases e : o m
    · show zC _ (zC o m) = _ + 0
      rw [ih]; rfl
    · show zC _ (zC o m) + (h (zX o n (zC o m))).toNat = _
      rw [ih, zX_at e (by omega)]; rfl
