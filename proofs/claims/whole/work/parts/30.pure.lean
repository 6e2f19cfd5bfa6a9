/-! numbers, branches and loops of runs; the reference's world -/
theorem zn_add {x y : Int32} {a b : Nat} (hx : x = nI a) (hy : y = nI b) : x + y = nI (a + b) := by rw [hx, hy, nI_add]
theorem zn_mul {x y : Int32} {a b : Nat} (hx : x = nI a) (hy : y = nI b) : x * y = nI (a * b) := by rw [hx, hy, pk_mul]
theorem zn_sub {x y : Int32} {a b : Nat} (hx : x = nI a) (hy : y = nI b) (h : b ≤ a) : x - y = nI (a - b) := by rw [hx, hy, pk_sub h]
theorem zn_dec {x : Int32} {a : Nat} (hx : x = nI a) (h : 1 ≤ a) : x + (-1) = nI (a - 1) := by
  obtain ⟨b, rfl⟩ : ∃ b, a = b + 1 := ⟨a - 1, by omega⟩
  rw [hx, pk_m1]; rfl
theorem zn_div {x y : Int32} {a b : Nat} (hx : x = nI a) (hy : y = nI b) (ha : a < 2 ^ 31) (h0 : 0 < b) (hb : b < 2 ^ 31) : x / y = nI (a / b) := by rw [hx, hy, pk_div ha h0 hb]
theorem zn_rem {x y : Int32} {a b : Nat} (hx : x = nI a) (hy : y = nI b) (ha : a < 2 ^ 31) (h0 : 0 < b) (hb : b < 2 ^ 31) : x - x / y * y = nI (a % b) := by rw [hx, hy, pk_rem ha h0 hb]
theorem zn_ne0 {y : Int32} {b : Nat} (hy : y = nI b) (h0 : 0 < b) (hb : b < 2 ^ 31) : ¬ y = 0 := by rw [hy]; exact nI_ne0 h0 hb
section ZP
variable {get : Nat → Option zm_M} {d : Nat} {M : zm_M} {Q : Option Value → List zm_E → Prop} {s t f : zm_S} {x y : Int32}
theorem zr_ieq (a b : Nat) (hx : x = nI a) (hy : y = nI b) (ha : a < 2 ^ 31) (hb : b < 2 ^ 31) (h : zm_nx M s = some (.inr (.inl (x = y, t, f)))) (k1 : a = b → zm_Run get d M t Q) (k2 : a ≠ b → zm_Run get d M f Q) : zm_Run get d M s Q :=
  zr_if h (fun q => k1 ((nI_eq ha hb).mp (by rw [← hx, ← hy]; exact q))) (fun q => k2 (fun e => q (by rw [hx, hy, e])))
theorem zr_ine (a b : Nat) (hx : x = nI a) (hy : y = nI b) (ha : a < 2 ^ 31) (hb : b < 2 ^ 31) (h : zm_nx M s = some (.inr (.inl (x = y, f, t)))) (k1 : a ≠ b → zm_Run get d M t Q) (k2 : a = b → zm_Run get d M f Q) : zm_Run get d M s Q :=
  zr_if h (fun q => k2 ((nI_eq ha hb).mp (by rw [← hx, ← hy]; exact q))) (fun q => k1 (fun e => q (by rw [hx, hy, e])))
theorem zr_ilt (a b : Nat) (hx : x = nI a) (hy : y = nI b) (ha : a < 2 ^ 31) (hb : b < 2 ^ 31) (h : zm_nx M s = some (.inr (.inl (x < y, t, f)))) (k1 : a < b → zm_Run get d M t Q) (k2 : b ≤ a → zm_Run get d M f Q) : zm_Run get d M s Q :=
  zr_if h (fun q => k1 ((nI_ltI ha hb).mp (by rw [← hx, ← hy]; exact q))) (fun q => k2 (Nat.not_lt.mp fun e => q (by rw [hx, hy]; exact (nI_ltI ha hb).mpr e)))
theorem zr_ige (a b : Nat) (hx : x = nI a) (hy : y = nI b) (ha : a < 2 ^ 31) (hb : b < 2 ^ 31) (h : zm_nx M s = some (.inr (.inl (y ≤ x, t, f)))) (k1 : b ≤ a → zm_Run get d M t Q) (k2 : a < b → zm_Run get d M f Q) : zm_Run get d M s Q :=
  zr_if h (fun q => k1 ((nI_leI hb ha).mp (by rw [← hx, ← hy]; exact q))) (fun q => k2 (Nat.not_le.mp fun e => q (by rw [hx, hy]; exact (nI_leI hb ha).mpr e)))
theorem zr_igt (a b : Nat) (hx : x = nI a) (hy : y = nI b) (ha : a < 2 ^ 31) (hb : b < 2 ^ 31) (h : zm_nx M s = some (.inr (.inl (y < x, t, f)))) (k1 : b < a → zm_Run get d M t Q) (k2 : a ≤ b → zm_Run get d M f Q) : zm_Run get d M s Q :=
  zr_if h (fun q => k1 ((nI_ltI hb ha).mp (by rw [← hx, ← hy]; exact q))) (fun q => k2 (Nat.not_lt.mp fun e => q (by rw [hx, hy]; exact (nI_ltI hb ha).mpr e)))
theorem zr_ile (a b : Nat) (hx : x = nI a) (hy : y = nI b) (ha : a < 2 ^ 31) (hb : b < 2 ^ 31) (h : zm_nx M s = some (.inr (.inl (x ≤ y, t, f)))) (k1 : a ≤ b → zm_Run get d M t Q) (k2 : b < a → zm_Run get d M f Q) : zm_Run get d M s Q :=
  zr_if h (fun q => k1 ((nI_leI ha hb).mp (by rw [← hx, ← hy]; exact q))) (fun q => k2 (Nat.not_le.mp fun e => q (by rw [hx, hy]; exact (nI_leI ha hb).mpr e)))
/-- a loop: at each state of it that keeps I, one round comes to one with a lesser measure, or out -/
theorem zr_loop {α : Type} (St : α → zm_S) (I : α → Prop) (μ : α → Nat) (hs : ∀ x, I x → (∀ y, I y → μ y < μ x → zm_Run get d M (St y) Q) → zm_Run get d M (St x) Q) (x : α) (hx : I x) : zm_Run get d M (St x) Q := by
  have key : ∀ n x, μ x < n → I x → zm_Run get d M (St x) Q := by
    intro n
    induction n with
    | zero => intro x h; omega
    | succ n ih => intro x h hx; exact hs x hx (fun y hy hl => ih y (by omega) hy)
  exact key (μ x + 1) x (Nat.lt_succ_self _) hx
end ZP
def zS (f : Nat → Nat) : Nat → Nat
  | 0 => 0
  | n + 1 => zS f n + f n
theorem zS_le {f : Nat → Nat} {B : Nat} (n : Nat) (h : ∀ k, k < n → f k ≤ B) : zS f n ≤ n * B := by
  induction n with
  | zero => exact Nat.zero_le _
  | succ n ih =>
    have h1 := ih (fun k hk => h k (by omega))
    have h2 := h n (by omega)
    rw [Nat.succ_mul]
    show zS f n + f n ≤ _
    omega
theorem zS_congr {f g : Nat → Nat} (n : Nat) (h : ∀ k, k < n → f k = g k) : zS f n = zS g n := by
  induction n with
  | zero => rfl
  | succ n ih => show zS f n + f n = zS g n + g n; rw [ih (fun k hk => h k (by omega)), h n (by omega)]
/-- the reference: its object, its arrays -/
def zw_M (g : Nat → Int32) (gl : Nat → Int64) (a : Nat → Nat → Int32) (al : Nat → Nat → Int64) : List zm_E :=
  [.inr (7, [.int (g 0), .int (g 1), .ref 1, .int (g 3), .int (g 4), .ref 2, .int (g 6), .ref 3, .ref 4, .ref 5, .int (g 10), .int (g 11), .int (g 12), .ref 6, .int (g 14), .ref 7, .int (g 16), .int (g 17), .int (g 18), .int (g 19), .ref 8, .ref 9, .ref 10, .ref 11, .ref 12, .int (g 25), .ref 13, .ref 14, .ref 15, .ref 16, .ref 17, .int (g 31), .ref 18, .ref 19, .ref 20, .ref 21, .int (g 36), .int (g 37), .ref 22, .ref 23, .int (g 40), .int (g 41), .int (g 42), .int (g 43), .ref 24, .long (gl 45), .long (gl 46)]),
  .inl (0, 36, .inl (a 1)),
  .inl (0, 28, .inl (a 2)),
  .inl (0, 936, .inl (a 3)),
  .inl (0, 729, .inl (a 4)),
  .inl (2, 156, .inl (a 5)),
  .inl (0, 768, .inl (a 6)),
  .inl (0, 280, .inl (a 7)),
  .inl (0, 36, .inl (a 8)),
  .inl (0, 6, .inl (a 9)),
  .inl (0, 6, .inl (a 10)),
  .inl (0, 6, .inl (a 11)),
  .inl (0, 6, .inl (a 12)),
  .inl (0, 31, .inl (a 13)),
  .inl (0, 6, .inl (a 14)),
  .inl (0, 36, .inl (a 15)),
  .inl (0, 2, .inl (a 16)),
  .inl (0, 128, .inl (a 17)),
  .inl (1, 64, .inr (.inl (al 18))),
  .inl (0, 64, .inl (a 19)),
  .inl (0, 64, .inl (a 20)),
  .inl (1, 64, .inr (.inl (al 21))),
  .inl (0, 36, .inl (a 22)),
  .inl (0, 36, .inl (a 23)),
  .inl (0, 36, .inl (a 24))]
