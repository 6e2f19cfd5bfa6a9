/-! cells that change (pure) -/
theorem zu_pl {e : Nat → Nat} {v i j k l : Nat} (hi : i < 6) (hj : j < 6) (hk : k < 6) (hl : l < 6) : zu_c e (zq_pl i j) v (zq_pl k l) = if (k = i ∧ l = j) ∨ (k = j ∧ l = i) then v else e (zq_pl k l) := by
  unfold zu_c
  by_cases q : (k = i ∧ l = j) ∨ (k = j ∧ l = i)
  · rw [if_pos q, if_pos (by rcases q with ⟨rfl, rfl⟩ | ⟨rfl, rfl⟩; rfl; exact zq_pl_c _ _)]
  · rw [if_neg q, if_neg (fun z => q (zq_pl_inj hk hl hi hj z))]
def zx_sg (i j k : Nat) : Nat := if k = i then j else if k = j then i else k
/-- two variables are exchanged, for the others up to n -/
def zx_ex (S : Nat → Nat → Nat) (i j n k l : Nat) : Nat := if ((k = i ∨ k = j) ∧ l ≠ i ∧ l ≠ j ∧ l < n) ∨ ((l = i ∨ l = j) ∧ k ≠ i ∧ k ≠ j ∧ k < n) then S (zx_sg i j k) (zx_sg i j l) else S k l
def zx_up (S : Nat → Nat → Nat) (i j v k l : Nat) : Nat := if (k = i ∧ l = j) ∨ (k = j ∧ l = i) then v else S k l
theorem zx_ex_s {S : Nat → Nat → Nat} (hS : ∀ k l, S k l = S l k) {i j n : Nat} (hij : i ≠ j) (h1 : n ≠ i) (h2 : n ≠ j) (k l : Nat) : zx_up (zx_up (zx_ex S i j n) i n (zx_ex S i j n j n)) j n (zx_ex S i j n i n) k l = zx_ex S i j (n + 1) k l := by
  unfold zx_up zx_ex zx_sg
  grind
theorem zx_ex_n {S : Nat → Nat → Nat} {i j n : Nat} (h : n = i ∨ n = j) (k l : Nat) : zx_ex S i j (n + 1) k l = zx_ex S i j n k l := by
  unfold zx_ex
  grind
theorem zx_ex_e {S : Nat → Nat → Nat} (hS : ∀ k l, S k l = S l k) {i j n : Nat} (hij : i ≠ j) {k l : Nat} (hk : k < n) (hl : l < n) : zx_up (zx_up (zx_ex S i j n) i i (zx_ex S i j n j j)) j j (zx_ex S i j n i i) k l = S (zx_sg i j k) (zx_sg i j l) := by
  unfold zx_up zx_ex zx_sg
  grind
