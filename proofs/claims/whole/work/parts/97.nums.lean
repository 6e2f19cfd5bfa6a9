/-! how many members: the nine spaces -/
theorem zn23 : ∀ a, a < 9 → (a * a + (8 - a) * (8 - a) + 1 * 4 = 8 + 8 * 4 → a = 99) ∧ (a * a + (8 - a) * (8 - a) + 2 * 4 = 8 + 8 * 4 → a = 4) := by decide +kernel
theorem zn24 : ∀ a, a < 17 → (a * a + (16 - a) * (16 - a) + 1 * 8 = 16 + 16 * 8 → a = 10 ∨ a = 6) ∧ (a * a + (16 - a) * (16 - a) + 2 * 8 = 16 + 16 * 8 → a = 8) := by decide +kernel
theorem zn25 : ∀ a, a < 33 → (a * a + (32 - a) * (32 - a) + 1 * 16 = 32 + 32 * 16 → a = 99) ∧ (a * a + (32 - a) * (32 - a) + 2 * 16 = 32 + 32 * 16 → a = 16) := by decide +kernel
theorem zn26 : ∀ a, a < 65 → (a * a + (64 - a) * (64 - a) + 1 * 32 = 64 + 64 * 32 → a = 36 ∨ a = 28) ∧ (a * a + (64 - a) * (64 - a) + 2 * 32 = 64 + 64 * 32 → a = 32) := by decide +kernel
def zn3c (n m : Nat) (L : List Nat) (a b : Nat) : Bool := n < a + b || (a % 2 == 0 || (!(a * a + b * b + (n - a - b) * (n - a - b) + m == n + n * m) || L.contains a))
theorem zn33 : zA (fun a => zA (zn3c 27 9 [9] a) 28) 28 = true := by decide +kernel
theorem zn34 : zA (fun a => zA (zn3c 81 27 [33, 21] a) 82) 82 = true := by decide +kernel
theorem zn35 : zA (fun a => zA (zn3c 243 81 [81] a) 244) 244 = true := by decide +kernel
def zn5c (n m : Nat) (L : List Nat) (a b : Nat) : Bool := n < 2 * a + 2 * b || (!((n - 2 * a - 2 * b) * (n - 2 * a - 2 * b) + 2 * (a * a) + 2 * (b * b) + m == n + n * m) || L.contains (n - 2 * a - 2 * b))
theorem zn53 : zA (fun a => zA (zn5c 125 25 [25] a) 63) 63 = true := by decide +kernel
theorem zn54 : zA (fun a => zA (zn5c 625 125 [145, 105] a) 313) 313 = true := by decide +kernel
