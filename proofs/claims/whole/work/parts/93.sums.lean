/-! sums over all vectors -/
def zup (x : Nat → Nat) (n a : Nat) (i : Nat) : Nat := if i = n then a else x i
def zVS (P : Nat) : Nat → ((Nat → Nat) → Nat) → Nat
  | 0, f => f (fun _ => 0)
  | n + 1, f => zS (fun a => zVS P n (fun x => f (zup x n a))) P
/-- a function of vectors modulo P -/
def zper (P n : Nat) (f : (Nat → Nat) → Nat) : Prop := ∀ x y, (∀ i, i < n → x i % P = y i % P) → f x = f y
theorem zVS_congr {P : Nat} : ∀ n {f g : (Nat → Nat) → Nat}, (∀ x, f x = g x) → zVS P n f = zVS P n g
  | 0, _, _, h => h _
  | n + 1, _, _, h => zS_congr P (fun _ _ => zVS_congr n (fun x => h _))
theorem zVS_add {P : Nat} : ∀ n (f g : (Nat → Nat) → Nat), zVS P n (fun x => f x + g x) = zVS P n f + zVS P n g
  | 0, _, _ => rfl
  | n + 1, f, g => by
    show zS _ P = zS _ P + zS _ P
    rw [← zS_add]
    exact zS_congr P (fun _ _ => zVS_add n _ _)
theorem zVS_mul {P : Nat} (k : Nat) : ∀ n (f : (Nat → Nat) → Nat), zVS P n (fun x => k * f x) = k * zVS P n f
  | 0, _ => rfl
  | n + 1, f => by
    show zS _ P = k * zS _ P
    rw [← zS_mull]
    exact zS_congr P (fun _ _ => zVS_mul k n _)
theorem zVS_S {P m : Nat} : ∀ n (f : (Nat → Nat) → Nat → Nat), zVS P n (fun x => zS (f x) m) = zS (fun k => zVS P n (fun x => f x k)) m
  | 0, _ => rfl
  | n + 1, f => by
    show zS (fun a => zVS P n (fun x => zS (f (zup x n a)) m)) P = zS (fun k => zS (fun a => zVS P n (fun x => f (zup x n a) k)) P) m
    rw [zS_congr P (fun a _ => zVS_S n (fun x => f (zup x n a)))]
    exact zS_swap _ m P
theorem zVS_V {P m : Nat} : ∀ n (f : (Nat → Nat) → (Nat → Nat) → Nat), zVS P n (fun x => zVS P m (fun y => f x y)) = zVS P m (fun y => zVS P n (fun x => f x y))
  | 0, _ => rfl
  | n + 1, f => by
    show zS (fun a => zVS P n (fun x => zVS P m (fun y => f (zup x n a) y))) P = zVS P m (fun y => zS (fun a => zVS P n (fun x => f (zup x n a) y)) P)
    rw [zVS_S, zS_congr P (fun a _ => zVS_V n (fun x y => f (zup x n a) y))]
theorem zS_const (k : Nat) : ∀ n, zS (fun _ => k) n = n * k
  | 0 => (Nat.zero_mul k).symm
  | n + 1 => by show zS (fun _ => k) n + k = _; rw [zS_const k n, Nat.succ_mul]
theorem zVS_const {P : Nat} (k : Nat) : ∀ n, zVS P n (fun _ => k) = k * P ^ n
  | 0 => by show k = k * 1; omega
  | n + 1 => by
    show zS (fun _ => zVS P n (fun _ => k)) P = _
    rw [zVS_const k n, zS_const, Nat.pow_succ]
    grind
theorem zS_sh1 {H : Nat → Nat} : ∀ n, zS (fun a => H (a + 1)) n + H 0 = zS H n + H n
  | 0 => by show 0 + H 0 = 0 + H 0; rfl
  | n + 1 => by
    have := zS_sh1 (H := H) n
    show zS (fun a => H (a + 1)) n + H (n + 1) + H 0 = zS H n + H n + H (n + 1)
    omega
theorem zS_shift {P : Nat} {G : Nat → Nat} (hG : ∀ a, G (a + P) = G a) : ∀ s, zS (fun a => G (a + s)) P = zS G P
  | 0 => rfl
  | s + 1 => by
    have h := zS_sh1 (H := fun a => G (a + s)) P
    have e : G (P + s) = G (0 + s) := by rw [Nat.add_comm P s, hG, Nat.zero_add]
    have h2 : zS (fun a => G (a + 1 + s)) P + G (0 + s) = zS (fun a => G (a + s)) P + G (P + s) := h
    have h3 : zS (fun a => G (a + (s + 1))) P = zS (fun a => G (a + 1 + s)) P := zS_congr P (fun a _ => by rw [show a + (s + 1) = a + 1 + s by omega])
    rw [h3, ← zS_shift hG s]
    omega
/-- TRANSLATION -/
theorem zVS_tr {P : Nat} (w : Nat → Nat) : ∀ n {f : (Nat → Nat) → Nat}, zper P n f → zVS P n (fun x => f (fun i => x i + w i)) = zVS P n f
  | 0, f, h => h _ _ (fun i hi => absurd hi (Nat.not_lt_zero i))
  | n + 1, f, h => by
    have key : ∀ a, zVS P n (fun x => f (fun i => zup x n a i + w i)) = zVS P n (fun x => f (zup x n (a + w n))) := by
      intro a
      rw [← zVS_tr w n (f := fun x => f (zup x n (a + w n))) (fun x y hxy => h _ _ (fun i hi => by
        unfold zup
        by_cases e : i = n
        · rw [if_pos e, if_pos e]
        · rw [if_neg e, if_neg e]; exact hxy i (by omega)))]
      refine zVS_congr n (fun x => congrArg f ?_)
      funext i
      unfold zup
      by_cases e : i = n
      · rw [if_pos e, if_pos e, e]
      · rw [if_neg e, if_neg e]
    show zS (fun a => zVS P n (fun x => f (fun i => zup x n a i + w i))) P = zS (fun a => zVS P n (fun x => f (zup x n a))) P
    rw [zS_congr P (fun a _ => key a)]
    exact zS_shift (G := fun b => zVS P n (fun x => f (zup x n b))) (fun a => zVS_congr n (fun x => h _ _ (fun i hi => by
      unfold zup
      by_cases e : i = n
      · rw [if_pos e, if_pos e, Nat.add_mod_right]
      · rw [if_neg e, if_neg e]))) (w n)
theorem zS_sc {P s : Nat} (hP : P = 2 ∨ P = 3 ∨ P = 5) (hs : s % P ≠ 0) {G : Nat → Nat} (hG : ∀ a b, a % P = b % P → G a = G b) : zS (fun a => G (s * a)) P = zS G P := by
  have hr : ∀ a r, (s * a) % P = r % P → G (s * a) = G r := fun a r h => hG _ _ h
  rcases hP with rfl | rfl | rfl
  · show 0 + G (s * 0) + G (s * 1) = 0 + G 0 + G 1
    rw [hr 0 0 (by omega), hr 1 1 (by omega)]
  · show 0 + G (s * 0) + G (s * 1) + G (s * 2) = 0 + G 0 + G 1 + G 2
    rcases (show s % 3 = 1 ∨ s % 3 = 2 by omega) with e | e
    · rw [hr 0 0 (by omega), hr 1 1 (by omega), hr 2 2 (by omega)]
    · rw [hr 0 0 (by omega), hr 1 2 (by omega), hr 2 1 (by omega)]; omega
  · show 0 + G (s * 0) + G (s * 1) + G (s * 2) + G (s * 3) + G (s * 4) = 0 + G 0 + G 1 + G 2 + G 3 + G 4
    rcases (show s % 5 = 1 ∨ s % 5 = 2 ∨ s % 5 = 3 ∨ s % 5 = 4 by omega) with e | e | e | e
    · rw [hr 0 0 (by omega), hr 1 1 (by omega), hr 2 2 (by omega), hr 3 3 (by omega), hr 4 4 (by omega)]
    · rw [hr 0 0 (by omega), hr 1 2 (by omega), hr 2 4 (by omega), hr 3 1 (by omega), hr 4 3 (by omega)]; omega
    · rw [hr 0 0 (by omega), hr 1 3 (by omega), hr 2 1 (by omega), hr 3 4 (by omega), hr 4 2 (by omega)]; omega
    · rw [hr 0 0 (by omega), hr 1 4 (by omega), hr 2 3 (by omega), hr 3 2 (by omega), hr 4 1 (by omega)]; omega
/-- SCALING -/
theorem zVS_sc {P s : Nat} (hP : P = 2 ∨ P = 3 ∨ P = 5) (hs : s % P ≠ 0) : ∀ n {f : (Nat → Nat) → Nat}, zper P n f → zVS P n (fun x => f (fun i => s * x i)) = zVS P n f
  | 0, f, h => h _ _ (fun i hi => absurd hi (Nat.not_lt_zero i))
  | n + 1, f, h => by
    have key : ∀ a, zVS P n (fun x => f (fun i => s * zup x n a i)) = zVS P n (fun x => f (zup x n (s * a))) := by
      intro a
      rw [← zVS_sc hP hs n (f := fun x => f (zup x n (s * a))) (fun x y hxy => h _ _ (fun i hi => by
        unfold zup
        by_cases e : i = n
        · rw [if_pos e, if_pos e]
        · rw [if_neg e, if_neg e]; exact hxy i (by omega)))]
      refine zVS_congr n (fun x => congrArg f ?_)
      funext i
      unfold zup
      by_cases e : i = n
      · rw [if_pos e, if_pos e]
      · rw [if_neg e, if_neg e]
    show zS (fun a => zVS P n (fun x => f (fun i => s * zup x n a i))) P = zS (fun a => zVS P n (fun x => f (zup x n a))) P
    rw [zS_congr P (fun a _ => key a)]
    exact zS_sc hP hs (G := fun b => zVS P n (fun x => f (zup x n b))) (fun a b hab => zVS_congr n (fun x => h _ _ (fun i hi => by
      unfold zup
      by_cases e : i = n
      · rw [if_pos e, if_pos e, hab]
      · rw [if_neg e, if_neg e])))
/-- 1 or 0 -/
def zin (b : Bool) : Nat := b.toNat
theorem zin_and (a b : Bool) : zin (a && b) = zin a * zin b := by cases a <;> cases b <;> rfl
theorem zin_not (a : Bool) : zin a + zin (!a) = 1 := by cases a <;> rfl
theorem zin_split (a b : Bool) : zin a = zin (a && b) + zin (a && !b) := by cases a <;> cases b <;> rfl
