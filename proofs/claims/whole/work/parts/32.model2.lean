/-! the reference: rows, values, polar values (written by wip/whole/gen_m2.py) -/
/-- the form as the reference holds it -/
def zc_F (g : Nat → Int32) (a : Nat → Nat → Int32) (P N : Nat) (c : Nat → Nat) : Prop := g 0 = nI P ∧ g 1 = nI N ∧ 0 < P ∧ P ≤ 5 ∧ N ≤ 6 ∧ (∀ k, k < 36 → a 1 k = nI (c k)) ∧ ∀ k, k < 36 → c k ≤ 4
/-- the points' rows -/
def zc_R (g : Nat → Int32) (a : Nat → Nat → Int32) (np : Nat) (y : Nat → Nat → Nat) : Prop := g 6 = nI np ∧ np ≤ 156 ∧ (∀ p i, p < np → i < 6 → a 3 (6 * p + i) = nI (y p i)) ∧ ∀ p i, p < np → i < 6 → y p i ≤ 4
/-- which points are on -/
def zc_O (a : Nat → Nat → Int32) (np : Nat) (o : Nat → Bool) : Prop := ∀ p, p < np → a 5 p = nI (o p).toNat
/-- all of the first n -/
def zA (f : Nat → Bool) : Nat → Bool
  | 0 => true
  | n + 1 => zA f n && f n
theorem zA_no {f : Nat → Bool} {k n : Nat} (h : zA f k = false) (hk : k ≤ n) : zA f n = false := by
  induction hk with
  | refl => exact h
  | step _ ih => show (zA f _ && f _) = false; rw [ih]; rfl
theorem zA_iff {f : Nat → Bool} {n : Nat} : zA f n = true ↔ ∀ k, k < n → f k = true := by
  induction n with
  | zero => exact ⟨fun _ k h => absurd h (Nat.not_lt_zero k), fun _ => rfl⟩
  | succ n ih =>
    show (zA f n && f n) = true ↔ _
    rw [Bool.and_eq_true, ih]
    exact ⟨fun h k hk => if e : k = n then e ▸ h.2 else h.1 k (by omega), fun h => ⟨fun k hk => h k (by omega), h n (by omega)⟩⟩
theorem zb_0 {b : Bool} (h : b.toNat = 0) : b = false := by cases b <;> simp_all
theorem zb_1 {b : Bool} (h : b.toNat ≠ 0) : b = true := by cases b <;> simp_all
theorem zb_le (b : Bool) : b.toNat ≤ 1 := by cases b <;> decide
theorem zb_ok (b : Bool) : nI b.toNat = 0 ∨ nI b.toNat = 1 := by cases b <;> simp [nI]
def zv_val (P N : Nat) (c x : Nat → Nat) : Nat := zv_sum N c x % P
/-- the first of six numbers that isn't 0 -/
def zv_ff (x : Nat → Nat) : Nat → Nat
  | 0 => 0
  | k + 1 => if x (5 - k) = 0 then zv_ff x k else x (5 - k)
def zv_plus (P : Nat) (x y : Nat → Nat) : Nat → Nat := fun i => (x i + y i) % P
def zv_pol (P N : Nat) (c x y : Nat → Nat) : Nat := (zv_val P N c (zv_plus P x y) + 2 * P - zv_val P N c x - zv_val P N c y) % P
theorem zv_modp : ∀ P, P < 6 → 0 < P → ∀ A, A < P → ∀ B, B < P → ∀ C, C < P → zv_mod (nI A - nI B - nI C) (nI P) = nI ((A + 2 * P - B - C) % P) := by decide +kernel
theorem zv_val_lt {P N : Nat} {c x : Nat → Nat} (h : 0 < P) : zv_val P N c x < P := Nat.mod_lt _ h
theorem zs_M_firstOf_9 (g : Nat → Int32) (gl : Nat → Int64) (a : Nat → Nat → Int32) (al : Nat → Nat → Int64) (x : Nat → Nat) (hx : ∀ i, i < 6 → a 9 i = nI (x i)) (hx4 : ∀ i, i < 6 → x i ≤ 4) : zm_Ev zt_get 1 118 [.ref 9] (zw_M g gl a al) (fun v w => v = some (.int (nI (zv_ff x 6))) ∧ w = (zw_M g gl a al)) := by
  refine zr_ev zt_M_firstOf rfl rfl ?_
  show zm_Run zt_get 0 zt_M_firstOf (0, [some (.ref 9), none], [], (zw_M g gl a al)) _
  refine zr_go (t := (2, [some (.ref 9), some (.int 0)], [], (zw_M g gl a al))) 2 rfl ?_
  refine zr_loop (fun q : Nat => (2, [some (.ref 9), some (.int (nI q))], [], (zw_M g gl a al))) (fun q => q ≤ 6 ∧ zv_ff x (6 - q) = zv_ff x 6) (fun q => 6 - q) ?_ 0 ⟨by omega, rfl⟩
  rintro i ⟨hi, hf⟩ ih
  try dsimp only at *
  refine zr_go (t := (5, [some (.ref 9), some (.int (nI i))], [.int 6, .int (nI i)], (zw_M g gl a al))) 2 rfl ?_
  refine zr_ige (x := nI i) (y := 6) i 6 rfl rfl (by omega) (by omega) (t := (20, [some (.ref 9), some (.int (nI i))], [], (zw_M g gl a al))) (f := (8, [some (.ref 9), some (.int (nI i))], [], (zw_M g gl a al))) rfl (fun h1 => ?_) (fun h1 => ?_)
  · skip
    refine zr_go (t := (23, [some (.ref 9), some (.int (nI i))], [.int 6, .int (nI i)], (zw_M g gl a al))) 2 rfl ?_
    refine zr_ige (x := nI i) (y := 6) i 6 rfl rfl (by omega) (by omega) (t := (32, [some (.ref 9), some (.int (nI i))], [], (zw_M g gl a al))) (f := (26, [some (.ref 9), some (.int (nI i))], [], (zw_M g gl a al))) rfl (fun h2 => ?_) (fun h2 => ?_)
    · skip
      refine zr_go (t := (33, [some (.ref 9), some (.int (nI i))], [.int 0], (zw_M g gl a al))) 1 rfl ?_
      exact zr_ret rfl trivial ⟨by rw [← hf, show 6 - i = 0 by omega]; rfl, rfl⟩
    · skip
      exfalso; omega
  · skip
    refine zr_go (t := (10, [some (.ref 9), some (.int (nI i))], [.int (nI i), .ref 9], (zw_M g gl a al))) 2 rfl ?_
    refine zr_cd (t := (11, [some (.ref 9), some (.int (nI i))], [.int ((a 9) (nI i).toNatClampNeg)], (zw_M g gl a al))) rfl (pk_in i 6 (by omega) rfl (by omega)) ?_
    rw [pk_cl (x := nI i) i rfl (by omega)]
    rw [show (a 9) i = nI (x i) from hx i (by omega)]
    have hxi := hx4 i (by omega)
    refine zr_ine (x := nI (x i)) (y := 0) (x i) 0 rfl rfl (by omega) (by omega) (t := (20, [some (.ref 9), some (.int (nI i))], [], (zw_M g gl a al))) (f := (14, [some (.ref 9), some (.int (nI i))], [], (zw_M g gl a al))) rfl (fun h2 => ?_) (fun h2 => ?_)
    · skip
      refine zr_go (t := (23, [some (.ref 9), some (.int (nI i))], [.int 6, .int (nI i)], (zw_M g gl a al))) 2 rfl ?_
      refine zr_ige (x := nI i) (y := 6) i 6 rfl rfl (by omega) (by omega) (t := (32, [some (.ref 9), some (.int (nI i))], [], (zw_M g gl a al))) (f := (26, [some (.ref 9), some (.int (nI i))], [], (zw_M g gl a al))) rfl (fun h3 => ?_) (fun h3 => ?_)
      · skip
        exfalso; omega
      · skip
        refine zr_go (t := (28, [some (.ref 9), some (.int (nI i))], [.int (nI i), .ref 9], (zw_M g gl a al))) 2 rfl ?_
        refine zr_cd (t := (29, [some (.ref 9), some (.int (nI i))], [.int ((a 9) (nI i).toNatClampNeg)], (zw_M g gl a al))) rfl (pk_in i 6 (by omega) rfl (by omega)) ?_
        rw [pk_cl (x := nI i) i rfl (by omega)]
        rw [show (a 9) i = nI (x i) from hx i (by omega)]
        refine zr_go (t := (33, [some (.ref 9), some (.int (nI i))], [.int (nI (x i))], (zw_M g gl a al))) 1 rfl ?_
        exact zr_ret rfl trivial ⟨by rw [← hf, show 6 - i = (5 - i) + 1 by omega]; show _ = some (Value.int (nI (if x (5 - (5 - i)) = 0 then _ else x (5 - (5 - i))))); rw [show 5 - (5 - i) = i by omega, if_neg h2], rfl⟩
    · skip
      refine zr_go (t := (2, [some (.ref 9), some (.int ((nI i) + 1))], [], (zw_M g gl a al))) 2 rfl ?_
      rw [show (nI i) + 1 = nI (i + 1) from (zn_add rfl rfl)]
      exact ih (i + 1) ⟨by omega, by rw [← hf, show 6 - i = (5 - i) + 1 by omega]; show _ = (if x (5 - (5 - i)) = 0 then _ else _); rw [show 5 - (5 - i) = i by omega, if_pos h2, show 6 - (i + 1) = 5 - i by omega]⟩ (by omega)
theorem zs_M_firstOf_12 (g : Nat → Int32) (gl : Nat → Int64) (a : Nat → Nat → Int32) (al : Nat → Nat → Int64) (x : Nat → Nat) (hx : ∀ i, i < 6 → a 12 i = nI (x i)) (hx4 : ∀ i, i < 6 → x i ≤ 4) : zm_Ev zt_get 1 118 [.ref 12] (zw_M g gl a al) (fun v w => v = some (.int (nI (zv_ff x 6))) ∧ w = (zw_M g gl a al)) := by
  refine zr_ev zt_M_firstOf rfl rfl ?_
  show zm_Run zt_get 0 zt_M_firstOf (0, [some (.ref 12), none], [], (zw_M g gl a al)) _
  refine zr_go (t := (2, [some (.ref 12), some (.int 0)], [], (zw_M g gl a al))) 2 rfl ?_
  refine zr_loop (fun q : Nat => (2, [some (.ref 12), some (.int (nI q))], [], (zw_M g gl a al))) (fun q => q ≤ 6 ∧ zv_ff x (6 - q) = zv_ff x 6) (fun q => 6 - q) ?_ 0 ⟨by omega, rfl⟩
  rintro i ⟨hi, hf⟩ ih
  try dsimp only at *
  refine zr_go (t := (5, [some (.ref 12), some (.int (nI i))], [.int 6, .int (nI i)], (zw_M g gl a al))) 2 rfl ?_
  refine zr_ige (x := nI i) (y := 6) i 6 rfl rfl (by omega) (by omega) (t := (20, [some (.ref 12), some (.int (nI i))], [], (zw_M g gl a al))) (f := (8, [some (.ref 12), some (.int (nI i))], [], (zw_M g gl a al))) rfl (fun h1 => ?_) (fun h1 => ?_)
  · skip
    refine zr_go (t := (23, [some (.ref 12), some (.int (nI i))], [.int 6, .int (nI i)], (zw_M g gl a al))) 2 rfl ?_
    refine zr_ige (x := nI i) (y := 6) i 6 rfl rfl (by omega) (by omega) (t := (32, [some (.ref 12), some (.int (nI i))], [], (zw_M g gl a al))) (f := (26, [some (.ref 12), some (.int (nI i))], [], (zw_M g gl a al))) rfl (fun h2 => ?_) (fun h2 => ?_)
    · skip
      refine zr_go (t := (33, [some (.ref 12), some (.int (nI i))], [.int 0], (zw_M g gl a al))) 1 rfl ?_
      exact zr_ret rfl trivial ⟨by rw [← hf, show 6 - i = 0 by omega]; rfl, rfl⟩
    · skip
      exfalso; omega
  · skip
    refine zr_go (t := (10, [some (.ref 12), some (.int (nI i))], [.int (nI i), .ref 12], (zw_M g gl a al))) 2 rfl ?_
    refine zr_cd (t := (11, [some (.ref 12), some (.int (nI i))], [.int ((a 12) (nI i).toNatClampNeg)], (zw_M g gl a al))) rfl (pk_in i 6 (by omega) rfl (by omega)) ?_
    rw [pk_cl (x := nI i) i rfl (by omega)]
    rw [show (a 12) i = nI (x i) from hx i (by omega)]
    have hxi := hx4 i (by omega)
    refine zr_ine (x := nI (x i)) (y := 0) (x i) 0 rfl rfl (by omega) (by omega) (t := (20, [some (.ref 12), some (.int (nI i))], [], (zw_M g gl a al))) (f := (14, [some (.ref 12), some (.int (nI i))], [], (zw_M g gl a al))) rfl (fun h2 => ?_) (fun h2 => ?_)
    · skip
      refine zr_go (t := (23, [some (.ref 12), some (.int (nI i))], [.int 6, .int (nI i)], (zw_M g gl a al))) 2 rfl ?_
      refine zr_ige (x := nI i) (y := 6) i 6 rfl rfl (by omega) (by omega) (t := (32, [some (.ref 12), some (.int (nI i))], [], (zw_M g gl a al))) (f := (26, [some (.ref 12), some (.int (nI i))], [], (zw_M g gl a al))) rfl (fun h3 => ?_) (fun h3 => ?_)
      · skip
        exfalso; omega
      · skip
        refine zr_go (t := (28, [some (.ref 12), some (.int (nI i))], [.int (nI i), .ref 12], (zw_M g gl a al))) 2 rfl ?_
        refine zr_cd (t := (29, [some (.ref 12), some (.int (nI i))], [.int ((a 12) (nI i).toNatClampNeg)], (zw_M g gl a al))) rfl (pk_in i 6 (by omega) rfl (by omega)) ?_
        rw [pk_cl (x := nI i) i rfl (by omega)]
        rw [show (a 12) i = nI (x i) from hx i (by omega)]
        refine zr_go (t := (33, [some (.ref 12), some (.int (nI i))], [.int (nI (x i))], (zw_M g gl a al))) 1 rfl ?_
        exact zr_ret rfl trivial ⟨by rw [← hf, show 6 - i = (5 - i) + 1 by omega]; show _ = some (Value.int (nI (if x (5 - (5 - i)) = 0 then _ else x (5 - (5 - i))))); rw [show 5 - (5 - i) = i by omega, if_neg h2], rfl⟩
    · skip
      refine zr_go (t := (2, [some (.ref 12), some (.int ((nI i) + 1))], [], (zw_M g gl a al))) 2 rfl ?_
      rw [show (nI i) + 1 = nI (i + 1) from (zn_add rfl rfl)]
      exact ih (i + 1) ⟨by omega, by rw [← hf, show 6 - i = (5 - i) + 1 by omega]; show _ = (if x (5 - (5 - i)) = 0 then _ else _); rw [show 5 - (5 - i) = i by omega, if_pos h2, show 6 - (i + 1) = 5 - i by omega]⟩ (by omega)
theorem zs_M_take_9 (g : Nat → Int32) (gl : Nat → Int64) (a : Nat → Nat → Int32) (al : Nat → Nat → Int64) (p : Nat) (hp : p < 156) : zm_Ev zt_get 1 124 [.ref 0, .int (nI p), .ref 9] (zw_M g gl a al) (fun v w => v = none ∧ ∃ f, w = (zw_M g gl (va_up a 9 f) al) ∧ ∀ i, i < 6 → f i = a 3 (6 * p + i)) := by
  refine zr_ev zt_M_take rfl rfl ?_
  show zm_Run zt_get 0 zt_M_take (0, [some (.ref 0), some (.int (nI p)), some (.ref 9), none], [], (zw_M g gl a al)) _
  refine zr_go (t := (2, [some (.ref 0), some (.int (nI p)), some (.ref 9), some (.int 0)], [], (zw_M g gl a al))) 2 rfl ?_
  refine zr_loop (fun q : Nat × (Nat → Int32) => (2, [some (.ref 0), some (.int (nI p)), some (.ref 9), some (.int (nI q.1))], [], (zw_M g gl (va_up a 9 q.2) al))) (fun q => q.1 ≤ 6 ∧ ∀ k, k < q.1 → q.2 k = a 3 (6 * p + k)) (fun q => 6 - q.1) ?_ (0, a 9) ⟨by omega, fun k h => absurd h (Nat.not_lt_zero k)⟩
  rintro ⟨i, f⟩ ⟨hi, hf⟩ ih
  try dsimp only at *
  refine zr_go (t := (5, [some (.ref 0), some (.int (nI p)), some (.ref 9), some (.int (nI i))], [.int 6, .int (nI i)], (zw_M g gl (va_up a 9 f) al))) 2 rfl ?_
  refine zr_ige (x := nI i) (y := 6) i 6 rfl rfl (by omega) (by omega) (t := (28, [some (.ref 0), some (.int (nI p)), some (.ref 9), some (.int (nI i))], [], (zw_M g gl (va_up a 9 f) al))) (f := (8, [some (.ref 0), some (.int (nI p)), some (.ref 9), some (.int (nI i))], [], (zw_M g gl (va_up a 9 f) al))) rfl (fun h1 => ?_) (fun h1 => ?_)
  · skip
    exact zr_ret rfl trivial ⟨rfl, f, rfl, fun i hi => hf i (by omega)⟩
  · skip
    refine zr_go (t := (20, [some (.ref 0), some (.int (nI p)), some (.ref 9), some (.int (nI i))], [.int ((6 * (nI p)) + (nI i)), .ref 3, .int (nI i), .ref 9], (zw_M g gl (va_up a 9 f) al))) 9 rfl ?_
    refine zr_cd (t := (21, [some (.ref 0), some (.int (nI p)), some (.ref 9), some (.int (nI i))], [.int ((a 3) ((6 * (nI p)) + (nI i)).toNatClampNeg), .int (nI i), .ref 9], (zw_M g gl (va_up a 9 f) al))) rfl (pk_in ((6 * p) + i) 936 (by omega) (zn_add (zn_mul rfl rfl) rfl) (by omega)) ?_
    rw [pk_cl (x := (6 * (nI p)) + (nI i)) ((6 * p) + i) (zn_add (zn_mul rfl rfl) rfl) (by omega)]
    refine zr_cd (t := (22, [some (.ref 0), some (.int (nI p)), some (.ref 9), some (.int (nI i))], [], (zw_M g gl (va_up a 9 (upd f ((nI i).toNatClampNeg) ((a 3) ((6 * p) + i)))) al))) rfl (pk_in i 6 (by omega) rfl (by omega)) ?_
    rw [pk_cl (x := nI i) i rfl (by omega)]
    refine zr_go (t := (2, [some (.ref 0), some (.int (nI p)), some (.ref 9), some (.int ((nI i) + 1))], [], (zw_M g gl (va_up a 9 (upd f i ((a 3) ((6 * p) + i)))) al))) 2 rfl ?_
    rw [show (nI i) + 1 = nI (i + 1) from (zn_add rfl rfl)]
    exact ih (i + 1, (upd f i ((a 3) ((6 * p) + i)))) ⟨by omega, lt_s (fun k hk => (pk_un (Nat.ne_of_lt hk)).trans (hf k hk)) pk_us⟩ (by omega)
theorem zs_M_take_10 (g : Nat → Int32) (gl : Nat → Int64) (a : Nat → Nat → Int32) (al : Nat → Nat → Int64) (p : Nat) (hp : p < 156) : zm_Ev zt_get 1 124 [.ref 0, .int (nI p), .ref 10] (zw_M g gl a al) (fun v w => v = none ∧ ∃ f, w = (zw_M g gl (va_up a 10 f) al) ∧ ∀ i, i < 6 → f i = a 3 (6 * p + i)) := by
  refine zr_ev zt_M_take rfl rfl ?_
  show zm_Run zt_get 0 zt_M_take (0, [some (.ref 0), some (.int (nI p)), some (.ref 10), none], [], (zw_M g gl a al)) _
  refine zr_go (t := (2, [some (.ref 0), some (.int (nI p)), some (.ref 10), some (.int 0)], [], (zw_M g gl a al))) 2 rfl ?_
  refine zr_loop (fun q : Nat × (Nat → Int32) => (2, [some (.ref 0), some (.int (nI p)), some (.ref 10), some (.int (nI q.1))], [], (zw_M g gl (va_up a 10 q.2) al))) (fun q => q.1 ≤ 6 ∧ ∀ k, k < q.1 → q.2 k = a 3 (6 * p + k)) (fun q => 6 - q.1) ?_ (0, a 10) ⟨by omega, fun k h => absurd h (Nat.not_lt_zero k)⟩
  rintro ⟨i, f⟩ ⟨hi, hf⟩ ih
  try dsimp only at *
  refine zr_go (t := (5, [some (.ref 0), some (.int (nI p)), some (.ref 10), some (.int (nI i))], [.int 6, .int (nI i)], (zw_M g gl (va_up a 10 f) al))) 2 rfl ?_
  refine zr_ige (x := nI i) (y := 6) i 6 rfl rfl (by omega) (by omega) (t := (28, [some (.ref 0), some (.int (nI p)), some (.ref 10), some (.int (nI i))], [], (zw_M g gl (va_up a 10 f) al))) (f := (8, [some (.ref 0), some (.int (nI p)), some (.ref 10), some (.int (nI i))], [], (zw_M g gl (va_up a 10 f) al))) rfl (fun h1 => ?_) (fun h1 => ?_)
  · skip
    exact zr_ret rfl trivial ⟨rfl, f, rfl, fun i hi => hf i (by omega)⟩
  · skip
    refine zr_go (t := (20, [some (.ref 0), some (.int (nI p)), some (.ref 10), some (.int (nI i))], [.int ((6 * (nI p)) + (nI i)), .ref 3, .int (nI i), .ref 10], (zw_M g gl (va_up a 10 f) al))) 9 rfl ?_
    refine zr_cd (t := (21, [some (.ref 0), some (.int (nI p)), some (.ref 10), some (.int (nI i))], [.int ((a 3) ((6 * (nI p)) + (nI i)).toNatClampNeg), .int (nI i), .ref 10], (zw_M g gl (va_up a 10 f) al))) rfl (pk_in ((6 * p) + i) 936 (by omega) (zn_add (zn_mul rfl rfl) rfl) (by omega)) ?_
    rw [pk_cl (x := (6 * (nI p)) + (nI i)) ((6 * p) + i) (zn_add (zn_mul rfl rfl) rfl) (by omega)]
    refine zr_cd (t := (22, [some (.ref 0), some (.int (nI p)), some (.ref 10), some (.int (nI i))], [], (zw_M g gl (va_up a 10 (upd f ((nI i).toNatClampNeg) ((a 3) ((6 * p) + i)))) al))) rfl (pk_in i 6 (by omega) rfl (by omega)) ?_
    rw [pk_cl (x := nI i) i rfl (by omega)]
    refine zr_go (t := (2, [some (.ref 0), some (.int (nI p)), some (.ref 10), some (.int ((nI i) + 1))], [], (zw_M g gl (va_up a 10 (upd f i ((a 3) ((6 * p) + i)))) al))) 2 rfl ?_
    rw [show (nI i) + 1 = nI (i + 1) from (zn_add rfl rfl)]
    exact ih (i + 1, (upd f i ((a 3) ((6 * p) + i)))) ⟨by omega, lt_s (fun k hk => (pk_un (Nat.ne_of_lt hk)).trans (hf k hk)) pk_us⟩ (by omega)
theorem zs_M_valueAt (g : Nat → Int32) (gl : Nat → Int64) (a : Nat → Nat → Int32) (al : Nat → Nat → Int64) (P N : Nat) (c : Nat → Nat) (hF : zc_F g a P N c) (p : Nat) (hp : p < 156) (x : Nat → Nat) (hx : ∀ i, i < 6 → a 3 (6 * p + i) = nI (x i)) (hx4 : ∀ i, i < 6 → x i ≤ 4) : zm_Ev zt_get 2 125 [.ref 0, .int (nI p)] (zw_M g gl a al) (fun v w => v = some (.int (nI (zv_val P N c x))) ∧ ∃ f, w = (zw_M g gl (va_up a 9 f) al)) := by
  obtain ⟨hP, hN, hP0, hP5, hN6, hc, hc4⟩ := id hF
  refine zr_ev zt_M_valueAt rfl rfl ?_
  show zm_Run zt_get 1 zt_M_valueAt (0, [some (.ref 0), some (.int (nI p))], [], (zw_M g gl a al)) _
  refine zr_go (t := (6, [some (.ref 0), some (.int (nI p))], [.ref 9, .int (nI p), .ref 0], (zw_M g gl a al))) 4 rfl ?_
  refine zr_call (t := (9, [some (.ref 0), some (.int (nI p))], [], (zw_M g gl a al))) rfl (Nat.le_of_ble_eq_true rfl : 1 ≤ 1) (zs_M_take_9 g gl a al p hp) ?_
  rintro _ _ ⟨rfl, f, rfl, hf⟩
  show zm_Run zt_get 1 zt_M_valueAt (9, [some (.ref 0), some (.int (nI p))], [], (zw_M g gl (va_up a 9 f) al)) _
  refine zr_go (t := (14, [some (.ref 0), some (.int (nI p))], [.ref 9, .ref 0], (zw_M g gl (va_up a 9 f) al))) 3 rfl ?_
  refine zr_call (t := (17, [some (.ref 0), some (.int (nI p))], [], (zw_M g gl (va_up a 9 f) al))) rfl (Nat.le_of_ble_eq_true rfl : 1 ≤ 1) (zs_M_valueOf_9 g gl (va_up a 9 f) al P N c x hP hN hP0 hP5 hN6 hc (fun i hi => (hf i hi).trans (hx i hi)) hc4 hx4) ?_
  rintro _ _ ⟨rfl, rfl⟩
  show zm_Run zt_get 1 zt_M_valueAt (17, [some (.ref 0), some (.int (nI p))], [.int (nI (zv_val P N c x))], (zw_M g gl (va_up a 9 f) al)) _
  exact zr_ret rfl trivial ⟨rfl, f, rfl⟩
theorem zs_M_polarOf (g : Nat → Int32) (gl : Nat → Int64) (a : Nat → Nat → Int32) (al : Nat → Nat → Int64) (P N : Nat) (c : Nat → Nat) (hF : zc_F g a P N c) (x y : Nat → Nat) (hx : ∀ i, i < 6 → a 9 i = nI (x i)) (hx4 : ∀ i, i < 6 → x i ≤ 4) (hy : ∀ i, i < 6 → a 10 i = nI (y i)) (hy4 : ∀ i, i < 6 → y i ≤ 4) : zm_Ev zt_get 2 123 [.ref 0, .ref 9, .ref 10] (zw_M g gl a al) (fun v w => v = some (.int (nI (zv_pol P N c x y))) ∧ ∃ f, w = (zw_M g gl (va_up a 11 f) al)) := by
  obtain ⟨hP, hN, hP0, hP5, hN6, hc, hc4⟩ := id hF
  refine zr_ev zt_M_polarOf rfl rfl ?_
  show zm_Run zt_get 1 zt_M_polarOf (0, [some (.ref 0), some (.ref 9), some (.ref 10), none], [], (zw_M g gl a al)) _
  refine zr_go (t := (2, [some (.ref 0), some (.ref 9), some (.ref 10), some (.int 0)], [], (zw_M g gl a al))) 2 rfl ?_
  refine zr_loop (fun q : Nat × (Nat → Int32) => (2, [some (.ref 0), some (.ref 9), some (.ref 10), some (.int (nI q.1))], [], (zw_M g gl (va_up a 11 q.2) al))) (fun q => q.1 ≤ 6 ∧ ∀ k, k < q.1 → q.2 k = nI (zv_plus P x y k)) (fun q => 6 - q.1) ?_ (0, a 11) ⟨by omega, fun k h => absurd h (Nat.not_lt_zero k)⟩
  rintro ⟨i, f⟩ ⟨hi, hf⟩ ih
  try dsimp only at *
  refine zr_go (t := (5, [some (.ref 0), some (.ref 9), some (.ref 10), some (.int (nI i))], [.int 6, .int (nI i)], (zw_M g gl (va_up a 11 f) al))) 2 rfl ?_
  refine zr_ige (x := nI i) (y := 6) i 6 rfl rfl (by omega) (by omega) (t := (32, [some (.ref 0), some (.ref 9), some (.ref 10), some (.int (nI i))], [], (zw_M g gl (va_up a 11 f) al))) (f := (8, [some (.ref 0), some (.ref 9), some (.ref 10), some (.int (nI i))], [], (zw_M g gl (va_up a 11 f) al))) rfl (fun h1 => ?_) (fun h1 => ?_)
  · skip
    have e6 : i = 6 := by omega
    subst e6
    refine zr_go (t := (37, [some (.ref 0), some (.ref 9), some (.ref 10), some (.int (nI 6))], [.ref 11, .ref 0], (zw_M g gl (va_up a 11 f) al))) 3 rfl ?_
    refine zr_call (t := (40, [some (.ref 0), some (.ref 9), some (.ref 10), some (.int (nI 6))], [], (zw_M g gl (va_up a 11 f) al))) rfl (Nat.le_of_ble_eq_true rfl : 1 ≤ 1) (zs_M_valueOf_11 g gl (va_up a 11 f) al P N c (zv_plus P x y) hP hN hP0 hP5 hN6 hc hf hc4 (fun i hi => Nat.le_of_lt_succ (Nat.lt_of_lt_of_le (Nat.mod_lt _ hP0) hP5))) ?_
    rintro _ _ ⟨rfl, rfl⟩
    show zm_Run zt_get 1 zt_M_polarOf (40, [some (.ref 0), some (.ref 9), some (.ref 10), some (.int (nI 6))], [.int (nI (zv_val P N c (zv_plus P x y)))], (zw_M g gl (va_up a 11 f) al)) _
    refine zr_go (t := (42, [some (.ref 0), some (.ref 9), some (.ref 10), some (.int (nI 6))], [.ref 9, .ref 0, .int (nI (zv_val P N c (zv_plus P x y)))], (zw_M g gl (va_up a 11 f) al))) 2 rfl ?_
    refine zr_call (t := (45, [some (.ref 0), some (.ref 9), some (.ref 10), some (.int (nI 6))], [.int (nI (zv_val P N c (zv_plus P x y)))], (zw_M g gl (va_up a 11 f) al))) rfl (Nat.le_of_ble_eq_true rfl : 1 ≤ 1) (zs_M_valueOf_9 g gl (va_up a 11 f) al P N c x hP hN hP0 hP5 hN6 hc hx hc4 hx4) ?_
    rintro _ _ ⟨rfl, rfl⟩
    show zm_Run zt_get 1 zt_M_polarOf (45, [some (.ref 0), some (.ref 9), some (.ref 10), some (.int (nI 6))], [.int (nI (zv_val P N c x)), .int (nI (zv_val P N c (zv_plus P x y)))], (zw_M g gl (va_up a 11 f) al)) _
    refine zr_go (t := (48, [some (.ref 0), some (.ref 9), some (.ref 10), some (.int (nI 6))], [.ref 10, .ref 0, .int ((nI (zv_val P N c (zv_plus P x y))) - (nI (zv_val P N c x)))], (zw_M g gl (va_up a 11 f) al))) 3 rfl ?_
    refine zr_call (t := (51, [some (.ref 0), some (.ref 9), some (.ref 10), some (.int (nI 6))], [.int ((nI (zv_val P N c (zv_plus P x y))) - (nI (zv_val P N c x)))], (zw_M g gl (va_up a 11 f) al))) rfl (Nat.le_of_ble_eq_true rfl : 1 ≤ 1) (zs_M_valueOf_10 g gl (va_up a 11 f) al P N c y hP hN hP0 hP5 hN6 hc hy hc4 hy4) ?_
    rintro _ _ ⟨rfl, rfl⟩
    show zm_Run zt_get 1 zt_M_polarOf (51, [some (.ref 0), some (.ref 9), some (.ref 10), some (.int (nI 6))], [.int (nI (zv_val P N c y)), .int ((nI (zv_val P N c (zv_plus P x y))) - (nI (zv_val P N c x)))], (zw_M g gl (va_up a 11 f) al)) _
    refine zr_go (t := (56, [some (.ref 0), some (.ref 9), some (.ref 10), some (.int (nI 6))], [.int (g 0), .int (((nI (zv_val P N c (zv_plus P x y))) - (nI (zv_val P N c x))) - (nI (zv_val P N c y)))], (zw_M g gl (va_up a 11 f) al))) 3 rfl ?_
    refine zr_call (t := (59, [some (.ref 0), some (.ref 9), some (.ref 10), some (.int (nI 6))], [], (zw_M g gl (va_up a 11 f) al))) rfl (Nat.le_of_ble_eq_true rfl : 1 ≤ 1) (zs_M_mod g gl (va_up a 11 f) al (((nI (zv_val P N c (zv_plus P x y))) - (nI (zv_val P N c x))) - (nI (zv_val P N c y))) (g 0) (zn_ne0 hP hP0 (by omega))) ?_
    rintro _ _ ⟨rfl, rfl⟩
    show zm_Run zt_get 1 zt_M_polarOf (59, [some (.ref 0), some (.ref 9), some (.ref 10), some (.int (nI 6))], [.int (zv_mod (((nI (zv_val P N c (zv_plus P x y))) - (nI (zv_val P N c x))) - (nI (zv_val P N c y))) (g 0))], (zw_M g gl (va_up a 11 f) al)) _
    rw [show zv_mod (((nI (zv_val P N c (zv_plus P x y))) - (nI (zv_val P N c x))) - (nI (zv_val P N c y))) (g 0) = nI (zv_pol P N c x y) from by rw [hP]; exact zv_modp P (by omega) hP0 _ (zv_val_lt hP0) _ (zv_val_lt hP0) _ (zv_val_lt hP0)]
    exact zr_ret rfl trivial ⟨rfl, f, rfl⟩
  · skip
    have hxi := hx4 i (by omega)
    have hyi := hy4 i (by omega)
    refine zr_go (t := (15, [some (.ref 0), some (.ref 9), some (.ref 10), some (.int (nI i))], [.int (nI i), .ref 9, .int (nI i), .ref 11], (zw_M g gl (va_up a 11 f) al))) 5 rfl ?_
    refine zr_cd (t := (16, [some (.ref 0), some (.ref 9), some (.ref 10), some (.int (nI i))], [.int ((a 9) (nI i).toNatClampNeg), .int (nI i), .ref 11], (zw_M g gl (va_up a 11 f) al))) rfl (pk_in i 6 (by omega) rfl (by omega)) ?_
    rw [pk_cl (x := nI i) i rfl (by omega)]
    rw [show (a 9) i = nI (x i) from hx i (by omega)]
    refine zr_go (t := (18, [some (.ref 0), some (.ref 9), some (.ref 10), some (.int (nI i))], [.int (nI i), .ref 10, .int (nI (x i)), .int (nI i), .ref 11], (zw_M g gl (va_up a 11 f) al))) 2 rfl ?_
    refine zr_cd (t := (19, [some (.ref 0), some (.ref 9), some (.ref 10), some (.int (nI i))], [.int ((a 10) (nI i).toNatClampNeg), .int (nI (x i)), .int (nI i), .ref 11], (zw_M g gl (va_up a 11 f) al))) rfl (pk_in i 6 (by omega) rfl (by omega)) ?_
    rw [pk_cl (x := nI i) i rfl (by omega)]
    rw [show (a 10) i = nI (y i) from hy i (by omega)]
    refine zr_go (t := (24, [some (.ref 0), some (.ref 9), some (.ref 10), some (.int (nI i))], [.int (g 0), .int ((nI (x i)) + (nI (y i))), .int (nI i), .ref 11], (zw_M g gl (va_up a 11 f) al))) 3 rfl ?_
    refine zr_cd (t := (25, [some (.ref 0), some (.ref 9), some (.ref 10), some (.int (nI i))], [.int (((nI (x i)) + (nI (y i))) - ((nI (x i)) + (nI (y i))) / (g 0) * (g 0)), .int (nI i), .ref 11], (zw_M g gl (va_up a 11 f) al))) rfl (zn_ne0 hP (by omega) (by omega)) ?_
    rw [show ((nI (x i)) + (nI (y i))) - ((nI (x i)) + (nI (y i))) / (g 0) * (g 0) = nI (((x i) + (y i)) % P) from (zn_rem (zn_add rfl rfl) hP (by omega) (by omega) (by omega))]
    refine zr_cd (t := (26, [some (.ref 0), some (.ref 9), some (.ref 10), some (.int (nI i))], [], (zw_M g gl (va_up a 11 (upd f ((nI i).toNatClampNeg) (nI (((x i) + (y i)) % P)))) al))) rfl (pk_in i 6 (by omega) rfl (by omega)) ?_
    rw [pk_cl (x := nI i) i rfl (by omega)]
    refine zr_go (t := (2, [some (.ref 0), some (.ref 9), some (.ref 10), some (.int ((nI i) + 1))], [], (zw_M g gl (va_up a 11 (upd f i (nI (((x i) + (y i)) % P)))) al))) 2 rfl ?_
    rw [show (nI i) + 1 = nI (i + 1) from (zn_add rfl rfl)]
    exact ih (i + 1, (upd f i (nI (((x i) + (y i)) % P)))) ⟨by omega, lt_s (fun k hk => (pk_un (Nat.ne_of_lt hk)).trans (hf k hk)) pk_us⟩ (by omega)
theorem zs_M_polarAt (g : Nat → Int32) (gl : Nat → Int64) (a : Nat → Nat → Int32) (al : Nat → Nat → Int64) (P N : Nat) (c : Nat → Nat) (hF : zc_F g a P N c) (p q : Nat) (hp : p < 156) (hq : q < 156) (x y : Nat → Nat) (hx : ∀ i, i < 6 → a 3 (6 * p + i) = nI (x i)) (hx4 : ∀ i, i < 6 → x i ≤ 4) (hy : ∀ i, i < 6 → a 3 (6 * q + i) = nI (y i)) (hy4 : ∀ i, i < 6 → y i ≤ 4) : zm_Ev zt_get 3 126 [.ref 0, .int (nI p), .int (nI q)] (zw_M g gl a al) (fun v w => v = some (.int (nI (zv_pol P N c x y))) ∧ ∃ f1 f2 f3, w = (zw_M g gl (va_up (va_up (va_up a 9 f1) 10 f2) 11 f3) al)) := by
  obtain ⟨hP, hN, hP0, hP5, hN6, hc, hc4⟩ := id hF
  refine zr_ev zt_M_polarAt rfl rfl ?_
  show zm_Run zt_get 2 zt_M_polarAt (0, [some (.ref 0), some (.int (nI p)), some (.int (nI q))], [], (zw_M g gl a al)) _
  refine zr_go (t := (6, [some (.ref 0), some (.int (nI p)), some (.int (nI q))], [.ref 9, .int (nI p), .ref 0], (zw_M g gl a al))) 4 rfl ?_
  refine zr_call (t := (9, [some (.ref 0), some (.int (nI p)), some (.int (nI q))], [], (zw_M g gl a al))) rfl (Nat.le_of_ble_eq_true rfl : 1 ≤ 2) (zs_M_take_9 g gl a al p hp) ?_
  rintro _ _ ⟨rfl, f1, rfl, hf1⟩
  show zm_Run zt_get 2 zt_M_polarAt (9, [some (.ref 0), some (.int (nI p)), some (.int (nI q))], [], (zw_M g gl (va_up a 9 f1) al)) _
  refine zr_go (t := (15, [some (.ref 0), some (.int (nI p)), some (.int (nI q))], [.ref 10, .int (nI q), .ref 0], (zw_M g gl (va_up a 9 f1) al))) 4 rfl ?_
  refine zr_call (t := (18, [some (.ref 0), some (.int (nI p)), some (.int (nI q))], [], (zw_M g gl (va_up a 9 f1) al))) rfl (Nat.le_of_ble_eq_true rfl : 1 ≤ 2) (zs_M_take_10 g gl (va_up a 9 f1) al q hq) ?_
  rintro _ _ ⟨rfl, f2, rfl, hf2⟩
  show zm_Run zt_get 2 zt_M_polarAt (18, [some (.ref 0), some (.int (nI p)), some (.int (nI q))], [], (zw_M g gl (va_up (va_up a 9 f1) 10 f2) al)) _
  refine zr_go (t := (27, [some (.ref 0), some (.int (nI p)), some (.int (nI q))], [.ref 10, .ref 9, .ref 0], (zw_M g gl (va_up (va_up a 9 f1) 10 f2) al))) 5 rfl ?_
  refine zr_call (t := (30, [some (.ref 0), some (.int (nI p)), some (.int (nI q))], [], (zw_M g gl (va_up (va_up a 9 f1) 10 f2) al))) rfl (Nat.le_of_ble_eq_true rfl : 2 ≤ 2) (zs_M_polarOf g gl (va_up (va_up a 9 f1) 10 f2) al P N c hF x y (fun i hi => (hf1 i hi).trans (hx i hi)) hx4 (fun i hi => (hf2 i hi).trans (hy i hi)) hy4) ?_
  rintro _ _ ⟨rfl, f3, rfl⟩
  show zm_Run zt_get 2 zt_M_polarAt (30, [some (.ref 0), some (.int (nI p)), some (.int (nI q))], [.int (nI (zv_pol P N c x y))], (zw_M g gl (va_up (va_up (va_up a 9 f1) 10 f2) 11 f3) al)) _
  exact zr_ret rfl trivial ⟨rfl, f1, f2, f3, rfl⟩
