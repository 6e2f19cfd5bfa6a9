/-! exact covers, counted without an order of search -/
def zec (C : Nat → Int64) (a : Int64) : Nat → Int64 → Nat
  | 0, x => if x = a then 1 else 0
  | k + 1, x => zec C a k x + (if C k &&& x = 0 then zec C a k (x ||| C k) else 0)
def zebr (C : Nat → Int64) (a : Int64) (j m : Nat) (x : Int64) (k : Nat) : Nat := if C k &&& x = 0 ∧ lb (C k) j = true then zec C a m (x ||| C k) else 0
theorem zand_or {u x y : Int64} : u &&& (x ||| y) = 0 ↔ u &&& x = 0 ∧ u &&& y = 0 := by
  rw [zand0, zand0, zand0]
  constructor
  · intro h
    exact ⟨fun s hs w => h s hs ⟨w.1, by rw [lb_or, w.2]; rfl⟩, fun s hs w => h s hs ⟨w.1, by rw [lb_or, w.2, Bool.or_true]⟩⟩
  · rintro ⟨h1, h2⟩ s hs ⟨w1, w2⟩
    rw [lb_or, Bool.or_eq_true] at w2
    rcases w2 with w | w
    · exact h1 s hs ⟨w1, w⟩
    · exact h2 s hs ⟨w1, w⟩
theorem zand_c {u x : Int64} : u &&& x = 0 ↔ x &&& u = 0 := by
  rw [zand0, zand0]
  exact ⟨fun h s hs w => h s hs ⟨w.2, w.1⟩, fun h s hs w => h s hs ⟨w.2, w.1⟩⟩
theorem zor_sw {x y z : Int64} : x ||| y ||| z = x ||| z ||| y := lb_ext (fun k _ => by
  rw [lb_or, lb_or, lb_or, lb_or, Bool.or_assoc, Bool.or_assoc, Bool.or_comm (lb y k)])
/-- BRANCHING: on any open bit -/
theorem zec_br {C : Nat → Int64} {a : Int64} {j : Nat} (hj : j < 64) (ha : lb a j = true) : ∀ m x, lb x j = false → zec C a m x = zS (zebr C a j m x) m
  | 0, x, hx => by
    show (if x = a then 1 else 0) = 0
    rw [if_neg (fun e => by rw [e, ha] at hx; cases hx)]
  | m + 1, x, hx => by
    have ih := zec_br (C := C) hj ha m x hx
    have hstep : ∀ k, zebr C a j (m + 1) x k = zebr C a j m x k + (if C k &&& x = 0 ∧ lb (C k) j = true then (if C m &&& (x ||| C k) = 0 then zec C a m (x ||| C k ||| C m) else 0) else 0) := fun k => by
      unfold zebr
      by_cases h : C k &&& x = 0 ∧ lb (C k) j = true
      · rw [if_pos h, if_pos h, if_pos h]; rfl
      · rw [if_neg h, if_neg h, if_neg h]
    show zec C a m x + (if C m &&& x = 0 then zec C a m (x ||| C m) else 0) = zS (zebr C a j (m + 1) x) m + zebr C a j (m + 1) x m
    rw [zS_congr m (fun k _ => hstep k), zS_add, ← ih, Nat.add_assoc]
    congr 1
    by_cases hm : C m &&& x = 0
    · rw [if_pos hm]
      cases hb : lb (C m) j with
      | true =>
        rw [zS_congr (g := fun _ => 0) m (fun k _ => ?_), zS_zero, Nat.zero_add]
        · unfold zebr
          rw [if_pos ⟨hm, hb⟩]
          show _ = zec C a m (x ||| C m) + (if C m &&& (x ||| C m) = 0 then zec C a m (x ||| C m ||| C m) else 0)
          rw [if_neg (fun w => zand0.mp w j hj ⟨hb, by rw [lb_or, hb, Bool.or_true]⟩), Nat.add_zero]
        · by_cases h : C k &&& x = 0 ∧ lb (C k) j = true
          · rw [if_pos h, if_neg (fun w => zand0.mp w j hj ⟨hb, by rw [lb_or, h.2, Bool.or_true]⟩)]
          · rw [if_neg h]
      | false =>
        have h3 : zebr C a j (m + 1) x m = 0 := by
          unfold zebr
          rw [if_neg (fun w => by rw [w.2] at hb; cases hb)]
        rw [h3, Nat.add_zero, zec_br (C := C) hj ha m (x ||| C m) (by rw [lb_or, hx, hb]; rfl)]
        refine zS_congr m (fun k _ => ?_)
        unfold zebr
        by_cases h : C k &&& x = 0 ∧ lb (C k) j = true
        · rw [if_pos h]
          by_cases h2 : C m &&& (x ||| C k) = 0
          · rw [if_pos h2, if_pos ⟨zand_or.mpr ⟨h.1, zand_c.mp (zand_or.mp h2).2⟩, h.2⟩, zor_sw]
          · rw [if_neg h2, if_neg (fun w => h2 (zand_or.mpr ⟨hm, zand_c.mp (zand_or.mp w.1).2⟩))]
        · rw [if_neg h, if_neg (fun w => h ⟨(zand_or.mp w.1).1, w.2⟩)]
    · rw [if_neg hm]
      have h3 : zebr C a j (m + 1) x m = 0 := by
        unfold zebr
        rw [if_neg (fun w => hm w.1)]
      rw [h3, Nat.add_zero, zS_congr (g := fun _ => 0) m (fun k _ => ?_), zS_zero]
      by_cases h : C k &&& x = 0 ∧ lb (C k) j = true
      · rw [if_pos h, if_neg (fun w => hm (zand_or.mp w).1)]
      · rw [if_neg h]
