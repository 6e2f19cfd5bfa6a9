/-! longs as sets of bits -/
def lb (x : Int64) (k : Nat) : Bool := x.toBitVec.getLsbD k
theorem lb_ext {x y : Int64} (h : ∀ k, k < 64 → lb x k = lb y k) : x = y := Int64.toBitVec_inj.mp (BitVec.eq_of_getLsbD_eq h)
theorem lb_or {x y : Int64} {k : Nat} : lb (x ||| y) k = (lb x k || lb y k) := by unfold lb; rw [Int64.toBitVec_or, BitVec.getLsbD_or]
theorem lb_and {x y : Int64} {k : Nat} : lb (x &&& y) k = (lb x k && lb y k) := by unfold lb; rw [Int64.toBitVec_and, BitVec.getLsbD_and]
theorem lb_xor {x y : Int64} {k : Nat} : lb (x ^^^ y) k = (lb x k ^^ lb y k) := by unfold lb; rw [Int64.toBitVec_xor, BitVec.getLsbD_xor]
theorem lb_0 {k : Nat} : lb 0 k = false := by unfold lb; exact BitVec.getLsbD_zero
theorem lb_ge {x : Int64} {k : Nat} (h : 64 ≤ k) : lb x k = false := BitVec.getLsbD_of_ge _ _ h
theorem lb_is0 {x : Int64} : x = 0 ↔ ∀ k, k < 64 → lb x k = false :=
  ⟨fun h k _ => by rw [h]; exact lb_0, fun h => lb_ext (fun k hk => by rw [h k hk, lb_0])⟩
theorem lb_bit1 : ∀ k, k < 64 → ((1 : Int64) <<< ((nI k).toInt64 &&& 63)).toBitVec = BitVec.twoPow 64 k := by decide +kernel
theorem lb_bit {k j : Nat} (hk : k < 64) : lb (1 <<< ((nI k).toInt64 &&& 63)) j = decide (k = j) := by
  unfold lb; rw [lb_bit1 k hk, BitVec.getLsbD_twoPow, decide_eq_true hk, Bool.true_and]
theorem lb_sm : ∀ k, k < 64 → ((nI k).toInt64 &&& 63).toBitVec.smod 64 = BitVec.ofNat 64 k := by decide +kernel
theorem lb_1 {k : Nat} : lb 1 k = decide (k = 0) := by
  unfold lb; show (BitVec.ofNat 64 1).getLsbD k = _
  by_cases h : k = 0
  · subst h; rfl
  · rw [decide_eq_false h, BitVec.getLsbD_ofNat, show Nat.testBit 1 k = false from (by obtain ⟨m, rfl⟩ : ∃ m, k = m + 1 := ⟨k - 1, by omega⟩; rw [Nat.testBit_succ]; exact Nat.zero_testBit m), Bool.and_false]
theorem lb_nb {b : Bool} {k : Nat} : lb (nL b.toNat) k = (decide (k = 0) && b) := by
  cases b
  · rw [Bool.and_false]; exact lb_0
  · rw [Bool.and_true]; exact lb_1
theorem lb_sh {x : Int64} {k : Nat} (hk : k < 64) : (x >>> ((nI k).toInt64 &&& 63)) &&& 1 = nL (lb x k).toNat := by
  refine lb_ext (fun j hj => ?_)
  rw [lb_and, lb_1, lb_nb, Bool.and_comm]
  by_cases h : j = 0
  · subst h
    rw [decide_eq_true rfl, Bool.true_and, Bool.true_and]
    show (x.toBitVec.sshiftRight' (((nI k).toInt64 &&& 63).toBitVec.smod 64)).getLsbD 0 = x.toBitVec.getLsbD k
    rw [lb_sm k hk]
    show (x.toBitVec.sshiftRight (BitVec.ofNat 64 k).toNat).getLsbD 0 = _
    rw [show (BitVec.ofNat 64 k).toNat = k from by rw [BitVec.toNat_ofNat]; omega, BitVec.getLsbD_sshiftRight, Nat.add_zero, if_pos hk]
    rfl
  · rw [decide_eq_false h, Bool.false_and, Bool.false_and]
theorem lb_all1 : ∀ w, w < 64 → (((1 : Int64) <<< ((nI w).toInt64 &&& 63)) - 1).toBitVec = BitVec.ofNat 64 (2 ^ w - 1) := by decide +kernel
theorem lb_all {w k : Nat} (hw : w < 64) : lb ((1 <<< ((nI w).toInt64 &&& 63)) - 1) k = decide (k < w) := by
  unfold lb
  rw [lb_all1 w hw, BitVec.getLsbD_ofNat, Nat.testBit_two_pow_sub_one]
  by_cases h : k < w
  · rw [decide_eq_true h, decide_eq_true (by omega)]; rfl
  · rw [decide_eq_false h, Bool.and_false]
theorem lb_ush {x : Int64} {k : Nat} (hk : k < 64) : ((x.toUInt64 >>> ((nI k).toInt64.toUInt64 &&& Int64.toUInt64 63)).toInt64) &&& 1 = nL (lb x k).toNat := by
  refine lb_ext (fun j hj => ?_)
  rw [lb_and, lb_1, lb_nb, Bool.and_comm]
  by_cases h : j = 0
  · subst h
    rw [decide_eq_true rfl, Bool.true_and, Bool.true_and]
    have e : ∀ k, k < 64 → ((nI k).toInt64.toUInt64 &&& Int64.toUInt64 63).toBitVec % 64 = BitVec.ofNat 64 k := by decide +kernel
    show (x.toBitVec >>> (((nI k).toInt64.toUInt64 &&& Int64.toUInt64 63).toBitVec % 64)).getLsbD 0 = x.toBitVec.getLsbD k
    rw [e k hk]
    show (x.toBitVec >>> (BitVec.ofNat 64 k).toNat).getLsbD 0 = _
    rw [show (BitVec.ofNat 64 k).toNat = k from by rw [BitVec.toNat_ofNat]; omega, BitVec.getLsbD_ushiftRight, Nat.add_zero]
  · rw [decide_eq_false h, Bool.false_and, Bool.false_and]
theorem lb_n0 (b : Bool) : nL b.toNat = 0 ↔ b = false := by cases b <;> decide
theorem lb_n1 (b : Bool) : nL b.toNat = 1 ↔ b = true := by cases b <;> decide
theorem lb_n32 (b : Bool) : (nL b.toNat).toInt32 = nI b.toNat := by cases b <;> rfl
theorem lb_L {h : Nat → Bool} {j : Nat} : ∀ n, n ≤ 64 → lb (zL h n) j = (decide (j < n) && h j)
  | 0, _ => by rw [decide_eq_false (Nat.not_lt_zero j)]; exact lb_0
  | n + 1, hn => by
    show lb (zL h n ||| (if h n = true then _ else _)) j = _
    rw [lb_or, lb_L n (by omega)]
    by_cases e : n = j
    · subst e
      rw [decide_eq_false (Nat.lt_irrefl n), decide_eq_true (Nat.lt_succ_self n), Bool.false_and, Bool.false_or, Bool.true_and]
      cases q : h n
      · rw [if_neg (by decide)]; exact lb_0
      · rw [if_pos rfl, lb_bit (by omega)]; exact decide_eq_true rfl
    · have e2 : lb (if h n = true then (1 : Int64) <<< ((nI n).toInt64 &&& 63) else 0) j = false := by
        split
        · rw [lb_bit (by omega)]; exact decide_eq_false e
        · exact lb_0
      rw [e2, Bool.or_false]
      by_cases f : j < n
      · rw [decide_eq_true f, decide_eq_true (by omega)]
      · rw [decide_eq_false f, decide_eq_false (by omega)]
theorem lb_Lo {o h : Nat → Bool} {j : Nat} : ∀ n, zC o n ≤ 64 → lb (zLo o h n) j = (decide (j < zC o n) && h (zX o n j))
  | 0, _ => by show _ = (decide (j < 0) && _); rw [decide_eq_false (Nat.not_lt_zero j)]; exact lb_0
  | n + 1, hn => by
    have hC : zC o (n + 1) = zC o n + (o n).toNat := rfl
    have hX : j < zC o n → zX o (n + 1) j = zX o n j := fun q => by
      obtain ⟨a1, a2, a3⟩ := zX_ok q
      have := zX_at (n := n + 1) a2 (by omega)
      rw [a3] at this; exact this
    show lb (zLo o h n ||| (if (o n && h n) = true then _ else _)) j = _
    rw [lb_or, lb_Lo n (by omega)]
    cases ho : o n
    · rw [ho] at hC
      rw [if_neg (by simp), lb_0, Bool.or_false, show zC o (n + 1) = zC o n from hC]
      by_cases f : j < zC o n
      · rw [hX f]
      · rw [decide_eq_false f, Bool.false_and, Bool.false_and]
    · rw [ho] at hC
      have hC : zC o (n + 1) = zC o n + 1 := hC
      by_cases e : zC o n = j
      · have hx : zX o (n + 1) j = n := by rw [← e]; exact zX_at ho (by omega)
        rw [decide_eq_false (by omega), Bool.false_and, Bool.false_or, decide_eq_true (by omega), Bool.true_and, hx]
        cases q : h n
        · rw [if_neg (by decide)]; exact lb_0
        · rw [if_pos rfl, lb_bit (by omega)]; exact decide_eq_true e
      · have e2 : lb (if (true && h n) = true then (1 : Int64) <<< ((nI (zC o n)).toInt64 &&& 63) else 0) j = false := by
          split
          · rw [lb_bit (by omega)]; exact decide_eq_false e
          · exact lb_0
        rw [e2, Bool.or_false]
        by_cases f : j < zC o n
        · rw [decide_eq_true f, decide_eq_true (by omega), hX f]
        · rw [decide_eq_false f, decide_eq_false (by omega), Bool.false_and, Bool.false_and]
