/-! the class: forms that change (written by wip/whole/gen_c4.py) -/
/-- partial changes: a shear, a stretch, a multiple -/
def zx_sh (P : Nat) (S : Nat → Nat → Nat) (i j q n k l : Nat) : Nat := if k = j ∧ l = j then (S j j + q * S i j + q * q * S i i) % P else if k = j ∧ l ≠ i ∧ l < n then (S j l + q * S i l) % P else if l = j ∧ k ≠ i ∧ k < n then (S j k + q * S i k) % P else S k l
def zx_st (P : Nat) (S : Nat → Nat → Nat) (i q n k l : Nat) : Nat := if k = i ∧ l < n then ((if l = i then q * q else q) * S i l) % P else if l = i ∧ k < n then (q * S i k) % P else S k l
def zx_mu (P : Nat) (S : Nat → Nat → Nat) (q a b k l : Nat) : Nat := if min k l < a ∨ (min k l = a ∧ max k l < b) then (q * S k l) % P else S k l
/-- the cells as a symmetric matrix -/
def zx_S (c : Nat → Nat) : Nat → Nat → Nat := fun k l => c (zq_pl k l)
theorem zx_Sc (c : Nat → Nat) (k l : Nat) : zx_S c k l = zx_S c l k := congrArg c (zq_pl_c k l)
theorem zx_Su {e : Nat → Nat} {v i j k l : Nat} (hi : i < 6) (hj : j < 6) (hk : k < 6) (hl : l < 6) : zx_S (zu_c e (zq_pl i j) v) k l = zx_up (zx_S e) i j v k l := zu_pl hi hj hk hl
theorem zx_up2 {S T : Nat → Nat → Nat} {i j v k l : Nat} (h : S k l = T k l) : zx_up S i j v k l = zx_up T i j v k l := by unfold zx_up; rw [h]
theorem zx_36 {k l : Nat} (hk : k < 6) (hl : l < 6) : zq_pl k l < 36 := by unfold zq_pl; split <;> omega
theorem zx_c4 {e : Nat → Nat} {t v : Nat} (h : ∀ k, k < 36 → e k ≤ 4) (hv : v ≤ 4) : ∀ k, k < 36 → zu_c e t v k ≤ 4 := fun k hk => by unfold zu_c; split; exact hv; exact h k hk
theorem zx_sh_0 {P : Nat} {S : Nat → Nat → Nat} (i j q k l : Nat) : zx_sh P S i j q 0 k l = zx_up S j j ((S j j + q * S i j + q * q * S i i) % P) k l := by
  unfold zx_sh zx_up; grind
theorem zx_sh_s {P : Nat} {S : Nat → Nat → Nat} {i j q n : Nat} (h1 : n ≠ i) (h2 : n ≠ j) (hij : i ≠ j) (k l : Nat) : zx_up (zx_sh P S i j q n) j n ((zx_sh P S i j q n j n + q * zx_sh P S i j q n i n) % P) k l = zx_sh P S i j q (n + 1) k l := by
  unfold zx_up zx_sh; grind
theorem zx_sh_n {P : Nat} {S : Nat → Nat → Nat} {i j q n : Nat} (h : n = i ∨ n = j) (k l : Nat) : zx_sh P S i j q (n + 1) k l = zx_sh P S i j q n k l := by
  unfold zx_sh; grind
theorem zx_st_0 {P : Nat} {S : Nat → Nat → Nat} (i q k l : Nat) : zx_st P S i q 0 k l = S k l := by unfold zx_st; grind
theorem zx_st_s {P : Nat} {S : Nat → Nat → Nat} (hS : ∀ k l, S k l = S l k) {i q n : Nat} (k l : Nat) : zx_up (zx_st P S i q n) i n (((if n = i then q * q else q) * zx_st P S i q n i n) % P) k l = zx_st P S i q (n + 1) k l := by
  unfold zx_up zx_st; grind
theorem zx_mu_0 {P : Nat} {S : Nat → Nat → Nat} (q k l : Nat) : zx_mu P S q 0 0 k l = S k l := by unfold zx_mu; rw [if_neg (by omega)]
theorem zx_mu_r {P : Nat} {S : Nat → Nat → Nat} {q a k l N : Nat} (hk : k < N) (hl : l < N) : zx_mu P S q a N k l = zx_mu P S q (a + 1) (a + 1) k l := by
  unfold zx_mu
  by_cases h : min k l < a ∨ (min k l = a ∧ max k l < N)
  · rw [if_pos h, if_pos (by omega)]
  · rw [if_neg h, if_neg (by omega)]
theorem zx_mu_s {P : Nat} {S : Nat → Nat → Nat} (hS : ∀ k l, S k l = S l k) {q a b : Nat} (hab : a ≤ b) (k l : Nat) : zx_up (zx_mu P S q a b) a b ((q * zx_mu P S q a b a b) % P) k l = zx_mu P S q a (b + 1) k l := by
  unfold zx_up
  by_cases h : (k = a ∧ l = b) ∨ (k = b ∧ l = a)
  · rw [if_pos h]
    have e1 : zx_mu P S q a b a b = S a b := by unfold zx_mu; rw [if_neg (by omega)]
    have e2 : zx_mu P S q a (b + 1) k l = (q * S k l) % P := by unfold zx_mu; rw [if_pos (by omega)]
    rw [e1, e2]
    rcases h with ⟨rfl, rfl⟩ | ⟨rfl, rfl⟩
    · rfl
    · rw [hS]
  · rw [if_neg h]
    unfold zx_mu
    by_cases h2 : min k l < a ∨ (min k l = a ∧ max k l < b)
    · rw [if_pos h2, if_pos (by omega)]
    · rw [if_neg h2, if_neg (by omega)]
theorem zs_C_exchange (g : Nat → Int32) (gl : Nat → Int64) (a : Nat → Nat → Int32) (al : Nat → Nat → Int64) (P N : Nat) (hP : g 11 = nI P) (hN : g 12 = nI N) (hP0 : 0 < P) (hP5 : P ≤ 5) (hN6 : N ≤ 6) (c : Nat → Nat) (hm : zC_m (a 11) 6 c) (hc4 : ∀ k, k < 36 → c k ≤ 4) (hcP : ∀ k l, k < N → l < N → zx_S c k l < P) (i j : Nat) (hi : i < N) (hj : j < N) (hij : i ≠ j) : zm_Ev zt_get 3 13 [.ref 2, .int (nI i), .int (nI j)] (zw_C g gl a al) (fun v w => v = none ∧ ∃ f e, w = (zw_C g gl (va_up a 11 f) al) ∧ zC_m f 6 e ∧ (∀ k, k < 36 → e k ≤ 4) ∧ ∀ k l, k < N → l < N → zx_S e k l = zx_S c (zx_sg i j k) (zx_sg i j l)) := by
  refine zr_ev zt_O_exchange rfl rfl ?_
  show zm_Run zt_get 2 zt_O_exchange (0, [some (.ref 2), some (.int (nI i)), some (.int (nI j)), none, none], [], (zw_C g gl a al)) _
  refine zr_go (t := (2, [some (.ref 2), some (.int (nI i)), some (.int (nI j)), some (.int 0), none], [], (zw_C g gl a al))) 2 rfl ?_
  refine zr_loop (fun zq : Nat × (Nat → Int32) × (Nat → Nat) => (2, [some (.ref 2), some (.int (nI i)), some (.int (nI j)), some (.int (nI zq.1)), none], [], (zw_C g gl (va_up a 11 zq.2.1) al))) (fun zq => zq.1 ≤ N ∧ zC_m zq.2.1 6 zq.2.2 ∧ (∀ k, k < 36 → zq.2.2 k ≤ 4) ∧ ∀ k l, k < N → l < N → zx_S zq.2.2 k l = zx_ex (zx_S c) i j zq.1 k l) (fun zq => N - zq.1) ?_ (0, a 11, c) ⟨by omega, hm, hc4, fun k l _ _ => by unfold zx_ex; rw [if_neg (by omega)]⟩
  rintro ⟨n, f, e⟩ ⟨hn, hf, he4, he⟩ ih
  try dsimp only at *
  have heP : ∀ k l, k < N → l < N → zx_S e k l < P := fun k l hk hl => by rw [he k l hk hl]; unfold zx_ex; split; exact hcP _ _ (by unfold zx_sg; split; exact hj; split; exact hi; exact hk) (by unfold zx_sg; split; exact hj; split; exact hi; exact hl); exact hcP k l hk hl
  refine zr_go (t := (7, [some (.ref 2), some (.int (nI i)), some (.int (nI j)), some (.int (nI n)), none], [.int (g 12), .int (nI n)], (zw_C g gl (va_up a 11 f) al))) 3 rfl ?_
  refine zr_ige (x := nI n) (y := g 12) n N rfl hN (by omega) (by omega) (t := (54, [some (.ref 2), some (.int (nI i)), some (.int (nI j)), some (.int (nI n)), none], [], (zw_C g gl (va_up a 11 f) al))) (f := (10, [some (.ref 2), some (.int (nI i)), some (.int (nI j)), some (.int (nI n)), none], [], (zw_C g gl (va_up a 11 f) al))) rfl (fun h1 => ?_) (fun h1 => ?_)
  · skip
    have en : n = N := by omega
    refine zr_go (t := (57, [some (.ref 2), some (.int (nI i)), some (.int (nI j)), some (.int (nI n)), none], [.int (nI i), .int (nI i), .ref 2], (zw_C g gl (va_up a 11 f) al))) 3 rfl ?_
    refine zr_call (t := (60, [some (.ref 2), some (.int (nI i)), some (.int (nI j)), some (.int (nI n)), none], [], (zw_C g gl (va_up a 11 f) al))) rfl (Nat.le_of_ble_eq_true rfl : 1 ≤ 2) (zs_C_cell_2 g gl (va_up a 11 f) al e hf i i (by omega) (by omega)) ?_
    rintro _ _ ⟨rfl, rfl⟩
    show zm_Run zt_get 2 zt_O_exchange (60, [some (.ref 2), some (.int (nI i)), some (.int (nI j)), some (.int (nI n)), none], [.int (nI (e (zq_pl i i)))], (zw_C g gl (va_up a 11 f) al)) _
    refine zr_go (t := (67, [some (.ref 2), some (.int (nI i)), some (.int (nI j)), some (.int (nI (e (zq_pl i i)))), none], [.int (nI j), .int (nI j), .ref 2, .int (nI i), .int (nI i), .ref 2], (zw_C g gl (va_up a 11 f) al))) 7 rfl ?_
    refine zr_call (t := (70, [some (.ref 2), some (.int (nI i)), some (.int (nI j)), some (.int (nI (e (zq_pl i i)))), none], [.int (nI i), .int (nI i), .ref 2], (zw_C g gl (va_up a 11 f) al))) rfl (Nat.le_of_ble_eq_true rfl : 1 ≤ 2) (zs_C_cell_2 g gl (va_up a 11 f) al e hf j j (by omega) (by omega)) ?_
    rintro _ _ ⟨rfl, rfl⟩
    show zm_Run zt_get 2 zt_O_exchange (70, [some (.ref 2), some (.int (nI i)), some (.int (nI j)), some (.int (nI (e (zq_pl i i)))), none], [.int (nI (e (zq_pl j j))), .int (nI i), .int (nI i), .ref 2], (zw_C g gl (va_up a 11 f) al)) _
    have hjj : e (zq_pl j j) < P := heP j j hj hj
    have hii : e (zq_pl i i) < P := heP i i hi hi
    refine zr_call (t := (73, [some (.ref 2), some (.int (nI i)), some (.int (nI j)), some (.int (nI (e (zq_pl i i)))), none], [], (zw_C g gl (va_up a 11 f) al))) rfl (Nat.le_of_ble_eq_true rfl : 2 ≤ 2) (zs_C_store g gl (va_up a 11 f) al P hP hP0 hP5 e hf i i (by omega) (by omega) (nI (e (zq_pl j j)))) ?_
    rintro _ _ ⟨rfl, f2, rfl, hf2⟩
    show zm_Run zt_get 2 zt_O_exchange (73, [some (.ref 2), some (.int (nI i)), some (.int (nI j)), some (.int (nI (e (zq_pl i i)))), none], [], (zw_C g gl (va_up a 11 f2) al)) _
    rw [zz_modn (n := e (zq_pl j j)) (by omega)] at hf2
    refine zr_go (t := (77, [some (.ref 2), some (.int (nI i)), some (.int (nI j)), some (.int (nI (e (zq_pl i i)))), none], [.int (nI (e (zq_pl i i))), .int (nI j), .int (nI j), .ref 2], (zw_C g gl (va_up a 11 f2) al))) 4 rfl ?_
    refine zr_call (t := (80, [some (.ref 2), some (.int (nI i)), some (.int (nI j)), some (.int (nI (e (zq_pl i i)))), none], [], (zw_C g gl (va_up a 11 f2) al))) rfl (Nat.le_of_ble_eq_true rfl : 2 ≤ 2) (zs_C_store g gl (va_up a 11 f2) al P hP hP0 hP5 (zu_c e (zq_pl i i) (e (zq_pl j j) % P)) hf2 j j (by omega) (by omega) (nI (e (zq_pl i i)))) ?_
    rintro _ _ ⟨rfl, f3, rfl, hf3⟩
    show zm_Run zt_get 2 zt_O_exchange (80, [some (.ref 2), some (.int (nI i)), some (.int (nI j)), some (.int (nI (e (zq_pl i i)))), none], [], (zw_C g gl (va_up a 11 f3) al)) _
    rw [zz_modn (n := e (zq_pl i i)) (by omega)] at hf3
    rw [Nat.mod_eq_of_lt hjj, Nat.mod_eq_of_lt hii] at hf3
    exact zr_ret rfl trivial ⟨rfl, f3, _, rfl, hf3, zx_c4 (zx_c4 he4 (by omega)) (by omega), fun k l hk hl => (zx_Su (by omega) (by omega) (by omega) (by omega)).trans ((zx_up2 (zx_Su (by omega) (by omega) (by omega) (by omega))).trans (by rw [← zx_ex_e (zx_Sc c) hij (n := N) hk hl]; unfold zx_up; rw [he k l hk hl, en, show e (zq_pl i i) = _ from he i i hi hi, show e (zq_pl j j) = _ from he j j hj hj, en]))⟩
  · skip
    refine zr_go (t := (12, [some (.ref 2), some (.int (nI i)), some (.int (nI j)), some (.int (nI n)), none], [.int (nI i), .int (nI n)], (zw_C g gl (va_up a 11 f) al))) 2 rfl ?_
    refine zr_ieq (x := nI n) (y := nI i) n i rfl rfl (by omega) (by omega) (t := (48, [some (.ref 2), some (.int (nI i)), some (.int (nI j)), some (.int (nI n)), none], [], (zw_C g gl (va_up a 11 f) al))) (f := (15, [some (.ref 2), some (.int (nI i)), some (.int (nI j)), some (.int (nI n)), none], [], (zw_C g gl (va_up a 11 f) al))) rfl (fun h2 => ?_) (fun h2 => ?_)
    · skip
      refine zr_go (t := (2, [some (.ref 2), some (.int (nI i)), some (.int (nI j)), some (.int ((nI n) + 1)), none], [], (zw_C g gl (va_up a 11 f) al))) 2 rfl ?_
      rw [show (nI n) + 1 = nI (n + 1) from (zn_add rfl rfl)]
      exact ih (n + 1, f, e) ⟨by omega, hf, he4, fun k l hk hl => (he k l hk hl).trans (zx_ex_n (Or.inl h2) k l).symm⟩ (by omega)
    · skip
      refine zr_go (t := (17, [some (.ref 2), some (.int (nI i)), some (.int (nI j)), some (.int (nI n)), none], [.int (nI j), .int (nI n)], (zw_C g gl (va_up a 11 f) al))) 2 rfl ?_
      refine zr_ieq (x := nI n) (y := nI j) n j rfl rfl (by omega) (by omega) (t := (48, [some (.ref 2), some (.int (nI i)), some (.int (nI j)), some (.int (nI n)), none], [], (zw_C g gl (va_up a 11 f) al))) (f := (20, [some (.ref 2), some (.int (nI i)), some (.int (nI j)), some (.int (nI n)), none], [], (zw_C g gl (va_up a 11 f) al))) rfl (fun h3 => ?_) (fun h3 => ?_)
      · skip
        refine zr_go (t := (2, [some (.ref 2), some (.int (nI i)), some (.int (nI j)), some (.int ((nI n) + 1)), none], [], (zw_C g gl (va_up a 11 f) al))) 2 rfl ?_
        rw [show (nI n) + 1 = nI (n + 1) from (zn_add rfl rfl)]
        exact ih (n + 1, f, e) ⟨by omega, hf, he4, fun k l hk hl => (he k l hk hl).trans (zx_ex_n (Or.inr h3) k l).symm⟩ (by omega)
      · skip
        have hin : e (zq_pl i n) < P := heP i n hi h1
        have hjn : e (zq_pl j n) < P := heP j n hj h1
        refine zr_go (t := (23, [some (.ref 2), some (.int (nI i)), some (.int (nI j)), some (.int (nI n)), none], [.int (nI n), .int (nI i), .ref 2], (zw_C g gl (va_up a 11 f) al))) 3 rfl ?_
        refine zr_call (t := (26, [some (.ref 2), some (.int (nI i)), some (.int (nI j)), some (.int (nI n)), none], [], (zw_C g gl (va_up a 11 f) al))) rfl (Nat.le_of_ble_eq_true rfl : 1 ≤ 2) (zs_C_cell_2 g gl (va_up a 11 f) al e hf i n (by omega) (by omega)) ?_
        rintro _ _ ⟨rfl, rfl⟩
        show zm_Run zt_get 2 zt_O_exchange (26, [some (.ref 2), some (.int (nI i)), some (.int (nI j)), some (.int (nI n)), none], [.int (nI (e (zq_pl i n)))], (zw_C g gl (va_up a 11 f) al)) _
        refine zr_go (t := (34, [some (.ref 2), some (.int (nI i)), some (.int (nI j)), some (.int (nI n)), some (.int (nI (e (zq_pl i n))))], [.int (nI n), .int (nI j), .ref 2, .int (nI n), .int (nI i), .ref 2], (zw_C g gl (va_up a 11 f) al))) 7 rfl ?_
        refine zr_call (t := (37, [some (.ref 2), some (.int (nI i)), some (.int (nI j)), some (.int (nI n)), some (.int (nI (e (zq_pl i n))))], [.int (nI n), .int (nI i), .ref 2], (zw_C g gl (va_up a 11 f) al))) rfl (Nat.le_of_ble_eq_true rfl : 1 ≤ 2) (zs_C_cell_2 g gl (va_up a 11 f) al e hf j n (by omega) (by omega)) ?_
        rintro _ _ ⟨rfl, rfl⟩
        show zm_Run zt_get 2 zt_O_exchange (37, [some (.ref 2), some (.int (nI i)), some (.int (nI j)), some (.int (nI n)), some (.int (nI (e (zq_pl i n))))], [.int (nI (e (zq_pl j n))), .int (nI n), .int (nI i), .ref 2], (zw_C g gl (va_up a 11 f) al)) _
        refine zr_call (t := (40, [some (.ref 2), some (.int (nI i)), some (.int (nI j)), some (.int (nI n)), some (.int (nI (e (zq_pl i n))))], [], (zw_C g gl (va_up a 11 f) al))) rfl (Nat.le_of_ble_eq_true rfl : 2 ≤ 2) (zs_C_store g gl (va_up a 11 f) al P hP hP0 hP5 e hf i n (by omega) (by omega) (nI (e (zq_pl j n)))) ?_
        rintro _ _ ⟨rfl, f2, rfl, hf2⟩
        show zm_Run zt_get 2 zt_O_exchange (40, [some (.ref 2), some (.int (nI i)), some (.int (nI j)), some (.int (nI n)), some (.int (nI (e (zq_pl i n))))], [], (zw_C g gl (va_up a 11 f2) al)) _
        rw [zz_modn (n := e (zq_pl j n)) (by omega)] at hf2
        refine zr_go (t := (45, [some (.ref 2), some (.int (nI i)), some (.int (nI j)), some (.int (nI n)), some (.int (nI (e (zq_pl i n))))], [.int (nI (e (zq_pl i n))), .int (nI n), .int (nI j), .ref 2], (zw_C g gl (va_up a 11 f2) al))) 4 rfl ?_
        refine zr_call (t := (48, [some (.ref 2), some (.int (nI i)), some (.int (nI j)), some (.int (nI n)), some (.int (nI (e (zq_pl i n))))], [], (zw_C g gl (va_up a 11 f2) al))) rfl (Nat.le_of_ble_eq_true rfl : 2 ≤ 2) (zs_C_store g gl (va_up a 11 f2) al P hP hP0 hP5 (zu_c e (zq_pl i n) (e (zq_pl j n) % P)) hf2 j n (by omega) (by omega) (nI (e (zq_pl i n)))) ?_
        rintro _ _ ⟨rfl, f3, rfl, hf3⟩
        show zm_Run zt_get 2 zt_O_exchange (48, [some (.ref 2), some (.int (nI i)), some (.int (nI j)), some (.int (nI n)), some (.int (nI (e (zq_pl i n))))], [], (zw_C g gl (va_up a 11 f3) al)) _
        rw [zz_modn (n := e (zq_pl i n)) (by omega)] at hf3
        rw [Nat.mod_eq_of_lt hjn, Nat.mod_eq_of_lt hin] at hf3
        refine zr_go (t := (2, [some (.ref 2), some (.int (nI i)), some (.int (nI j)), some (.int ((nI n) + 1)), some (.int (nI (e (zq_pl i n))))], [], (zw_C g gl (va_up a 11 f3) al))) 2 rfl ?_
        rw [show (nI n) + 1 = nI (n + 1) from (zn_add rfl rfl)]
        refine zr_forget [some (.ref 2), some (.int (nI i)), some (.int (nI j)), some (.int (nI (n + 1))), none] ⟨Or.inr rfl, Or.inr rfl, Or.inr rfl, Or.inr rfl, Or.inl rfl, trivial⟩ ?_
        exact ih (n + 1, f3, zu_c (zu_c e (zq_pl i n) (e (zq_pl j n))) (zq_pl j n) (e (zq_pl i n))) ⟨by omega, hf3, zx_c4 (zx_c4 he4 (by omega)) (by omega), fun k l hk hl => (zx_Su (by omega) (by omega) (by omega) (by omega)).trans ((zx_up2 (zx_Su (by omega) (by omega) (by omega) (by omega))).trans (by rw [← zx_ex_s (zx_Sc c) hij h2 h3]; unfold zx_up; rw [he k l hk hl, show e (zq_pl i n) = _ from he i n hi h1, show e (zq_pl j n) = _ from he j n hj h1]))⟩ (by omega)
theorem zs_C_shear (g : Nat → Int32) (gl : Nat → Int64) (a : Nat → Nat → Int32) (al : Nat → Nat → Int64) (P N : Nat) (hP : g 11 = nI P) (hN : g 12 = nI N) (hP0 : 0 < P) (hP5 : P ≤ 5) (hN6 : N ≤ 6) (c : Nat → Nat) (hm : zC_m (a 11) 6 c) (hc4 : ∀ k, k < 36 → c k ≤ 4) (hcP : ∀ k l, k < N → l < N → zx_S c k l < P) (i j q : Nat) (hi : i < N) (hj : j < N) (hij : i ≠ j) (hq : q < P) : zm_Ev zt_get 3 14 [.ref 2, .int (nI i), .int (nI j), .int (nI q)] (zw_C g gl a al) (fun v w => v = none ∧ ∃ f e, w = (zw_C g gl (va_up a 11 f) al) ∧ zC_m f 6 e ∧ (∀ k, k < 36 → e k ≤ 4) ∧ ∀ k l, k < N → l < N → zx_S e k l = zx_up (zx_sh P (zx_S c) i j q N) i j ((zx_S c i j + 2 * q * zx_S c i i) % P) k l) := by
  have b1 := hcP j j hj hj
  have b2 := hcP i j hi hj
  have b3 := hcP i i hi hi
  have m1 : q * zx_S c i j ≤ 4 * 4 := Nat.mul_le_mul (by omega) (by omega)
  have m2 : q * q ≤ 4 * 4 := Nat.mul_le_mul (by omega) (by omega)
  have m3 : q * q * zx_S c i i ≤ 4 * 4 * 4 := Nat.mul_le_mul m2 (by omega)
  have m4 : 2 * q * zx_S c i i ≤ 2 * 4 * 4 := Nat.mul_le_mul (by omega) (by omega)
  unfold zx_S at m1 m3 m4 b1 b2 b3
  refine zr_ev zt_O_shear rfl rfl ?_
  show zm_Run zt_get 2 zt_O_shear (0, [some (.ref 2), some (.int (nI i)), some (.int (nI j)), some (.int (nI q)), none], [], (zw_C g gl a al)) _
  refine zr_go (t := (6, [some (.ref 2), some (.int (nI i)), some (.int (nI j)), some (.int (nI q)), none], [.int (nI j), .int (nI j), .ref 2, .int (nI j), .int (nI j), .ref 2], (zw_C g gl a al))) 6 rfl ?_
  refine zr_call (t := (9, [some (.ref 2), some (.int (nI i)), some (.int (nI j)), some (.int (nI q)), none], [.int (nI j), .int (nI j), .ref 2], (zw_C g gl a al))) rfl (Nat.le_of_ble_eq_true rfl : 1 ≤ 2) (zs_C_cell_2 g gl a al c hm j j (by omega) (by omega)) ?_
  rintro _ _ ⟨rfl, rfl⟩
  show zm_Run zt_get 2 zt_O_shear (9, [some (.ref 2), some (.int (nI i)), some (.int (nI j)), some (.int (nI q)), none], [.int (nI (c (zq_pl j j))), .int (nI j), .int (nI j), .ref 2], (zw_C g gl a al)) _
  refine zr_go (t := (13, [some (.ref 2), some (.int (nI i)), some (.int (nI j)), some (.int (nI q)), none], [.int (nI j), .int (nI i), .ref 2, .int (nI q), .int (nI (c (zq_pl j j))), .int (nI j), .int (nI j), .ref 2], (zw_C g gl a al))) 4 rfl ?_
  refine zr_call (t := (16, [some (.ref 2), some (.int (nI i)), some (.int (nI j)), some (.int (nI q)), none], [.int (nI q), .int (nI (c (zq_pl j j))), .int (nI j), .int (nI j), .ref 2], (zw_C g gl a al))) rfl (Nat.le_of_ble_eq_true rfl : 1 ≤ 2) (zs_C_cell_2 g gl a al c hm i j (by omega) (by omega)) ?_
  rintro _ _ ⟨rfl, rfl⟩
  show zm_Run zt_get 2 zt_O_shear (16, [some (.ref 2), some (.int (nI i)), some (.int (nI j)), some (.int (nI q)), none], [.int (nI (c (zq_pl i j))), .int (nI q), .int (nI (c (zq_pl j j))), .int (nI j), .int (nI j), .ref 2], (zw_C g gl a al)) _
  refine zr_go (t := (24, [some (.ref 2), some (.int (nI i)), some (.int (nI j)), some (.int (nI q)), none], [.int (nI i), .int (nI i), .ref 2, .int ((nI q) * (nI q)), .int ((nI (c (zq_pl j j))) + ((nI q) * (nI (c (zq_pl i j))))), .int (nI j), .int (nI j), .ref 2], (zw_C g gl a al))) 8 rfl ?_
  refine zr_call (t := (27, [some (.ref 2), some (.int (nI i)), some (.int (nI j)), some (.int (nI q)), none], [.int ((nI q) * (nI q)), .int ((nI (c (zq_pl j j))) + ((nI q) * (nI (c (zq_pl i j))))), .int (nI j), .int (nI j), .ref 2], (zw_C g gl a al))) rfl (Nat.le_of_ble_eq_true rfl : 1 ≤ 2) (zs_C_cell_2 g gl a al c hm i i (by omega) (by omega)) ?_
  rintro _ _ ⟨rfl, rfl⟩
  show zm_Run zt_get 2 zt_O_shear (27, [some (.ref 2), some (.int (nI i)), some (.int (nI j)), some (.int (nI q)), none], [.int (nI (c (zq_pl i i))), .int ((nI q) * (nI q)), .int ((nI (c (zq_pl j j))) + ((nI q) * (nI (c (zq_pl i j))))), .int (nI j), .int (nI j), .ref 2], (zw_C g gl a al)) _
  refine zr_go (t := (29, [some (.ref 2), some (.int (nI i)), some (.int (nI j)), some (.int (nI q)), none], [.int (((nI (c (zq_pl j j))) + ((nI q) * (nI (c (zq_pl i j))))) + (((nI q) * (nI q)) * (nI (c (zq_pl i i))))), .int (nI j), .int (nI j), .ref 2], (zw_C g gl a al))) 2 rfl ?_
  rw [show ((nI (c (zq_pl j j))) + ((nI q) * (nI (c (zq_pl i j))))) + (((nI q) * (nI q)) * (nI (c (zq_pl i i)))) = nI (((c (zq_pl j j)) + (q * (c (zq_pl i j)))) + ((q * q) * (c (zq_pl i i)))) from (zn_add (zn_add rfl (zn_mul rfl rfl)) (zn_mul (zn_mul rfl rfl) rfl))]
  refine zr_call (t := (32, [some (.ref 2), some (.int (nI i)), some (.int (nI j)), some (.int (nI q)), none], [], (zw_C g gl a al))) rfl (Nat.le_of_ble_eq_true rfl : 2 ≤ 2) (zs_C_store g gl a al P hP hP0 hP5 c hm j j (by omega) (by omega) (nI (((c (zq_pl j j)) + (q * (c (zq_pl i j)))) + ((q * q) * (c (zq_pl i i)))))) ?_
  rintro _ _ ⟨rfl, f1, rfl, hf1⟩
  show zm_Run zt_get 2 zt_O_shear (32, [some (.ref 2), some (.int (nI i)), some (.int (nI j)), some (.int (nI q)), none], [], (zw_C g gl (va_up a 11 f1) al)) _
  rw [zz_modn (n := ((c (zq_pl j j)) + (q * (c (zq_pl i j)))) + ((q * q) * (c (zq_pl i i)))) (by omega)] at hf1
  refine zr_go (t := (35, [some (.ref 2), some (.int (nI i)), some (.int (nI j)), some (.int (nI q)), some (.int 0)], [], (zw_C g gl (va_up a 11 f1) al))) 2 rfl ?_
  refine zr_loop (fun zq : Nat × (Nat → Int32) × (Nat → Nat) => (35, [some (.ref 2), some (.int (nI i)), some (.int (nI j)), some (.int (nI q)), some (.int (nI zq.1))], [], (zw_C g gl (va_up a 11 zq.2.1) al))) (fun zq => zq.1 ≤ N ∧ zC_m zq.2.1 6 zq.2.2 ∧ (∀ k, k < 36 → zq.2.2 k ≤ 4) ∧ ∀ k l, k < N → l < N → zx_S zq.2.2 k l = zx_sh P (zx_S c) i j q zq.1 k l) (fun zq => N - zq.1) ?_ (0, f1, _) ⟨by omega, hf1, zx_c4 hc4 (Nat.le_of_lt_succ (Nat.lt_of_lt_of_le (Nat.mod_lt _ hP0) hP5)), fun k l hk hl => (zx_Su (by omega) (by omega) (by omega) (by omega)).trans (zx_sh_0 i j q k l).symm⟩
  rintro ⟨n, f, e⟩ ⟨hn, hf, he4, he⟩ ih
  try dsimp only at *
  have heP : ∀ k l, k < N → l < N → zx_S e k l < P := fun k l hk hl => by rw [he k l hk hl]; unfold zx_sh; split; exact Nat.mod_lt _ hP0; split; exact Nat.mod_lt _ hP0; split; exact Nat.mod_lt _ hP0; exact hcP k l hk hl
  refine zr_go (t := (41, [some (.ref 2), some (.int (nI i)), some (.int (nI j)), some (.int (nI q)), some (.int (nI n))], [.int (g 12), .int (nI n)], (zw_C g gl (va_up a 11 f) al))) 3 rfl ?_
  refine zr_ige (x := nI n) (y := g 12) n N rfl hN (by omega) (by omega) (t := (86, [some (.ref 2), some (.int (nI i)), some (.int (nI j)), some (.int (nI q)), some (.int (nI n))], [], (zw_C g gl (va_up a 11 f) al))) (f := (44, [some (.ref 2), some (.int (nI i)), some (.int (nI j)), some (.int (nI q)), some (.int (nI n))], [], (zw_C g gl (va_up a 11 f) al))) rfl (fun h1 => ?_) (fun h1 => ?_)
  · skip
    have en : n = N := by omega
    have hij2 : e (zq_pl i j) = zx_S c i j := (he i j hi hj).trans (by unfold zx_sh; grind)
    have hii2 : e (zq_pl i i) = zx_S c i i := (he i i hi hi).trans (by unfold zx_sh; grind)
    have heij := heP i j hi hj
    have m5 : 2 * q * e (zq_pl i i) ≤ 2 * 4 * 4 := by rw [hii2]; exact m4
    unfold zx_S at heij
    refine zr_go (t := (92, [some (.ref 2), some (.int (nI i)), some (.int (nI j)), some (.int (nI q)), some (.int (nI n))], [.int (nI j), .int (nI i), .ref 2, .int (nI j), .int (nI i), .ref 2], (zw_C g gl (va_up a 11 f) al))) 6 rfl ?_
    refine zr_call (t := (95, [some (.ref 2), some (.int (nI i)), some (.int (nI j)), some (.int (nI q)), some (.int (nI n))], [.int (nI j), .int (nI i), .ref 2], (zw_C g gl (va_up a 11 f) al))) rfl (Nat.le_of_ble_eq_true rfl : 1 ≤ 2) (zs_C_cell_2 g gl (va_up a 11 f) al e hf i j (by omega) (by omega)) ?_
    rintro _ _ ⟨rfl, rfl⟩
    show zm_Run zt_get 2 zt_O_shear (95, [some (.ref 2), some (.int (nI i)), some (.int (nI j)), some (.int (nI q)), some (.int (nI n))], [.int (nI (e (zq_pl i j))), .int (nI j), .int (nI i), .ref 2], (zw_C g gl (va_up a 11 f) al)) _
    refine zr_go (t := (101, [some (.ref 2), some (.int (nI i)), some (.int (nI j)), some (.int (nI q)), some (.int (nI n))], [.int (nI i), .int (nI i), .ref 2, .int (2 * (nI q)), .int (nI (e (zq_pl i j))), .int (nI j), .int (nI i), .ref 2], (zw_C g gl (va_up a 11 f) al))) 6 rfl ?_
    refine zr_call (t := (104, [some (.ref 2), some (.int (nI i)), some (.int (nI j)), some (.int (nI q)), some (.int (nI n))], [.int (2 * (nI q)), .int (nI (e (zq_pl i j))), .int (nI j), .int (nI i), .ref 2], (zw_C g gl (va_up a 11 f) al))) rfl (Nat.le_of_ble_eq_true rfl : 1 ≤ 2) (zs_C_cell_2 g gl (va_up a 11 f) al e hf i i (by omega) (by omega)) ?_
    rintro _ _ ⟨rfl, rfl⟩
    show zm_Run zt_get 2 zt_O_shear (104, [some (.ref 2), some (.int (nI i)), some (.int (nI j)), some (.int (nI q)), some (.int (nI n))], [.int (nI (e (zq_pl i i))), .int (2 * (nI q)), .int (nI (e (zq_pl i j))), .int (nI j), .int (nI i), .ref 2], (zw_C g gl (va_up a 11 f) al)) _
    refine zr_go (t := (106, [some (.ref 2), some (.int (nI i)), some (.int (nI j)), some (.int (nI q)), some (.int (nI n))], [.int ((nI (e (zq_pl i j))) + ((2 * (nI q)) * (nI (e (zq_pl i i))))), .int (nI j), .int (nI i), .ref 2], (zw_C g gl (va_up a 11 f) al))) 2 rfl ?_
    rw [show (nI (e (zq_pl i j))) + ((2 * (nI q)) * (nI (e (zq_pl i i)))) = nI ((e (zq_pl i j)) + ((2 * q) * (e (zq_pl i i)))) from (zn_add rfl (zn_mul (zn_mul rfl rfl) rfl))]
    refine zr_call (t := (109, [some (.ref 2), some (.int (nI i)), some (.int (nI j)), some (.int (nI q)), some (.int (nI n))], [], (zw_C g gl (va_up a 11 f) al))) rfl (Nat.le_of_ble_eq_true rfl : 2 ≤ 2) (zs_C_store g gl (va_up a 11 f) al P hP hP0 hP5 e hf i j (by omega) (by omega) (nI ((e (zq_pl i j)) + ((2 * q) * (e (zq_pl i i)))))) ?_
    rintro _ _ ⟨rfl, f2, rfl, hf2⟩
    show zm_Run zt_get 2 zt_O_shear (109, [some (.ref 2), some (.int (nI i)), some (.int (nI j)), some (.int (nI q)), some (.int (nI n))], [], (zw_C g gl (va_up a 11 f2) al)) _
    rw [zz_modn (n := (e (zq_pl i j)) + ((2 * q) * (e (zq_pl i i)))) (by omega)] at hf2
    exact zr_ret rfl trivial ⟨rfl, f2, _, rfl, hf2, zx_c4 he4 (Nat.le_of_lt_succ (Nat.lt_of_lt_of_le (Nat.mod_lt _ hP0) hP5)), fun k l hk hl => (zx_Su (by omega) (by omega) (by omega) (by omega)).trans (by rw [hij2, hii2]; unfold zx_up; rw [he k l hk hl, en])⟩
  · skip
    refine zr_go (t := (47, [some (.ref 2), some (.int (nI i)), some (.int (nI j)), some (.int (nI q)), some (.int (nI n))], [.int (nI i), .int (nI n)], (zw_C g gl (va_up a 11 f) al))) 2 rfl ?_
    refine zr_ieq (x := nI n) (y := nI i) n i rfl rfl (by omega) (by omega) (t := (80, [some (.ref 2), some (.int (nI i)), some (.int (nI j)), some (.int (nI q)), some (.int (nI n))], [], (zw_C g gl (va_up a 11 f) al))) (f := (50, [some (.ref 2), some (.int (nI i)), some (.int (nI j)), some (.int (nI q)), some (.int (nI n))], [], (zw_C g gl (va_up a 11 f) al))) rfl (fun h2 => ?_) (fun h2 => ?_)
    · skip
      refine zr_go (t := (35, [some (.ref 2), some (.int (nI i)), some (.int (nI j)), some (.int (nI q)), some (.int ((nI n) + 1))], [], (zw_C g gl (va_up a 11 f) al))) 2 rfl ?_
      rw [show (nI n) + 1 = nI (n + 1) from (zn_add rfl rfl)]
      exact ih (n + 1, f, e) ⟨by omega, hf, he4, fun k l hk hl => (he k l hk hl).trans (zx_sh_n (Or.inl h2) k l).symm⟩ (by omega)
    · skip
      refine zr_go (t := (53, [some (.ref 2), some (.int (nI i)), some (.int (nI j)), some (.int (nI q)), some (.int (nI n))], [.int (nI j), .int (nI n)], (zw_C g gl (va_up a 11 f) al))) 2 rfl ?_
      refine zr_ieq (x := nI n) (y := nI j) n j rfl rfl (by omega) (by omega) (t := (80, [some (.ref 2), some (.int (nI i)), some (.int (nI j)), some (.int (nI q)), some (.int (nI n))], [], (zw_C g gl (va_up a 11 f) al))) (f := (56, [some (.ref 2), some (.int (nI i)), some (.int (nI j)), some (.int (nI q)), some (.int (nI n))], [], (zw_C g gl (va_up a 11 f) al))) rfl (fun h3 => ?_) (fun h3 => ?_)
      · skip
        refine zr_go (t := (35, [some (.ref 2), some (.int (nI i)), some (.int (nI j)), some (.int (nI q)), some (.int ((nI n) + 1))], [], (zw_C g gl (va_up a 11 f) al))) 2 rfl ?_
        rw [show (nI n) + 1 = nI (n + 1) from (zn_add rfl rfl)]
        exact ih (n + 1, f, e) ⟨by omega, hf, he4, fun k l hk hl => (he k l hk hl).trans (zx_sh_n (Or.inr h3) k l).symm⟩ (by omega)
      · skip
        have b5 := heP j n hj h1
        have b6 := heP i n hi h1
        have m6 : q * zx_S e i n ≤ 4 * 4 := Nat.mul_le_mul (by omega) (by omega)
        unfold zx_S at b5 b6 m6
        refine zr_go (t := (64, [some (.ref 2), some (.int (nI i)), some (.int (nI j)), some (.int (nI q)), some (.int (nI n))], [.int (nI n), .int (nI j), .ref 2, .int (nI n), .int (nI j), .ref 2], (zw_C g gl (va_up a 11 f) al))) 6 rfl ?_
        refine zr_call (t := (67, [some (.ref 2), some (.int (nI i)), some (.int (nI j)), some (.int (nI q)), some (.int (nI n))], [.int (nI n), .int (nI j), .ref 2], (zw_C g gl (va_up a 11 f) al))) rfl (Nat.le_of_ble_eq_true rfl : 1 ≤ 2) (zs_C_cell_2 g gl (va_up a 11 f) al e hf j n (by omega) (by omega)) ?_
        rintro _ _ ⟨rfl, rfl⟩
        show zm_Run zt_get 2 zt_O_shear (67, [some (.ref 2), some (.int (nI i)), some (.int (nI j)), some (.int (nI q)), some (.int (nI n))], [.int (nI (e (zq_pl j n))), .int (nI n), .int (nI j), .ref 2], (zw_C g gl (va_up a 11 f) al)) _
        refine zr_go (t := (72, [some (.ref 2), some (.int (nI i)), some (.int (nI j)), some (.int (nI q)), some (.int (nI n))], [.int (nI n), .int (nI i), .ref 2, .int (nI q), .int (nI (e (zq_pl j n))), .int (nI n), .int (nI j), .ref 2], (zw_C g gl (va_up a 11 f) al))) 4 rfl ?_
        refine zr_call (t := (75, [some (.ref 2), some (.int (nI i)), some (.int (nI j)), some (.int (nI q)), some (.int (nI n))], [.int (nI q), .int (nI (e (zq_pl j n))), .int (nI n), .int (nI j), .ref 2], (zw_C g gl (va_up a 11 f) al))) rfl (Nat.le_of_ble_eq_true rfl : 1 ≤ 2) (zs_C_cell_2 g gl (va_up a 11 f) al e hf i n (by omega) (by omega)) ?_
        rintro _ _ ⟨rfl, rfl⟩
        show zm_Run zt_get 2 zt_O_shear (75, [some (.ref 2), some (.int (nI i)), some (.int (nI j)), some (.int (nI q)), some (.int (nI n))], [.int (nI (e (zq_pl i n))), .int (nI q), .int (nI (e (zq_pl j n))), .int (nI n), .int (nI j), .ref 2], (zw_C g gl (va_up a 11 f) al)) _
        refine zr_go (t := (77, [some (.ref 2), some (.int (nI i)), some (.int (nI j)), some (.int (nI q)), some (.int (nI n))], [.int ((nI (e (zq_pl j n))) + ((nI q) * (nI (e (zq_pl i n))))), .int (nI n), .int (nI j), .ref 2], (zw_C g gl (va_up a 11 f) al))) 2 rfl ?_
        rw [show (nI (e (zq_pl j n))) + ((nI q) * (nI (e (zq_pl i n)))) = nI ((e (zq_pl j n)) + (q * (e (zq_pl i n)))) from (zn_add rfl (zn_mul rfl rfl))]
        refine zr_call (t := (80, [some (.ref 2), some (.int (nI i)), some (.int (nI j)), some (.int (nI q)), some (.int (nI n))], [], (zw_C g gl (va_up a 11 f) al))) rfl (Nat.le_of_ble_eq_true rfl : 2 ≤ 2) (zs_C_store g gl (va_up a 11 f) al P hP hP0 hP5 e hf j n (by omega) (by omega) (nI ((e (zq_pl j n)) + (q * (e (zq_pl i n)))))) ?_
        rintro _ _ ⟨rfl, f2, rfl, hf2⟩
        show zm_Run zt_get 2 zt_O_shear (80, [some (.ref 2), some (.int (nI i)), some (.int (nI j)), some (.int (nI q)), some (.int (nI n))], [], (zw_C g gl (va_up a 11 f2) al)) _
        rw [zz_modn (n := (e (zq_pl j n)) + (q * (e (zq_pl i n)))) (by omega)] at hf2
        refine zr_go (t := (35, [some (.ref 2), some (.int (nI i)), some (.int (nI j)), some (.int (nI q)), some (.int ((nI n) + 1))], [], (zw_C g gl (va_up a 11 f2) al))) 2 rfl ?_
        rw [show (nI n) + 1 = nI (n + 1) from (zn_add rfl rfl)]
        exact ih (n + 1, f2, _) ⟨by omega, hf2, zx_c4 he4 (Nat.le_of_lt_succ (Nat.lt_of_lt_of_le (Nat.mod_lt _ hP0) hP5)), fun k l hk hl => (zx_Su (by omega) (by omega) (by omega) (by omega)).trans (by rw [← zx_sh_s h2 h3 hij]; unfold zx_up; rw [he k l hk hl, show e (zq_pl j n) = _ from he j n hj h1, show e (zq_pl i n) = _ from he i n hi h1])⟩ (by omega)
theorem zs_C_stretch (g : Nat → Int32) (gl : Nat → Int64) (a : Nat → Nat → Int32) (al : Nat → Nat → Int64) (P N : Nat) (hP : g 11 = nI P) (hN : g 12 = nI N) (hP0 : 0 < P) (hP5 : P ≤ 5) (hN6 : N ≤ 6) (c : Nat → Nat) (hm : zC_m (a 11) 6 c) (hc4 : ∀ k, k < 36 → c k ≤ 4) (hcP : ∀ k l, k < N → l < N → zx_S c k l < P) (i q : Nat) (hi : i < N) (hq : q < P) : zm_Ev zt_get 3 15 [.ref 2, .int (nI i), .int (nI q)] (zw_C g gl a al) (fun v w => v = none ∧ ∃ f e, w = (zw_C g gl (va_up a 11 f) al) ∧ zC_m f 6 e ∧ (∀ k, k < 36 → e k ≤ 4) ∧ ∀ k l, k < N → l < N → zx_S e k l = zx_st P (zx_S c) i q N k l) := by
  refine zr_ev zt_O_stretch rfl rfl ?_
  show zm_Run zt_get 2 zt_O_stretch (0, [some (.ref 2), some (.int (nI i)), some (.int (nI q)), none], [], (zw_C g gl a al)) _
  refine zr_go (t := (2, [some (.ref 2), some (.int (nI i)), some (.int (nI q)), some (.int 0)], [], (zw_C g gl a al))) 2 rfl ?_
  refine zr_loop (fun zq : Nat × (Nat → Int32) × (Nat → Nat) => (2, [some (.ref 2), some (.int (nI i)), some (.int (nI q)), some (.int (nI zq.1))], [], (zw_C g gl (va_up a 11 zq.2.1) al))) (fun zq => zq.1 ≤ N ∧ zC_m zq.2.1 6 zq.2.2 ∧ (∀ k, k < 36 → zq.2.2 k ≤ 4) ∧ ∀ k l, k < N → l < N → zx_S zq.2.2 k l = zx_st P (zx_S c) i q zq.1 k l) (fun zq => N - zq.1) ?_ (0, a 11, c) ⟨by omega, hm, hc4, fun k l _ _ => (zx_st_0 i q k l).symm⟩
  rintro ⟨n, f, e⟩ ⟨hn, hf, he4, he⟩ ih
  try dsimp only at *
  refine zr_go (t := (7, [some (.ref 2), some (.int (nI i)), some (.int (nI q)), some (.int (nI n))], [.int (g 12), .int (nI n)], (zw_C g gl (va_up a 11 f) al))) 3 rfl ?_
  refine zr_ige (x := nI n) (y := g 12) n N rfl hN (by omega) (by omega) (t := (41, [some (.ref 2), some (.int (nI i)), some (.int (nI q)), some (.int (nI n))], [], (zw_C g gl (va_up a 11 f) al))) (f := (10, [some (.ref 2), some (.int (nI i)), some (.int (nI q)), some (.int (nI n))], [], (zw_C g gl (va_up a 11 f) al))) rfl (fun h1 => ?_) (fun h1 => ?_)
  · skip
    have en : n = N := by omega
    exact zr_ret rfl trivial ⟨rfl, f, e, rfl, hf, he4, fun k l hk hl => (he k l hk hl).trans (by rw [en])⟩
  · skip
    have b5 : zx_S e i n ≤ 4 := he4 _ (zx_36 (by omega) (by omega))
    have m5 : q * zx_S e i n ≤ 4 * 4 := Nat.mul_le_mul (by omega) b5
    have m6 : q * q * zx_S e i n ≤ 4 * 4 * 4 := Nat.mul_le_mul (Nat.mul_le_mul (by omega) (by omega)) b5
    unfold zx_S at b5 m5 m6
    refine zr_go (t := (15, [some (.ref 2), some (.int (nI i)), some (.int (nI q)), some (.int (nI n))], [.int (nI i), .int (nI n), .int (nI n), .int (nI i), .ref 2], (zw_C g gl (va_up a 11 f) al))) 5 rfl ?_
    refine zr_ine (x := nI n) (y := nI i) n i rfl rfl (by omega) (by omega) (t := (24, [some (.ref 2), some (.int (nI i)), some (.int (nI q)), some (.int (nI n))], [.int (nI n), .int (nI i), .ref 2], (zw_C g gl (va_up a 11 f) al))) (f := (18, [some (.ref 2), some (.int (nI i)), some (.int (nI q)), some (.int (nI n))], [.int (nI n), .int (nI i), .ref 2], (zw_C g gl (va_up a 11 f) al))) rfl (fun h2 => ?_) (fun h2 => ?_)
    · skip
      refine zr_go (t := (28, [some (.ref 2), some (.int (nI i)), some (.int (nI q)), some (.int (nI n))], [.int (nI n), .int (nI i), .ref 2, .int (nI q), .int (nI n), .int (nI i), .ref 2], (zw_C g gl (va_up a 11 f) al))) 4 rfl ?_
      refine zr_call (t := (31, [some (.ref 2), some (.int (nI i)), some (.int (nI q)), some (.int (nI n))], [.int (nI q), .int (nI n), .int (nI i), .ref 2], (zw_C g gl (va_up a 11 f) al))) rfl (Nat.le_of_ble_eq_true rfl : 1 ≤ 2) (zs_C_cell_2 g gl (va_up a 11 f) al e hf i n (by omega) (by omega)) ?_
      rintro _ _ ⟨rfl, rfl⟩
      show zm_Run zt_get 2 zt_O_stretch (31, [some (.ref 2), some (.int (nI i)), some (.int (nI q)), some (.int (nI n))], [.int (nI (e (zq_pl i n))), .int (nI q), .int (nI n), .int (nI i), .ref 2], (zw_C g gl (va_up a 11 f) al)) _
      refine zr_go (t := (32, [some (.ref 2), some (.int (nI i)), some (.int (nI q)), some (.int (nI n))], [.int ((nI q) * (nI (e (zq_pl i n)))), .int (nI n), .int (nI i), .ref 2], (zw_C g gl (va_up a 11 f) al))) 1 rfl ?_
      rw [show (nI q) * (nI (e (zq_pl i n))) = nI (q * (e (zq_pl i n))) from (zn_mul rfl rfl)]
      refine zr_call (t := (35, [some (.ref 2), some (.int (nI i)), some (.int (nI q)), some (.int (nI n))], [], (zw_C g gl (va_up a 11 f) al))) rfl (Nat.le_of_ble_eq_true rfl : 2 ≤ 2) (zs_C_store g gl (va_up a 11 f) al P hP hP0 hP5 e hf i n (by omega) (by omega) (nI (q * (e (zq_pl i n))))) ?_
      rintro _ _ ⟨rfl, f2, rfl, hf2⟩
      show zm_Run zt_get 2 zt_O_stretch (35, [some (.ref 2), some (.int (nI i)), some (.int (nI q)), some (.int (nI n))], [], (zw_C g gl (va_up a 11 f2) al)) _
      rw [zz_modn (n := q * (e (zq_pl i n))) (by omega)] at hf2
      refine zr_go (t := (2, [some (.ref 2), some (.int (nI i)), some (.int (nI q)), some (.int ((nI n) + 1))], [], (zw_C g gl (va_up a 11 f2) al))) 2 rfl ?_
      rw [show (nI n) + 1 = nI (n + 1) from (zn_add rfl rfl)]
      exact ih (n + 1, f2, _) ⟨by omega, hf2, zx_c4 he4 (Nat.le_of_lt_succ (Nat.lt_of_lt_of_le (Nat.mod_lt _ hP0) hP5)), fun k l hk hl => (zx_Su (by omega) (by omega) (by omega) (by omega)).trans (by rw [← zx_st_s (zx_Sc c), if_neg h2]; unfold zx_up; rw [he k l hk hl, show e (zq_pl i n) = _ from he i n hi h1])⟩ (by omega)
    · skip
      refine zr_go (t := (28, [some (.ref 2), some (.int (nI i)), some (.int (nI q)), some (.int (nI n))], [.int (nI n), .int (nI i), .ref 2, .int ((nI q) * (nI q)), .int (nI n), .int (nI i), .ref 2], (zw_C g gl (va_up a 11 f) al))) 7 rfl ?_
      refine zr_call (t := (31, [some (.ref 2), some (.int (nI i)), some (.int (nI q)), some (.int (nI n))], [.int ((nI q) * (nI q)), .int (nI n), .int (nI i), .ref 2], (zw_C g gl (va_up a 11 f) al))) rfl (Nat.le_of_ble_eq_true rfl : 1 ≤ 2) (zs_C_cell_2 g gl (va_up a 11 f) al e hf i n (by omega) (by omega)) ?_
      rintro _ _ ⟨rfl, rfl⟩
      show zm_Run zt_get 2 zt_O_stretch (31, [some (.ref 2), some (.int (nI i)), some (.int (nI q)), some (.int (nI n))], [.int (nI (e (zq_pl i n))), .int ((nI q) * (nI q)), .int (nI n), .int (nI i), .ref 2], (zw_C g gl (va_up a 11 f) al)) _
      refine zr_go (t := (32, [some (.ref 2), some (.int (nI i)), some (.int (nI q)), some (.int (nI n))], [.int (((nI q) * (nI q)) * (nI (e (zq_pl i n)))), .int (nI n), .int (nI i), .ref 2], (zw_C g gl (va_up a 11 f) al))) 1 rfl ?_
      rw [show ((nI q) * (nI q)) * (nI (e (zq_pl i n))) = nI ((q * q) * (e (zq_pl i n))) from (zn_mul (zn_mul rfl rfl) rfl)]
      refine zr_call (t := (35, [some (.ref 2), some (.int (nI i)), some (.int (nI q)), some (.int (nI n))], [], (zw_C g gl (va_up a 11 f) al))) rfl (Nat.le_of_ble_eq_true rfl : 2 ≤ 2) (zs_C_store g gl (va_up a 11 f) al P hP hP0 hP5 e hf i n (by omega) (by omega) (nI ((q * q) * (e (zq_pl i n))))) ?_
      rintro _ _ ⟨rfl, f2, rfl, hf2⟩
      show zm_Run zt_get 2 zt_O_stretch (35, [some (.ref 2), some (.int (nI i)), some (.int (nI q)), some (.int (nI n))], [], (zw_C g gl (va_up a 11 f2) al)) _
      rw [zz_modn (n := (q * q) * (e (zq_pl i n))) (by omega)] at hf2
      refine zr_go (t := (2, [some (.ref 2), some (.int (nI i)), some (.int (nI q)), some (.int ((nI n) + 1))], [], (zw_C g gl (va_up a 11 f2) al))) 2 rfl ?_
      rw [show (nI n) + 1 = nI (n + 1) from (zn_add rfl rfl)]
      exact ih (n + 1, f2, _) ⟨by omega, hf2, zx_c4 he4 (Nat.le_of_lt_succ (Nat.lt_of_lt_of_le (Nat.mod_lt _ hP0) hP5)), fun k l hk hl => (zx_Su (by omega) (by omega) (by omega) (by omega)).trans (by rw [← zx_st_s (zx_Sc c), if_pos h2]; unfold zx_up; rw [he k l hk hl, show e (zq_pl i n) = _ from he i n hi h1])⟩ (by omega)
theorem zs_C_multiply (g : Nat → Int32) (gl : Nat → Int64) (a : Nat → Nat → Int32) (al : Nat → Nat → Int64) (P N : Nat) (hP : g 11 = nI P) (hN : g 12 = nI N) (hP0 : 0 < P) (hP5 : P ≤ 5) (hN6 : N ≤ 6) (c : Nat → Nat) (hm : zC_m (a 11) 6 c) (hc4 : ∀ k, k < 36 → c k ≤ 4) (hcP : ∀ k l, k < N → l < N → zx_S c k l < P) (q : Nat) (hq : q < P) : zm_Ev zt_get 3 16 [.ref 2, .int (nI q)] (zw_C g gl a al) (fun v w => v = none ∧ ∃ f e, w = (zw_C g gl (va_up a 11 f) al) ∧ zC_m f 6 e ∧ (∀ k, k < 36 → e k ≤ 4) ∧ ∀ k l, k < N → l < N → zx_S e k l = (q * zx_S c k l) % P) := by
  refine zr_ev zt_O_multiply rfl rfl ?_
  show zm_Run zt_get 2 zt_O_multiply (0, [some (.ref 2), some (.int (nI q)), none, none], [], (zw_C g gl a al)) _
  refine zr_go (t := (2, [some (.ref 2), some (.int (nI q)), some (.int 0), none], [], (zw_C g gl a al))) 2 rfl ?_
  refine zr_loop (fun zq : Nat × (Nat → Int32) × (Nat → Nat) => (2, [some (.ref 2), some (.int (nI q)), some (.int (nI zq.1)), none], [], (zw_C g gl (va_up a 11 zq.2.1) al))) (fun zq => zq.1 ≤ N ∧ zC_m zq.2.1 6 zq.2.2 ∧ (∀ k, k < 36 → zq.2.2 k ≤ 4) ∧ ∀ k l, k < N → l < N → zx_S zq.2.2 k l = zx_mu P (zx_S c) q zq.1 zq.1 k l) (fun zq => N - zq.1) ?_ (0, a 11, c) ⟨by omega, hm, hc4, fun k l _ _ => (zx_mu_0 q k l).symm⟩
  rintro ⟨n, f, e⟩ ⟨hn, hf, he4, he⟩ ih
  try dsimp only at *
  refine zr_go (t := (7, [some (.ref 2), some (.int (nI q)), some (.int (nI n)), none], [.int (g 12), .int (nI n)], (zw_C g gl (va_up a 11 f) al))) 3 rfl ?_
  refine zr_ige (x := nI n) (y := g 12) n N rfl hN (by omega) (by omega) (t := (46, [some (.ref 2), some (.int (nI q)), some (.int (nI n)), none], [], (zw_C g gl (va_up a 11 f) al))) (f := (10, [some (.ref 2), some (.int (nI q)), some (.int (nI n)), none], [], (zw_C g gl (va_up a 11 f) al))) rfl (fun h1 => ?_) (fun h1 => ?_)
  · skip
    exact zr_ret rfl trivial ⟨rfl, f, e, rfl, hf, he4, fun k l hk hl => (he k l hk hl).trans (by unfold zx_mu; rw [if_pos (by omega)])⟩
  · skip
    refine zr_go (t := (12, [some (.ref 2), some (.int (nI q)), some (.int (nI n)), some (.int (nI n))], [], (zw_C g gl (va_up a 11 f) al))) 2 rfl ?_
    refine zr_loop (fun zq : Nat × (Nat → Int32) × (Nat → Nat) => (12, [some (.ref 2), some (.int (nI q)), some (.int (nI n)), some (.int (nI zq.1))], [], (zw_C g gl (va_up a 11 zq.2.1) al))) (fun zq => n ≤ zq.1 ∧ zq.1 ≤ N ∧ zC_m zq.2.1 6 zq.2.2 ∧ (∀ k, k < 36 → zq.2.2 k ≤ 4) ∧ ∀ k l, k < N → l < N → zx_S zq.2.2 k l = zx_mu P (zx_S c) q n zq.1 k l) (fun zq => N - zq.1) ?_ (n, f, e) ⟨Nat.le_refl _, hn, hf, he4, he⟩
    rintro ⟨m, h, u⟩ ⟨hnm, hmN, hh, hu4, hu⟩ ih2
    try dsimp only at *
    refine zr_go (t := (17, [some (.ref 2), some (.int (nI q)), some (.int (nI n)), some (.int (nI m))], [.int (g 12), .int (nI m)], (zw_C g gl (va_up a 11 h) al))) 3 rfl ?_
    refine zr_ige (x := nI m) (y := g 12) m N rfl hN (by omega) (by omega) (t := (40, [some (.ref 2), some (.int (nI q)), some (.int (nI n)), some (.int (nI m))], [], (zw_C g gl (va_up a 11 h) al))) (f := (20, [some (.ref 2), some (.int (nI q)), some (.int (nI n)), some (.int (nI m))], [], (zw_C g gl (va_up a 11 h) al))) rfl (fun h2 => ?_) (fun h2 => ?_)
    · skip
      refine zr_go (t := (2, [some (.ref 2), some (.int (nI q)), some (.int ((nI n) + 1)), some (.int (nI m))], [], (zw_C g gl (va_up a 11 h) al))) 2 rfl ?_
      rw [show (nI n) + 1 = nI (n + 1) from (zn_add rfl rfl)]
      refine zr_forget [some (.ref 2), some (.int (nI q)), some (.int (nI (n + 1))), none] ⟨Or.inr rfl, Or.inr rfl, Or.inr rfl, Or.inl rfl, trivial⟩ ?_
      exact ih (n + 1, h, u) ⟨by omega, hh, hu4, fun k l hk hl => (hu k l hk hl).trans (by rw [show m = N by omega]; exact zx_mu_r hk hl)⟩ (by omega)
    · skip
      have b5 : zx_S u n m ≤ 4 := hu4 _ (zx_36 (by omega) (by omega))
      have m5 : q * zx_S u n m ≤ 4 * 4 := Nat.mul_le_mul (by omega) b5
      unfold zx_S at b5 m5
      refine zr_go (t := (27, [some (.ref 2), some (.int (nI q)), some (.int (nI n)), some (.int (nI m))], [.int (nI m), .int (nI n), .ref 2, .int (nI q), .int (nI m), .int (nI n), .ref 2], (zw_C g gl (va_up a 11 h) al))) 7 rfl ?_
      refine zr_call (t := (30, [some (.ref 2), some (.int (nI q)), some (.int (nI n)), some (.int (nI m))], [.int (nI q), .int (nI m), .int (nI n), .ref 2], (zw_C g gl (va_up a 11 h) al))) rfl (Nat.le_of_ble_eq_true rfl : 1 ≤ 2) (zs_C_cell_2 g gl (va_up a 11 h) al u hh n m (by omega) (by omega)) ?_
      rintro _ _ ⟨rfl, rfl⟩
      show zm_Run zt_get 2 zt_O_multiply (30, [some (.ref 2), some (.int (nI q)), some (.int (nI n)), some (.int (nI m))], [.int (nI (u (zq_pl n m))), .int (nI q), .int (nI m), .int (nI n), .ref 2], (zw_C g gl (va_up a 11 h) al)) _
      refine zr_go (t := (31, [some (.ref 2), some (.int (nI q)), some (.int (nI n)), some (.int (nI m))], [.int ((nI q) * (nI (u (zq_pl n m)))), .int (nI m), .int (nI n), .ref 2], (zw_C g gl (va_up a 11 h) al))) 1 rfl ?_
      rw [show (nI q) * (nI (u (zq_pl n m))) = nI (q * (u (zq_pl n m))) from (zn_mul rfl rfl)]
      refine zr_call (t := (34, [some (.ref 2), some (.int (nI q)), some (.int (nI n)), some (.int (nI m))], [], (zw_C g gl (va_up a 11 h) al))) rfl (Nat.le_of_ble_eq_true rfl : 2 ≤ 2) (zs_C_store g gl (va_up a 11 h) al P hP hP0 hP5 u hh n m (by omega) (by omega) (nI (q * (u (zq_pl n m))))) ?_
      rintro _ _ ⟨rfl, f2, rfl, hf2⟩
      show zm_Run zt_get 2 zt_O_multiply (34, [some (.ref 2), some (.int (nI q)), some (.int (nI n)), some (.int (nI m))], [], (zw_C g gl (va_up a 11 f2) al)) _
      rw [zz_modn (n := q * (u (zq_pl n m))) (by omega)] at hf2
      refine zr_go (t := (12, [some (.ref 2), some (.int (nI q)), some (.int (nI n)), some (.int ((nI m) + 1))], [], (zw_C g gl (va_up a 11 f2) al))) 2 rfl ?_
      rw [show (nI m) + 1 = nI (m + 1) from (zn_add rfl rfl)]
      exact ih2 (m + 1, f2, _) ⟨by omega, by omega, hf2, zx_c4 hu4 (Nat.le_of_lt_succ (Nat.lt_of_lt_of_le (Nat.mod_lt _ hP0) hP5)), fun k l hk hl => (zx_Su (by omega) (by omega) (by omega) (by omega)).trans (by rw [← zx_mu_s (zx_Sc c) hnm]; unfold zx_up; rw [hu k l hk hl, show u (zq_pl n m) = _ from hu n m h1 h2])⟩ (by omega)
