/-! the class: the search (written by wip/whole/gen_c10.py) -/
/-- a set is found; the choices for the open one that has the fewest; the walk through all sets -/
def zg_nt (t : Int64) (s : Nat × Int64) : Nat × Int64 := (s.1 + 1, if s.1 = 0 ∨ ¬ (t &&& (t ^^^ s.2)) &&& -(t ^^^ s.2) = 0 then t else s.2)
def zg_f1 (D : Nat → Int64) (o f : Int64) (k : Nat) (s : Int64 × Nat) : Int64 × Nat := if 1 < s.2 ∧ lb o k = true ∧ zC (lb (D k &&& f)) 64 < s.2 then (D k &&& f, zC (lb (D k &&& f)) 64) else s
def zg_fc (D : Nat → Int64) (o f : Int64) : Nat → Int64 × Nat
  | 0 => (0, 65)
  | k + 1 => zg_f1 D o f k (zg_fc D o f k)
def zg_fold {α : Type} (h : Nat → α → α) (x : Int64) : Nat → α → α
  | 0, s => s
  | k + 1, s => if lb x k = true then h k (zg_fold h x k s) else zg_fold h x k s
def zg_wk (C K D : Nat → Int64) (m : Nat) : Nat → Int64 → Int64 → Int64 → Nat × Int64 → Nat × Int64
  | 0, o, _, t, s => if o = 0 then zg_nt t s else s
  | r + 1, o, f, t, s => if o = 0 then zg_nt t s else zg_fold (fun k s => zg_wk C K D m r (o &&& (C k ^^^ -1)) (f &&& (K k ^^^ -1)) (t ||| zf_b k) s) (zg_fc D o f m).1 64 s
theorem zg_fc_end (D : Nat → Int64) (o f : Int64) (k : Nat) (h : (zg_fc D o f k).2 ≤ 1) : ∀ j, zg_fc D o f (k + j) = zg_fc D o f k
  | 0 => rfl
  | j + 1 => by
    have ih := zg_fc_end D o f k h j
    show zg_f1 D o f (k + j) (zg_fc D o f (k + j)) = _
    rw [ih]; unfold zg_f1
    rw [if_neg (fun q => by omega)]
theorem zg_fold_le {h : Nat → Nat × Int64 → Nat × Int64} (x : Int64) (hh : ∀ k s, s.1 ≤ (h k s).1) : ∀ k j s, (zg_fold h x k s).1 ≤ (zg_fold h x (k + j) s).1
  | _, 0, _ => Nat.le_refl _
  | k, j + 1, s => by
    refine Nat.le_trans (zg_fold_le x hh k j s) ?_
    show _ ≤ (if lb x (k + j) = true then h (k + j) (zg_fold h x (k + j) s) else zg_fold h x (k + j) s).1
    split
    · exact hh _ _
    · exact Nat.le_refl _
theorem zg_wk_le (C K D : Nat → Int64) (m : Nat) : ∀ r o f t s, s.1 ≤ (zg_wk C K D m r o f t s).1
  | 0, o, f, t, s => by
    show _ ≤ (if o = 0 then zg_nt t s else s).1
    split
    · exact Nat.le_succ _
    · exact Nat.le_refl _
  | r + 1, o, f, t, s => by
    show _ ≤ (if o = 0 then zg_nt t s else zg_fold _ _ 64 s).1
    split
    · exact Nat.le_succ _
    · exact zg_fold_le _ (fun k s => zg_wk_le C K D m r _ _ _ s) 0 64 s
/-- the k-th lowest bit taken away: what is left after the bits below p -/
def zg_rest (x : Int64) (p : Nat) : Int64 := zL (fun k => decide (p ≤ k) && lb x k) 64
theorem zg_rest_lb {x : Int64} {p k : Nat} : lb (zg_rest x p) k = (decide (p ≤ k) && lb x k) := by
  unfold zg_rest
  rw [lb_L 64 (Nat.le_refl _)]
  by_cases h : k < 64
  · rw [decide_eq_true h, Bool.true_and]
  · rw [decide_eq_false h, lb_ge (by omega), Bool.and_false]; rfl
theorem zg_rest_0 (x : Int64) : zg_rest x 0 = x := lb_ext (fun k _ => by rw [zg_rest_lb, decide_eq_true (Nat.zero_le k), Bool.true_and])
theorem zg_rest_n {x : Int64} {p : Nat} (h : lb x p = false) : zg_rest x (p + 1) = zg_rest x p := lb_ext (fun k _ => by
  rw [zg_rest_lb, zg_rest_lb]
  by_cases e : k = p
  · rw [e, h, Bool.and_false, Bool.and_false]
  · congr 1
    by_cases q : p ≤ k
    · rw [decide_eq_true q, decide_eq_true (by omega)]
    · rw [decide_eq_false q, decide_eq_false (by omega)])
theorem lb_sub1 {x : Int64} {j : Nat} (hj : j < 64) : lb (x - 1) j = !lb (-x) j := by
  unfold lb
  rw [Int64.toBitVec_sub, Int64.toBitVec_neg, show (1 : Int64).toBitVec = 1#64 from rfl, ← BitVec.not_neg, BitVec.getLsbD_not, decide_eq_true hj, Bool.true_and]
theorem lb_pred {x : Int64} {k : Nat} (hk : k < 64) : lb (x &&& (x - 1)) k = (lb x k && !decide (k = lb_low x)) := by
  rw [lb_and, lb_sub1 hk, lb_neg hk]
  cases hb : lb x k with
  | false => rfl
  | true =>
    rw [Bool.true_and, Bool.true_and, Bool.true_xor, Bool.not_not]
    rcases lb_low_ge (x := x) with ⟨-, h2⟩ | ⟨h1, h2, h3⟩
    · rw [h2 k hk] at hb; cases hb
    · by_cases e : k = lb_low x
      · rw [decide_eq_true e]
        exact decide_eq_false (fun ⟨i, hi, hi2⟩ => by rw [h3 i (by omega)] at hi2; cases hi2)
      · rw [decide_eq_false e]
        refine decide_eq_true ⟨lb_low x, ?_, h2⟩
        rcases Nat.lt_or_ge (lb_low x) k with q | q
        · exact q
        · rw [h3 k (by omega)] at hb; cases hb
theorem zC_flat {f : Nat → Bool} {p : Nat} : ∀ j, (∀ k, p ≤ k → k < p + j → f k = false) → zC f (p + j) = zC f p
  | 0, _ => rfl
  | j + 1, h => by
    show zC f (p + j) + (f (p + j)).toNat = _
    rw [h (p + j) (by omega) (by omega), zC_flat j (fun k h1 h2 => h k h1 (by omega))]; rfl
theorem zg_skip {α : Type} {h : Nat → α → α} {x : Int64} {p : Nat} {s : α} : ∀ j, (∀ k, p ≤ k → k < p + j → lb x k = false) → zg_fold h x (p + j) s = zg_fold h x p s
  | 0, _ => rfl
  | j + 1, hb => by
    show (if lb x (p + j) = true then _ else zg_fold h x (p + j) s) = _
    rw [if_neg (by rw [hb (p + j) (by omega) (by omega)]; decide), zg_skip j (fun k h1 h2 => hb k h1 (by omega))]
theorem zg_nx {x : Int64} {p : Nat} (h : zC (lb x) p < zC (lb x) 64) : ∃ q, q = lb_low (zg_rest x p) ∧ p ≤ q ∧ q < 64 ∧ lb x q = true ∧ (∀ k, p ≤ k → k < q → lb x k = false) ∧ zg_rest x p &&& (zg_rest x p - 1) = zg_rest x (q + 1) ∧ zC (lb x) (q + 1) = zC (lb x) p + 1 := by
  refine ⟨_, rfl, ?_⟩
  rcases lb_low_ge (x := zg_rest x p) with ⟨h1, h2⟩ | ⟨h1, h2, h3⟩
  · exfalso
    rcases Nat.lt_or_ge p 64 with q | q
    · have e := zC_flat (f := lb x) (p := p) (64 - p) (fun k k1 k2 => by
        have := h2 k (by omega)
        rw [zg_rest_lb, decide_eq_true k1, Bool.true_and] at this
        exact this)
      rw [show p + (64 - p) = 64 by omega] at e
      omega
    · have := zC_mono (lb x) q
      omega
  · generalize lb_low (zg_rest x p) = q at h1 h2 h3
    rw [zg_rest_lb] at h2
    have hp : p ≤ q := by
      by_cases e : p ≤ q
      · exact e
      · rw [decide_eq_false e] at h2; cases h2
    rw [decide_eq_true hp, Bool.true_and] at h2
    have h4 : ∀ k, p ≤ k → k < q → lb x k = false := fun k k1 k2 => by
      have := h3 k k2
      rw [zg_rest_lb, decide_eq_true k1, Bool.true_and] at this
      exact this
    have hl : lb_low (zg_rest x p) = q := by
      rcases lb_low_ge (x := zg_rest x p) with ⟨_, g2⟩ | ⟨_, g2, g3⟩
      · have := g2 q h1
        rw [zg_rest_lb, decide_eq_true hp, h2] at this; cases this
      · rcases Nat.lt_trichotomy (lb_low (zg_rest x p)) q with e | e | e
        · rw [h3 _ e] at g2; cases g2
        · exact e
        · have := g3 q e
          rw [zg_rest_lb, decide_eq_true hp, h2] at this; cases this
    refine ⟨hp, h1, h2, h4, lb_ext (fun k hk => ?_), ?_⟩
    · rw [lb_pred hk, hl, zg_rest_lb, zg_rest_lb]
      by_cases e1 : k = q
      · rw [decide_eq_true e1, decide_eq_false (show ¬ q + 1 ≤ k by omega), Bool.not_true, Bool.and_false]; rfl
      · rw [decide_eq_false e1, Bool.not_false, Bool.and_true]
        by_cases e2 : q + 1 ≤ k
        · rw [decide_eq_true e2, decide_eq_true (show p ≤ k by omega)]
        · rw [decide_eq_false e2, Bool.false_and]
          by_cases e3 : p ≤ k
          · rw [h4 k e3 (by omega), Bool.and_false]
          · rw [decide_eq_false e3]; rfl
    · show zC (lb x) q + (lb x q).toNat = _
      have e := zC_flat (f := lb x) (p := p) (q - p) (fun k k1 k2 => h4 k k1 (by omega))
      rw [show p + (q - p) = q by omega] at e
      rw [e, h2]; rfl
def zg_h (C K D : Nat → Int64) (m r : Nat) (o f t : Int64) (k : Nat) (s : Nat × Int64) : Nat × Int64 := zg_wk C K D m r (o &&& (C k ^^^ -1)) (f &&& (K k ^^^ -1)) (t ||| zf_b k) s
theorem zg_wk_s {C K D : Nat → Int64} {m r : Nat} {o f t : Int64} {s : Nat × Int64} (h : ¬ o = 0) : zg_wk C K D m (r + 1) o f t s = zg_fold (zg_h C K D m r o f t) (zg_fc D o f m).1 64 s := if_neg h
theorem zg_wk_z {C K D : Nat → Int64} {m : Nat} {r : Nat} {o f t : Int64} {s : Nat × Int64} (h : o = 0) : zg_wk C K D m r o f t s = zg_nt t s := by cases r <;> exact if_pos h
theorem zg_wk_0 {C K D : Nat → Int64} {m : Nat} {o f t : Int64} {s : Nat × Int64} (h : ¬ o = 0) : zg_wk C K D m 0 o f t s = s := if_neg h
theorem zg_fc_sub {D : Nat → Int64} {o f : Int64} {k : Nat} : ∀ m, lb (zg_fc D o f m).1 k = true → lb f k = true
  | 0, h => by
    have : lb 0 k = true := h
    rw [lb_0] at this; cases this
  | m + 1, h => by
    have h1 : lb (zg_f1 D o f m (zg_fc D o f m)).1 k = true := h
    unfold zg_f1 at h1
    split at h1
    · have h2 : lb (D m &&& f) k = true := h1
      rw [lb_and, Bool.and_eq_true] at h2
      exact h2.2
    · exact zg_fc_sub m h1
theorem zg_f1_n {D : Nat → Int64} {o f : Int64} {k : Nat} {s : Int64 × Nat} (h : ¬ (1 < s.2 ∧ lb o k = true ∧ zC (lb (D k &&& f)) 64 < s.2)) : zg_f1 D o f k s = s := if_neg h
theorem zg_f1_y {D : Nat → Int64} {o f : Int64} {k : Nat} {s : Int64 × Nat} (h : 1 < s.2 ∧ lb o k = true ∧ zC (lb (D k &&& f)) 64 < s.2) : zg_f1 D o f k s = (D k &&& f, zC (lb (D k &&& f)) 64) := if_pos h
theorem zg_sub_step {n : Nat} {f x : Int64} (h : zy_sub n f) : zy_sub n (f &&& x) := fun k hk => h k (by rw [lb_and, Bool.and_eq_true] at hk; exact hk.1)
theorem zs_C_note_8 (g : Nat → Int32) (gl : Nat → Int64) (a : Nat → Nat → Int32) (al : Nat → Nat → Int64) (t : Int64) (s : Nat × Int64) (hs : s.1 < 2 ^ 31) : zm_Ev zt_get 1 46 [.ref 8, .long t] (zw_C (upd g 27 (nI s.1)) (vp_updL gl 28 s.2) a al) (fun v w => v = none ∧ w = (zw_C (upd g 27 (nI ((zg_nt t s).1))) (vp_updL gl 28 ((zg_nt t s).2)) a al)) := by
  refine zr_ev zt_H_note rfl rfl ?_
  show zm_Run zt_get 0 zt_H_note (0, [some (.ref 8), some (.long t), none, none, none], [], (zw_C (upd g 27 (nI s.1)) (vp_updL gl 28 s.2) a al)) _
  refine zr_go (t := (11, [some (.ref 8), some (.long t), none, some (.long (t ^^^ s.2)), none], [.int (nI s.1)], (zw_C (upd g 27 (nI s.1)) (vp_updL gl 28 s.2) a al))) 7 rfl ?_
  refine zr_ieq (x := nI s.1) (y := 0) s.1 0 rfl rfl (by omega) (by omega) (t := (25, [some (.ref 8), some (.long t), none, some (.long (t ^^^ s.2)), none], [], (zw_C (upd g 27 (nI s.1)) (vp_updL gl 28 s.2) a al))) (f := (14, [some (.ref 8), some (.long t), none, some (.long (t ^^^ s.2)), none], [], (zw_C (upd g 27 (nI s.1)) (vp_updL gl 28 s.2) a al))) rfl (fun h1 => ?_) (fun h1 => ?_)
  · skip
    have e2 : (zg_nt t s).2 = t := if_pos (Or.inl h1)
    rw [e2]
    refine zr_go (t := (40, [some (.ref 8), some (.long t), none, some (.long (t ^^^ s.2)), none], [], (zw_C (upd g 27 ((nI s.1) + 1)) (vp_updL gl 28 t) a al))) 9 rfl ?_
    rw [show (nI s.1) + 1 = nI (s.1 + 1) from (zn_add rfl rfl)]
    exact zr_ret rfl trivial ⟨rfl, rfl⟩
  · skip
    refine zr_go (t := (22, [some (.ref 8), some (.long t), none, some (.long (t ^^^ s.2)), none], [.int (lg_cmp ((t &&& (t ^^^ s.2)) &&& (-(t ^^^ s.2))) 0)], (zw_C (upd g 27 (nI s.1)) (vp_updL gl 28 s.2) a al))) 8 rfl ?_
    refine zr_if (c := (lg_cmp ((t &&& (t ^^^ s.2)) &&& (-(t ^^^ s.2))) 0) = 0) (t := (30, [some (.ref 8), some (.long t), none, some (.long (t ^^^ s.2)), none], [], (zw_C (upd g 27 (nI s.1)) (vp_updL gl 28 s.2) a al))) (f := (25, [some (.ref 8), some (.long t), none, some (.long (t ^^^ s.2)), none], [], (zw_C (upd g 27 (nI s.1)) (vp_updL gl 28 s.2) a al))) rfl (fun hcm => ?_) (fun hcm => ?_)
    · skip
      have hz := (zcmp0 _).mp hcm
      have e2 : (zg_nt t s).2 = s.2 := if_neg (fun q => q.elim h1 (fun z => z hz))
      rw [e2]
      refine zr_go (t := (40, [some (.ref 8), some (.long t), none, some (.long (t ^^^ s.2)), none], [], (zw_C (upd g 27 ((nI s.1) + 1)) (vp_updL gl 28 s.2) a al))) 6 rfl ?_
      rw [show (nI s.1) + 1 = nI (s.1 + 1) from (zn_add rfl rfl)]
      exact zr_ret rfl trivial ⟨rfl, rfl⟩
    · skip
      have e2 : (zg_nt t s).2 = t := if_pos (Or.inr (fun q => hcm ((zcmp0 _).mpr q)))
      rw [e2]
      refine zr_go (t := (40, [some (.ref 8), some (.long t), none, some (.long (t ^^^ s.2)), none], [], (zw_C (upd g 27 ((nI s.1) + 1)) (vp_updL gl 28 t) a al))) 9 rfl ?_
      rw [show (nI s.1) + 1 = nI (s.1 + 1) from (zn_add rfl rfl)]
      exact zr_ret rfl trivial ⟨rfl, rfl⟩
theorem zs_C_note_9 (g : Nat → Int32) (gl : Nat → Int64) (a : Nat → Nat → Int32) (al : Nat → Nat → Int64) (t : Int64) (s : Nat × Int64) (hs : s.1 < 2 ^ 31) : zm_Ev zt_get 1 46 [.ref 9, .long t] (zw_C (upd g 29 (nI s.1)) (vp_updL gl 30 s.2) a al) (fun v w => v = none ∧ w = (zw_C (upd g 29 (nI ((zg_nt t s).1))) (vp_updL gl 30 ((zg_nt t s).2)) a al)) := by
  refine zr_ev zt_H_note rfl rfl ?_
  show zm_Run zt_get 0 zt_H_note (0, [some (.ref 9), some (.long t), none, none, none], [], (zw_C (upd g 29 (nI s.1)) (vp_updL gl 30 s.2) a al)) _
  refine zr_go (t := (11, [some (.ref 9), some (.long t), none, some (.long (t ^^^ s.2)), none], [.int (nI s.1)], (zw_C (upd g 29 (nI s.1)) (vp_updL gl 30 s.2) a al))) 7 rfl ?_
  refine zr_ieq (x := nI s.1) (y := 0) s.1 0 rfl rfl (by omega) (by omega) (t := (25, [some (.ref 9), some (.long t), none, some (.long (t ^^^ s.2)), none], [], (zw_C (upd g 29 (nI s.1)) (vp_updL gl 30 s.2) a al))) (f := (14, [some (.ref 9), some (.long t), none, some (.long (t ^^^ s.2)), none], [], (zw_C (upd g 29 (nI s.1)) (vp_updL gl 30 s.2) a al))) rfl (fun h1 => ?_) (fun h1 => ?_)
  · skip
    have e2 : (zg_nt t s).2 = t := if_pos (Or.inl h1)
    rw [e2]
    refine zr_go (t := (40, [some (.ref 9), some (.long t), none, some (.long (t ^^^ s.2)), none], [], (zw_C (upd g 29 ((nI s.1) + 1)) (vp_updL gl 30 t) a al))) 9 rfl ?_
    rw [show (nI s.1) + 1 = nI (s.1 + 1) from (zn_add rfl rfl)]
    exact zr_ret rfl trivial ⟨rfl, rfl⟩
  · skip
    refine zr_go (t := (22, [some (.ref 9), some (.long t), none, some (.long (t ^^^ s.2)), none], [.int (lg_cmp ((t &&& (t ^^^ s.2)) &&& (-(t ^^^ s.2))) 0)], (zw_C (upd g 29 (nI s.1)) (vp_updL gl 30 s.2) a al))) 8 rfl ?_
    refine zr_if (c := (lg_cmp ((t &&& (t ^^^ s.2)) &&& (-(t ^^^ s.2))) 0) = 0) (t := (30, [some (.ref 9), some (.long t), none, some (.long (t ^^^ s.2)), none], [], (zw_C (upd g 29 (nI s.1)) (vp_updL gl 30 s.2) a al))) (f := (25, [some (.ref 9), some (.long t), none, some (.long (t ^^^ s.2)), none], [], (zw_C (upd g 29 (nI s.1)) (vp_updL gl 30 s.2) a al))) rfl (fun hcm => ?_) (fun hcm => ?_)
    · skip
      have hz := (zcmp0 _).mp hcm
      have e2 : (zg_nt t s).2 = s.2 := if_neg (fun q => q.elim h1 (fun z => z hz))
      rw [e2]
      refine zr_go (t := (40, [some (.ref 9), some (.long t), none, some (.long (t ^^^ s.2)), none], [], (zw_C (upd g 29 ((nI s.1) + 1)) (vp_updL gl 30 s.2) a al))) 6 rfl ?_
      rw [show (nI s.1) + 1 = nI (s.1 + 1) from (zn_add rfl rfl)]
      exact zr_ret rfl trivial ⟨rfl, rfl⟩
    · skip
      have e2 : (zg_nt t s).2 = t := if_pos (Or.inr (fun q => hcm ((zcmp0 _).mpr q)))
      rw [e2]
      refine zr_go (t := (40, [some (.ref 9), some (.long t), none, some (.long (t ^^^ s.2)), none], [], (zw_C (upd g 29 ((nI s.1) + 1)) (vp_updL gl 30 t) a al))) 9 rfl ?_
      rw [show (nI s.1) + 1 = nI (s.1 + 1) from (zn_add rfl rfl)]
      exact zr_ret rfl trivial ⟨rfl, rfl⟩
theorem zs_C_fewest_8 (g : Nat → Int32) (gl : Nat → Int64) (a : Nat → Nat → Int32) (al : Nat → Nat → Int64) (m : Nat) (hm : g 25 = nI m) (hm64 : m ≤ 64) (D : Nat → Int64) (hD : ∀ k, k < m → al 27 k = D k) (o f : Int64) : zm_Ev zt_get 2 47 [.ref 8, .long o, .long f] (zw_C g gl a al) (fun v w => v = some (.long (zg_fc D o f m).1) ∧ w = (zw_C g gl a al)) := by
  refine zr_ev zt_H_fewestChoices rfl rfl ?_
  show zm_Run zt_get 1 zt_H_fewestChoices (0, [some (.ref 8), some (.long o), none, some (.long f), none, none, none, none, none, none, none, none], [], (zw_C g gl a al)) _
  refine zr_go (t := (10, [some (.ref 8), some (.long o), none, some (.long f), none, some (.long 0), none, some (.int 65), some (.int 0), none, none, none], [], (zw_C g gl a al))) 6 rfl ?_
  refine zr_loop (fun zq : Nat × Int64 × Nat => (10, [some (.ref 8), some (.long o), none, some (.long f), none, some (.long zq.2.1), none, some (.int (nI zq.2.2)), some (.int (nI zq.1)), none, none, none], [], (zw_C g gl a al))) (fun zq => zq.1 ≤ m ∧ zq.2.2 ≤ 65 ∧ zg_fc D o f zq.1 = (zq.2.1, zq.2.2)) (fun zq => m - zq.1) ?_ (0, 0, 65) ⟨(by (try dsimp only); omega), (by (try dsimp only); omega), rfl⟩
  rintro ⟨k, y, z⟩ ⟨hk, hz, hyz⟩ ih
  try dsimp only at *
  refine zr_go (t := (19, [some (.ref 8), some (.long o), none, some (.long f), none, some (.long y), none, some (.int (nI z)), some (.int (nI k)), none, none, none], [.int (g 25), .int (nI k)], (zw_C g gl a al))) 4 rfl ?_
  refine zr_ige (x := nI k) (y := g 25) k m rfl hm (by omega) (by omega) (t := (81, [some (.ref 8), some (.long o), none, some (.long f), none, some (.long y), none, some (.int (nI z)), some (.int (nI k)), none, none, none], [], (zw_C g gl a al))) (f := (22, [some (.ref 8), some (.long o), none, some (.long f), none, some (.long y), none, some (.int (nI z)), some (.int (nI k)), none, none, none], [], (zw_C g gl a al))) rfl (fun h1 => ?_) (fun h1 => ?_)
  · skip
    refine zr_go (t := (83, [some (.ref 8), some (.long o), none, some (.long f), none, some (.long y), none, some (.int (nI z)), some (.int (nI k)), none, none, none], [.long y], (zw_C g gl a al))) 1 rfl ?_
    exact zr_ret rfl trivial ⟨by rw [show m = k by omega, hyz], rfl⟩
  · skip
    refine zr_go (t := (25, [some (.ref 8), some (.long o), none, some (.long f), none, some (.long y), none, some (.int (nI z)), some (.int (nI k)), none, none, none], [.int 1, .int (nI z)], (zw_C g gl a al))) 2 rfl ?_
    refine zr_ile (x := nI z) (y := 1) z 1 rfl rfl (by omega) (by omega) (t := (81, [some (.ref 8), some (.long o), none, some (.long f), none, some (.long y), none, some (.int (nI z)), some (.int (nI k)), none, none, none], [], (zw_C g gl a al))) (f := (28, [some (.ref 8), some (.long o), none, some (.long f), none, some (.long y), none, some (.int (nI z)), some (.int (nI k)), none, none, none], [], (zw_C g gl a al))) rfl (fun h2 => ?_) (fun h2 => ?_)
    · skip
      have he := zg_fc_end D o f k (by rw [hyz]; exact h2) (m - k)
      rw [show k + (m - k) = m by omega, hyz] at he
      refine zr_go (t := (83, [some (.ref 8), some (.long o), none, some (.long f), none, some (.long y), none, some (.int (nI z)), some (.int (nI k)), none, none, none], [.long y], (zw_C g gl a al))) 1 rfl ?_
      exact zr_ret rfl trivial ⟨by rw [he], rfl⟩
    · skip
      have hst : zg_fc D o f (k + 1) = zg_f1 D o f k (y, z) := by rw [← hyz]; rfl
      refine zr_go (t := (34, [some (.ref 8), some (.long o), none, some (.long f), none, some (.long y), none, some (.int (nI z)), some (.int (nI k)), none, none, none], [.long (((o.toUInt64 >>> ((nI k).toInt64.toUInt64 &&& Int64.toUInt64 63)).toInt64) &&& 1)], (zw_C g gl a al))) 5 rfl ?_
      rw [lb_ush (x := o) (k := k) (by omega)]
      refine zr_go (t := (36, [some (.ref 8), some (.long o), none, some (.long f), none, some (.long y), none, some (.int (nI z)), some (.int (nI k)), none, none, none], [.int (lg_cmp (nL (lb o k).toNat) 0)], (zw_C g gl a al))) 2 rfl ?_
      refine zr_if (c := (lg_cmp (nL (lb o k).toNat) 0) = 0) (t := (75, [some (.ref 8), some (.long o), none, some (.long f), none, some (.long y), none, some (.int (nI z)), some (.int (nI k)), none, none, none], [], (zw_C g gl a al))) (f := (39, [some (.ref 8), some (.long o), none, some (.long f), none, some (.long y), none, some (.int (nI z)), some (.int (nI k)), none, none, none], [], (zw_C g gl a al))) rfl (fun hbit => ?_) (fun hbit => ?_)
      · skip
        have hb := zb_c0 hbit
        refine zr_go (t := (10, [some (.ref 8), some (.long o), none, some (.long f), none, some (.long y), none, some (.int (nI z)), some (.int ((nI k) + 1)), none, none, none], [], (zw_C g gl a al))) 2 rfl ?_
        rw [show (nI k) + 1 = nI (k + 1) from (zn_add rfl rfl)]
        exact ih (k + 1, y, z) ⟨by omega, hz, by rw [hst]; exact zg_f1_n (fun q => by rw [hb] at q; exact absurd q.2.1 (by decide))⟩ (by omega)
      · skip
        have hb := zb_c1 hbit
        refine zr_go (t := (48, [some (.ref 8), some (.long o), none, some (.long f), none, some (.long y), none, some (.int (nI z)), some (.int (nI k)), none, none, none], [.int (nI k), .ref 27], (zw_C g gl a al))) 4 rfl ?_
        refine zr_cd (t := (49, [some (.ref 8), some (.long o), none, some (.long f), none, some (.long y), none, some (.int (nI z)), some (.int (nI k)), none, none, none], [.long ((al 27) (nI k).toNatClampNeg)], (zw_C g gl a al))) rfl (pk_in k 64 (by omega) rfl (by omega)) ?_
        rw [pk_cl (x := (nI k)) k rfl (by omega)]
        rw [hD k h1]
        refine zr_go (t := (55, [some (.ref 8), some (.long o), none, some (.long f), none, some (.long y), none, some (.int (nI z)), some (.int (nI k)), some (.long ((D k) &&& f)), none, none], [.long ((D k) &&& f)], (zw_C g gl a al))) 4 rfl ?_
        refine zr_call (t := (58, [some (.ref 8), some (.long o), none, some (.long f), none, some (.long y), none, some (.int (nI z)), some (.int (nI k)), some (.long ((D k) &&& f)), none, none], [], (zw_C g gl a al))) rfl (Nat.le_of_ble_eq_true rfl : 1 ≤ 1) (zs_C_bitCount g gl a al (D k &&& f)) ?_
        rintro _ _ ⟨rfl, rfl⟩
        show zm_Run zt_get 1 zt_H_fewestChoices (58, [some (.ref 8), some (.long o), none, some (.long f), none, some (.long y), none, some (.int (nI z)), some (.int (nI k)), some (.long ((D k) &&& f)), none, none], [.int (nI (zC (lb (D k &&& f)) 64))], (zw_C g gl a al)) _
        have hc64 := zC_le (lb (D k &&& f)) 64
        refine zr_go (t := (64, [some (.ref 8), some (.long o), none, some (.long f), none, some (.long y), none, some (.int (nI z)), some (.int (nI k)), some (.long ((D k) &&& f)), none, some (.int (nI (zC (lb (D k &&& f)) 64)))], [.int (nI z), .int (nI (zC (lb (D k &&& f)) 64))], (zw_C g gl a al))) 3 rfl ?_
        refine zr_ige (x := nI (zC (lb (D k &&& f)) 64)) (y := nI z) (zC (lb (D k &&& f)) 64) z rfl rfl (by omega) (by omega) (t := (75, [some (.ref 8), some (.long o), none, some (.long f), none, some (.long y), none, some (.int (nI z)), some (.int (nI k)), some (.long ((D k) &&& f)), none, some (.int (nI (zC (lb (D k &&& f)) 64)))], [], (zw_C g gl a al))) (f := (67, [some (.ref 8), some (.long o), none, some (.long f), none, some (.long y), none, some (.int (nI z)), some (.int (nI k)), some (.long ((D k) &&& f)), none, some (.int (nI (zC (lb (D k &&& f)) 64)))], [], (zw_C g gl a al))) rfl (fun h3 => ?_) (fun h3 => ?_)
        · skip
          refine zr_go (t := (10, [some (.ref 8), some (.long o), none, some (.long f), none, some (.long y), none, some (.int (nI z)), some (.int ((nI k) + 1)), some (.long ((D k) &&& f)), none, some (.int (nI (zC (lb (D k &&& f)) 64)))], [], (zw_C g gl a al))) 2 rfl ?_
          rw [show (nI k) + 1 = nI (k + 1) from (zn_add rfl rfl)]
          refine zr_forget [some (.ref 8), some (.long o), none, some (.long f), none, some (.long y), none, some (.int (nI z)), some (.int (nI (k + 1))), none, none, none] ⟨Or.inr rfl, Or.inr rfl, Or.inr rfl, Or.inr rfl, Or.inr rfl, Or.inr rfl, Or.inr rfl, Or.inr rfl, Or.inr rfl, Or.inl rfl, Or.inr rfl, Or.inl rfl, trivial⟩ ?_
          exact ih (k + 1, y, z) ⟨by omega, hz, by rw [hst]; exact zg_f1_n (fun q => by have := q.2.2; omega)⟩ (by omega)
        · skip
          refine zr_go (t := (10, [some (.ref 8), some (.long o), none, some (.long f), none, some (.long ((D k) &&& f)), none, some (.int (nI (zC (lb (D k &&& f)) 64))), some (.int ((nI k) + 1)), some (.long ((D k) &&& f)), none, some (.int (nI (zC (lb (D k &&& f)) 64)))], [], (zw_C g gl a al))) 6 rfl ?_
          rw [show (nI k) + 1 = nI (k + 1) from (zn_add rfl rfl)]
          refine zr_forget [some (.ref 8), some (.long o), none, some (.long f), none, some (.long ((D k) &&& f)), none, some (.int (nI (zC (lb (D k &&& f)) 64))), some (.int (nI (k + 1))), none, none, none] ⟨Or.inr rfl, Or.inr rfl, Or.inr rfl, Or.inr rfl, Or.inr rfl, Or.inr rfl, Or.inr rfl, Or.inr rfl, Or.inr rfl, Or.inl rfl, Or.inr rfl, Or.inl rfl, trivial⟩ ?_
          exact ih (k + 1, D k &&& f, zC (lb (D k &&& f)) 64) ⟨(by (try dsimp only); omega), (by (try dsimp only); omega), by rw [hst]; exact zg_f1_y ⟨h2, hb, h3⟩⟩ (by omega)
theorem zs_C_fewest_9 (g : Nat → Int32) (gl : Nat → Int64) (a : Nat → Nat → Int32) (al : Nat → Nat → Int64) (m : Nat) (hm : g 23 = nI m) (hm64 : m ≤ 64) (D : Nat → Int64) (hD : ∀ k, k < m → al 24 k = D k) (o f : Int64) : zm_Ev zt_get 2 47 [.ref 9, .long o, .long f] (zw_C g gl a al) (fun v w => v = some (.long (zg_fc D o f m).1) ∧ w = (zw_C g gl a al)) := by
  refine zr_ev zt_H_fewestChoices rfl rfl ?_
  show zm_Run zt_get 1 zt_H_fewestChoices (0, [some (.ref 9), some (.long o), none, some (.long f), none, none, none, none, none, none, none, none], [], (zw_C g gl a al)) _
  refine zr_go (t := (10, [some (.ref 9), some (.long o), none, some (.long f), none, some (.long 0), none, some (.int 65), some (.int 0), none, none, none], [], (zw_C g gl a al))) 6 rfl ?_
  refine zr_loop (fun zq : Nat × Int64 × Nat => (10, [some (.ref 9), some (.long o), none, some (.long f), none, some (.long zq.2.1), none, some (.int (nI zq.2.2)), some (.int (nI zq.1)), none, none, none], [], (zw_C g gl a al))) (fun zq => zq.1 ≤ m ∧ zq.2.2 ≤ 65 ∧ zg_fc D o f zq.1 = (zq.2.1, zq.2.2)) (fun zq => m - zq.1) ?_ (0, 0, 65) ⟨(by (try dsimp only); omega), (by (try dsimp only); omega), rfl⟩
  rintro ⟨k, y, z⟩ ⟨hk, hz, hyz⟩ ih
  try dsimp only at *
  refine zr_go (t := (19, [some (.ref 9), some (.long o), none, some (.long f), none, some (.long y), none, some (.int (nI z)), some (.int (nI k)), none, none, none], [.int (g 23), .int (nI k)], (zw_C g gl a al))) 4 rfl ?_
  refine zr_ige (x := nI k) (y := g 23) k m rfl hm (by omega) (by omega) (t := (81, [some (.ref 9), some (.long o), none, some (.long f), none, some (.long y), none, some (.int (nI z)), some (.int (nI k)), none, none, none], [], (zw_C g gl a al))) (f := (22, [some (.ref 9), some (.long o), none, some (.long f), none, some (.long y), none, some (.int (nI z)), some (.int (nI k)), none, none, none], [], (zw_C g gl a al))) rfl (fun h1 => ?_) (fun h1 => ?_)
  · skip
    refine zr_go (t := (83, [some (.ref 9), some (.long o), none, some (.long f), none, some (.long y), none, some (.int (nI z)), some (.int (nI k)), none, none, none], [.long y], (zw_C g gl a al))) 1 rfl ?_
    exact zr_ret rfl trivial ⟨by rw [show m = k by omega, hyz], rfl⟩
  · skip
    refine zr_go (t := (25, [some (.ref 9), some (.long o), none, some (.long f), none, some (.long y), none, some (.int (nI z)), some (.int (nI k)), none, none, none], [.int 1, .int (nI z)], (zw_C g gl a al))) 2 rfl ?_
    refine zr_ile (x := nI z) (y := 1) z 1 rfl rfl (by omega) (by omega) (t := (81, [some (.ref 9), some (.long o), none, some (.long f), none, some (.long y), none, some (.int (nI z)), some (.int (nI k)), none, none, none], [], (zw_C g gl a al))) (f := (28, [some (.ref 9), some (.long o), none, some (.long f), none, some (.long y), none, some (.int (nI z)), some (.int (nI k)), none, none, none], [], (zw_C g gl a al))) rfl (fun h2 => ?_) (fun h2 => ?_)
    · skip
      have he := zg_fc_end D o f k (by rw [hyz]; exact h2) (m - k)
      rw [show k + (m - k) = m by omega, hyz] at he
      refine zr_go (t := (83, [some (.ref 9), some (.long o), none, some (.long f), none, some (.long y), none, some (.int (nI z)), some (.int (nI k)), none, none, none], [.long y], (zw_C g gl a al))) 1 rfl ?_
      exact zr_ret rfl trivial ⟨by rw [he], rfl⟩
    · skip
      have hst : zg_fc D o f (k + 1) = zg_f1 D o f k (y, z) := by rw [← hyz]; rfl
      refine zr_go (t := (34, [some (.ref 9), some (.long o), none, some (.long f), none, some (.long y), none, some (.int (nI z)), some (.int (nI k)), none, none, none], [.long (((o.toUInt64 >>> ((nI k).toInt64.toUInt64 &&& Int64.toUInt64 63)).toInt64) &&& 1)], (zw_C g gl a al))) 5 rfl ?_
      rw [lb_ush (x := o) (k := k) (by omega)]
      refine zr_go (t := (36, [some (.ref 9), some (.long o), none, some (.long f), none, some (.long y), none, some (.int (nI z)), some (.int (nI k)), none, none, none], [.int (lg_cmp (nL (lb o k).toNat) 0)], (zw_C g gl a al))) 2 rfl ?_
      refine zr_if (c := (lg_cmp (nL (lb o k).toNat) 0) = 0) (t := (75, [some (.ref 9), some (.long o), none, some (.long f), none, some (.long y), none, some (.int (nI z)), some (.int (nI k)), none, none, none], [], (zw_C g gl a al))) (f := (39, [some (.ref 9), some (.long o), none, some (.long f), none, some (.long y), none, some (.int (nI z)), some (.int (nI k)), none, none, none], [], (zw_C g gl a al))) rfl (fun hbit => ?_) (fun hbit => ?_)
      · skip
        have hb := zb_c0 hbit
        refine zr_go (t := (10, [some (.ref 9), some (.long o), none, some (.long f), none, some (.long y), none, some (.int (nI z)), some (.int ((nI k) + 1)), none, none, none], [], (zw_C g gl a al))) 2 rfl ?_
        rw [show (nI k) + 1 = nI (k + 1) from (zn_add rfl rfl)]
        exact ih (k + 1, y, z) ⟨by omega, hz, by rw [hst]; exact zg_f1_n (fun q => by rw [hb] at q; exact absurd q.2.1 (by decide))⟩ (by omega)
      · skip
        have hb := zb_c1 hbit
        refine zr_go (t := (48, [some (.ref 9), some (.long o), none, some (.long f), none, some (.long y), none, some (.int (nI z)), some (.int (nI k)), none, none, none], [.int (nI k), .ref 24], (zw_C g gl a al))) 4 rfl ?_
        refine zr_cd (t := (49, [some (.ref 9), some (.long o), none, some (.long f), none, some (.long y), none, some (.int (nI z)), some (.int (nI k)), none, none, none], [.long ((al 24) (nI k).toNatClampNeg)], (zw_C g gl a al))) rfl (pk_in k 64 (by omega) rfl (by omega)) ?_
        rw [pk_cl (x := (nI k)) k rfl (by omega)]
        rw [hD k h1]
        refine zr_go (t := (55, [some (.ref 9), some (.long o), none, some (.long f), none, some (.long y), none, some (.int (nI z)), some (.int (nI k)), some (.long ((D k) &&& f)), none, none], [.long ((D k) &&& f)], (zw_C g gl a al))) 4 rfl ?_
        refine zr_call (t := (58, [some (.ref 9), some (.long o), none, some (.long f), none, some (.long y), none, some (.int (nI z)), some (.int (nI k)), some (.long ((D k) &&& f)), none, none], [], (zw_C g gl a al))) rfl (Nat.le_of_ble_eq_true rfl : 1 ≤ 1) (zs_C_bitCount g gl a al (D k &&& f)) ?_
        rintro _ _ ⟨rfl, rfl⟩
        show zm_Run zt_get 1 zt_H_fewestChoices (58, [some (.ref 9), some (.long o), none, some (.long f), none, some (.long y), none, some (.int (nI z)), some (.int (nI k)), some (.long ((D k) &&& f)), none, none], [.int (nI (zC (lb (D k &&& f)) 64))], (zw_C g gl a al)) _
        have hc64 := zC_le (lb (D k &&& f)) 64
        refine zr_go (t := (64, [some (.ref 9), some (.long o), none, some (.long f), none, some (.long y), none, some (.int (nI z)), some (.int (nI k)), some (.long ((D k) &&& f)), none, some (.int (nI (zC (lb (D k &&& f)) 64)))], [.int (nI z), .int (nI (zC (lb (D k &&& f)) 64))], (zw_C g gl a al))) 3 rfl ?_
        refine zr_ige (x := nI (zC (lb (D k &&& f)) 64)) (y := nI z) (zC (lb (D k &&& f)) 64) z rfl rfl (by omega) (by omega) (t := (75, [some (.ref 9), some (.long o), none, some (.long f), none, some (.long y), none, some (.int (nI z)), some (.int (nI k)), some (.long ((D k) &&& f)), none, some (.int (nI (zC (lb (D k &&& f)) 64)))], [], (zw_C g gl a al))) (f := (67, [some (.ref 9), some (.long o), none, some (.long f), none, some (.long y), none, some (.int (nI z)), some (.int (nI k)), some (.long ((D k) &&& f)), none, some (.int (nI (zC (lb (D k &&& f)) 64)))], [], (zw_C g gl a al))) rfl (fun h3 => ?_) (fun h3 => ?_)
        · skip
          refine zr_go (t := (10, [some (.ref 9), some (.long o), none, some (.long f), none, some (.long y), none, some (.int (nI z)), some (.int ((nI k) + 1)), some (.long ((D k) &&& f)), none, some (.int (nI (zC (lb (D k &&& f)) 64)))], [], (zw_C g gl a al))) 2 rfl ?_
          rw [show (nI k) + 1 = nI (k + 1) from (zn_add rfl rfl)]
          refine zr_forget [some (.ref 9), some (.long o), none, some (.long f), none, some (.long y), none, some (.int (nI z)), some (.int (nI (k + 1))), none, none, none] ⟨Or.inr rfl, Or.inr rfl, Or.inr rfl, Or.inr rfl, Or.inr rfl, Or.inr rfl, Or.inr rfl, Or.inr rfl, Or.inr rfl, Or.inl rfl, Or.inr rfl, Or.inl rfl, trivial⟩ ?_
          exact ih (k + 1, y, z) ⟨by omega, hz, by rw [hst]; exact zg_f1_n (fun q => by have := q.2.2; omega)⟩ (by omega)
        · skip
          refine zr_go (t := (10, [some (.ref 9), some (.long o), none, some (.long f), none, some (.long ((D k) &&& f)), none, some (.int (nI (zC (lb (D k &&& f)) 64))), some (.int ((nI k) + 1)), some (.long ((D k) &&& f)), none, some (.int (nI (zC (lb (D k &&& f)) 64)))], [], (zw_C g gl a al))) 6 rfl ?_
          rw [show (nI k) + 1 = nI (k + 1) from (zn_add rfl rfl)]
          refine zr_forget [some (.ref 9), some (.long o), none, some (.long f), none, some (.long ((D k) &&& f)), none, some (.int (nI (zC (lb (D k &&& f)) 64))), some (.int (nI (k + 1))), none, none, none] ⟨Or.inr rfl, Or.inr rfl, Or.inr rfl, Or.inr rfl, Or.inr rfl, Or.inr rfl, Or.inr rfl, Or.inr rfl, Or.inr rfl, Or.inl rfl, Or.inr rfl, Or.inl rfl, trivial⟩ ?_
          exact ih (k + 1, D k &&& f, zC (lb (D k &&& f)) 64) ⟨(by (try dsimp only); omega), (by (try dsimp only); omega), by rw [hst]; exact zg_f1_y ⟨h2, hb, h3⟩⟩ (by omega)
theorem zg_no {x : Int64} {p : Nat} (h : zC (lb x) 64 ≤ zC (lb x) p) (k : Nat) (h1 : p ≤ k) (h2 : k < 64) : lb x k = false := by
  cases hb : lb x k with
  | false => rfl
  | true =>
    exfalso
    have e1 := zC_mono (lb x) (show k + 1 ≤ 64 by omega)
    have e2 := zC_mono (lb x) h1
    have e3 : zC (lb x) (k + 1) = zC (lb x) k + (lb x k).toNat := rfl
    rw [hb] at e3
    have e4 : zC (lb x) (k + 1) = zC (lb x) k + 1 := e3
    omega
theorem zs_C_walk_8 (a : Nat → Nat → Int32) (al : Nat → Nat → Int64) (n : Nat) (hn64 : n ≤ 64) (m : Nat) (hm64 : m ≤ 64) (C : Nat → Int64) (hC : ∀ k, k < n → al 24 k = C k) (K : Nat → Int64) (hK : ∀ k, k < n → al 25 k = K k) (D : Nat → Int64) (hD : ∀ k, k < m → al 27 k = D k) : ∀ (r : Nat) (g : Nat → Int32) (gl : Nat → Int64) (hm : g 25 = nI m) (o f t : Int64) (hf : zy_sub n f) (dep : Nat) (hdep : dep < 1000) (hr : 40 - dep = r) (s : Nat × Int64) (hB : (zg_wk C K D m r o f t s).1 < 2 ^ 31), zm_Ev zt_get (r + 4) 45 [.ref 8, .long o, .long f, .long t, .int (nI dep)] (zw_C (upd g 27 (nI s.1)) (vp_updL gl 28 s.2) a al) (fun v w => v = none ∧ w = (zw_C (upd g 27 (nI ((zg_wk C K D m r o f t s).1))) (vp_updL gl 28 ((zg_wk C K D m r o f t s).2)) a al)) := by
  intro r
  induction r with
  | zero =>
    intro g gl hm o f t hf dep hdep hr s hB
    refine zr_ev zt_H_walk rfl rfl ?_
    show zm_Run zt_get (0 + 3) zt_H_walk (0, [some (.ref 8), some (.long o), none, some (.long f), none, some (.long t), none, some (.int (nI dep)), none, none, none, none, none], [], (zw_C (upd g 27 (nI s.1)) (vp_updL gl 28 s.2) a al)) _
    refine zr_go (t := (3, [some (.ref 8), some (.long o), none, some (.long f), none, some (.long t), none, some (.int (nI dep)), none, none, none, none, none], [.int (lg_cmp o 0)], (zw_C (upd g 27 (nI s.1)) (vp_updL gl 28 s.2) a al))) 3 rfl ?_
    refine zr_if (c := lg_cmp o 0 = 0) (t := (6, [some (.ref 8), some (.long o), none, some (.long f), none, some (.long t), none, some (.int (nI dep)), none, none, none, none, none], [], (zw_C (upd g 27 (nI s.1)) (vp_updL gl 28 s.2) a al))) (f := (13, [some (.ref 8), some (.long o), none, some (.long f), none, some (.long t), none, some (.int (nI dep)), none, none, none, none, none], [], (zw_C (upd g 27 (nI s.1)) (vp_updL gl 28 s.2) a al))) rfl (fun hcm => ?_) (fun hcm => ?_)
    · skip
      have hz := (zcmp0 _).mp hcm
      have ew : zg_wk C K D m 0 o f t s = zg_nt t s := zg_wk_z hz
      rw [ew] at hB ⊢
      refine zr_go (t := (9, [some (.ref 8), some (.long o), none, some (.long f), none, some (.long t), none, some (.int (nI dep)), none, none, none, none, none], [.long t, .ref 8], (zw_C (upd g 27 (nI s.1)) (vp_updL gl 28 s.2) a al))) 2 rfl ?_
      refine zr_call (t := (12, [some (.ref 8), some (.long o), none, some (.long f), none, some (.long t), none, some (.int (nI dep)), none, none, none, none, none], [], (zw_C (upd g 27 (nI s.1)) (vp_updL gl 28 s.2) a al))) rfl (by omega : 1 ≤ (0 + 3)) (zs_C_note_8 g gl a al t s (by have : (zg_nt t s).1 = s.1 + 1 := rfl; omega)) ?_
      rintro _ _ ⟨rfl, rfl⟩
      show zm_Run zt_get (0 + 3) zt_H_walk (12, [some (.ref 8), some (.long o), none, some (.long f), none, some (.long t), none, some (.int (nI dep)), none, none, none, none, none], [], (zw_C (upd g 27 (nI ((zg_nt t s).1))) (vp_updL gl 28 ((zg_nt t s).2)) a al)) _
      exact zr_ret rfl trivial ⟨rfl, rfl⟩
    · skip
      have hz : ¬ o = 0 := fun q => hcm ((zcmp0 _).mpr q)
      refine zr_go (t := (17, [some (.ref 8), some (.long o), none, some (.long f), none, some (.long t), none, some (.int (nI dep)), none, none, none, none, none], [.int 40, .int (nI dep)], (zw_C (upd g 27 (nI s.1)) (vp_updL gl 28 s.2) a al))) 2 rfl ?_
      refine zr_ilt (x := nI dep) (y := 40) dep 40 rfl rfl (by omega) (by omega) (t := (21, [some (.ref 8), some (.long o), none, some (.long f), none, some (.long t), none, some (.int (nI dep)), none, none, none, none, none], [], (zw_C (upd g 27 (nI s.1)) (vp_updL gl 28 s.2) a al))) (f := (20, [some (.ref 8), some (.long o), none, some (.long f), none, some (.long t), none, some (.int (nI dep)), none, none, none, none, none], [], (zw_C (upd g 27 (nI s.1)) (vp_updL gl 28 s.2) a al))) rfl (fun h1 => ?_) (fun h1 => ?_)
      · skip
        exfalso; omega
      · skip
        rw [zg_wk_0 hz]
        exact zr_ret rfl trivial ⟨rfl, rfl⟩
  | succ r ihr =>
    intro g gl hm o f t hf dep hdep hr s hB
    refine zr_ev zt_H_walk rfl rfl ?_
    show zm_Run zt_get ((r + 1) + 3) zt_H_walk (0, [some (.ref 8), some (.long o), none, some (.long f), none, some (.long t), none, some (.int (nI dep)), none, none, none, none, none], [], (zw_C (upd g 27 (nI s.1)) (vp_updL gl 28 s.2) a al)) _
    refine zr_go (t := (3, [some (.ref 8), some (.long o), none, some (.long f), none, some (.long t), none, some (.int (nI dep)), none, none, none, none, none], [.int (lg_cmp o 0)], (zw_C (upd g 27 (nI s.1)) (vp_updL gl 28 s.2) a al))) 3 rfl ?_
    refine zr_if (c := lg_cmp o 0 = 0) (t := (6, [some (.ref 8), some (.long o), none, some (.long f), none, some (.long t), none, some (.int (nI dep)), none, none, none, none, none], [], (zw_C (upd g 27 (nI s.1)) (vp_updL gl 28 s.2) a al))) (f := (13, [some (.ref 8), some (.long o), none, some (.long f), none, some (.long t), none, some (.int (nI dep)), none, none, none, none, none], [], (zw_C (upd g 27 (nI s.1)) (vp_updL gl 28 s.2) a al))) rfl (fun hcm => ?_) (fun hcm => ?_)
    · skip
      have hz := (zcmp0 _).mp hcm
      have ew : zg_wk C K D m (r + 1) o f t s = zg_nt t s := zg_wk_z hz
      rw [ew] at hB ⊢
      refine zr_go (t := (9, [some (.ref 8), some (.long o), none, some (.long f), none, some (.long t), none, some (.int (nI dep)), none, none, none, none, none], [.long t, .ref 8], (zw_C (upd g 27 (nI s.1)) (vp_updL gl 28 s.2) a al))) 2 rfl ?_
      refine zr_call (t := (12, [some (.ref 8), some (.long o), none, some (.long f), none, some (.long t), none, some (.int (nI dep)), none, none, none, none, none], [], (zw_C (upd g 27 (nI s.1)) (vp_updL gl 28 s.2) a al))) rfl (by omega : 1 ≤ ((r + 1) + 3)) (zs_C_note_8 g gl a al t s (by have : (zg_nt t s).1 = s.1 + 1 := rfl; omega)) ?_
      rintro _ _ ⟨rfl, rfl⟩
      show zm_Run zt_get ((r + 1) + 3) zt_H_walk (12, [some (.ref 8), some (.long o), none, some (.long f), none, some (.long t), none, some (.int (nI dep)), none, none, none, none, none], [], (zw_C (upd g 27 (nI ((zg_nt t s).1))) (vp_updL gl 28 ((zg_nt t s).2)) a al)) _
      exact zr_ret rfl trivial ⟨rfl, rfl⟩
    · skip
      have hz : ¬ o = 0 := fun q => hcm ((zcmp0 _).mpr q)
      refine zr_go (t := (17, [some (.ref 8), some (.long o), none, some (.long f), none, some (.long t), none, some (.int (nI dep)), none, none, none, none, none], [.int 40, .int (nI dep)], (zw_C (upd g 27 (nI s.1)) (vp_updL gl 28 s.2) a al))) 2 rfl ?_
      refine zr_ilt (x := nI dep) (y := 40) dep 40 rfl rfl (by omega) (by omega) (t := (21, [some (.ref 8), some (.long o), none, some (.long f), none, some (.long t), none, some (.int (nI dep)), none, none, none, none, none], [], (zw_C (upd g 27 (nI s.1)) (vp_updL gl 28 s.2) a al))) (f := (20, [some (.ref 8), some (.long o), none, some (.long f), none, some (.long t), none, some (.int (nI dep)), none, none, none, none, none], [], (zw_C (upd g 27 (nI s.1)) (vp_updL gl 28 s.2) a al))) rfl (fun h1 => ?_) (fun h1 => ?_)
      · skip
        rw [zg_wk_s hz] at hB ⊢
        refine zr_go (t := (30, [some (.ref 8), some (.long o), none, some (.long f), none, some (.long t), none, some (.int (nI dep)), some (.ref 6), none, none, none, none], [.long f, .long o, .ref 8], (zw_C (upd g 27 (nI s.1)) (vp_updL gl 28 s.2) a al))) 6 rfl ?_
        refine zr_call (t := (33, [some (.ref 8), some (.long o), none, some (.long f), none, some (.long t), none, some (.int (nI dep)), some (.ref 6), none, none, none, none], [], (zw_C (upd g 27 (nI s.1)) (vp_updL gl 28 s.2) a al))) rfl (by omega : 2 ≤ ((r + 1) + 3)) (zs_C_fewest_8 (upd g 27 (nI s.1)) (vp_updL gl 28 s.2) a al m hm hm64 D hD o f) ?_
        rintro _ _ ⟨rfl, rfl⟩
        show zm_Run zt_get ((r + 1) + 3) zt_H_walk (33, [some (.ref 8), some (.long o), none, some (.long f), none, some (.long t), none, some (.int (nI dep)), some (.ref 6), none, none, none, none], [.long ((zg_fc D o f m).1)], (zw_C (upd g 27 (nI s.1)) (vp_updL gl 28 s.2) a al)) _
        have hsub : zy_sub n (zg_fc D o f m).1 := fun k hk => hf k (zg_fc_sub m hk)
        generalize (zg_fc D o f m).1 = X at hB hsub ⊢
        refine zr_go (t := (37, [some (.ref 8), some (.long o), none, some (.long f), none, some (.long t), none, some (.int (nI dep)), some (.ref 6), some (.long X), none, none, none], [.long X], (zw_C (upd g 27 (nI s.1)) (vp_updL gl 28 s.2) a al))) 2 rfl ?_
        refine zr_call (t := (40, [some (.ref 8), some (.long o), none, some (.long f), none, some (.long t), none, some (.int (nI dep)), some (.ref 6), some (.long X), none, none, none], [], (zw_C (upd g 27 (nI s.1)) (vp_updL gl 28 s.2) a al))) rfl (by omega : 1 ≤ ((r + 1) + 3)) (zs_C_bitCount (upd g 27 (nI s.1)) (vp_updL gl 28 s.2) a al X) ?_
        rintro _ _ ⟨rfl, rfl⟩
        show zm_Run zt_get ((r + 1) + 3) zt_H_walk (40, [some (.ref 8), some (.long o), none, some (.long f), none, some (.long t), none, some (.int (nI dep)), some (.ref 6), some (.long X), none, none, none], [.int (nI (zC (lb X) 64))], (zw_C (upd g 27 (nI s.1)) (vp_updL gl 28 s.2) a al)) _
        refine zr_go (t := (42, [some (.ref 8), some (.long o), none, some (.long f), none, some (.long t), none, some (.int (nI dep)), some (.ref 6), some (.long X), none, some (.int (nI (zC (lb X) 64))), none], [], (zw_C (upd g 27 (nI s.1)) (vp_updL gl 28 s.2) a al))) 1 rfl ?_
        refine zr_loop (fun zq : Nat × Int64 × Nat × Int64 × Nat => (42, [some (.ref 8), some (.long o), none, some (.long f), none, some (.long t), none, some (.int (nI dep)), some (.ref 6), some (.long zq.2.1), none, some (.int (nI zq.1)), none], [], (zw_C (upd g 27 (nI zq.2.2.1)) (vp_updL gl 28 zq.2.2.2.1) a al))) (fun zq => zq.2.2.2.2 ≤ 64 ∧ zq.1 + zC (lb X) zq.2.2.2.2 = zC (lb X) 64 ∧ zq.2.1 = zg_rest X zq.2.2.2.2 ∧ zg_fold (zg_h C K D m r o f t) X zq.2.2.2.2 s = (zq.2.2.1, zq.2.2.2.1)) (fun zq => zq.1) ?_ (zC (lb X) 64, X, s.1, s.2, 0) ⟨(by (try dsimp only); omega), Nat.add_zero _, (zg_rest_0 X).symm, rfl⟩
        rintro ⟨q, y, u, v, p⟩ ⟨hp, hq, hy, huv⟩ ih
        try dsimp only at *
        have hc64 := zC_le (lb X) 64
        refine zr_go (t := (44, [some (.ref 8), some (.long o), none, some (.long f), none, some (.long t), none, some (.int (nI dep)), some (.ref 6), some (.long y), none, some (.int (nI q)), none], [.int (nI q)], (zw_C (upd g 27 (nI u)) (vp_updL gl 28 v) a al))) 1 rfl ?_
        refine zr_ile (x := nI q) (y := 0) q 0 rfl rfl (by omega) (by omega) (t := (112, [some (.ref 8), some (.long o), none, some (.long f), none, some (.long t), none, some (.int (nI dep)), some (.ref 6), some (.long y), none, some (.int (nI q)), none], [], (zw_C (upd g 27 (nI u)) (vp_updL gl 28 v) a al))) (f := (47, [some (.ref 8), some (.long o), none, some (.long f), none, some (.long t), none, some (.int (nI dep)), some (.ref 6), some (.long y), none, some (.int (nI q)), none], [], (zw_C (upd g 27 (nI u)) (vp_updL gl 28 v) a al))) rfl (fun h2 => ?_) (fun h2 => ?_)
        · skip
          have e64 : zg_fold (zg_h C K D m r o f t) X 64 s = (u, v) := by
            have e := zg_skip (h := (zg_h C K D m r o f t)) (x := X) (p := p) (s := s) (64 - p) (fun k k1 k2 => zg_no (by omega) k k1 (by omega))
            rw [show p + (64 - p) = 64 by omega] at e
            rw [e, huv]
          rw [e64]
          exact zr_ret rfl trivial ⟨rfl, rfl⟩
        · skip
          obtain ⟨j, hj, hpj, hj64, hbj, hgap, hrest, hcnt⟩ := zg_nx (x := X) (p := p) (by omega)
          subst hy
          have hjn := hsub j hbj
          have ej : zg_fold (zg_h C K D m r o f t) X (j + 1) s = (zg_h C K D m r o f t) j (u, v) := by
            show (if lb X j = true then _ else _) = _
            have e := zg_skip (h := (zg_h C K D m r o f t)) (x := X) (p := p) (s := s) (j - p) (fun k k1 k2 => hgap k k1 (by omega))
            rw [show p + (j - p) = j by omega] at e
            rw [if_pos hbj, e, huv]
          have hle := zg_fold_le (h := (zg_h C K D m r o f t)) X (fun k s => zg_wk_le C K D m r _ _ _ s) (j + 1) (64 - (j + 1)) s
          rw [show j + 1 + (64 - (j + 1)) = 64 by omega, ej] at hle
          refine zr_go (t := (49, [some (.ref 8), some (.long o), none, some (.long f), none, some (.long t), none, some (.int (nI dep)), some (.ref 6), some (.long (zg_rest X p)), none, some (.int (nI q)), none], [.long (zg_rest X p)], (zw_C (upd g 27 (nI u)) (vp_updL gl 28 v) a al))) 1 rfl ?_
          refine zr_call (t := (52, [some (.ref 8), some (.long o), none, some (.long f), none, some (.long t), none, some (.int (nI dep)), some (.ref 6), some (.long (zg_rest X p)), none, some (.int (nI q)), none], [], (zw_C (upd g 27 (nI u)) (vp_updL gl 28 v) a al))) rfl (by omega : 2 ≤ ((r + 1) + 3)) (zs_C_lowestBit (upd g 27 (nI u)) (vp_updL gl 28 v) a al (zg_rest X p)) ?_
          rintro _ _ ⟨rfl, rfl⟩
          show zm_Run zt_get ((r + 1) + 3) zt_H_walk (52, [some (.ref 8), some (.long o), none, some (.long f), none, some (.long t), none, some (.int (nI dep)), some (.ref 6), some (.long (zg_rest X p)), none, some (.int (nI q)), none], [.int (nI (lb_low (zg_rest X p)))], (zw_C (upd g 27 (nI u)) (vp_updL gl 28 v) a al)) _
          rw [← hj]
          refine zr_go (t := (63, [some (.ref 8), some (.long o), none, some (.long f), none, some (.long t), none, some (.int (nI dep)), some (.ref 6), some (.long ((zg_rest X p) &&& ((zg_rest X p) - 1))), none, some (.int (nI q)), some (.int (nI j))], [], (zw_C (upd g 27 (nI u)) (vp_updL gl 28 v) a al))) 7 rfl ?_
          rw [hrest]
          refine zr_go (t := (72, [some (.ref 8), some (.long o), none, some (.long f), none, some (.long t), none, some (.int (nI dep)), some (.ref 6), some (.long (zg_rest X (j + 1))), none, some (.int (nI q)), some (.int (nI j))], [.int (nI j), .ref 24, .long o, .ref 8], (zw_C (upd g 27 (nI u)) (vp_updL gl 28 v) a al))) 5 rfl ?_
          refine zr_cd (t := (73, [some (.ref 8), some (.long o), none, some (.long f), none, some (.long t), none, some (.int (nI dep)), some (.ref 6), some (.long (zg_rest X (j + 1))), none, some (.int (nI q)), some (.int (nI j))], [.long ((al 24) (nI j).toNatClampNeg), .long o, .ref 8], (zw_C (upd g 27 (nI u)) (vp_updL gl 28 v) a al))) rfl (pk_in j 64 (by omega) rfl (by omega)) ?_
          rw [pk_cl (x := (nI j)) j rfl (by omega)]
          rw [hC j hjn]
          refine zr_go (t := (86, [some (.ref 8), some (.long o), none, some (.long f), none, some (.long t), none, some (.int (nI dep)), some (.ref 6), some (.long (zg_rest X (j + 1))), none, some (.int (nI q)), some (.int (nI j))], [.int (nI j), .ref 25, .long f, .long (o &&& ((C j) ^^^ (-1))), .ref 8], (zw_C (upd g 27 (nI u)) (vp_updL gl 28 v) a al))) 7 rfl ?_
          refine zr_cd (t := (87, [some (.ref 8), some (.long o), none, some (.long f), none, some (.long t), none, some (.int (nI dep)), some (.ref 6), some (.long (zg_rest X (j + 1))), none, some (.int (nI q)), some (.int (nI j))], [.long ((al 25) (nI j).toNatClampNeg), .long f, .long (o &&& ((C j) ^^^ (-1))), .ref 8], (zw_C (upd g 27 (nI u)) (vp_updL gl 28 v) a al))) rfl (pk_in j 64 (by omega) rfl (by omega)) ?_
          rw [pk_cl (x := (nI j)) j rfl (by omega)]
          rw [hK j hjn]
          refine zr_go (t := (103, [some (.ref 8), some (.long o), none, some (.long f), none, some (.long t), none, some (.int (nI dep)), some (.ref 6), some (.long (zg_rest X (j + 1))), none, some (.int (nI q)), some (.int (nI j))], [.int ((nI dep) + 1), .long (t ||| (1 <<< ((nI j).toInt64 &&& 63))), .long (f &&& ((K j) ^^^ (-1))), .long (o &&& ((C j) ^^^ (-1))), .ref 8], (zw_C (upd g 27 (nI u)) (vp_updL gl 28 v) a al))) 11 rfl ?_
          rw [show (nI dep) + 1 = nI (dep + 1) from (zn_add rfl rfl)]
          refine zr_call (t := (106, [some (.ref 8), some (.long o), none, some (.long f), none, some (.long t), none, some (.int (nI dep)), some (.ref 6), some (.long (zg_rest X (j + 1))), none, some (.int (nI q)), some (.int (nI j))], [], (zw_C (upd g 27 (nI u)) (vp_updL gl 28 v) a al))) rfl (by omega : (r + 4) ≤ ((r + 1) + 3)) (ihr g gl hm (o &&& (C j ^^^ -1)) (f &&& (K j ^^^ -1)) (t ||| zf_b j) (zg_sub_step hf) (dep + 1) (by omega) (by omega) (u, v) (Nat.lt_of_le_of_lt hle hB)) ?_
          rintro _ _ ⟨rfl, rfl⟩
          show zm_Run zt_get ((r + 1) + 3) zt_H_walk (106, [some (.ref 8), some (.long o), none, some (.long f), none, some (.long t), none, some (.int (nI dep)), some (.ref 6), some (.long (zg_rest X (j + 1))), none, some (.int (nI q)), some (.int (nI j))], [], (zw_C (upd g 27 (nI (((zg_h C K D m r o f t) j (u, v)).1))) (vp_updL gl 28 (((zg_h C K D m r o f t) j (u, v)).2)) a al)) _
          refine zr_go (t := (42, [some (.ref 8), some (.long o), none, some (.long f), none, some (.long t), none, some (.int (nI dep)), some (.ref 6), some (.long (zg_rest X (j + 1))), none, some (.int ((nI q) + (-1))), some (.int (nI j))], [], (zw_C (upd g 27 (nI (((zg_h C K D m r o f t) j (u, v)).1))) (vp_updL gl 28 (((zg_h C K D m r o f t) j (u, v)).2)) a al))) 2 rfl ?_
          rw [show (nI q) + (-1) = nI (q - 1) from (zn_dec rfl (by omega))]
          refine zr_forget [some (.ref 8), some (.long o), none, some (.long f), none, some (.long t), none, some (.int (nI dep)), some (.ref 6), some (.long (zg_rest X (j + 1))), none, some (.int (nI (q - 1))), none] ⟨Or.inr rfl, Or.inr rfl, Or.inr rfl, Or.inr rfl, Or.inr rfl, Or.inr rfl, Or.inr rfl, Or.inr rfl, Or.inr rfl, Or.inr rfl, Or.inr rfl, Or.inr rfl, Or.inl rfl, trivial⟩ ?_
          exact ih (q - 1, zg_rest X (j + 1), ((zg_h C K D m r o f t) j (u, v)).1, ((zg_h C K D m r o f t) j (u, v)).2, j + 1) ⟨(by (try dsimp only); omega), (by (try dsimp only); omega), rfl, ej⟩ (by omega)
      · skip
        exfalso; omega
theorem zs_C_walk_9 (a : Nat → Nat → Int32) (al : Nat → Nat → Int64) (n : Nat) (hn64 : n ≤ 64) (m : Nat) (hm64 : m ≤ 64) (C : Nat → Int64) (hC : ∀ k, k < n → al 27 k = C k) (K : Nat → Int64) (hK : ∀ k, k < n → al 28 k = K k) (D : Nat → Int64) (hD : ∀ k, k < m → al 24 k = D k) : ∀ (r : Nat) (g : Nat → Int32) (gl : Nat → Int64) (hm : g 23 = nI m) (o f t : Int64) (hf : zy_sub n f) (dep : Nat) (hdep : dep < 1000) (hr : 40 - dep = r) (s : Nat × Int64) (hB : (zg_wk C K D m r o f t s).1 < 2 ^ 31), zm_Ev zt_get (r + 4) 45 [.ref 9, .long o, .long f, .long t, .int (nI dep)] (zw_C (upd g 29 (nI s.1)) (vp_updL gl 30 s.2) a al) (fun v w => v = none ∧ w = (zw_C (upd g 29 (nI ((zg_wk C K D m r o f t s).1))) (vp_updL gl 30 ((zg_wk C K D m r o f t s).2)) a al)) := by
  intro r
  induction r with
  | zero =>
    intro g gl hm o f t hf dep hdep hr s hB
    refine zr_ev zt_H_walk rfl rfl ?_
    show zm_Run zt_get (0 + 3) zt_H_walk (0, [some (.ref 9), some (.long o), none, some (.long f), none, some (.long t), none, some (.int (nI dep)), none, none, none, none, none], [], (zw_C (upd g 29 (nI s.1)) (vp_updL gl 30 s.2) a al)) _
    refine zr_go (t := (3, [some (.ref 9), some (.long o), none, some (.long f), none, some (.long t), none, some (.int (nI dep)), none, none, none, none, none], [.int (lg_cmp o 0)], (zw_C (upd g 29 (nI s.1)) (vp_updL gl 30 s.2) a al))) 3 rfl ?_
    refine zr_if (c := lg_cmp o 0 = 0) (t := (6, [some (.ref 9), some (.long o), none, some (.long f), none, some (.long t), none, some (.int (nI dep)), none, none, none, none, none], [], (zw_C (upd g 29 (nI s.1)) (vp_updL gl 30 s.2) a al))) (f := (13, [some (.ref 9), some (.long o), none, some (.long f), none, some (.long t), none, some (.int (nI dep)), none, none, none, none, none], [], (zw_C (upd g 29 (nI s.1)) (vp_updL gl 30 s.2) a al))) rfl (fun hcm => ?_) (fun hcm => ?_)
    · skip
      have hz := (zcmp0 _).mp hcm
      have ew : zg_wk C K D m 0 o f t s = zg_nt t s := zg_wk_z hz
      rw [ew] at hB ⊢
      refine zr_go (t := (9, [some (.ref 9), some (.long o), none, some (.long f), none, some (.long t), none, some (.int (nI dep)), none, none, none, none, none], [.long t, .ref 9], (zw_C (upd g 29 (nI s.1)) (vp_updL gl 30 s.2) a al))) 2 rfl ?_
      refine zr_call (t := (12, [some (.ref 9), some (.long o), none, some (.long f), none, some (.long t), none, some (.int (nI dep)), none, none, none, none, none], [], (zw_C (upd g 29 (nI s.1)) (vp_updL gl 30 s.2) a al))) rfl (by omega : 1 ≤ (0 + 3)) (zs_C_note_9 g gl a al t s (by have : (zg_nt t s).1 = s.1 + 1 := rfl; omega)) ?_
      rintro _ _ ⟨rfl, rfl⟩
      show zm_Run zt_get (0 + 3) zt_H_walk (12, [some (.ref 9), some (.long o), none, some (.long f), none, some (.long t), none, some (.int (nI dep)), none, none, none, none, none], [], (zw_C (upd g 29 (nI ((zg_nt t s).1))) (vp_updL gl 30 ((zg_nt t s).2)) a al)) _
      exact zr_ret rfl trivial ⟨rfl, rfl⟩
    · skip
      have hz : ¬ o = 0 := fun q => hcm ((zcmp0 _).mpr q)
      refine zr_go (t := (17, [some (.ref 9), some (.long o), none, some (.long f), none, some (.long t), none, some (.int (nI dep)), none, none, none, none, none], [.int 40, .int (nI dep)], (zw_C (upd g 29 (nI s.1)) (vp_updL gl 30 s.2) a al))) 2 rfl ?_
      refine zr_ilt (x := nI dep) (y := 40) dep 40 rfl rfl (by omega) (by omega) (t := (21, [some (.ref 9), some (.long o), none, some (.long f), none, some (.long t), none, some (.int (nI dep)), none, none, none, none, none], [], (zw_C (upd g 29 (nI s.1)) (vp_updL gl 30 s.2) a al))) (f := (20, [some (.ref 9), some (.long o), none, some (.long f), none, some (.long t), none, some (.int (nI dep)), none, none, none, none, none], [], (zw_C (upd g 29 (nI s.1)) (vp_updL gl 30 s.2) a al))) rfl (fun h1 => ?_) (fun h1 => ?_)
      · skip
        exfalso; omega
      · skip
        rw [zg_wk_0 hz]
        exact zr_ret rfl trivial ⟨rfl, rfl⟩
  | succ r ihr =>
    intro g gl hm o f t hf dep hdep hr s hB
    refine zr_ev zt_H_walk rfl rfl ?_
    show zm_Run zt_get ((r + 1) + 3) zt_H_walk (0, [some (.ref 9), some (.long o), none, some (.long f), none, some (.long t), none, some (.int (nI dep)), none, none, none, none, none], [], (zw_C (upd g 29 (nI s.1)) (vp_updL gl 30 s.2) a al)) _
    refine zr_go (t := (3, [some (.ref 9), some (.long o), none, some (.long f), none, some (.long t), none, some (.int (nI dep)), none, none, none, none, none], [.int (lg_cmp o 0)], (zw_C (upd g 29 (nI s.1)) (vp_updL gl 30 s.2) a al))) 3 rfl ?_
    refine zr_if (c := lg_cmp o 0 = 0) (t := (6, [some (.ref 9), some (.long o), none, some (.long f), none, some (.long t), none, some (.int (nI dep)), none, none, none, none, none], [], (zw_C (upd g 29 (nI s.1)) (vp_updL gl 30 s.2) a al))) (f := (13, [some (.ref 9), some (.long o), none, some (.long f), none, some (.long t), none, some (.int (nI dep)), none, none, none, none, none], [], (zw_C (upd g 29 (nI s.1)) (vp_updL gl 30 s.2) a al))) rfl (fun hcm => ?_) (fun hcm => ?_)
    · skip
      have hz := (zcmp0 _).mp hcm
      have ew : zg_wk C K D m (r + 1) o f t s = zg_nt t s := zg_wk_z hz
      rw [ew] at hB ⊢
      refine zr_go (t := (9, [some (.ref 9), some (.long o), none, some (.long f), none, some (.long t), none, some (.int (nI dep)), none, none, none, none, none], [.long t, .ref 9], (zw_C (upd g 29 (nI s.1)) (vp_updL gl 30 s.2) a al))) 2 rfl ?_
      refine zr_call (t := (12, [some (.ref 9), some (.long o), none, some (.long f), none, some (.long t), none, some (.int (nI dep)), none, none, none, none, none], [], (zw_C (upd g 29 (nI s.1)) (vp_updL gl 30 s.2) a al))) rfl (by omega : 1 ≤ ((r + 1) + 3)) (zs_C_note_9 g gl a al t s (by have : (zg_nt t s).1 = s.1 + 1 := rfl; omega)) ?_
      rintro _ _ ⟨rfl, rfl⟩
      show zm_Run zt_get ((r + 1) + 3) zt_H_walk (12, [some (.ref 9), some (.long o), none, some (.long f), none, some (.long t), none, some (.int (nI dep)), none, none, none, none, none], [], (zw_C (upd g 29 (nI ((zg_nt t s).1))) (vp_updL gl 30 ((zg_nt t s).2)) a al)) _
      exact zr_ret rfl trivial ⟨rfl, rfl⟩
    · skip
      have hz : ¬ o = 0 := fun q => hcm ((zcmp0 _).mpr q)
      refine zr_go (t := (17, [some (.ref 9), some (.long o), none, some (.long f), none, some (.long t), none, some (.int (nI dep)), none, none, none, none, none], [.int 40, .int (nI dep)], (zw_C (upd g 29 (nI s.1)) (vp_updL gl 30 s.2) a al))) 2 rfl ?_
      refine zr_ilt (x := nI dep) (y := 40) dep 40 rfl rfl (by omega) (by omega) (t := (21, [some (.ref 9), some (.long o), none, some (.long f), none, some (.long t), none, some (.int (nI dep)), none, none, none, none, none], [], (zw_C (upd g 29 (nI s.1)) (vp_updL gl 30 s.2) a al))) (f := (20, [some (.ref 9), some (.long o), none, some (.long f), none, some (.long t), none, some (.int (nI dep)), none, none, none, none, none], [], (zw_C (upd g 29 (nI s.1)) (vp_updL gl 30 s.2) a al))) rfl (fun h1 => ?_) (fun h1 => ?_)
      · skip
        rw [zg_wk_s hz] at hB ⊢
        refine zr_go (t := (30, [some (.ref 9), some (.long o), none, some (.long f), none, some (.long t), none, some (.int (nI dep)), some (.ref 7), none, none, none, none], [.long f, .long o, .ref 9], (zw_C (upd g 29 (nI s.1)) (vp_updL gl 30 s.2) a al))) 6 rfl ?_
        refine zr_call (t := (33, [some (.ref 9), some (.long o), none, some (.long f), none, some (.long t), none, some (.int (nI dep)), some (.ref 7), none, none, none, none], [], (zw_C (upd g 29 (nI s.1)) (vp_updL gl 30 s.2) a al))) rfl (by omega : 2 ≤ ((r + 1) + 3)) (zs_C_fewest_9 (upd g 29 (nI s.1)) (vp_updL gl 30 s.2) a al m hm hm64 D hD o f) ?_
        rintro _ _ ⟨rfl, rfl⟩
        show zm_Run zt_get ((r + 1) + 3) zt_H_walk (33, [some (.ref 9), some (.long o), none, some (.long f), none, some (.long t), none, some (.int (nI dep)), some (.ref 7), none, none, none, none], [.long ((zg_fc D o f m).1)], (zw_C (upd g 29 (nI s.1)) (vp_updL gl 30 s.2) a al)) _
        have hsub : zy_sub n (zg_fc D o f m).1 := fun k hk => hf k (zg_fc_sub m hk)
        generalize (zg_fc D o f m).1 = X at hB hsub ⊢
        refine zr_go (t := (37, [some (.ref 9), some (.long o), none, some (.long f), none, some (.long t), none, some (.int (nI dep)), some (.ref 7), some (.long X), none, none, none], [.long X], (zw_C (upd g 29 (nI s.1)) (vp_updL gl 30 s.2) a al))) 2 rfl ?_
        refine zr_call (t := (40, [some (.ref 9), some (.long o), none, some (.long f), none, some (.long t), none, some (.int (nI dep)), some (.ref 7), some (.long X), none, none, none], [], (zw_C (upd g 29 (nI s.1)) (vp_updL gl 30 s.2) a al))) rfl (by omega : 1 ≤ ((r + 1) + 3)) (zs_C_bitCount (upd g 29 (nI s.1)) (vp_updL gl 30 s.2) a al X) ?_
        rintro _ _ ⟨rfl, rfl⟩
        show zm_Run zt_get ((r + 1) + 3) zt_H_walk (40, [some (.ref 9), some (.long o), none, some (.long f), none, some (.long t), none, some (.int (nI dep)), some (.ref 7), some (.long X), none, none, none], [.int (nI (zC (lb X) 64))], (zw_C (upd g 29 (nI s.1)) (vp_updL gl 30 s.2) a al)) _
        refine zr_go (t := (42, [some (.ref 9), some (.long o), none, some (.long f), none, some (.long t), none, some (.int (nI dep)), some (.ref 7), some (.long X), none, some (.int (nI (zC (lb X) 64))), none], [], (zw_C (upd g 29 (nI s.1)) (vp_updL gl 30 s.2) a al))) 1 rfl ?_
        refine zr_loop (fun zq : Nat × Int64 × Nat × Int64 × Nat => (42, [some (.ref 9), some (.long o), none, some (.long f), none, some (.long t), none, some (.int (nI dep)), some (.ref 7), some (.long zq.2.1), none, some (.int (nI zq.1)), none], [], (zw_C (upd g 29 (nI zq.2.2.1)) (vp_updL gl 30 zq.2.2.2.1) a al))) (fun zq => zq.2.2.2.2 ≤ 64 ∧ zq.1 + zC (lb X) zq.2.2.2.2 = zC (lb X) 64 ∧ zq.2.1 = zg_rest X zq.2.2.2.2 ∧ zg_fold (zg_h C K D m r o f t) X zq.2.2.2.2 s = (zq.2.2.1, zq.2.2.2.1)) (fun zq => zq.1) ?_ (zC (lb X) 64, X, s.1, s.2, 0) ⟨(by (try dsimp only); omega), Nat.add_zero _, (zg_rest_0 X).symm, rfl⟩
        rintro ⟨q, y, u, v, p⟩ ⟨hp, hq, hy, huv⟩ ih
        try dsimp only at *
        have hc64 := zC_le (lb X) 64
        refine zr_go (t := (44, [some (.ref 9), some (.long o), none, some (.long f), none, some (.long t), none, some (.int (nI dep)), some (.ref 7), some (.long y), none, some (.int (nI q)), none], [.int (nI q)], (zw_C (upd g 29 (nI u)) (vp_updL gl 30 v) a al))) 1 rfl ?_
        refine zr_ile (x := nI q) (y := 0) q 0 rfl rfl (by omega) (by omega) (t := (112, [some (.ref 9), some (.long o), none, some (.long f), none, some (.long t), none, some (.int (nI dep)), some (.ref 7), some (.long y), none, some (.int (nI q)), none], [], (zw_C (upd g 29 (nI u)) (vp_updL gl 30 v) a al))) (f := (47, [some (.ref 9), some (.long o), none, some (.long f), none, some (.long t), none, some (.int (nI dep)), some (.ref 7), some (.long y), none, some (.int (nI q)), none], [], (zw_C (upd g 29 (nI u)) (vp_updL gl 30 v) a al))) rfl (fun h2 => ?_) (fun h2 => ?_)
        · skip
          have e64 : zg_fold (zg_h C K D m r o f t) X 64 s = (u, v) := by
            have e := zg_skip (h := (zg_h C K D m r o f t)) (x := X) (p := p) (s := s) (64 - p) (fun k k1 k2 => zg_no (by omega) k k1 (by omega))
            rw [show p + (64 - p) = 64 by omega] at e
            rw [e, huv]
          rw [e64]
          exact zr_ret rfl trivial ⟨rfl, rfl⟩
        · skip
          obtain ⟨j, hj, hpj, hj64, hbj, hgap, hrest, hcnt⟩ := zg_nx (x := X) (p := p) (by omega)
          subst hy
          have hjn := hsub j hbj
          have ej : zg_fold (zg_h C K D m r o f t) X (j + 1) s = (zg_h C K D m r o f t) j (u, v) := by
            show (if lb X j = true then _ else _) = _
            have e := zg_skip (h := (zg_h C K D m r o f t)) (x := X) (p := p) (s := s) (j - p) (fun k k1 k2 => hgap k k1 (by omega))
            rw [show p + (j - p) = j by omega] at e
            rw [if_pos hbj, e, huv]
          have hle := zg_fold_le (h := (zg_h C K D m r o f t)) X (fun k s => zg_wk_le C K D m r _ _ _ s) (j + 1) (64 - (j + 1)) s
          rw [show j + 1 + (64 - (j + 1)) = 64 by omega, ej] at hle
          refine zr_go (t := (49, [some (.ref 9), some (.long o), none, some (.long f), none, some (.long t), none, some (.int (nI dep)), some (.ref 7), some (.long (zg_rest X p)), none, some (.int (nI q)), none], [.long (zg_rest X p)], (zw_C (upd g 29 (nI u)) (vp_updL gl 30 v) a al))) 1 rfl ?_
          refine zr_call (t := (52, [some (.ref 9), some (.long o), none, some (.long f), none, some (.long t), none, some (.int (nI dep)), some (.ref 7), some (.long (zg_rest X p)), none, some (.int (nI q)), none], [], (zw_C (upd g 29 (nI u)) (vp_updL gl 30 v) a al))) rfl (by omega : 2 ≤ ((r + 1) + 3)) (zs_C_lowestBit (upd g 29 (nI u)) (vp_updL gl 30 v) a al (zg_rest X p)) ?_
          rintro _ _ ⟨rfl, rfl⟩
          show zm_Run zt_get ((r + 1) + 3) zt_H_walk (52, [some (.ref 9), some (.long o), none, some (.long f), none, some (.long t), none, some (.int (nI dep)), some (.ref 7), some (.long (zg_rest X p)), none, some (.int (nI q)), none], [.int (nI (lb_low (zg_rest X p)))], (zw_C (upd g 29 (nI u)) (vp_updL gl 30 v) a al)) _
          rw [← hj]
          refine zr_go (t := (63, [some (.ref 9), some (.long o), none, some (.long f), none, some (.long t), none, some (.int (nI dep)), some (.ref 7), some (.long ((zg_rest X p) &&& ((zg_rest X p) - 1))), none, some (.int (nI q)), some (.int (nI j))], [], (zw_C (upd g 29 (nI u)) (vp_updL gl 30 v) a al))) 7 rfl ?_
          rw [hrest]
          refine zr_go (t := (72, [some (.ref 9), some (.long o), none, some (.long f), none, some (.long t), none, some (.int (nI dep)), some (.ref 7), some (.long (zg_rest X (j + 1))), none, some (.int (nI q)), some (.int (nI j))], [.int (nI j), .ref 27, .long o, .ref 9], (zw_C (upd g 29 (nI u)) (vp_updL gl 30 v) a al))) 5 rfl ?_
          refine zr_cd (t := (73, [some (.ref 9), some (.long o), none, some (.long f), none, some (.long t), none, some (.int (nI dep)), some (.ref 7), some (.long (zg_rest X (j + 1))), none, some (.int (nI q)), some (.int (nI j))], [.long ((al 27) (nI j).toNatClampNeg), .long o, .ref 9], (zw_C (upd g 29 (nI u)) (vp_updL gl 30 v) a al))) rfl (pk_in j 64 (by omega) rfl (by omega)) ?_
          rw [pk_cl (x := (nI j)) j rfl (by omega)]
          rw [hC j hjn]
          refine zr_go (t := (86, [some (.ref 9), some (.long o), none, some (.long f), none, some (.long t), none, some (.int (nI dep)), some (.ref 7), some (.long (zg_rest X (j + 1))), none, some (.int (nI q)), some (.int (nI j))], [.int (nI j), .ref 28, .long f, .long (o &&& ((C j) ^^^ (-1))), .ref 9], (zw_C (upd g 29 (nI u)) (vp_updL gl 30 v) a al))) 7 rfl ?_
          refine zr_cd (t := (87, [some (.ref 9), some (.long o), none, some (.long f), none, some (.long t), none, some (.int (nI dep)), some (.ref 7), some (.long (zg_rest X (j + 1))), none, some (.int (nI q)), some (.int (nI j))], [.long ((al 28) (nI j).toNatClampNeg), .long f, .long (o &&& ((C j) ^^^ (-1))), .ref 9], (zw_C (upd g 29 (nI u)) (vp_updL gl 30 v) a al))) rfl (pk_in j 64 (by omega) rfl (by omega)) ?_
          rw [pk_cl (x := (nI j)) j rfl (by omega)]
          rw [hK j hjn]
          refine zr_go (t := (103, [some (.ref 9), some (.long o), none, some (.long f), none, some (.long t), none, some (.int (nI dep)), some (.ref 7), some (.long (zg_rest X (j + 1))), none, some (.int (nI q)), some (.int (nI j))], [.int ((nI dep) + 1), .long (t ||| (1 <<< ((nI j).toInt64 &&& 63))), .long (f &&& ((K j) ^^^ (-1))), .long (o &&& ((C j) ^^^ (-1))), .ref 9], (zw_C (upd g 29 (nI u)) (vp_updL gl 30 v) a al))) 11 rfl ?_
          rw [show (nI dep) + 1 = nI (dep + 1) from (zn_add rfl rfl)]
          refine zr_call (t := (106, [some (.ref 9), some (.long o), none, some (.long f), none, some (.long t), none, some (.int (nI dep)), some (.ref 7), some (.long (zg_rest X (j + 1))), none, some (.int (nI q)), some (.int (nI j))], [], (zw_C (upd g 29 (nI u)) (vp_updL gl 30 v) a al))) rfl (by omega : (r + 4) ≤ ((r + 1) + 3)) (ihr g gl hm (o &&& (C j ^^^ -1)) (f &&& (K j ^^^ -1)) (t ||| zf_b j) (zg_sub_step hf) (dep + 1) (by omega) (by omega) (u, v) (Nat.lt_of_le_of_lt hle hB)) ?_
          rintro _ _ ⟨rfl, rfl⟩
          show zm_Run zt_get ((r + 1) + 3) zt_H_walk (106, [some (.ref 9), some (.long o), none, some (.long f), none, some (.long t), none, some (.int (nI dep)), some (.ref 7), some (.long (zg_rest X (j + 1))), none, some (.int (nI q)), some (.int (nI j))], [], (zw_C (upd g 29 (nI (((zg_h C K D m r o f t) j (u, v)).1))) (vp_updL gl 30 (((zg_h C K D m r o f t) j (u, v)).2)) a al)) _
          refine zr_go (t := (42, [some (.ref 9), some (.long o), none, some (.long f), none, some (.long t), none, some (.int (nI dep)), some (.ref 7), some (.long (zg_rest X (j + 1))), none, some (.int ((nI q) + (-1))), some (.int (nI j))], [], (zw_C (upd g 29 (nI (((zg_h C K D m r o f t) j (u, v)).1))) (vp_updL gl 30 (((zg_h C K D m r o f t) j (u, v)).2)) a al))) 2 rfl ?_
          rw [show (nI q) + (-1) = nI (q - 1) from (zn_dec rfl (by omega))]
          refine zr_forget [some (.ref 9), some (.long o), none, some (.long f), none, some (.long t), none, some (.int (nI dep)), some (.ref 7), some (.long (zg_rest X (j + 1))), none, some (.int (nI (q - 1))), none] ⟨Or.inr rfl, Or.inr rfl, Or.inr rfl, Or.inr rfl, Or.inr rfl, Or.inr rfl, Or.inr rfl, Or.inr rfl, Or.inr rfl, Or.inr rfl, Or.inr rfl, Or.inr rfl, Or.inl rfl, trivial⟩ ?_
          exact ih (q - 1, zg_rest X (j + 1), ((zg_h C K D m r o f t) j (u, v)).1, ((zg_h C K D m r o f t) j (u, v)).2, j + 1) ⟨(by (try dsimp only); omega), (by (try dsimp only); omega), rfl, ej⟩ (by omega)
      · skip
        exfalso; omega
theorem zg_all_sub {n : Nat} {x : Int64} (h : n < 64) : zy_sub n (zy_all n &&& x) := fun k hk => by
  rw [lb_and, Bool.and_eq_true] at hk
  have := hk.1
  unfold zy_all at this
  rw [lb_all h] at this
  exact of_decide_eq_true this
theorem zs_C_run_8 (g : Nat → Int32) (gl : Nat → Int64) (a : Nat → Nat → Int32) (al : Nat → Nat → Int64) (l : Nat) (hl : g 24 = nI l) (hl64 : l ≤ 64) (e : Nat → Nat) (he : ∀ k, k < l → a 26 k = nI (e k)) (n : Nat) (hn64 : n ≤ 64) (hen : ∀ k, k < l → e k < n) (hn : g 23 = nI n) (hnl : n < 64) (m : Nat) (hm64 : m ≤ 64) (hm : g 25 = nI m) (hml : m < 64) (C : Nat → Int64) (hC : ∀ k, k < n → al 24 k = C k) (K : Nat → Int64) (hK : ∀ k, k < n → al 25 k = K k) (D : Nat → Int64) (hD : ∀ k, k < m → al 27 k = D k) (hB : (zg_wk C K D m (40 - l) (zy_all m &&& ((zg_or (fun k => C (e k)) l) ^^^ -1)) (zy_all n &&& ((zg_or (fun k => K (e k)) l) ^^^ -1)) (zg_or (fun k => zf_b (e k)) l) (0, 0)).1 < 2 ^ 31) : zm_Ev zt_get 45 44 [.ref 8] (zw_C g gl a al) (fun v w => v = none ∧ w = (zw_C (upd g 27 (nI ((zg_wk C K D m (40 - l) (zy_all m &&& ((zg_or (fun k => C (e k)) l) ^^^ -1)) (zy_all n &&& ((zg_or (fun k => K (e k)) l) ^^^ -1)) (zg_or (fun k => zf_b (e k)) l) (0, 0)).1))) (vp_updL gl 28 ((zg_wk C K D m (40 - l) (zy_all m &&& ((zg_or (fun k => C (e k)) l) ^^^ -1)) (zy_all n &&& ((zg_or (fun k => K (e k)) l) ^^^ -1)) (zg_or (fun k => zf_b (e k)) l) (0, 0)).2)) a al)) := by
  refine zr_ev zt_H_run rfl rfl ?_
  show zm_Run zt_get 44 zt_H_run (0, [some (.ref 8), none, none, none, none], [], (zw_C g gl a al)) _
  refine zr_go (t := (14, [some (.ref 8), none, none, none, none], [.ref 7], (zw_C (upd g 27 0) (vp_updL gl 28 0) a al))) 8 rfl ?_
  refine zr_call (t := (17, [some (.ref 8), none, none, none, none], [], (zw_C (upd g 27 0) (vp_updL gl 28 0) a al))) rfl (Nat.le_of_ble_eq_true rfl : 1 ≤ 44) (zs_C_everything_7 (upd g 27 0) (vp_updL gl 28 0) a al m hm hml) ?_
  rintro _ _ ⟨rfl, rfl⟩
  show zm_Run zt_get 44 zt_H_run (17, [some (.ref 8), none, none, none, none], [.long (zy_all m)], (zw_C (upd g 27 0) (vp_updL gl 28 0) a al)) _
  refine zr_go (t := (21, [some (.ref 8), none, none, none, none], [.ref 6, .long (zy_all m)], (zw_C (upd g 27 0) (vp_updL gl 28 0) a al))) 2 rfl ?_
  refine zr_call (t := (24, [some (.ref 8), none, none, none, none], [.long (zy_all m)], (zw_C (upd g 27 0) (vp_updL gl 28 0) a al))) rfl (Nat.le_of_ble_eq_true rfl : 1 ≤ 44) (zs_C_covered_6 (upd g 27 0) (vp_updL gl 28 0) a al l hl hl64 e he n hn64 hen C hC) ?_
  rintro _ _ ⟨rfl, rfl⟩
  show zm_Run zt_get 44 zt_H_run (24, [some (.ref 8), none, none, none, none], [.long (zg_or (fun k => C (e k)) l), .long (zy_all m)], (zw_C (upd g 27 0) (vp_updL gl 28 0) a al)) _
  refine zr_go (t := (34, [some (.ref 8), some (.long ((zy_all m) &&& ((zg_or (fun k => C (e k)) l) ^^^ (-1)))), none, none, none], [.ref 6], (zw_C (upd g 27 0) (vp_updL gl 28 0) a al))) 6 rfl ?_
  refine zr_call (t := (37, [some (.ref 8), some (.long ((zy_all m) &&& ((zg_or (fun k => C (e k)) l) ^^^ (-1)))), none, none, none], [], (zw_C (upd g 27 0) (vp_updL gl 28 0) a al))) rfl (Nat.le_of_ble_eq_true rfl : 1 ≤ 44) (zs_C_everything_6 (upd g 27 0) (vp_updL gl 28 0) a al n hn hnl) ?_
  rintro _ _ ⟨rfl, rfl⟩
  show zm_Run zt_get 44 zt_H_run (37, [some (.ref 8), some (.long ((zy_all m) &&& ((zg_or (fun k => C (e k)) l) ^^^ (-1)))), none, none, none], [.long (zy_all n)], (zw_C (upd g 27 0) (vp_updL gl 28 0) a al)) _
  refine zr_go (t := (41, [some (.ref 8), some (.long ((zy_all m) &&& ((zg_or (fun k => C (e k)) l) ^^^ (-1)))), none, none, none], [.ref 6, .long (zy_all n)], (zw_C (upd g 27 0) (vp_updL gl 28 0) a al))) 2 rfl ?_
  refine zr_call (t := (44, [some (.ref 8), some (.long ((zy_all m) &&& ((zg_or (fun k => C (e k)) l) ^^^ (-1)))), none, none, none], [.long (zy_all n)], (zw_C (upd g 27 0) (vp_updL gl 28 0) a al))) rfl (Nat.le_of_ble_eq_true rfl : 1 ≤ 44) (zs_C_clashing_6 (upd g 27 0) (vp_updL gl 28 0) a al l hl hl64 e he n hn64 hen K hK) ?_
  rintro _ _ ⟨rfl, rfl⟩
  show zm_Run zt_get 44 zt_H_run (44, [some (.ref 8), some (.long ((zy_all m) &&& ((zg_or (fun k => C (e k)) l) ^^^ (-1)))), none, none, none], [.long (zg_or (fun k => K (e k)) l), .long (zy_all n)], (zw_C (upd g 27 0) (vp_updL gl 28 0) a al)) _
  refine zr_go (t := (57, [some (.ref 8), some (.long ((zy_all m) &&& ((zg_or (fun k => C (e k)) l) ^^^ (-1)))), none, some (.long ((zy_all n) &&& ((zg_or (fun k => K (e k)) l) ^^^ (-1)))), none], [.ref 6, .long ((zy_all n) &&& ((zg_or (fun k => K (e k)) l) ^^^ (-1))), .long ((zy_all m) &&& ((zg_or (fun k => C (e k)) l) ^^^ (-1))), .ref 8], (zw_C (upd g 27 0) (vp_updL gl 28 0) a al))) 9 rfl ?_
  refine zr_call (t := (60, [some (.ref 8), some (.long ((zy_all m) &&& ((zg_or (fun k => C (e k)) l) ^^^ (-1)))), none, some (.long ((zy_all n) &&& ((zg_or (fun k => K (e k)) l) ^^^ (-1)))), none], [.long ((zy_all n) &&& ((zg_or (fun k => K (e k)) l) ^^^ (-1))), .long ((zy_all m) &&& ((zg_or (fun k => C (e k)) l) ^^^ (-1))), .ref 8], (zw_C (upd g 27 0) (vp_updL gl 28 0) a al))) rfl (Nat.le_of_ble_eq_true rfl : 1 ≤ 44) (zs_C_taken_6 (upd g 27 0) (vp_updL gl 28 0) a al l hl hl64 e he n hn64 hen) ?_
  rintro _ _ ⟨rfl, rfl⟩
  show zm_Run zt_get 44 zt_H_run (60, [some (.ref 8), some (.long ((zy_all m) &&& ((zg_or (fun k => C (e k)) l) ^^^ (-1)))), none, some (.long ((zy_all n) &&& ((zg_or (fun k => K (e k)) l) ^^^ (-1)))), none], [.long (zg_or (fun k => zf_b (e k)) l), .long ((zy_all n) &&& ((zg_or (fun k => K (e k)) l) ^^^ (-1))), .long ((zy_all m) &&& ((zg_or (fun k => C (e k)) l) ^^^ (-1))), .ref 8], (zw_C (upd g 27 0) (vp_updL gl 28 0) a al)) _
  refine zr_go (t := (67, [some (.ref 8), some (.long ((zy_all m) &&& ((zg_or (fun k => C (e k)) l) ^^^ (-1)))), none, some (.long ((zy_all n) &&& ((zg_or (fun k => K (e k)) l) ^^^ (-1)))), none], [.int (g 24), .long (zg_or (fun k => zf_b (e k)) l), .long ((zy_all n) &&& ((zg_or (fun k => K (e k)) l) ^^^ (-1))), .long ((zy_all m) &&& ((zg_or (fun k => C (e k)) l) ^^^ (-1))), .ref 8], (zw_C (upd g 27 0) (vp_updL gl 28 0) a al))) 3 rfl ?_
  rw [hl]
  refine zr_call (t := (70, [some (.ref 8), some (.long ((zy_all m) &&& ((zg_or (fun k => C (e k)) l) ^^^ (-1)))), none, some (.long ((zy_all n) &&& ((zg_or (fun k => K (e k)) l) ^^^ (-1)))), none], [], (zw_C (upd g 27 0) (vp_updL gl 28 0) a al))) rfl (Nat.le_of_ble_eq_true rfl : 44 ≤ 44) (zr_up (show (40 - l) + 4 ≤ 44 by omega) (zs_C_walk_8 a al n hn64 m hm64 C hC K hK D hD (40 - l) g gl hm (zy_all m &&& ((zg_or (fun k => C (e k)) l) ^^^ -1)) (zy_all n &&& ((zg_or (fun k => K (e k)) l) ^^^ -1)) (zg_or (fun k => zf_b (e k)) l) (zg_all_sub hnl) l (by omega) rfl (0, 0) hB)) ?_
  rintro _ _ ⟨rfl, rfl⟩
  show zm_Run zt_get 44 zt_H_run (70, [some (.ref 8), some (.long ((zy_all m) &&& ((zg_or (fun k => C (e k)) l) ^^^ (-1)))), none, some (.long ((zy_all n) &&& ((zg_or (fun k => K (e k)) l) ^^^ (-1)))), none], [], (zw_C (upd g 27 (nI ((zg_wk C K D m (40 - l) (zy_all m &&& ((zg_or (fun k => C (e k)) l) ^^^ -1)) (zy_all n &&& ((zg_or (fun k => K (e k)) l) ^^^ -1)) (zg_or (fun k => zf_b (e k)) l) (0, 0)).1))) (vp_updL gl 28 ((zg_wk C K D m (40 - l) (zy_all m &&& ((zg_or (fun k => C (e k)) l) ^^^ -1)) (zy_all n &&& ((zg_or (fun k => K (e k)) l) ^^^ -1)) (zg_or (fun k => zf_b (e k)) l) (0, 0)).2)) a al)) _
  exact zr_ret rfl trivial ⟨rfl, rfl⟩
theorem zs_C_run_9 (g : Nat → Int32) (gl : Nat → Int64) (a : Nat → Nat → Int32) (al : Nat → Nat → Int64) (l : Nat) (hl : g 26 = nI l) (hl64 : l ≤ 64) (e : Nat → Nat) (he : ∀ k, k < l → a 29 k = nI (e k)) (n : Nat) (hn64 : n ≤ 64) (hen : ∀ k, k < l → e k < n) (hn : g 25 = nI n) (hnl : n < 64) (m : Nat) (hm64 : m ≤ 64) (hm : g 23 = nI m) (hml : m < 64) (C : Nat → Int64) (hC : ∀ k, k < n → al 27 k = C k) (K : Nat → Int64) (hK : ∀ k, k < n → al 28 k = K k) (D : Nat → Int64) (hD : ∀ k, k < m → al 24 k = D k) (hB : (zg_wk C K D m (40 - l) (zy_all m &&& ((zg_or (fun k => C (e k)) l) ^^^ -1)) (zy_all n &&& ((zg_or (fun k => K (e k)) l) ^^^ -1)) (zg_or (fun k => zf_b (e k)) l) (0, 0)).1 < 2 ^ 31) : zm_Ev zt_get 45 44 [.ref 9] (zw_C g gl a al) (fun v w => v = none ∧ w = (zw_C (upd g 29 (nI ((zg_wk C K D m (40 - l) (zy_all m &&& ((zg_or (fun k => C (e k)) l) ^^^ -1)) (zy_all n &&& ((zg_or (fun k => K (e k)) l) ^^^ -1)) (zg_or (fun k => zf_b (e k)) l) (0, 0)).1))) (vp_updL gl 30 ((zg_wk C K D m (40 - l) (zy_all m &&& ((zg_or (fun k => C (e k)) l) ^^^ -1)) (zy_all n &&& ((zg_or (fun k => K (e k)) l) ^^^ -1)) (zg_or (fun k => zf_b (e k)) l) (0, 0)).2)) a al)) := by
  refine zr_ev zt_H_run rfl rfl ?_
  show zm_Run zt_get 44 zt_H_run (0, [some (.ref 9), none, none, none, none], [], (zw_C g gl a al)) _
  refine zr_go (t := (14, [some (.ref 9), none, none, none, none], [.ref 6], (zw_C (upd g 29 0) (vp_updL gl 30 0) a al))) 8 rfl ?_
  refine zr_call (t := (17, [some (.ref 9), none, none, none, none], [], (zw_C (upd g 29 0) (vp_updL gl 30 0) a al))) rfl (Nat.le_of_ble_eq_true rfl : 1 ≤ 44) (zs_C_everything_6 (upd g 29 0) (vp_updL gl 30 0) a al m hm hml) ?_
  rintro _ _ ⟨rfl, rfl⟩
  show zm_Run zt_get 44 zt_H_run (17, [some (.ref 9), none, none, none, none], [.long (zy_all m)], (zw_C (upd g 29 0) (vp_updL gl 30 0) a al)) _
  refine zr_go (t := (21, [some (.ref 9), none, none, none, none], [.ref 7, .long (zy_all m)], (zw_C (upd g 29 0) (vp_updL gl 30 0) a al))) 2 rfl ?_
  refine zr_call (t := (24, [some (.ref 9), none, none, none, none], [.long (zy_all m)], (zw_C (upd g 29 0) (vp_updL gl 30 0) a al))) rfl (Nat.le_of_ble_eq_true rfl : 1 ≤ 44) (zs_C_covered_7 (upd g 29 0) (vp_updL gl 30 0) a al l hl hl64 e he n hn64 hen C hC) ?_
  rintro _ _ ⟨rfl, rfl⟩
  show zm_Run zt_get 44 zt_H_run (24, [some (.ref 9), none, none, none, none], [.long (zg_or (fun k => C (e k)) l), .long (zy_all m)], (zw_C (upd g 29 0) (vp_updL gl 30 0) a al)) _
  refine zr_go (t := (34, [some (.ref 9), some (.long ((zy_all m) &&& ((zg_or (fun k => C (e k)) l) ^^^ (-1)))), none, none, none], [.ref 7], (zw_C (upd g 29 0) (vp_updL gl 30 0) a al))) 6 rfl ?_
  refine zr_call (t := (37, [some (.ref 9), some (.long ((zy_all m) &&& ((zg_or (fun k => C (e k)) l) ^^^ (-1)))), none, none, none], [], (zw_C (upd g 29 0) (vp_updL gl 30 0) a al))) rfl (Nat.le_of_ble_eq_true rfl : 1 ≤ 44) (zs_C_everything_7 (upd g 29 0) (vp_updL gl 30 0) a al n hn hnl) ?_
  rintro _ _ ⟨rfl, rfl⟩
  show zm_Run zt_get 44 zt_H_run (37, [some (.ref 9), some (.long ((zy_all m) &&& ((zg_or (fun k => C (e k)) l) ^^^ (-1)))), none, none, none], [.long (zy_all n)], (zw_C (upd g 29 0) (vp_updL gl 30 0) a al)) _
  refine zr_go (t := (41, [some (.ref 9), some (.long ((zy_all m) &&& ((zg_or (fun k => C (e k)) l) ^^^ (-1)))), none, none, none], [.ref 7, .long (zy_all n)], (zw_C (upd g 29 0) (vp_updL gl 30 0) a al))) 2 rfl ?_
  refine zr_call (t := (44, [some (.ref 9), some (.long ((zy_all m) &&& ((zg_or (fun k => C (e k)) l) ^^^ (-1)))), none, none, none], [.long (zy_all n)], (zw_C (upd g 29 0) (vp_updL gl 30 0) a al))) rfl (Nat.le_of_ble_eq_true rfl : 1 ≤ 44) (zs_C_clashing_7 (upd g 29 0) (vp_updL gl 30 0) a al l hl hl64 e he n hn64 hen K hK) ?_
  rintro _ _ ⟨rfl, rfl⟩
  show zm_Run zt_get 44 zt_H_run (44, [some (.ref 9), some (.long ((zy_all m) &&& ((zg_or (fun k => C (e k)) l) ^^^ (-1)))), none, none, none], [.long (zg_or (fun k => K (e k)) l), .long (zy_all n)], (zw_C (upd g 29 0) (vp_updL gl 30 0) a al)) _
  refine zr_go (t := (57, [some (.ref 9), some (.long ((zy_all m) &&& ((zg_or (fun k => C (e k)) l) ^^^ (-1)))), none, some (.long ((zy_all n) &&& ((zg_or (fun k => K (e k)) l) ^^^ (-1)))), none], [.ref 7, .long ((zy_all n) &&& ((zg_or (fun k => K (e k)) l) ^^^ (-1))), .long ((zy_all m) &&& ((zg_or (fun k => C (e k)) l) ^^^ (-1))), .ref 9], (zw_C (upd g 29 0) (vp_updL gl 30 0) a al))) 9 rfl ?_
  refine zr_call (t := (60, [some (.ref 9), some (.long ((zy_all m) &&& ((zg_or (fun k => C (e k)) l) ^^^ (-1)))), none, some (.long ((zy_all n) &&& ((zg_or (fun k => K (e k)) l) ^^^ (-1)))), none], [.long ((zy_all n) &&& ((zg_or (fun k => K (e k)) l) ^^^ (-1))), .long ((zy_all m) &&& ((zg_or (fun k => C (e k)) l) ^^^ (-1))), .ref 9], (zw_C (upd g 29 0) (vp_updL gl 30 0) a al))) rfl (Nat.le_of_ble_eq_true rfl : 1 ≤ 44) (zs_C_taken_7 (upd g 29 0) (vp_updL gl 30 0) a al l hl hl64 e he n hn64 hen) ?_
  rintro _ _ ⟨rfl, rfl⟩
  show zm_Run zt_get 44 zt_H_run (60, [some (.ref 9), some (.long ((zy_all m) &&& ((zg_or (fun k => C (e k)) l) ^^^ (-1)))), none, some (.long ((zy_all n) &&& ((zg_or (fun k => K (e k)) l) ^^^ (-1)))), none], [.long (zg_or (fun k => zf_b (e k)) l), .long ((zy_all n) &&& ((zg_or (fun k => K (e k)) l) ^^^ (-1))), .long ((zy_all m) &&& ((zg_or (fun k => C (e k)) l) ^^^ (-1))), .ref 9], (zw_C (upd g 29 0) (vp_updL gl 30 0) a al)) _
  refine zr_go (t := (67, [some (.ref 9), some (.long ((zy_all m) &&& ((zg_or (fun k => C (e k)) l) ^^^ (-1)))), none, some (.long ((zy_all n) &&& ((zg_or (fun k => K (e k)) l) ^^^ (-1)))), none], [.int (g 26), .long (zg_or (fun k => zf_b (e k)) l), .long ((zy_all n) &&& ((zg_or (fun k => K (e k)) l) ^^^ (-1))), .long ((zy_all m) &&& ((zg_or (fun k => C (e k)) l) ^^^ (-1))), .ref 9], (zw_C (upd g 29 0) (vp_updL gl 30 0) a al))) 3 rfl ?_
  rw [hl]
  refine zr_call (t := (70, [some (.ref 9), some (.long ((zy_all m) &&& ((zg_or (fun k => C (e k)) l) ^^^ (-1)))), none, some (.long ((zy_all n) &&& ((zg_or (fun k => K (e k)) l) ^^^ (-1)))), none], [], (zw_C (upd g 29 0) (vp_updL gl 30 0) a al))) rfl (Nat.le_of_ble_eq_true rfl : 44 ≤ 44) (zr_up (show (40 - l) + 4 ≤ 44 by omega) (zs_C_walk_9 a al n hn64 m hm64 C hC K hK D hD (40 - l) g gl hm (zy_all m &&& ((zg_or (fun k => C (e k)) l) ^^^ -1)) (zy_all n &&& ((zg_or (fun k => K (e k)) l) ^^^ -1)) (zg_or (fun k => zf_b (e k)) l) (zg_all_sub hnl) l (by omega) rfl (0, 0) hB)) ?_
  rintro _ _ ⟨rfl, rfl⟩
  show zm_Run zt_get 44 zt_H_run (70, [some (.ref 9), some (.long ((zy_all m) &&& ((zg_or (fun k => C (e k)) l) ^^^ (-1)))), none, some (.long ((zy_all n) &&& ((zg_or (fun k => K (e k)) l) ^^^ (-1)))), none], [], (zw_C (upd g 29 (nI ((zg_wk C K D m (40 - l) (zy_all m &&& ((zg_or (fun k => C (e k)) l) ^^^ -1)) (zy_all n &&& ((zg_or (fun k => K (e k)) l) ^^^ -1)) (zg_or (fun k => zf_b (e k)) l) (0, 0)).1))) (vp_updL gl 30 ((zg_wk C K D m (40 - l) (zy_all m &&& ((zg_or (fun k => C (e k)) l) ^^^ -1)) (zy_all n &&& ((zg_or (fun k => K (e k)) l) ^^^ -1)) (zg_or (fun k => zf_b (e k)) l) (0, 0)).2)) a al)) _
  exact zr_ret rfl trivial ⟨rfl, rfl⟩
