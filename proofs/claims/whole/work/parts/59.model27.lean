/-! the reference: finish, ways (written by wip/whole/gen_m27.py) -/
theorem zy_ok_congr {can can2 : Nat → Int64} {x : Int64} {k : Nat} (h : can k = can2 k) : zy_ok can x k = zy_ok can2 x k := by unfold zy_ok; rw [h]
theorem zy_W_congr {can can2 : Nat → Int64} {m : Nat} {all : Int64} (h : ∀ k, k < m → can k = can2 k) : ∀ d x, zy_W can m all d x = zy_W can2 m all d x
  | 0, _ => rfl
  | d + 1, x => by
    show zS _ m = zS _ m
    refine zS_congr m (fun k hk => ?_)
    rw [zy_ok_congr (h k hk), h k hk, zy_W_congr h d]
theorem zy_ways_congr {can can2 : Nat → Int64} {m w most : Nat} {x : Int64} (h : ∀ k, k < m → can k = can2 k) : zy_ways can m w most x = zy_ways can2 m w most x := by
  unfold zy_ways; rw [zy_W_congr h]
theorem zy_ways_le {can : Nat → Int64} {m w most : Nat} {x : Int64} (h : 1 ≤ most) : zy_ways can m w most x ≤ most := by
  unfold zy_ways; split
  · exact h
  · exact Nat.min_le_left _ _
/-- what is covered behind the first k, each taken if it can be; which are taken -/
def zy_gb (can : Nat → Int64) (m w : Nat) (x : Int64) : Nat → Int64
  | 0 => x
  | k + 1 => if can k &&& zy_gb can m w x k = 0 ∧ 0 < zy_ways can m w 1 (zy_gb can m w x k ||| can k) then zy_gb can m w x k ||| can k else zy_gb can m w x k
def zy_gt (can : Nat → Int64) (m w : Nat) (x : Int64) (k : Nat) : Bool := decide (can k &&& zy_gb can m w x k = 0 ∧ 0 < zy_ways can m w 1 (zy_gb can m w x k ||| can k))
theorem zy_gb_y {can : Nat → Int64} {m w : Nat} {x : Int64} {k : Nat} (h : zy_gt can m w x k = true) : zy_gb can m w x (k + 1) = zy_gb can m w x k ||| can k := if_pos (of_decide_eq_true h)
theorem zy_gb_n {can : Nat → Int64} {m w : Nat} {x : Int64} {k : Nat} (h : zy_gt can m w x k = false) : zy_gb can m w x (k + 1) = zy_gb can m w x k := if_neg (of_decide_eq_false h)
/-- what can be chosen covers -/
def zw_can (P N : Nat) (c : Nat → Nat) (q k : Nat) : Int64 := zw_rc P N c q (zw_cx P N c q k)
theorem zw_rc_sub {P N : Nat} {c : Nat → Nat} (hH : zH) (hok : zv_ok P N) (hs : zw_ns P N c = 0) (q x : Nat) : zy_sub (zw_wt P N c q) (zw_rc P N c q x) := by
  obtain ⟨h1, h2⟩ := hH P N c hok hs
  intro k hk
  unfold zw_rc at hk
  unfold zw_wt
  by_cases e : q = 0
  · rw [if_pos e, lb_L _ (by omega)] at hk
    rw [if_pos e]
    exact of_decide_eq_true (Bool.and_eq_true_iff.mp hk).1
  · rw [if_neg e, lb_Lo _ (show zC (zw_oo P N c) (zv_np P N) ≤ 64 by have h3 : zC (zw_oo P N c) (zv_np P N) ≤ 45 := h1; omega)] at hk
    rw [if_neg e]
    exact of_decide_eq_true (Bool.and_eq_true_iff.mp hk).1
theorem zw_rd_sub {P N : Nat} {c : Nat → Nat} (hH : zH) (hok : zv_ok P N) (hs : zw_ns P N c = 0) (q : Nat) (f : Nat → Nat) : ∀ n, zy_sub (zw_wt P N c q) (zw_rd P N c q f n)
  | 0 => fun k hk => by rw [show zw_rd P N c q f 0 = 0 from rfl, lb_0] at hk; cases hk
  | n + 1 => zy_sub_or (zw_rd_sub hH hok hs q f n) (zw_rc_sub hH hok hs q (f n))
theorem zy_gb_sub {can : Nat → Int64} {m w : Nat} {x : Int64} (hx : zy_sub w x) (hc : ∀ k, k < m → zy_sub w (can k)) : ∀ k, k ≤ m → zy_sub w (zy_gb can m w x k)
  | 0, _ => hx
  | k + 1, h => by
    show zy_sub w (if _ then _ else _)
    split
    · exact zy_sub_or (zy_gb_sub hx hc k (by omega)) (hc k (by omega))
    · exact zy_gb_sub hx hc k (by omega)
/-- the two lists when one is finished -/
def zw_tk (P N : Nat) (c : Nat → Nat) (q : Nat) (f : Nat → Nat) (n : Nat) : Nat → Bool := zy_gt (zw_can P N c q) (zw_cn P N c q) (zw_wt P N c q) (zw_rd P N c q f n)
def zw_ffn (P N : Nat) (c : Nat → Nat) (q : Nat) (nn : Nat → Nat) (ff : Nat → Nat → Nat) : Nat → Nat → Nat := fun s j => if s = q ∧ nn q ≤ j then zw_cx P N c q (zX (zw_tk P N c q (ff q) (nn q)) (zw_cn P N c q) (j - nn q)) else ff s j
def zw_nnn (P N : Nat) (c : Nat → Nat) (q : Nat) (nn : Nat → Nat) (ff : Nat → Nat → Nat) (k : Nat) : Nat → Nat := zl_n nn q (nn q + zC (zw_tk P N c q (ff q) (nn q)) k)
def zw_wy (P N : Nat) (c : Nat → Nat) (q most : Nat) (f : Nat → Nat) (n : Nat) : Nat := zy_ways (zw_can P N c q) (zw_cn P N c q) (zw_wt P N c q) most (zw_rd P N c q f n)
theorem zw_fin0 {P N : Nat} {c : Nat → Nat} {q : Nat} {a : Nat → Nat → Int32} {nn : Nat → Nat} {ff : Nat → Nat → Nat} (hl : zS_l a nn ff) : ∀ s, s < 2 → a 16 s = nI (zw_nnn P N c q nn ff 0 s) ∧ ∀ j, j < zw_nnn P N c q nn ff 0 s → a 17 (64 * s + j) = nI (zw_ffn P N c q nn ff s j) := by
  intro s hs2
  have e0 : zw_nnn P N c q nn ff 0 s = nn s := by
    unfold zw_nnn zl_n
    split
    · rename_i e; rw [e]; rfl
    · rfl
  rw [e0]
  refine ⟨(hl s hs2).1, fun j hj => ?_⟩
  rw [(hl s hs2).2.2 j hj]
  refine congrArg nI ?_
  unfold zw_ffn
  rw [if_neg (fun z => by have z2 := z.2; rw [z.1] at hj; omega)]
theorem zw_fin {P N : Nat} {c : Nat → Nat} {q : Nat} {nn : Nat → Nat} {ff : Nat → Nat → Nat} {k C : Nat} {f16 f17 : Nat → Int32} (h64 : ∀ s, s < 2 → nn s ≤ 64) (hq : q < 2) (hL : ∀ s, s < 2 → f16 s = nI (zw_nnn P N c q nn ff k s) ∧ ∀ j, j < zw_nnn P N c q nn ff k s → f17 (64 * s + j) = nI (zw_ffn P N c q nn ff s j)) (hg : zC (zw_tk P N c q (ff q) (nn q)) (k + 1) = zC (zw_tk P N c q (ff q) (nn q)) k + 1) (hC : C = zC (zw_tk P N c q (ff q) (nn q)) k) (htk : (zw_tk P N c q (ff q) (nn q)) k = true) (hk : k < (zw_cn P N c q)) (hroom : nn q + zC (zw_tk P N c q (ff q) (nn q)) (zw_cn P N c q) ≤ 64) (hgain : zC (zw_tk P N c q (ff q) (nn q)) (k + 1) ≤ zC (zw_tk P N c q (ff q) (nn q)) (zw_cn P N c q)) : ∀ s, s < 2 → upd f16 q (nI (nn q + C) + 1) s = nI (zw_nnn P N c q nn ff (k + 1) s) ∧ ∀ j, j < zw_nnn P N c q nn ff (k + 1) s → upd f17 (64 * q + (nn q + C)) (nI (zw_cx P N c q k)) (64 * s + j) = nI (zw_ffn P N c q nn ff s j) := by
  intro s hs2
  have h1 : ∀ n, zw_nnn P N c q nn ff n q = nn q + zC (zw_tk P N c q (ff q) (nn q)) n := fun n => if_pos rfl
  have h2 : s ≠ q → ∀ n, zw_nnn P N c q nn ff n s = nn s := fun e n => if_neg e
  by_cases e : s = q
  · subst e
    refine ⟨?_, fun j hj => ?_⟩
    · rw [pk_us, h1, hg, ← hC]; exact nI_add (nn s + C) 1
    · rw [h1, hg, ← hC] at hj
      by_cases r : j = nn s + C
      · subst r
        rw [pk_us]
        refine congrArg nI ?_
        unfold zw_ffn
        rw [if_pos (And.intro rfl (Nat.le_add_right _ _)), Nat.add_sub_cancel_left, hC, zX_at htk hk]
      · rw [pk_un (by omega)]
        exact (hL s hs2).2 j (by rw [h1, ← hC]; omega)
  · refine ⟨?_, fun j hj => ?_⟩
    · rw [pk_un e, h2 e]; have := (hL s hs2).1; rw [h2 e] at this; exact this
    · rw [h2 e] at hj
      have hb : nn q + C < 64 := by omega
      rw [pk_un (by
        intro z
        have hj64 : j < 64 := Nat.lt_of_lt_of_le hj (h64 s hs2)
        omega)]
      exact (hL s hs2).2 j (by rw [h2 e]; exact hj)
theorem zs_M_finishNow (g : Nat → Int32) (gl : Nat → Int64) (a : Nat → Nat → Int32) (al : Nat → Nat → Int64) (hG : zG) (P N : Nat) (c : Nat → Nat) (hf : zS_f g a P N c) (hs : zw_ns P N c = 0) (nn : Nat → Nat) (ff : Nat → Nat → Nat) (hl : zS_l a nn ff) (he : ∀ q, q < 2 → ∀ k, k < nn q → zw_ent P N c q (ff q k)) (hH : zH) (q : Nat) (hq : q < 2) (hroom : nn q + zC (zw_tk P N c q (ff q) (nn q)) (zw_cn P N c q) ≤ 64) : zm_Ev zt_get 6 193 [.ref 0, .int (nI q)] (zw_M g gl a al) (fun v w => ((zw_wy P N c q 1 (ff q) (nn q)) = 0 ∧ v = some (.int (-1)) ∧ ∃ (F F2 : Nat → Int64) (f T : Nat → Int32), w = (zw_M (upd g 31 (nI (zw_cn P N c q))) gl (va_up (va_up a 19 f) 20 T) (va_up (va_up al 18 F) 21 F2))) ∨ ((zw_wy P N c q 1 (ff q) (nn q)) ≠ 0 ∧ v = some (.int (nI (zC (zw_tk P N c q (ff q) (nn q)) (zw_cn P N c q)))) ∧ ∃ (F F2 : Nat → Int64) (f T f16 f17 : Nat → Int32), w = (zw_M (upd g 31 (nI (zw_cn P N c q))) gl (va_up (va_up (va_up (va_up a 16 f16) 17 f17) 19 f) 20 T) (va_up (va_up al 18 F) 21 F2)) ∧ ∀ s, s < 2 → f16 s = nI (zw_nnn P N c q nn ff (zw_cn P N c q) s) ∧ ∀ j, j < zw_nnn P N c q nn ff (zw_cn P N c q) s → f17 (64 * s + j) = nI (zw_ffn P N c q nn ff s j))) := by
  obtain ⟨hnl, hnpl, hnl1, hnpl1, hLL⟩ := hf.sound hG hs
  obtain ⟨hok, hFF, hRR, hnum, hOO, h10, h11, -⟩ := id hf
  obtain ⟨hP, hN, hP0, hP5, hN6, -⟩ := id hFF
  obtain ⟨hA9, hB9, -⟩ := zv_nums hok
  have hgm1 := zw_gm_le hG hf hs
  obtain ⟨hon4, hgm4⟩ := hH P N c hok hs
  have hwt : zw_wt P N c q ≤ 45 := by unfold zw_wt; split <;> omega
  have hcn : zw_cn P N c q ≤ 45 := by unfold zw_cn; split <;> omega
  have hrs := zw_rc_sub hH hok hs q
  have hds := zw_rd_sub hH hok hs q (ff q) (nn q)
  refine zr_ev zt_M_finishNow rfl rfl ?_
  show zm_Run zt_get 5 zt_M_finishNow (0, [some (.ref 0), some (.int (nI q)), none, none, none, none, none], [], (zw_M g gl a al)) _
  refine zr_go (t := (2, [some (.ref 0), some (.int (nI q)), none, none, none, none, none], [.int (nI q), .ref 0], (zw_M g gl a al))) 2 rfl ?_
  refine zr_call (t := (5, [some (.ref 0), some (.int (nI q)), none, none, none, none, none], [], (zw_M g gl a al))) rfl (Nat.le_of_ble_eq_true rfl : 5 ≤ 5) (zs_M_layCan g gl a al hG P N c hf hs hH q hq) ?_
  rintro _ _ ⟨rfl, F, f, rfl, hF, hf2⟩
  show zm_Run zt_get 5 zt_M_finishNow (5, [some (.ref 0), some (.int (nI q)), none, none, none, none, none], [], (zw_M (upd g 31 (nI (zw_cn P N c q))) gl (va_up a 19 f) (va_up al 18 F))) _
  refine zr_go (t := (7, [some (.ref 0), some (.int (nI q)), none, none, none, none, none], [.int (nI q), .ref 0], (zw_M (upd g 31 (nI (zw_cn P N c q))) gl (va_up a 19 f) (va_up al 18 F)))) 2 rfl ?_
  have hFc : ∀ k, k < zw_cn P N c q → F k = zw_can P N c q k := hF
  have hFs : ∀ k, k < zw_cn P N c q → zy_sub (zw_wt P N c q) (F k) := fun k hk => by rw [hF k hk]; exact hrs _
  refine zr_call (t := (10, [some (.ref 0), some (.int (nI q)), none, none, none, none, none], [], (zw_M (upd g 31 (nI (zw_cn P N c q))) gl (va_up a 19 f) (va_up al 18 F)))) rfl (Nat.le_of_ble_eq_true rfl : 5 ≤ 5) (zs_M_reached (upd g 31 (nI (zw_cn P N c q))) gl (va_up a 19 f) (va_up al 18 F) hG P N c hf hs nn ff hl he q hq) ?_
  rintro _ _ ⟨rfl, rfl⟩
  show zm_Run zt_get 5 zt_M_finishNow (10, [some (.ref 0), some (.int (nI q)), none, none, none, none, none], [.long (zw_rd P N c q (ff q) (nn q))], (zw_M (upd g 31 (nI (zw_cn P N c q))) gl (va_up a 19 f) (va_up al 18 F))) _
  refine zr_go (t := (15, [some (.ref 0), some (.int (nI q)), some (.long (zw_rd P N c q (ff q) (nn q))), none, none, none, none], [.int (nI q), .ref 0, .long (zw_rd P N c q (ff q) (nn q)), .ref 0], (zw_M (upd g 31 (nI (zw_cn P N c q))) gl (va_up a 19 f) (va_up al 18 F)))) 5 rfl ?_
  refine zr_call (t := (18, [some (.ref 0), some (.int (nI q)), some (.long (zw_rd P N c q (ff q) (nn q))), none, none, none, none], [.long (zw_rd P N c q (ff q) (nn q)), .ref 0], (zw_M (upd g 31 (nI (zw_cn P N c q))) gl (va_up a 19 f) (va_up al 18 F)))) rfl (Nat.le_of_ble_eq_true rfl : 3 ≤ 5) (zs_M_wanted (upd g 31 (nI (zw_cn P N c q))) gl (va_up a 19 f) (va_up al 18 F) hG P N c hf hs q hq) ?_
  rintro _ _ ⟨rfl, rfl⟩
  show zm_Run zt_get 5 zt_M_finishNow (18, [some (.ref 0), some (.int (nI q)), some (.long (zw_rd P N c q (ff q) (nn q))), none, none, none, none], [.int (nI (zw_wt P N c q)), .long (zw_rd P N c q (ff q) (nn q)), .ref 0], (zw_M (upd g 31 (nI (zw_cn P N c q))) gl (va_up a 19 f) (va_up al 18 F))) _
  refine zr_go (t := (19, [some (.ref 0), some (.int (nI q)), some (.long (zw_rd P N c q (ff q) (nn q))), none, none, none, none], [.int 1, .int (nI (zw_wt P N c q)), .long (zw_rd P N c q (ff q) (nn q)), .ref 0], (zw_M (upd g 31 (nI (zw_cn P N c q))) gl (va_up a 19 f) (va_up al 18 F)))) 1 rfl ?_
  refine zr_call (t := (22, [some (.ref 0), some (.int (nI q)), some (.long (zw_rd P N c q (ff q) (nn q))), none, none, none, none], [], (zw_M (upd g 31 (nI (zw_cn P N c q))) gl (va_up a 19 f) (va_up al 18 F)))) rfl (Nat.le_of_ble_eq_true rfl : 3 ≤ 5) (zs_M_waysFrom (upd g 31 (nI (zw_cn P N c q))) gl (va_up a 19 f) (va_up al 18 F) (zw_cn P N c q) rfl (by omega) (zw_wt P N c q) 1 (by omega) (by decide) (zw_rd P N c q (ff q) (nn q)) hds hFs) ?_
  rintro _ _ ⟨rfl, T, F2, rfl⟩
  show zm_Run zt_get 5 zt_M_finishNow (22, [some (.ref 0), some (.int (nI q)), some (.long (zw_rd P N c q (ff q) (nn q))), none, none, none, none], [.int (nI (zy_ways F (zw_cn P N c q) (zw_wt P N c q) 1 (zw_rd P N c q (ff q) (nn q))))], (zw_M (upd g 31 (nI (zw_cn P N c q))) gl (va_up (va_up a 19 f) 20 T) (va_up (va_up al 18 F) 21 F2))) _
  rw [show zy_ways F (zw_cn P N c q) (zw_wt P N c q) 1 (zw_rd P N c q (ff q) (nn q)) = (zw_wy P N c q 1 (ff q) (nn q)) from zy_ways_congr hFc]
  have hwy : (zw_wy P N c q 1 (ff q) (nn q)) ≤ 1 := zy_ways_le (by decide)
  refine zr_ine (x := nI (zw_wy P N c q 1 (ff q) (nn q))) (y := 0) (zw_wy P N c q 1 (ff q) (nn q)) 0 rfl rfl (by omega) (by omega) (t := (27, [some (.ref 0), some (.int (nI q)), some (.long (zw_rd P N c q (ff q) (nn q))), none, none, none, none], [], (zw_M (upd g 31 (nI (zw_cn P N c q))) gl (va_up (va_up a 19 f) 20 T) (va_up (va_up al 18 F) 21 F2)))) (f := (25, [some (.ref 0), some (.int (nI q)), some (.long (zw_rd P N c q (ff q) (nn q))), none, none, none, none], [], (zw_M (upd g 31 (nI (zw_cn P N c q))) gl (va_up (va_up a 19 f) 20 T) (va_up (va_up al 18 F) 21 F2)))) rfl (fun h1 => ?_) (fun h1 => ?_)
  · skip
    refine zr_go (t := (33, [some (.ref 0), some (.int (nI q)), some (.long (zw_rd P N c q (ff q) (nn q))), none, some (.int 0), some (.int 0), none], [], (zw_M (upd g 31 (nI (zw_cn P N c q))) gl (va_up (va_up a 19 f) 20 T) (va_up (va_up al 18 F) 21 F2)))) 4 rfl ?_
    refine zr_loop (fun zq : Nat × Nat × Int64 × (Nat → Int32) × (Nat → Int32) × (Nat → Int32) × (Nat → Int64) => (33, [some (.ref 0), some (.int (nI q)), some (.long zq.2.2.1), none, some (.int (nI zq.2.1)), some (.int (nI zq.1)), none], [], (zw_M (upd g 31 (nI (zw_cn P N c q))) gl (va_up (va_up (va_up (va_up a 16 zq.2.2.2.1) 17 zq.2.2.2.2.1) 19 f) 20 zq.2.2.2.2.2.1) (va_up (va_up al 18 F) 21 zq.2.2.2.2.2.2)))) (fun zq => zq.1 ≤ (zw_cn P N c q) ∧ zq.2.1 = zC (zw_tk P N c q (ff q) (nn q)) zq.1 ∧ zq.2.2.1 = (zy_gb (zw_can P N c q) (zw_cn P N c q) (zw_wt P N c q) (zw_rd P N c q (ff q) (nn q)) zq.1) ∧ ∀ s, s < 2 → zq.2.2.2.1 s = nI (zw_nnn P N c q nn ff zq.1 s) ∧ ∀ j, j < zw_nnn P N c q nn ff zq.1 s → zq.2.2.2.2.1 (64 * s + j) = nI (zw_ffn P N c q nn ff s j)) (fun zq => (zw_cn P N c q) - zq.1) ?_ (0, 0, (zw_rd P N c q (ff q) (nn q)), a 16, a 17, T, F2) ⟨by omega, rfl, rfl, zw_fin0 hl⟩
    rintro ⟨k, C, B, f16, f17, T2, F3⟩ ⟨hk, hC, hB, hL⟩ ih
    try dsimp only at *
    have hC1 := zC_le (zw_tk P N c q (ff q) (nn q)) k
    have hmono : zC (zw_tk P N c q (ff q) (nn q)) k ≤ zC (zw_tk P N c q (ff q) (nn q)) (zw_cn P N c q) := zC_mono _ hk
    refine zr_go (t := (39, [some (.ref 0), some (.int (nI q)), some (.long B), none, some (.int (nI C)), some (.int (nI k)), none], [.int (nI (zw_cn P N c q)), .int (nI k)], (zw_M (upd g 31 (nI (zw_cn P N c q))) gl (va_up (va_up (va_up (va_up a 16 f16) 17 f17) 19 f) 20 T2) (va_up (va_up al 18 F) 21 F3)))) 3 rfl ?_
    refine zr_ige (x := nI k) (y := nI (zw_cn P N c q)) k (zw_cn P N c q) rfl rfl (by omega) (by omega) (t := (142, [some (.ref 0), some (.int (nI q)), some (.long B), none, some (.int (nI C)), some (.int (nI k)), none], [], (zw_M (upd g 31 (nI (zw_cn P N c q))) gl (va_up (va_up (va_up (va_up a 16 f16) 17 f17) 19 f) 20 T2) (va_up (va_up al 18 F) 21 F3)))) (f := (42, [some (.ref 0), some (.int (nI q)), some (.long B), none, some (.int (nI C)), some (.int (nI k)), none], [], (zw_M (upd g 31 (nI (zw_cn P N c q))) gl (va_up (va_up (va_up (va_up a 16 f16) 17 f17) 19 f) 20 T2) (va_up (va_up al 18 F) 21 F3)))) rfl (fun h2 => ?_) (fun h2 => ?_)
    · skip
      have ek : k = (zw_cn P N c q) := by omega
      refine zr_go (t := (144, [some (.ref 0), some (.int (nI q)), some (.long B), none, some (.int (nI C)), some (.int (nI k)), none], [.int (nI C)], (zw_M (upd g 31 (nI (zw_cn P N c q))) gl (va_up (va_up (va_up (va_up a 16 f16) 17 f17) 19 f) 20 T2) (va_up (va_up al 18 F) 21 F3)))) 1 rfl ?_
      exact zr_ret rfl trivial (Or.inr ⟨h1, by rw [hC, ek], F, F3, f, T2, f16, f17, rfl, by rw [← ek]; exact hL⟩)
    · skip
      refine zr_go (t := (48, [some (.ref 0), some (.int (nI q)), some (.long B), none, some (.int (nI C)), some (.int (nI k)), none], [.int (nI k), .ref 18], (zw_M (upd g 31 (nI (zw_cn P N c q))) gl (va_up (va_up (va_up (va_up a 16 f16) 17 f17) 19 f) 20 T2) (va_up (va_up al 18 F) 21 F3)))) 3 rfl ?_
      refine zr_cd (t := (49, [some (.ref 0), some (.int (nI q)), some (.long B), none, some (.int (nI C)), some (.int (nI k)), none], [.long (F (nI k).toNatClampNeg)], (zw_M (upd g 31 (nI (zw_cn P N c q))) gl (va_up (va_up (va_up (va_up a 16 f16) 17 f17) 19 f) 20 T2) (va_up (va_up al 18 F) 21 F3)))) rfl (pk_in k 64 (by omega) rfl (by omega)) ?_
      rw [pk_cl (x := (nI k)) k rfl (by omega)]
      refine zr_go (t := (53, [some (.ref 0), some (.int (nI q)), some (.long B), none, some (.int (nI C)), some (.int (nI k)), none], [.int (lg_cmp ((F k) &&& B) 0)], (zw_M (upd g 31 (nI (zw_cn P N c q))) gl (va_up (va_up (va_up (va_up a 16 f16) 17 f17) 19 f) 20 T2) (va_up (va_up al 18 F) 21 F3)))) 4 rfl ?_
      have hFk := hFc k h2
      refine zr_if (c := lg_cmp ((F k) &&& B) 0 = 0) (t := (56, [some (.ref 0), some (.int (nI q)), some (.long B), none, some (.int (nI C)), some (.int (nI k)), none], [], (zw_M (upd g 31 (nI (zw_cn P N c q))) gl (va_up (va_up (va_up (va_up a 16 f16) 17 f17) 19 f) 20 T2) (va_up (va_up al 18 F) 21 F3)))) (f := (82, [some (.ref 0), some (.int (nI q)), some (.long B), none, some (.int (nI C)), some (.int (nI k)), none], [], (zw_M (upd g 31 (nI (zw_cn P N c q))) gl (va_up (va_up (va_up (va_up a 16 f16) 17 f17) 19 f) 20 T2) (va_up (va_up al 18 F) 21 F3)))) rfl (fun h3 => ?_) (fun h3 => ?_)
      · skip
        have hA := (lg_cmp_eq _ _).mp h3
        refine zr_go (t := (64, [some (.ref 0), some (.int (nI q)), some (.long B), none, some (.int (nI C)), some (.int (nI k)), none], [.int (nI k), .ref 18, .long B, .ref 0], (zw_M (upd g 31 (nI (zw_cn P N c q))) gl (va_up (va_up (va_up (va_up a 16 f16) 17 f17) 19 f) 20 T2) (va_up (va_up al 18 F) 21 F3)))) 5 rfl ?_
        refine zr_cd (t := (65, [some (.ref 0), some (.int (nI q)), some (.long B), none, some (.int (nI C)), some (.int (nI k)), none], [.long (F (nI k).toNatClampNeg), .long B, .ref 0], (zw_M (upd g 31 (nI (zw_cn P N c q))) gl (va_up (va_up (va_up (va_up a 16 f16) 17 f17) 19 f) 20 T2) (va_up (va_up al 18 F) 21 F3)))) rfl (pk_in k 64 (by omega) rfl (by omega)) ?_
        rw [pk_cl (x := (nI k)) k rfl (by omega)]
        refine zr_go (t := (68, [some (.ref 0), some (.int (nI q)), some (.long B), none, some (.int (nI C)), some (.int (nI k)), none], [.int (nI q), .ref 0, .long (B ||| (F k)), .ref 0], (zw_M (upd g 31 (nI (zw_cn P N c q))) gl (va_up (va_up (va_up (va_up a 16 f16) 17 f17) 19 f) 20 T2) (va_up (va_up al 18 F) 21 F3)))) 3 rfl ?_
        refine zr_call (t := (71, [some (.ref 0), some (.int (nI q)), some (.long B), none, some (.int (nI C)), some (.int (nI k)), none], [.long (B ||| (F k)), .ref 0], (zw_M (upd g 31 (nI (zw_cn P N c q))) gl (va_up (va_up (va_up (va_up a 16 f16) 17 f17) 19 f) 20 T2) (va_up (va_up al 18 F) 21 F3)))) rfl (Nat.le_of_ble_eq_true rfl : 3 ≤ 5) (zs_M_wanted (upd g 31 (nI (zw_cn P N c q))) gl (va_up (va_up (va_up (va_up a 16 f16) 17 f17) 19 f) 20 T2) (va_up (va_up al 18 F) 21 F3) hG P N c hf hs q hq) ?_
        rintro _ _ ⟨rfl, rfl⟩
        show zm_Run zt_get 5 zt_M_finishNow (71, [some (.ref 0), some (.int (nI q)), some (.long B), none, some (.int (nI C)), some (.int (nI k)), none], [.int (nI (zw_wt P N c q)), .long (B ||| (F k)), .ref 0], (zw_M (upd g 31 (nI (zw_cn P N c q))) gl (va_up (va_up (va_up (va_up a 16 f16) 17 f17) 19 f) 20 T2) (va_up (va_up al 18 F) 21 F3))) _
        refine zr_go (t := (72, [some (.ref 0), some (.int (nI q)), some (.long B), none, some (.int (nI C)), some (.int (nI k)), none], [.int 1, .int (nI (zw_wt P N c q)), .long (B ||| (F k)), .ref 0], (zw_M (upd g 31 (nI (zw_cn P N c q))) gl (va_up (va_up (va_up (va_up a 16 f16) 17 f17) 19 f) 20 T2) (va_up (va_up al 18 F) 21 F3)))) 1 rfl ?_
        have hBs : zy_sub (zw_wt P N c q) B := by rw [hB]; exact zy_gb_sub hds (fun k hk => by rw [← hFc k hk]; exact hFs k hk) k hk
        refine zr_call (t := (75, [some (.ref 0), some (.int (nI q)), some (.long B), none, some (.int (nI C)), some (.int (nI k)), none], [], (zw_M (upd g 31 (nI (zw_cn P N c q))) gl (va_up (va_up (va_up (va_up a 16 f16) 17 f17) 19 f) 20 T2) (va_up (va_up al 18 F) 21 F3)))) rfl (Nat.le_of_ble_eq_true rfl : 3 ≤ 5) (zs_M_waysFrom (upd g 31 (nI (zw_cn P N c q))) gl (va_up (va_up (va_up (va_up a 16 f16) 17 f17) 19 f) 20 T2) (va_up (va_up al 18 F) 21 F3) (zw_cn P N c q) rfl (by omega) (zw_wt P N c q) 1 (by omega) (by decide) (B ||| F k) (zy_sub_or hBs (hFs k h2)) hFs) ?_
        rintro _ _ ⟨rfl, T4, F4, rfl⟩
        show zm_Run zt_get 5 zt_M_finishNow (75, [some (.ref 0), some (.int (nI q)), some (.long B), none, some (.int (nI C)), some (.int (nI k)), none], [.int (nI (zy_ways F (zw_cn P N c q) (zw_wt P N c q) 1 (B ||| F k)))], (zw_M (upd g 31 (nI (zw_cn P N c q))) gl (va_up (va_up (va_up (va_up a 16 f16) 17 f17) 19 f) 20 T4) (va_up (va_up al 18 F) 21 F4))) _
        rw [show zy_ways F (zw_cn P N c q) (zw_wt P N c q) 1 (B ||| F k) = (zy_ways (zw_can P N c q) (zw_cn P N c q) (zw_wt P N c q) 1 (B ||| F k)) from zy_ways_congr hFc]
        have hwk : (zy_ways (zw_can P N c q) (zw_cn P N c q) (zw_wt P N c q) 1 (B ||| F k)) ≤ 1 := zy_ways_le (by decide)
        refine zr_ile (x := nI (zy_ways (zw_can P N c q) (zw_cn P N c q) (zw_wt P N c q) 1 (B ||| F k))) (y := 0) (zy_ways (zw_can P N c q) (zw_cn P N c q) (zw_wt P N c q) 1 (B ||| F k)) 0 rfl rfl (by omega) (by omega) (t := (82, [some (.ref 0), some (.int (nI q)), some (.long B), none, some (.int (nI C)), some (.int (nI k)), none], [], (zw_M (upd g 31 (nI (zw_cn P N c q))) gl (va_up (va_up (va_up (va_up a 16 f16) 17 f17) 19 f) 20 T4) (va_up (va_up al 18 F) 21 F4)))) (f := (78, [some (.ref 0), some (.int (nI q)), some (.long B), none, some (.int (nI C)), some (.int (nI k)), none], [], (zw_M (upd g 31 (nI (zw_cn P N c q))) gl (va_up (va_up (va_up (va_up a 16 f16) 17 f17) 19 f) 20 T4) (va_up (va_up al 18 F) 21 F4)))) rfl (fun h4 => ?_) (fun h4 => ?_)
        · skip
          have htk : (zw_tk P N c q (ff q) (nn q)) k = false := decide_eq_false (fun z => by have z2 := z.2; rw [← hB, ← hFk] at z2; omega)
          refine zr_go (t := (87, [some (.ref 0), some (.int (nI q)), some (.long B), none, some (.int (nI C)), some (.int (nI k)), some (.int 0)], [.int 0], (zw_M (upd g 31 (nI (zw_cn P N c q))) gl (va_up (va_up (va_up (va_up a 16 f16) 17 f17) 19 f) 20 T4) (va_up (va_up al 18 F) 21 F4)))) 3 rfl ?_
          refine zr_ieq (x := 0) (y := 0) 0 0 rfl rfl (by omega) (by omega) (t := (136, [some (.ref 0), some (.int (nI q)), some (.long B), none, some (.int (nI C)), some (.int (nI k)), some (.int 0)], [], (zw_M (upd g 31 (nI (zw_cn P N c q))) gl (va_up (va_up (va_up (va_up a 16 f16) 17 f17) 19 f) 20 T4) (va_up (va_up al 18 F) 21 F4)))) (f := (90, [some (.ref 0), some (.int (nI q)), some (.long B), none, some (.int (nI C)), some (.int (nI k)), some (.int 0)], [], (zw_M (upd g 31 (nI (zw_cn P N c q))) gl (va_up (va_up (va_up (va_up a 16 f16) 17 f17) 19 f) 20 T4) (va_up (va_up al 18 F) 21 F4)))) rfl (fun h6 => ?_) (fun h6 => ?_)
          · skip
            refine zr_go (t := (33, [some (.ref 0), some (.int (nI q)), some (.long B), none, some (.int (nI C)), some (.int ((nI k) + 1)), some (.int 0)], [], (zw_M (upd g 31 (nI (zw_cn P N c q))) gl (va_up (va_up (va_up (va_up a 16 f16) 17 f17) 19 f) 20 T4) (va_up (va_up al 18 F) 21 F4)))) 2 rfl ?_
            rw [show (nI k) + 1 = nI (k + 1) from (zn_add rfl rfl)]
            refine zr_forget [some (.ref 0), some (.int (nI q)), some (.long B), none, some (.int (nI C)), some (.int (nI (k + 1))), none] ⟨Or.inr rfl, Or.inr rfl, Or.inr rfl, Or.inr rfl, Or.inr rfl, Or.inr rfl, Or.inl rfl, trivial⟩ ?_
            exact ih (k + 1, C, B, f16, f17, T4, F4) ⟨by omega, by rw [hC]; show _ = zC (zw_tk P N c q (ff q) (nn q)) k + ((zw_tk P N c q (ff q) (nn q)) k).toNat; rw [htk]; rfl, by rw [hB]; exact (zy_gb_n htk).symm, by rw [show zw_nnn P N c q nn ff (k + 1) = zw_nnn P N c q nn ff k from by unfold zw_nnn; show zl_n nn q (nn q + (zC (zw_tk P N c q (ff q) (nn q)) k + ((zw_tk P N c q (ff q) (nn q)) k).toNat)) = _; rw [htk]; rfl]; exact hL⟩ (by omega)
          · skip
            exact absurd rfl h6
        · skip
          have htk : (zw_tk P N c q (ff q) (nn q)) k = true := decide_eq_true ⟨by rw [← hB, ← hFk]; exact hA, by rw [← hB, ← hFk]; exact h4⟩
          refine zr_go (t := (87, [some (.ref 0), some (.int (nI q)), some (.long B), none, some (.int (nI C)), some (.int (nI k)), some (.int 1)], [.int 1], (zw_M (upd g 31 (nI (zw_cn P N c q))) gl (va_up (va_up (va_up (va_up a 16 f16) 17 f17) 19 f) 20 T4) (va_up (va_up al 18 F) 21 F4)))) 4 rfl ?_
          refine zr_ieq (x := 1) (y := 0) 1 0 rfl rfl (by omega) (by omega) (t := (136, [some (.ref 0), some (.int (nI q)), some (.long B), none, some (.int (nI C)), some (.int (nI k)), some (.int 1)], [], (zw_M (upd g 31 (nI (zw_cn P N c q))) gl (va_up (va_up (va_up (va_up a 16 f16) 17 f17) 19 f) 20 T4) (va_up (va_up al 18 F) 21 F4)))) (f := (90, [some (.ref 0), some (.int (nI q)), some (.long B), none, some (.int (nI C)), some (.int (nI k)), some (.int 1)], [], (zw_M (upd g 31 (nI (zw_cn P N c q))) gl (va_up (va_up (va_up (va_up a 16 f16) 17 f17) 19 f) 20 T4) (va_up (va_up al 18 F) 21 F4)))) rfl (fun h6 => ?_) (fun h6 => ?_)
          · skip
            exact absurd h6 (by decide)
          · skip
            have hgain : zC (zw_tk P N c q (ff q) (nn q)) (k + 1) ≤ zC (zw_tk P N c q (ff q) (nn q)) (zw_cn P N c q) := zC_mono _ h2
            have hgain2 : zC (zw_tk P N c q (ff q) (nn q)) (k + 1) = zC (zw_tk P N c q (ff q) (nn q)) k + 1 := by show zC (zw_tk P N c q (ff q) (nn q)) k + ((zw_tk P N c q (ff q) (nn q)) k).toNat = _; rw [htk]; rfl
            have hnq : zw_nnn P N c q nn ff k q = nn q + C := by unfold zw_nnn zl_n; rw [if_pos rfl, hC]
            refine zr_go (t := (97, [some (.ref 0), some (.int (nI q)), some (.long B), none, some (.int (nI C)), some (.int (nI k)), some (.int 1)], [.int (nI k), .ref 18, .long B], (zw_M (upd g 31 (nI (zw_cn P N c q))) gl (va_up (va_up (va_up (va_up a 16 f16) 17 f17) 19 f) 20 T4) (va_up (va_up al 18 F) 21 F4)))) 4 rfl ?_
            refine zr_cd (t := (98, [some (.ref 0), some (.int (nI q)), some (.long B), none, some (.int (nI C)), some (.int (nI k)), some (.int 1)], [.long (F (nI k).toNatClampNeg), .long B], (zw_M (upd g 31 (nI (zw_cn P N c q))) gl (va_up (va_up (va_up (va_up a 16 f16) 17 f17) 19 f) 20 T4) (va_up (va_up al 18 F) 21 F4)))) rfl (pk_in k 64 (by omega) rfl (by omega)) ?_
            rw [pk_cl (x := (nI k)) k rfl (by omega)]
            refine zr_go (t := (113, [some (.ref 0), some (.int (nI q)), some (.long (B ||| (F k))), none, some (.int (nI C)), some (.int (nI k)), some (.int 1)], [.int (nI q), .ref 16, .int (64 * (nI q)), .ref 17], (zw_M (upd g 31 (nI (zw_cn P N c q))) gl (va_up (va_up (va_up (va_up a 16 f16) 17 f17) 19 f) 20 T4) (va_up (va_up al 18 F) 21 F4)))) 10 rfl ?_
            refine zr_cd (t := (114, [some (.ref 0), some (.int (nI q)), some (.long (B ||| (F k))), none, some (.int (nI C)), some (.int (nI k)), some (.int 1)], [.int (f16 (nI q).toNatClampNeg), .int (64 * (nI q)), .ref 17], (zw_M (upd g 31 (nI (zw_cn P N c q))) gl (va_up (va_up (va_up (va_up a 16 f16) 17 f17) 19 f) 20 T4) (va_up (va_up al 18 F) 21 F4)))) rfl (pk_in q 2 (by omega) rfl (by omega)) ?_
            rw [pk_cl (x := (nI q)) q rfl (by omega)]
            rw [show f16 q = nI (nn q + C) from (by rw [(hL q hq).1, hnq])]
            refine zr_go (t := (121, [some (.ref 0), some (.int (nI q)), some (.long (B ||| (F k))), none, some (.int (nI C)), some (.int (nI k)), some (.int 1)], [.int (nI k), .ref 19, .int ((64 * (nI q)) + (nI (nn q + C))), .ref 17], (zw_M (upd g 31 (nI (zw_cn P N c q))) gl (va_up (va_up (va_up (va_up a 16 f16) 17 f17) 19 f) 20 T4) (va_up (va_up al 18 F) 21 F4)))) 4 rfl ?_
            refine zr_cd (t := (122, [some (.ref 0), some (.int (nI q)), some (.long (B ||| (F k))), none, some (.int (nI C)), some (.int (nI k)), some (.int 1)], [.int (f (nI k).toNatClampNeg), .int ((64 * (nI q)) + (nI (nn q + C))), .ref 17], (zw_M (upd g 31 (nI (zw_cn P N c q))) gl (va_up (va_up (va_up (va_up a 16 f16) 17 f17) 19 f) 20 T4) (va_up (va_up al 18 F) 21 F4)))) rfl (pk_in k 64 (by omega) rfl (by omega)) ?_
            rw [pk_cl (x := (nI k)) k rfl (by omega)]
            rw [show f k = nI (zw_cx P N c q k) from hf2 k h2]
            refine zr_cd (t := (123, [some (.ref 0), some (.int (nI q)), some (.long (B ||| (F k))), none, some (.int (nI C)), some (.int (nI k)), some (.int 1)], [], (zw_M (upd g 31 (nI (zw_cn P N c q))) gl (va_up (va_up (va_up (va_up a 16 f16) 17 (upd f17 (((64 * (nI q)) + (nI (nn q + C))).toNatClampNeg) (nI (zw_cx P N c q k)))) 19 f) 20 T4) (va_up (va_up al 18 F) 21 F4)))) rfl (pk_in ((64 * q) + (nn q + C)) 128 (by omega) (zn_add (zn_mul rfl rfl) rfl) (by omega)) ?_
            rw [pk_cl (x := ((64 * (nI q)) + (nI (nn q + C)))) ((64 * q) + (nn q + C)) (zn_add (zn_mul rfl rfl) rfl) (by omega)]
            refine zr_go (t := (129, [some (.ref 0), some (.int (nI q)), some (.long (B ||| (F k))), none, some (.int (nI C)), some (.int (nI k)), some (.int 1)], [.int (nI q), .ref 16, .int (nI q), .ref 16], (zw_M (upd g 31 (nI (zw_cn P N c q))) gl (va_up (va_up (va_up (va_up a 16 f16) 17 (upd f17 ((64 * q) + (nn q + C)) (nI (zw_cx P N c q k)))) 19 f) 20 T4) (va_up (va_up al 18 F) 21 F4)))) 4 rfl ?_
            refine zr_cd (t := (130, [some (.ref 0), some (.int (nI q)), some (.long (B ||| (F k))), none, some (.int (nI C)), some (.int (nI k)), some (.int 1)], [.int (f16 (nI q).toNatClampNeg), .int (nI q), .ref 16], (zw_M (upd g 31 (nI (zw_cn P N c q))) gl (va_up (va_up (va_up (va_up a 16 f16) 17 (upd f17 ((64 * q) + (nn q + C)) (nI (zw_cx P N c q k)))) 19 f) 20 T4) (va_up (va_up al 18 F) 21 F4)))) rfl (pk_in q 2 (by omega) rfl (by omega)) ?_
            rw [pk_cl (x := (nI q)) q rfl (by omega)]
            rw [show f16 q = nI (nn q + C) from (by rw [(hL q hq).1, hnq])]
            refine zr_go (t := (132, [some (.ref 0), some (.int (nI q)), some (.long (B ||| (F k))), none, some (.int (nI C)), some (.int (nI k)), some (.int 1)], [.int ((nI (nn q + C)) + 1), .int (nI q), .ref 16], (zw_M (upd g 31 (nI (zw_cn P N c q))) gl (va_up (va_up (va_up (va_up a 16 f16) 17 (upd f17 ((64 * q) + (nn q + C)) (nI (zw_cx P N c q k)))) 19 f) 20 T4) (va_up (va_up al 18 F) 21 F4)))) 2 rfl ?_
            refine zr_cd (t := (133, [some (.ref 0), some (.int (nI q)), some (.long (B ||| (F k))), none, some (.int (nI C)), some (.int (nI k)), some (.int 1)], [], (zw_M (upd g 31 (nI (zw_cn P N c q))) gl (va_up (va_up (va_up (va_up a 16 (upd f16 ((nI q).toNatClampNeg) ((nI (nn q + C)) + 1))) 17 (upd f17 ((64 * q) + (nn q + C)) (nI (zw_cx P N c q k)))) 19 f) 20 T4) (va_up (va_up al 18 F) 21 F4)))) rfl (pk_in q 2 (by omega) rfl (by omega)) ?_
            rw [pk_cl (x := (nI q)) q rfl (by omega)]
            refine zr_go (t := (33, [some (.ref 0), some (.int (nI q)), some (.long (B ||| (F k))), none, some (.int ((nI C) + 1)), some (.int ((nI k) + 1)), some (.int 1)], [], (zw_M (upd g 31 (nI (zw_cn P N c q))) gl (va_up (va_up (va_up (va_up a 16 (upd f16 q ((nI (nn q + C)) + 1))) 17 (upd f17 ((64 * q) + (nn q + C)) (nI (zw_cx P N c q k)))) 19 f) 20 T4) (va_up (va_up al 18 F) 21 F4)))) 3 rfl ?_
            rw [show (nI k) + 1 = nI (k + 1) from (zn_add rfl rfl)]
            rw [show (nI C) + 1 = nI (C + 1) from (zn_add rfl rfl)]
            refine zr_forget [some (.ref 0), some (.int (nI q)), some (.long (B ||| (F k))), none, some (.int (nI (C + 1))), some (.int (nI (k + 1))), none] ⟨Or.inr rfl, Or.inr rfl, Or.inr rfl, Or.inr rfl, Or.inr rfl, Or.inr rfl, Or.inl rfl, trivial⟩ ?_
            exact ih (k + 1, C + 1, (B ||| F k), (upd f16 q ((nI (nn q + C)) + 1)), (upd f17 ((64 * q) + (nn q + C)) (nI (zw_cx P N c q k))), T4, F4) ⟨by omega, by rw [hC]; exact hgain2.symm, by rw [hB, hFk]; exact (zy_gb_y htk).symm, zw_fin (fun s hs2 => (hl s hs2).2.1) hq hL hgain2 hC htk h2 hroom hgain⟩ (by omega)
      · skip
        have htk : (zw_tk P N c q (ff q) (nn q)) k = false := decide_eq_false (fun z => h3 ((lg_cmp_eq _ _).mpr (by have z1 := z.1; rw [← hB, ← hFk] at z1; exact z1)))
        refine zr_go (t := (87, [some (.ref 0), some (.int (nI q)), some (.long B), none, some (.int (nI C)), some (.int (nI k)), some (.int 0)], [.int 0], (zw_M (upd g 31 (nI (zw_cn P N c q))) gl (va_up (va_up (va_up (va_up a 16 f16) 17 f17) 19 f) 20 T2) (va_up (va_up al 18 F) 21 F3)))) 3 rfl ?_
        refine zr_ieq (x := 0) (y := 0) 0 0 rfl rfl (by omega) (by omega) (t := (136, [some (.ref 0), some (.int (nI q)), some (.long B), none, some (.int (nI C)), some (.int (nI k)), some (.int 0)], [], (zw_M (upd g 31 (nI (zw_cn P N c q))) gl (va_up (va_up (va_up (va_up a 16 f16) 17 f17) 19 f) 20 T2) (va_up (va_up al 18 F) 21 F3)))) (f := (90, [some (.ref 0), some (.int (nI q)), some (.long B), none, some (.int (nI C)), some (.int (nI k)), some (.int 0)], [], (zw_M (upd g 31 (nI (zw_cn P N c q))) gl (va_up (va_up (va_up (va_up a 16 f16) 17 f17) 19 f) 20 T2) (va_up (va_up al 18 F) 21 F3)))) rfl (fun h6 => ?_) (fun h6 => ?_)
        · skip
          refine zr_go (t := (33, [some (.ref 0), some (.int (nI q)), some (.long B), none, some (.int (nI C)), some (.int ((nI k) + 1)), some (.int 0)], [], (zw_M (upd g 31 (nI (zw_cn P N c q))) gl (va_up (va_up (va_up (va_up a 16 f16) 17 f17) 19 f) 20 T2) (va_up (va_up al 18 F) 21 F3)))) 2 rfl ?_
          rw [show (nI k) + 1 = nI (k + 1) from (zn_add rfl rfl)]
          refine zr_forget [some (.ref 0), some (.int (nI q)), some (.long B), none, some (.int (nI C)), some (.int (nI (k + 1))), none] ⟨Or.inr rfl, Or.inr rfl, Or.inr rfl, Or.inr rfl, Or.inr rfl, Or.inr rfl, Or.inl rfl, trivial⟩ ?_
          exact ih (k + 1, C, B, f16, f17, T2, F3) ⟨by omega, by rw [hC]; show _ = zC (zw_tk P N c q (ff q) (nn q)) k + ((zw_tk P N c q (ff q) (nn q)) k).toNat; rw [htk]; rfl, by rw [hB]; exact (zy_gb_n htk).symm, by rw [show zw_nnn P N c q nn ff (k + 1) = zw_nnn P N c q nn ff k from by unfold zw_nnn; show zl_n nn q (nn q + (zC (zw_tk P N c q (ff q) (nn q)) k + ((zw_tk P N c q (ff q) (nn q)) k).toNat)) = _; rw [htk]; rfl]; exact hL⟩ (by omega)
        · skip
          exact absurd rfl h6
  · skip
    refine zr_go (t := (26, [some (.ref 0), some (.int (nI q)), some (.long (zw_rd P N c q (ff q) (nn q))), none, none, none, none], [.int (-1)], (zw_M (upd g 31 (nI (zw_cn P N c q))) gl (va_up (va_up a 19 f) 20 T) (va_up (va_up al 18 F) 21 F2)))) 1 rfl ?_
    exact zr_ret rfl trivial (Or.inl ⟨h1, rfl, F, F2, f, T, rfl⟩)
theorem zs_M_finish (g : Nat → Int32) (gl : Nat → Int64) (a : Nat → Nat → Int32) (al : Nat → Nat → Int64) (hG : zG) (P N : Nat) (c : Nat → Nat) (hS : zS_F g a P N c) (nn : Nat → Nat) (ff : Nat → Nat → Nat) (hl : zS_l a nn ff) (he : zw_sound P N c = true → ∀ q, q < 2 → ∀ k, k < nn q → zw_ent P N c q (ff q k)) (hH : zH) (hroom : zw_sound P N c = true → ∀ q, q < 2 → nn q + zC (zw_tk P N c q (ff q) (nn q)) (zw_cn P N c q) ≤ 64) (K : Nat) (hK : g 36 = nI K) (hK1 : K ≤ 20) (x : Int32) : zm_Ev zt_get 7 194 [.ref 0, .int x] (zw_M g gl a al) (fun v w => (¬ (zx_in x 2 = true ∧ zw_sound P N c = true ∧ K ≠ 20) ∧ v = some (.int (if zx_in x 2 = true then -103 else -102)) ∧ w = (zw_M g gl a al)) ∨ ((zx_in x 2 = true ∧ zw_sound P N c = true ∧ K ≠ 20) ∧ (((zw_wy P N c (zx_k x) 1 (ff (zx_k x)) (nn (zx_k x))) = 0 ∧ v = some (.int (-1)) ∧ ∃ (F F2 : Nat → Int64) (f T : Nat → Int32), w = (zw_M (upd (upd g 31 (nI (zw_cn P N c (zx_k x)))) 36 (nI (K + 1))) gl (va_up (va_up a 19 f) 20 T) (va_up (va_up al 18 F) 21 F2))) ∨ ((zw_wy P N c (zx_k x) 1 (ff (zx_k x)) (nn (zx_k x))) ≠ 0 ∧ v = some (.int (nI (zC (zw_tk P N c (zx_k x) (ff (zx_k x)) (nn (zx_k x))) (zw_cn P N c (zx_k x))))) ∧ ∃ (F F2 : Nat → Int64) (f T f16 f17 : Nat → Int32), w = (zw_M (upd (upd g 31 (nI (zw_cn P N c (zx_k x)))) 36 (nI (K + 1))) gl (va_up (va_up (va_up (va_up a 16 f16) 17 f17) 19 f) 20 T) (va_up (va_up al 18 F) 21 F2)) ∧ ∀ s, s < 2 → f16 s = nI (zw_nnn P N c (zx_k x) nn ff (zw_cn P N c (zx_k x)) s) ∧ ∀ j, j < zw_nnn P N c (zx_k x) nn ff (zw_cn P N c (zx_k x)) s → f17 (64 * s + j) = nI (zw_ffn P N c (zx_k x) nn ff s j))))) := by
  obtain ⟨hP, hN, hnp, hP5, hN6, hnp1⟩ := hS.nums
  obtain ⟨ns, on, nl, npl, hns, hon, hnl, hnpl, hns1, hon1, hnl1, hnpl1, hz0, hzP⟩ := hS.more hG
  have hso : zw_sound P N c = (decide (0 < P) && decide (ns = 0)) := by unfold zw_sound; by_cases q : 0 < P; rw [(hzP q).1]; rw [decide_eq_false q]; rfl
  refine zr_ev zt_M_finish rfl rfl ?_
  show zm_Run zt_get 6 zt_M_finish (0, [some (.ref 0), some (.int x)], [], (zw_M g gl a al)) _
  refine zr_go (t := (1, [some (.ref 0), some (.int x)], [.int x], (zw_M g gl a al))) 1 rfl ?_
  refine zr_call (t := (4, [some (.ref 0), some (.int x)], [], (zw_M g gl a al))) rfl (Nat.le_of_ble_eq_true rfl : 2 ≤ 6) (zs_M_isOf g gl a al x) ?_
  rintro _ _ ⟨rfl, rfl⟩
  show zm_Run zt_get 6 zt_M_finish (4, [some (.ref 0), some (.int x)], [.int (nI ((zx_in x 2).toNat))], (zw_M g gl a al)) _
  have hb1 := zb_le (zx_in x 2)
  refine zr_ine (x := nI ((zx_in x 2).toNat)) (y := 0) ((zx_in x 2).toNat) 0 rfl rfl (by omega) (by omega) (t := (10, [some (.ref 0), some (.int x)], [], (zw_M g gl a al))) (f := (7, [some (.ref 0), some (.int x)], [], (zw_M g gl a al))) rfl (fun h1 => ?_) (fun h1 => ?_)
  · skip
    have hx := zb_1 h1
    refine zr_go (t := (11, [some (.ref 0), some (.int x)], [.ref 0], (zw_M g gl a al))) 1 rfl ?_
    refine zr_call (t := (14, [some (.ref 0), some (.int x)], [], (zw_M g gl a al))) rfl (Nat.le_of_ble_eq_true rfl : 1 ≤ 6) (zs_M_isSound g gl a al P ns hP hP5 hns hns1) ?_
    rintro _ _ ⟨rfl, rfl⟩
    show zm_Run zt_get 6 zt_M_finish (14, [some (.ref 0), some (.int x)], [.int (nI ((decide (0 < P) && decide (ns = 0)).toNat))], (zw_M g gl a al)) _
    have hbs := zb_le (decide (0 < P) && decide (ns = 0))
    refine zr_ieq (x := nI ((decide (0 < P) && decide (ns = 0)).toNat)) (y := 0) ((decide (0 < P) && decide (ns = 0)).toNat) 0 rfl rfl (by omega) (by omega) (t := (26, [some (.ref 0), some (.int x)], [], (zw_M g gl a al))) (f := (17, [some (.ref 0), some (.int x)], [], (zw_M g gl a al))) rfl (fun h2 => ?_) (fun h2 => ?_)
    · skip
      refine zr_go (t := (28, [some (.ref 0), some (.int x)], [.int (-103)], (zw_M g gl a al))) 1 rfl ?_
      exact zr_ret rfl trivial (Or.inl ⟨fun z => (by rw [hso, zb_0 h2] at z; exact absurd z.2.1 (by decide)), by rw [if_pos hx], rfl⟩)
    · skip
      rw [zb_1 h2] at hso
      obtain ⟨hp0, hn0⟩ := Bool.and_eq_true_iff.mp (zb_1 h2)
      have hp0 := of_decide_eq_true hp0
      have hn0 := of_decide_eq_true hn0
      obtain ⟨ens, eon, e3⟩ := hzP hp0
      obtain ⟨enl, enpl⟩ := e3 hn0
      obtain ⟨hf, enp⟩ := hS.form hp0
      obtain ⟨-, -, -, -, hLL⟩ := hf.sound hG (by rw [← ens]; exact hn0)
      subst enl
      subst enpl
      subst eon
      refine zr_go (t := (23, [some (.ref 0), some (.int x)], [.int 20, .int (g 36)], (zw_M g gl a al))) 3 rfl ?_
      refine zr_ine (x := g 36) (y := 20) K 20 hK rfl (by omega) (by omega) (t := (29, [some (.ref 0), some (.int x)], [], (zw_M g gl a al))) (f := (26, [some (.ref 0), some (.int x)], [], (zw_M g gl a al))) rfl (fun h3 => ?_) (fun h3 => ?_)
      · skip
        obtain ⟨k1, k2⟩ := zx_of hx
        have hyes : (zx_in x 2 = true ∧ zw_sound P N c = true ∧ K ≠ 20) := ⟨hx, hso, h3⟩
        have hs0 : zw_ns P N c = 0 := by rw [← ens]; exact hn0
        have hok := hf.1
        obtain ⟨hon4, hgm4⟩ := hH P N c hok hs0
        generalize hKx : zx_k x = q at k1 k2
        subst k2
        have hwt : zw_wt P N c q ≤ 45 := by unfold zw_wt; split <;> omega
        have hcn : zw_cn P N c q ≤ 45 := by unfold zw_cn; split <;> omega
        refine zr_go (t := (39, [some (.ref 0), some (.int (nI q))], [], (zw_M (upd g 36 ((g 36) + 1)) gl a al))) 6 rfl ?_
        rw [show g 36 + 1 = nI (K + 1) from zn_add hK rfl]
        refine zr_go (t := (41, [some (.ref 0), some (.int (nI q))], [.int (nI q), .ref 0], (zw_M (upd g 36 (nI (K + 1))) gl a al))) 2 rfl ?_
        refine zr_call (t := (44, [some (.ref 0), some (.int (nI q))], [], (zw_M (upd g 36 (nI (K + 1))) gl a al))) rfl (Nat.le_of_ble_eq_true rfl : 6 ≤ 6) (zs_M_finishNow (upd g 36 (nI (K + 1))) gl a al hG P N c hf hs0 nn ff hl (he hso) hH q k1 (hroom hso q k1)) ?_
        rintro _ _ (⟨hw0, rfl, F, F2, f, T, rfl⟩ | ⟨hw0, rfl, F, F2, f, T, f16, f17, rfl, hLL2⟩)
        · skip
          show zm_Run zt_get 6 zt_M_finish (44, [some (.ref 0), some (.int (nI q))], [.int (-1)], (zw_M (upd (upd g 31 (nI (zw_cn P N c q))) 36 (nI (K + 1))) gl (va_up (va_up a 19 f) 20 T) (va_up (va_up al 18 F) 21 F2))) _
          exact zr_ret rfl trivial (Or.inr ⟨hyes, Or.inl ⟨hw0, rfl, F, F2, f, T, rfl⟩⟩)
        · skip
          show zm_Run zt_get 6 zt_M_finish (44, [some (.ref 0), some (.int (nI q))], [.int (nI (zC (zw_tk P N c q (ff q) (nn q)) (zw_cn P N c q)))], (zw_M (upd (upd g 31 (nI (zw_cn P N c q))) 36 (nI (K + 1))) gl (va_up (va_up (va_up (va_up a 16 f16) 17 f17) 19 f) 20 T) (va_up (va_up al 18 F) 21 F2))) _
          exact zr_ret rfl trivial (Or.inr ⟨hyes, Or.inr ⟨hw0, rfl, F, F2, f, T, f16, f17, rfl, hLL2⟩⟩)
      · skip
        refine zr_go (t := (28, [some (.ref 0), some (.int x)], [.int (-103)], (zw_M g gl a al))) 1 rfl ?_
        exact zr_ret rfl trivial (Or.inl ⟨fun z => z.2.2 h3, by rw [if_pos hx], rfl⟩)
  · skip
    refine zr_go (t := (9, [some (.ref 0), some (.int x)], [.int (-102)], (zw_M g gl a al))) 1 rfl ?_
    exact zr_ret rfl trivial (Or.inl ⟨fun z => (by rw [zb_0 h1] at z; exact absurd z.1 (by decide)), by rw [zb_0 h1]; rfl, rfl⟩)
theorem zs_M_ways (g : Nat → Int32) (gl : Nat → Int64) (a : Nat → Nat → Int32) (al : Nat → Nat → Int64) (hG : zG) (P N : Nat) (c : Nat → Nat) (hS : zS_F g a P N c) (nn : Nat → Nat) (ff : Nat → Nat → Nat) (hl : zS_l a nn ff) (he : zw_sound P N c = true → ∀ q, q < 2 → ∀ k, k < nn q → zw_ent P N c q (ff q k)) (hH : zH) (K : Nat) (hK : g 37 = nI K) (hK1 : K ≤ 12) (x : Int32) : zm_Ev zt_get 6 195 [.ref 0, .int x] (zw_M g gl a al) (fun v w => (¬ (zx_in x 2 = true ∧ zw_sound P N c = true ∧ K ≠ 12) ∧ v = some (.int (if zx_in x 2 = true then -103 else -102)) ∧ w = (zw_M g gl a al)) ∨ ((zx_in x 2 = true ∧ zw_sound P N c = true ∧ K ≠ 12) ∧ (v = some (.int (nI (zw_wy P N c (zx_k x) 1073741824 (ff (zx_k x)) (nn (zx_k x))))) ∧ ∃ (F F2 : Nat → Int64) (f T : Nat → Int32), w = (zw_M (upd (upd g 31 (nI (zw_cn P N c (zx_k x)))) 37 (nI (K + 1))) gl (va_up (va_up a 19 f) 20 T) (va_up (va_up al 18 F) 21 F2))))) := by
  obtain ⟨hP, hN, hnp, hP5, hN6, hnp1⟩ := hS.nums
  obtain ⟨ns, on, nl, npl, hns, hon, hnl, hnpl, hns1, hon1, hnl1, hnpl1, hz0, hzP⟩ := hS.more hG
  have hso : zw_sound P N c = (decide (0 < P) && decide (ns = 0)) := by unfold zw_sound; by_cases q : 0 < P; rw [(hzP q).1]; rw [decide_eq_false q]; rfl
  refine zr_ev zt_M_ways rfl rfl ?_
  show zm_Run zt_get 5 zt_M_ways (0, [some (.ref 0), some (.int x)], [], (zw_M g gl a al)) _
  refine zr_go (t := (1, [some (.ref 0), some (.int x)], [.int x], (zw_M g gl a al))) 1 rfl ?_
  refine zr_call (t := (4, [some (.ref 0), some (.int x)], [], (zw_M g gl a al))) rfl (Nat.le_of_ble_eq_true rfl : 2 ≤ 5) (zs_M_isOf g gl a al x) ?_
  rintro _ _ ⟨rfl, rfl⟩
  show zm_Run zt_get 5 zt_M_ways (4, [some (.ref 0), some (.int x)], [.int (nI ((zx_in x 2).toNat))], (zw_M g gl a al)) _
  have hb1 := zb_le (zx_in x 2)
  refine zr_ine (x := nI ((zx_in x 2).toNat)) (y := 0) ((zx_in x 2).toNat) 0 rfl rfl (by omega) (by omega) (t := (10, [some (.ref 0), some (.int x)], [], (zw_M g gl a al))) (f := (7, [some (.ref 0), some (.int x)], [], (zw_M g gl a al))) rfl (fun h1 => ?_) (fun h1 => ?_)
  · skip
    have hx := zb_1 h1
    refine zr_go (t := (11, [some (.ref 0), some (.int x)], [.ref 0], (zw_M g gl a al))) 1 rfl ?_
    refine zr_call (t := (14, [some (.ref 0), some (.int x)], [], (zw_M g gl a al))) rfl (Nat.le_of_ble_eq_true rfl : 1 ≤ 5) (zs_M_isSound g gl a al P ns hP hP5 hns hns1) ?_
    rintro _ _ ⟨rfl, rfl⟩
    show zm_Run zt_get 5 zt_M_ways (14, [some (.ref 0), some (.int x)], [.int (nI ((decide (0 < P) && decide (ns = 0)).toNat))], (zw_M g gl a al)) _
    have hbs := zb_le (decide (0 < P) && decide (ns = 0))
    refine zr_ieq (x := nI ((decide (0 < P) && decide (ns = 0)).toNat)) (y := 0) ((decide (0 < P) && decide (ns = 0)).toNat) 0 rfl rfl (by omega) (by omega) (t := (26, [some (.ref 0), some (.int x)], [], (zw_M g gl a al))) (f := (17, [some (.ref 0), some (.int x)], [], (zw_M g gl a al))) rfl (fun h2 => ?_) (fun h2 => ?_)
    · skip
      refine zr_go (t := (28, [some (.ref 0), some (.int x)], [.int (-103)], (zw_M g gl a al))) 1 rfl ?_
      exact zr_ret rfl trivial (Or.inl ⟨fun z => (by rw [hso, zb_0 h2] at z; exact absurd z.2.1 (by decide)), by rw [if_pos hx], rfl⟩)
    · skip
      rw [zb_1 h2] at hso
      obtain ⟨hp0, hn0⟩ := Bool.and_eq_true_iff.mp (zb_1 h2)
      have hp0 := of_decide_eq_true hp0
      have hn0 := of_decide_eq_true hn0
      obtain ⟨ens, eon, e3⟩ := hzP hp0
      obtain ⟨enl, enpl⟩ := e3 hn0
      obtain ⟨hf, enp⟩ := hS.form hp0
      obtain ⟨-, -, -, -, hLL⟩ := hf.sound hG (by rw [← ens]; exact hn0)
      subst enl
      subst enpl
      subst eon
      refine zr_go (t := (23, [some (.ref 0), some (.int x)], [.int 12, .int (g 37)], (zw_M g gl a al))) 3 rfl ?_
      refine zr_ine (x := g 37) (y := 12) K 12 hK rfl (by omega) (by omega) (t := (29, [some (.ref 0), some (.int x)], [], (zw_M g gl a al))) (f := (26, [some (.ref 0), some (.int x)], [], (zw_M g gl a al))) rfl (fun h3 => ?_) (fun h3 => ?_)
      · skip
        obtain ⟨k1, k2⟩ := zx_of hx
        have hyes : (zx_in x 2 = true ∧ zw_sound P N c = true ∧ K ≠ 12) := ⟨hx, hso, h3⟩
        have hs0 : zw_ns P N c = 0 := by rw [← ens]; exact hn0
        have hok := hf.1
        obtain ⟨hon4, hgm4⟩ := hH P N c hok hs0
        generalize hKx : zx_k x = q at k1 k2
        subst k2
        have hwt : zw_wt P N c q ≤ 45 := by unfold zw_wt; split <;> omega
        have hcn : zw_cn P N c q ≤ 45 := by unfold zw_cn; split <;> omega
        refine zr_go (t := (39, [some (.ref 0), some (.int (nI q))], [], (zw_M (upd g 37 ((g 37) + 1)) gl a al))) 6 rfl ?_
        rw [show g 37 + 1 = nI (K + 1) from zn_add hK rfl]
        refine zr_go (t := (41, [some (.ref 0), some (.int (nI q))], [.int (nI q), .ref 0], (zw_M (upd g 37 (nI (K + 1))) gl a al))) 2 rfl ?_
        refine zr_call (t := (44, [some (.ref 0), some (.int (nI q))], [], (zw_M (upd g 37 (nI (K + 1))) gl a al))) rfl (Nat.le_of_ble_eq_true rfl : 5 ≤ 5) (zs_M_layCan (upd g 37 (nI (K + 1))) gl a al hG P N c hf hs0 hH q k1) ?_
        rintro _ _ ⟨rfl, F, f, rfl, hF, hf2⟩
        show zm_Run zt_get 5 zt_M_ways (44, [some (.ref 0), some (.int (nI q))], [], (zw_M (upd (upd g 31 (nI (zw_cn P N c q))) 37 (nI (K + 1))) gl (va_up a 19 f) (va_up al 18 F))) _
        refine zr_go (t := (47, [some (.ref 0), some (.int (nI q))], [.int (nI q), .ref 0, .ref 0], (zw_M (upd (upd g 31 (nI (zw_cn P N c q))) 37 (nI (K + 1))) gl (va_up a 19 f) (va_up al 18 F)))) 3 rfl ?_
        have hFc : ∀ k, k < zw_cn P N c q → F k = zw_can P N c q k := hF
        have hFs : ∀ k, k < zw_cn P N c q → zy_sub (zw_wt P N c q) (F k) := fun k hk => by rw [hF k hk]; exact zw_rc_sub hH hok hs0 q _
        refine zr_call (t := (50, [some (.ref 0), some (.int (nI q))], [.ref 0], (zw_M (upd (upd g 31 (nI (zw_cn P N c q))) 37 (nI (K + 1))) gl (va_up a 19 f) (va_up al 18 F)))) rfl (Nat.le_of_ble_eq_true rfl : 5 ≤ 5) (zs_M_reached (upd (upd g 31 (nI (zw_cn P N c q))) 37 (nI (K + 1))) gl (va_up a 19 f) (va_up al 18 F) hG P N c hf hs0 nn ff hl (he hso) q k1) ?_
        rintro _ _ ⟨rfl, rfl⟩
        show zm_Run zt_get 5 zt_M_ways (50, [some (.ref 0), some (.int (nI q))], [.long (zw_rd P N c q (ff q) (nn q)), .ref 0], (zw_M (upd (upd g 31 (nI (zw_cn P N c q))) 37 (nI (K + 1))) gl (va_up a 19 f) (va_up al 18 F))) _
        refine zr_go (t := (52, [some (.ref 0), some (.int (nI q))], [.int (nI q), .ref 0, .long (zw_rd P N c q (ff q) (nn q)), .ref 0], (zw_M (upd (upd g 31 (nI (zw_cn P N c q))) 37 (nI (K + 1))) gl (va_up a 19 f) (va_up al 18 F)))) 2 rfl ?_
        refine zr_call (t := (55, [some (.ref 0), some (.int (nI q))], [.long (zw_rd P N c q (ff q) (nn q)), .ref 0], (zw_M (upd (upd g 31 (nI (zw_cn P N c q))) 37 (nI (K + 1))) gl (va_up a 19 f) (va_up al 18 F)))) rfl (Nat.le_of_ble_eq_true rfl : 3 ≤ 5) (zs_M_wanted (upd (upd g 31 (nI (zw_cn P N c q))) 37 (nI (K + 1))) gl (va_up a 19 f) (va_up al 18 F) hG P N c hf hs0 q k1) ?_
        rintro _ _ ⟨rfl, rfl⟩
        show zm_Run zt_get 5 zt_M_ways (55, [some (.ref 0), some (.int (nI q))], [.int (nI (zw_wt P N c q)), .long (zw_rd P N c q (ff q) (nn q)), .ref 0], (zw_M (upd (upd g 31 (nI (zw_cn P N c q))) 37 (nI (K + 1))) gl (va_up a 19 f) (va_up al 18 F))) _
        refine zr_go (t := (58, [some (.ref 0), some (.int (nI q))], [.int 1073741824, .int (nI (zw_wt P N c q)), .long (zw_rd P N c q (ff q) (nn q)), .ref 0], (zw_M (upd (upd g 31 (nI (zw_cn P N c q))) 37 (nI (K + 1))) gl (va_up a 19 f) (va_up al 18 F)))) 1 rfl ?_
        refine zr_call (t := (61, [some (.ref 0), some (.int (nI q))], [], (zw_M (upd (upd g 31 (nI (zw_cn P N c q))) 37 (nI (K + 1))) gl (va_up a 19 f) (va_up al 18 F)))) rfl (Nat.le_of_ble_eq_true rfl : 3 ≤ 5) (zs_M_waysFrom (upd (upd g 31 (nI (zw_cn P N c q))) 37 (nI (K + 1))) gl (va_up a 19 f) (va_up al 18 F) (zw_cn P N c q) rfl (by omega) (zw_wt P N c q) 1073741824 (by omega) (by decide) (zw_rd P N c q (ff q) (nn q)) (zw_rd_sub hH hok hs0 q (ff q) (nn q)) hFs) ?_
        rintro _ _ ⟨rfl, T, F2, rfl⟩
        show zm_Run zt_get 5 zt_M_ways (61, [some (.ref 0), some (.int (nI q))], [.int (nI (zy_ways F (zw_cn P N c q) (zw_wt P N c q) 1073741824 (zw_rd P N c q (ff q) (nn q))))], (zw_M (upd (upd g 31 (nI (zw_cn P N c q))) 37 (nI (K + 1))) gl (va_up (va_up a 19 f) 20 T) (va_up (va_up al 18 F) 21 F2))) _
        exact zr_ret rfl trivial (Or.inr ⟨hyes, by rw [show zy_ways F (zw_cn P N c q) (zw_wt P N c q) 1073741824 (zw_rd P N c q (ff q) (nn q)) = zw_wy P N c q 1073741824 (ff q) (nn q) from zy_ways_congr hFc], F, F2, f, T, rfl⟩)
      · skip
        refine zr_go (t := (28, [some (.ref 0), some (.int x)], [.int (-103)], (zw_M g gl a al))) 1 rfl ?_
        exact zr_ret rfl trivial (Or.inl ⟨fun z => z.2.2 h3, by rw [if_pos hx], rfl⟩)
  · skip
    refine zr_go (t := (9, [some (.ref 0), some (.int x)], [.int (-102)], (zw_M g gl a al))) 1 rfl ?_
    exact zr_ret rfl trivial (Or.inl ⟨fun z => (by rw [zb_0 h1] at z; exact absurd z.1 (by decide)), by rw [zb_0 h1]; rfl, rfl⟩)
