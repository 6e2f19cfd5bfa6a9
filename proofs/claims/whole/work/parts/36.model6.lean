/-! the reference: how a line and a plane are laid out (written by wip/whole/gen_m6.py) -/
/-- some one of the first n -/
def zE (f : Nat → Bool) : Nat → Bool
  | 0 => false
  | n + 1 => zE f n || f n
/-- where a number goes among the first n of f: behind the last one that isn't greater -/
def zv_pos (f : Nat → Nat) (p : Nat) : Nat → Nat
  | 0 => 0
  | n + 1 => if f n ≤ p then n + 1 else zv_pos f p n
def zv_ins (f : Nat → Nat) (p n k : Nat) : Nat := if k < zv_pos f p n then f k else if k = zv_pos f p n then p else f (k - 1)
theorem zv_pos_le (f : Nat → Nat) (p n : Nat) : zv_pos f p n ≤ n := by
  induction n with
  | zero => exact Nat.le_refl _
  | succ n ih => unfold zv_pos; split <;> omega
theorem zv_ins_lt {f : Nat → Nat} {p n B : Nat} (h : ∀ k, k < n → f k < B) (hp : p < B) : ∀ k, k < n + 1 → zv_ins f p n k < B := by
  intro k hk
  have h1 := zv_pos_le f p n
  unfold zv_ins
  split
  · exact h k (by omega)
  · split
    · exact hp
    · exact h (k - 1) (by omega)
theorem zr_fst2 {get : Nat → Option zm_M} {d : Nat} {M : zm_M} {Q : Option Value → List zm_E → Prop} {s t : zm_S} (h : s = t) (k : zm_Run get d M t Q) : zm_Run get d M s Q := h ▸ k
theorem zs_M_addTo (g : Nat → Int32) (gl : Nat → Int64) (a : Nat → Nat → Int32) (al : Nat → Nat → Int64) (p : Nat) (hp : p < 1000) (n : Nat) (f : Nat → Nat) (hn : g 25 = nI n) (hf : ∀ k, k < n → a 13 k = nI (f k)) (hn31 : n < 31) (hf1 : ∀ k, k < n → f k < 1000) : zm_Ev zt_get 1 130 [.ref 0, .int (nI p)] (zw_M g gl a al) (fun v w => v = none ∧ ∃ h, w = (zw_M (upd g 25 (nI (n + 1))) gl (va_up a 13 h) al) ∧ ∀ k, k < n + 1 → h k = nI (zv_ins f p n k)) := by
  refine zr_ev zt_M_addTo rfl rfl ?_
  show zm_Run zt_get 0 zt_M_addTo (0, [some (.ref 0), some (.int (nI p)), none], [], (zw_M g gl a al)) _
  refine zr_go (t := (5, [some (.ref 0), some (.int (nI p)), some (.int (g 25))], [], (zw_M g gl a al))) 3 rfl ?_
  refine zr_fst2 (t := (5, [some (.ref 0), some (.int (nI p)), some (.int (nI n))], [], (zw_M g gl a al))) (by rw [hn]) ?_
  refine zr_loop (fun zq : Nat × (Nat → Int32) => (5, [some (.ref 0), some (.int (nI p)), some (.int (nI zq.1))], [], (zw_M g gl (va_up a 13 zq.2) al))) (fun zq => zq.1 ≤ n ∧ zv_pos f p zq.1 = zv_pos f p n ∧ (∀ t, t < zq.1 → zq.2 t = nI (f t)) ∧ ∀ t, zq.1 < t → t ≤ n → zq.2 t = nI (f (t - 1))) (fun zq => zq.1) ?_ (n, a 13) ⟨Nat.le_refl _, rfl, hf, fun t h1 h2 => absurd h2 (by omega)⟩
  rintro ⟨k, h⟩ ⟨hk, hpos, hh1, hh2⟩ ih
  try dsimp only at *
  refine zr_go (t := (6, [some (.ref 0), some (.int (nI p)), some (.int (nI k))], [.int (nI k)], (zw_M g gl (va_up a 13 h) al))) 1 rfl ?_
  refine zr_ile (x := nI k) (y := 0) k 0 rfl rfl (by omega) (by omega) (t := (41, [some (.ref 0), some (.int (nI p)), some (.int (nI k))], [], (zw_M g gl (va_up a 13 h) al))) (f := (9, [some (.ref 0), some (.int (nI p)), some (.int (nI k))], [], (zw_M g gl (va_up a 13 h) al))) rfl (fun h1 => ?_) (fun h1 => ?_)
  · skip
    have e1 : zv_pos f p n = k := by rw [← hpos]; rw [show k = 0 by omega]; rfl
    refine zr_go (t := (47, [some (.ref 0), some (.int (nI p)), some (.int (nI k))], [.int (nI p), .int (nI k), .ref 13], (zw_M g gl (va_up a 13 h) al))) 4 rfl ?_
    refine zr_cd (t := (48, [some (.ref 0), some (.int (nI p)), some (.int (nI k))], [], (zw_M g gl (va_up a 13 (upd h ((nI k).toNatClampNeg) (nI p))) al))) rfl (pk_in k 31 (by omega) rfl (by omega)) ?_
    rw [pk_cl (x := (nI k)) k rfl (by omega)]
    refine zr_go (t := (58, [some (.ref 0), some (.int (nI p)), some (.int (nI k))], [], (zw_M (upd g 25 ((g 25) + 1)) gl (va_up a 13 (upd h k (nI p))) al))) 6 rfl ?_
    rw [show (g 25) + 1 = nI (n + 1) from (zn_add hn rfl)]
    exact zr_ret rfl trivial ⟨rfl, (upd h k (nI p)), rfl, fun t ht => if q1 : t < k then (pk_un (by omega)).trans ((hh1 t q1).trans (by unfold zv_ins; rw [e1, if_pos q1])) else if q2 : t = k then by subst q2; exact pk_us.trans (by unfold zv_ins; rw [e1, if_neg q1, if_pos rfl]) else (pk_un q2).trans ((hh2 t (by omega) (by omega)).trans (by unfold zv_ins; rw [e1, if_neg q1, if_neg q2]))⟩
  · skip
    have hb1 := hf1 (k - 1) (by omega)
    refine zr_go (t := (16, [some (.ref 0), some (.int (nI p)), some (.int (nI k))], [.int ((nI k) - 1), .ref 13], (zw_M g gl (va_up a 13 h) al))) 5 rfl ?_
    refine zr_cd (t := (17, [some (.ref 0), some (.int (nI p)), some (.int (nI k))], [.int (h ((nI k) - 1).toNatClampNeg)], (zw_M g gl (va_up a 13 h) al))) rfl (pk_in (k - 1) 31 (by omega) (zn_sub rfl rfl (by omega)) (by omega)) ?_
    rw [pk_cl (x := ((nI k) - 1)) (k - 1) (zn_sub rfl rfl (by omega)) (by omega)]
    rw [show h (k - 1) = nI (f (k - 1)) from hh1 (k - 1) (by omega)]
    refine zr_go (t := (18, [some (.ref 0), some (.int (nI p)), some (.int (nI k))], [.int (nI p), .int (nI (f (k - 1)))], (zw_M g gl (va_up a 13 h) al))) 1 rfl ?_
    refine zr_ile (x := nI (f (k - 1))) (y := nI p) (f (k - 1)) p rfl rfl (by omega) (by omega) (t := (41, [some (.ref 0), some (.int (nI p)), some (.int (nI k))], [], (zw_M g gl (va_up a 13 h) al))) (f := (21, [some (.ref 0), some (.int (nI p)), some (.int (nI k))], [], (zw_M g gl (va_up a 13 h) al))) rfl (fun h2 => ?_) (fun h2 => ?_)
    · skip
      have e1 : zv_pos f p n = k := by rw [← hpos]; rw [show k = (k - 1) + 1 by omega]; unfold zv_pos; rw [if_pos h2]
      refine zr_go (t := (47, [some (.ref 0), some (.int (nI p)), some (.int (nI k))], [.int (nI p), .int (nI k), .ref 13], (zw_M g gl (va_up a 13 h) al))) 4 rfl ?_
      refine zr_cd (t := (48, [some (.ref 0), some (.int (nI p)), some (.int (nI k))], [], (zw_M g gl (va_up a 13 (upd h ((nI k).toNatClampNeg) (nI p))) al))) rfl (pk_in k 31 (by omega) rfl (by omega)) ?_
      rw [pk_cl (x := (nI k)) k rfl (by omega)]
      refine zr_go (t := (58, [some (.ref 0), some (.int (nI p)), some (.int (nI k))], [], (zw_M (upd g 25 ((g 25) + 1)) gl (va_up a 13 (upd h k (nI p))) al))) 6 rfl ?_
      rw [show (g 25) + 1 = nI (n + 1) from (zn_add hn rfl)]
      exact zr_ret rfl trivial ⟨rfl, (upd h k (nI p)), rfl, fun t ht => if q1 : t < k then (pk_un (by omega)).trans ((hh1 t q1).trans (by unfold zv_ins; rw [e1, if_pos q1])) else if q2 : t = k then by subst q2; exact pk_us.trans (by unfold zv_ins; rw [e1, if_neg q1, if_pos rfl]) else (pk_un q2).trans ((hh2 t (by omega) (by omega)).trans (by unfold zv_ins; rw [e1, if_neg q1, if_neg q2]))⟩
    · skip
      refine zr_go (t := (33, [some (.ref 0), some (.int (nI p)), some (.int (nI k))], [.int ((nI k) - 1), .ref 13, .int (nI k), .ref 13], (zw_M g gl (va_up a 13 h) al))) 8 rfl ?_
      refine zr_cd (t := (34, [some (.ref 0), some (.int (nI p)), some (.int (nI k))], [.int (h ((nI k) - 1).toNatClampNeg), .int (nI k), .ref 13], (zw_M g gl (va_up a 13 h) al))) rfl (pk_in (k - 1) 31 (by omega) (zn_sub rfl rfl (by omega)) (by omega)) ?_
      rw [pk_cl (x := ((nI k) - 1)) (k - 1) (zn_sub rfl rfl (by omega)) (by omega)]
      rw [show h (k - 1) = nI (f (k - 1)) from hh1 (k - 1) (by omega)]
      refine zr_cd (t := (35, [some (.ref 0), some (.int (nI p)), some (.int (nI k))], [], (zw_M g gl (va_up a 13 (upd h ((nI k).toNatClampNeg) (nI (f (k - 1))))) al))) rfl (pk_in k 31 (by omega) rfl (by omega)) ?_
      rw [pk_cl (x := (nI k)) k rfl (by omega)]
      refine zr_go (t := (5, [some (.ref 0), some (.int (nI p)), some (.int ((nI k) + (-1)))], [], (zw_M g gl (va_up a 13 (upd h k (nI (f (k - 1))))) al))) 2 rfl ?_
      rw [show (nI k) + (-1) = nI (k - 1) from (zn_dec rfl (by omega))]
      exact ih (k - 1, (upd h k (nI (f (k - 1))))) ⟨by omega, by rw [← hpos, show zv_pos f p k = zv_pos f p ((k - 1) + 1) from by rw [show k - 1 + 1 = k by omega]]; unfold zv_pos; rw [if_neg (by omega)]; cases k - 1 <;> rfl, fun t ht => (pk_un (by omega)).trans (hh1 t (by omega)), fun t h5 h6 => if e : t = k then by subst e; exact pk_us else (pk_un e).trans (hh2 t (by omega) h6)⟩ (by omega)
theorem zs_M_isIn (g : Nat → Int32) (gl : Nat → Int64) (a : Nat → Nat → Int32) (al : Nat → Nat → Int64) (p : Nat) (hp : p < 1000) (n : Nat) (f : Nat → Nat) (hn : g 25 = nI n) (hf : ∀ k, k < n → a 13 k = nI (f k)) (hn31 : n ≤ 31) (hf1 : ∀ k, k < n → f k < 1000) : zm_Ev zt_get 1 131 [.ref 0, .int (nI p)] (zw_M g gl a al) (fun v w => v = some (.int (nI (zE (fun k => f k == p) n).toNat)) ∧ w = (zw_M g gl a al)) := by
  refine zr_ev zt_M_isIn rfl rfl ?_
  show zm_Run zt_get 0 zt_M_isIn (0, [some (.ref 0), some (.int (nI p)), none, none], [], (zw_M g gl a al)) _
  refine zr_go (t := (4, [some (.ref 0), some (.int (nI p)), some (.int 0), some (.int 0)], [], (zw_M g gl a al))) 4 rfl ?_
  refine zr_loop (fun zq : Nat × Bool => (4, [some (.ref 0), some (.int (nI p)), some (.int (nI zq.2.toNat)), some (.int (nI zq.1))], [], (zw_M g gl a al))) (fun zq => zq.1 ≤ n ∧ zq.2 = zE (fun t => f t == p) zq.1) (fun zq => n - zq.1) ?_ (0, false) ⟨by omega, rfl⟩
  rintro ⟨k, b⟩ ⟨hk, hb⟩ ih
  try dsimp only at *
  refine zr_go (t := (9, [some (.ref 0), some (.int (nI p)), some (.int (nI b.toNat)), some (.int (nI k))], [.int (g 25), .int (nI k)], (zw_M g gl a al))) 3 rfl ?_
  refine zr_ige (x := nI k) (y := g 25) k n rfl hn (by omega) (by omega) (t := (38, [some (.ref 0), some (.int (nI p)), some (.int (nI b.toNat)), some (.int (nI k))], [], (zw_M g gl a al))) (f := (12, [some (.ref 0), some (.int (nI p)), some (.int (nI b.toNat)), some (.int (nI k))], [], (zw_M g gl a al))) rfl (fun h1 => ?_) (fun h1 => ?_)
  · skip
    refine zr_go (t := (39, [some (.ref 0), some (.int (nI p)), some (.int (nI b.toNat)), some (.int (nI k))], [.int (nI b.toNat)], (zw_M g gl a al))) 1 rfl ?_
    exact zr_ret rfl (zb_ok b) ⟨by rw [hb, show k = n by omega], rfl⟩
  · skip
    refine zr_go (t := (13, [some (.ref 0), some (.int (nI p)), some (.int (nI b.toNat)), some (.int (nI k))], [.int (nI b.toNat)], (zw_M g gl a al))) 1 rfl ?_
    have hb1 := zb_le b
    have hb2 := hf1 k (by omega)
    refine zr_ine (x := nI b.toNat) (y := 0) b.toNat 0 rfl rfl (by omega) (by omega) (t := (26, [some (.ref 0), some (.int (nI p)), some (.int (nI b.toNat)), some (.int (nI k))], [], (zw_M g gl a al))) (f := (16, [some (.ref 0), some (.int (nI p)), some (.int (nI b.toNat)), some (.int (nI k))], [], (zw_M g gl a al))) rfl (fun h2 => ?_) (fun h2 => ?_)
    · skip
      refine zr_go (t := (4, [some (.ref 0), some (.int (nI p)), some (.int 1), some (.int ((nI k) + 1))], [], (zw_M g gl a al))) 5 rfl ?_
      rw [show some (Value.int 1) = some (Value.int (nI (true).toNat)) from rfl]
      rw [show (nI k) + 1 = nI (k + 1) from (zn_add rfl rfl)]
      exact ih (k + 1, true) ⟨by omega, by show true = (zE _ k || _); rw [← hb, zb_1 h2]; rfl⟩ (by omega)
    · skip
      refine zr_go (t := (21, [some (.ref 0), some (.int (nI p)), some (.int (nI b.toNat)), some (.int (nI k))], [.int (nI k), .ref 13], (zw_M g gl a al))) 3 rfl ?_
      refine zr_cd (t := (22, [some (.ref 0), some (.int (nI p)), some (.int (nI b.toNat)), some (.int (nI k))], [.int ((a 13) (nI k).toNatClampNeg)], (zw_M g gl a al))) rfl (pk_in k 31 (by omega) rfl (by omega)) ?_
      rw [pk_cl (x := (nI k)) k rfl (by omega)]
      rw [show (a 13) k = nI (f k) from hf k (by omega)]
      refine zr_go (t := (23, [some (.ref 0), some (.int (nI p)), some (.int (nI b.toNat)), some (.int (nI k))], [.int (nI p), .int (nI (f k))], (zw_M g gl a al))) 1 rfl ?_
      refine zr_ine (x := nI (f k)) (y := nI p) (f k) p rfl rfl (by omega) (by omega) (t := (30, [some (.ref 0), some (.int (nI p)), some (.int (nI b.toNat)), some (.int (nI k))], [], (zw_M g gl a al))) (f := (26, [some (.ref 0), some (.int (nI p)), some (.int (nI b.toNat)), some (.int (nI k))], [], (zw_M g gl a al))) rfl (fun h3 => ?_) (fun h3 => ?_)
      · skip
        refine zr_go (t := (4, [some (.ref 0), some (.int (nI p)), some (.int 0), some (.int ((nI k) + 1))], [], (zw_M g gl a al))) 4 rfl ?_
        rw [show some (Value.int 0) = some (Value.int (nI (false).toNat)) from rfl]
        rw [show (nI k) + 1 = nI (k + 1) from (zn_add rfl rfl)]
        exact ih (k + 1, false) ⟨by omega, by show false = (zE _ k || _); rw [← hb, zb_0 h2]; simp [h3]⟩ (by omega)
      · skip
        refine zr_go (t := (4, [some (.ref 0), some (.int (nI p)), some (.int 1), some (.int ((nI k) + 1))], [], (zw_M g gl a al))) 5 rfl ?_
        rw [show some (Value.int 1) = some (Value.int (nI (true).toNat)) from rfl]
        rw [show (nI k) + 1 = nI (k + 1) from (zn_add rfl rfl)]
        exact ih (k + 1, true) ⟨by omega, by show true = (zE _ k || _); rw [← hb, zb_0 h2]; simp [h3]⟩ (by omega)
theorem zs_M_areOn (g : Nat → Int32) (gl : Nat → Int64) (a : Nat → Nat → Int32) (al : Nat → Nat → Int64) (np : Nat) (hnp1 : np ≤ 156) (o : Nat → Bool) (hO : zc_O a np o) (n : Nat) (f : Nat → Nat) (hn : g 25 = nI n) (hf : ∀ k, k < n → a 13 k = nI (f k)) (hn31 : n ≤ 31) (hf1 : ∀ k, k < n → f k < np) : zm_Ev zt_get 1 134 [.ref 0] (zw_M g gl a al) (fun v w => v = some (.int (nI (zA (fun k => o (f k)) n).toNat)) ∧ w = (zw_M g gl a al)) := by
  refine zr_ev zt_M_areOn rfl rfl ?_
  show zm_Run zt_get 0 zt_M_areOn (0, [some (.ref 0), none, none], [], (zw_M g gl a al)) _
  refine zr_go (t := (4, [some (.ref 0), some (.int 1), some (.int 0)], [], (zw_M g gl a al))) 4 rfl ?_
  refine zr_loop (fun zq : Nat × Bool => (4, [some (.ref 0), some (.int (nI zq.2.toNat)), some (.int (nI zq.1))], [], (zw_M g gl a al))) (fun zq => zq.1 ≤ n ∧ zq.2 = zA (fun t => o (f t)) zq.1) (fun zq => n - zq.1) ?_ (0, true) ⟨by omega, rfl⟩
  rintro ⟨k, b⟩ ⟨hk, hb⟩ ih
  try dsimp only at *
  refine zr_go (t := (9, [some (.ref 0), some (.int (nI b.toNat)), some (.int (nI k))], [.int (g 25), .int (nI k)], (zw_M g gl a al))) 3 rfl ?_
  refine zr_ige (x := nI k) (y := g 25) k n rfl hn (by omega) (by omega) (t := (42, [some (.ref 0), some (.int (nI b.toNat)), some (.int (nI k))], [], (zw_M g gl a al))) (f := (12, [some (.ref 0), some (.int (nI b.toNat)), some (.int (nI k))], [], (zw_M g gl a al))) rfl (fun h1 => ?_) (fun h1 => ?_)
  · skip
    refine zr_go (t := (43, [some (.ref 0), some (.int (nI b.toNat)), some (.int (nI k))], [.int (nI b.toNat)], (zw_M g gl a al))) 1 rfl ?_
    exact zr_ret rfl (zb_ok b) ⟨by rw [hb, show k = n by omega], rfl⟩
  · skip
    refine zr_go (t := (13, [some (.ref 0), some (.int (nI b.toNat)), some (.int (nI k))], [.int (nI b.toNat)], (zw_M g gl a al))) 1 rfl ?_
    have hb1 := zb_le b
    have hb2 := hf1 k (by omega)
    refine zr_ieq (x := nI b.toNat) (y := 0) b.toNat 0 rfl rfl (by omega) (by omega) (t := (34, [some (.ref 0), some (.int (nI b.toNat)), some (.int (nI k))], [], (zw_M g gl a al))) (f := (16, [some (.ref 0), some (.int (nI b.toNat)), some (.int (nI k))], [], (zw_M g gl a al))) rfl (fun h2 => ?_) (fun h2 => ?_)
    · skip
      refine zr_go (t := (4, [some (.ref 0), some (.int 0), some (.int ((nI k) + 1))], [], (zw_M g gl a al))) 4 rfl ?_
      rw [show some (Value.int 0) = some (Value.int (nI (false).toNat)) from rfl]
      rw [show (nI k) + 1 = nI (k + 1) from (zn_add rfl rfl)]
      exact ih (k + 1, false) ⟨by omega, by show false = (zA _ k && _); rw [← hb, zb_0 h2]; rfl⟩ (by omega)
    · skip
      refine zr_go (t := (25, [some (.ref 0), some (.int (nI b.toNat)), some (.int (nI k))], [.int (nI k), .ref 13, .ref 5], (zw_M g gl a al))) 5 rfl ?_
      refine zr_cd (t := (26, [some (.ref 0), some (.int (nI b.toNat)), some (.int (nI k))], [.int ((a 13) (nI k).toNatClampNeg), .ref 5], (zw_M g gl a al))) rfl (pk_in k 31 (by omega) rfl (by omega)) ?_
      rw [pk_cl (x := (nI k)) k rfl (by omega)]
      rw [show (a 13) k = nI (f k) from hf k (by omega)]
      refine zr_cd (t := (27, [some (.ref 0), some (.int (nI b.toNat)), some (.int (nI k))], [.int ((a 5) (nI (f k)).toNatClampNeg)], (zw_M g gl a al))) rfl (pk_in (f k) 156 (by omega) rfl (by omega)) ?_
      rw [pk_cl (x := (nI (f k))) (f k) rfl (by omega)]
      rw [show (a 5) (f k) = nI ((o (f k)).toNat) from hO (f k) (by omega)]
      have ho1 := zb_le (o (f k))
      refine zr_ieq (x := nI ((o (f k)).toNat)) (y := 0) ((o (f k)).toNat) 0 rfl rfl (by omega) (by omega) (t := (34, [some (.ref 0), some (.int (nI b.toNat)), some (.int (nI k))], [], (zw_M g gl a al))) (f := (30, [some (.ref 0), some (.int (nI b.toNat)), some (.int (nI k))], [], (zw_M g gl a al))) rfl (fun h3 => ?_) (fun h3 => ?_)
      · skip
        refine zr_go (t := (4, [some (.ref 0), some (.int 0), some (.int ((nI k) + 1))], [], (zw_M g gl a al))) 4 rfl ?_
        rw [show some (Value.int 0) = some (Value.int (nI (false).toNat)) from rfl]
        rw [show (nI k) + 1 = nI (k + 1) from (zn_add rfl rfl)]
        exact ih (k + 1, false) ⟨by omega, by show false = (zA _ k && _); rw [← hb, zb_1 h2]; simp [zb_0 h3]⟩ (by omega)
      · skip
        refine zr_go (t := (4, [some (.ref 0), some (.int 1), some (.int ((nI k) + 1))], [], (zw_M g gl a al))) 5 rfl ?_
        rw [show some (Value.int 1) = some (Value.int (nI (true).toNat)) from rfl]
        rw [show (nI k) + 1 = nI (k + 1) from (zn_add rfl rfl)]
        exact ih (k + 1, true) ⟨by omega, by show true = (zA _ k && _); rw [← hb, zb_1 h2]; simp [zb_1 h3]⟩ (by omega)
/-- the points of a line, in their order, as the reference lays them out -/
def zv_lnf (P N : Nat) (y : Nat → Nat → Nat) (p q : Nat) : Nat → Nat → Nat
  | 0 => zv_ins (fun _ => 0) p 0
  | t + 1 => zv_ins (zv_lnf P N y p q t) (zv_pt P N (zv_mx P t 1 (y p) (y q))) (t + 1)
theorem zv_lnf_lt {P N np : Nat} {y : Nat → Nat → Nat} {p q : Nat} (hp : p < np) (t : Nat) (hv : ∀ b, b < t → zv_pt P N (zv_mx P b 1 (y p) (y q)) < np) : ∀ k, k < t + 1 → zv_lnf P N y p q t k < np := by
  induction t with
  | zero => exact zv_ins_lt (fun k h => absurd h (Nat.not_lt_zero k)) hp
  | succ t ih => exact zv_ins_lt (ih (fun b hb => hv b (by omega))) (hv t (by omega))
theorem zs_M_layLine (g : Nat → Int32) (gl : Nat → Int64) (a : Nat → Nat → Int32) (al : Nat → Nat → Int64) (P N : Nat) (hP : g 0 = nI P) (hN : g 1 = nI N) (hPP : P = 2 ∨ P = 3 ∨ P = 5) (hN6 : N ≤ 6) (hA : P ^ N ≤ 729) (hnum : ∀ t, 1 ≤ t → t < P ^ N → a 4 t = if zv_l1 P N t then nI (zv_cnt P N t) else -1) (np : Nat) (y : Nat → Nat → Nat) (hR : zc_R g a np y) (p q : Nat) (hp : p < np) (hq : q < np) (hv : ∀ b, b < P → zv_vec P N (zv_mx P b 1 (y p) (y q)) ∧ zv_pt P N (zv_mx P b 1 (y p) (y q)) < np) : zm_Ev zt_get 4 132 [.ref 0, .int (nI p), .int (nI q)] (zw_M g gl a al) (fun v w => v = none ∧ ∃ f12 h, w = (zw_M (upd g 25 (nI (P + 1))) gl (va_up (va_up a 12 f12) 13 h) al) ∧ ∀ k, k < P + 1 → h k = nI (zv_lnf P N y p q P k)) := by
  obtain ⟨hP0, hP5⟩ := zv_P5 hPP
  obtain ⟨hnp, hnp1, hy, hy4⟩ := id hR
  refine zr_ev zt_M_layLine rfl rfl ?_
  show zm_Run zt_get 3 zt_M_layLine (0, [some (.ref 0), some (.int (nI p)), some (.int (nI q)), none], [], (zw_M g gl a al)) _
  refine zr_go (t := (7, [some (.ref 0), some (.int (nI p)), some (.int (nI q)), none], [.int (nI p), .ref 0], (zw_M (upd g 25 0) gl a al))) 5 rfl ?_
  refine zr_call (t := (10, [some (.ref 0), some (.int (nI p)), some (.int (nI q)), none], [], (zw_M (upd g 25 0) gl a al))) rfl (Nat.le_of_ble_eq_true rfl : 1 ≤ 3) (zs_M_addTo (upd g 25 0) gl a al p (by omega) 0 (fun _ => 0) rfl (fun k h => absurd h (Nat.not_lt_zero k)) (by omega) (fun k h => absurd h (Nat.not_lt_zero k))) ?_
  rintro _ _ ⟨rfl, h0, rfl, hh0⟩
  show zm_Run zt_get 3 zt_M_layLine (10, [some (.ref 0), some (.int (nI p)), some (.int (nI q)), none], [], (zw_M (upd g 25 (nI (0 + 1))) gl (va_up a 13 h0) al)) _
  refine zr_go (t := (12, [some (.ref 0), some (.int (nI p)), some (.int (nI q)), some (.int 0)], [], (zw_M (upd g 25 (nI (0 + 1))) gl (va_up a 13 h0) al))) 2 rfl ?_
  refine zr_loop (fun zq : Nat × (Nat → Int32) × (Nat → Int32) => (12, [some (.ref 0), some (.int (nI p)), some (.int (nI q)), some (.int (nI zq.1))], [], (zw_M (upd g 25 (nI (zq.1 + 1))) gl (va_up (va_up a 12 zq.2.1) 13 zq.2.2) al))) (fun zq => zq.1 ≤ P ∧ ∀ k, k < zq.1 + 1 → zq.2.2 k = nI (zv_lnf P N y p q zq.1 k)) (fun zq => P - zq.1) ?_ (0, a 12, h0) ⟨by omega, hh0⟩
  rintro ⟨t, f12, h⟩ ⟨ht, hh⟩ ih
  try dsimp only at *
  refine zr_go (t := (17, [some (.ref 0), some (.int (nI p)), some (.int (nI q)), some (.int (nI t))], [.int (g 0), .int (nI t)], (zw_M (upd g 25 (nI (t + 1))) gl (va_up (va_up a 12 f12) 13 h) al))) 3 rfl ?_
  refine zr_ige (x := nI t) (y := g 0) t P rfl hP (by omega) (by omega) (t := (38, [some (.ref 0), some (.int (nI p)), some (.int (nI q)), some (.int (nI t))], [], (zw_M (upd g 25 (nI (t + 1))) gl (va_up (va_up a 12 f12) 13 h) al))) (f := (20, [some (.ref 0), some (.int (nI p)), some (.int (nI q)), some (.int (nI t))], [], (zw_M (upd g 25 (nI (t + 1))) gl (va_up (va_up a 12 f12) 13 h) al))) rfl (fun h1 => ?_) (fun h1 => ?_)
  · skip
    have e1 : P = t := by omega
    subst e1
    exact zr_ret rfl trivial ⟨rfl, f12, h, rfl, hh⟩
  · skip
    refine zr_go (t := (26, [some (.ref 0), some (.int (nI p)), some (.int (nI q)), some (.int (nI t))], [.int 1, .int (nI q), .int (nI t), .int (nI p), .ref 0, .ref 0], (zw_M (upd g 25 (nI (t + 1))) gl (va_up (va_up a 12 f12) 13 h) al))) 6 rfl ?_
    refine zr_call (t := (29, [some (.ref 0), some (.int (nI p)), some (.int (nI q)), some (.int (nI t))], [.ref 0], (zw_M (upd g 25 (nI (t + 1))) gl (va_up (va_up a 12 f12) 13 h) al))) rfl (Nat.le_of_ble_eq_true rfl : 3 ≤ 3) (zs_M_mix (upd g 25 (nI (t + 1))) gl (va_up (va_up a 12 f12) 13 h) al P N hP hN hPP hN6 hA hnum np y hR p t q 1 hp (by omega) hq (by omega) (hv t h1).1) ?_
    rintro _ _ ⟨rfl, e12, rfl⟩
    show zm_Run zt_get 3 zt_M_layLine (29, [some (.ref 0), some (.int (nI p)), some (.int (nI q)), some (.int (nI t))], [.int (nI (zv_pt P N (zv_mx P t 1 (y p) (y q)))), .ref 0], (zw_M (upd g 25 (nI (t + 1))) gl (va_up (va_up a 12 e12) 13 h) al)) _
    refine zr_call (t := (32, [some (.ref 0), some (.int (nI p)), some (.int (nI q)), some (.int (nI t))], [], (zw_M (upd g 25 (nI (t + 1))) gl (va_up (va_up a 12 e12) 13 h) al))) rfl (Nat.le_of_ble_eq_true rfl : 1 ≤ 3) (zs_M_addTo (upd g 25 (nI (t + 1))) gl (va_up (va_up a 12 e12) 13 h) al (zv_pt P N (zv_mx P t 1 (y p) (y q))) (by have := (hv t h1).2; omega) (t + 1) (zv_lnf P N y p q t) rfl hh (by omega) (fun k hk => Nat.lt_of_lt_of_le (zv_lnf_lt hp t (fun b hb => (hv b (by omega)).2) k hk) (by omega))) ?_
    rintro _ _ ⟨rfl, h2, rfl, hh2⟩
    show zm_Run zt_get 3 zt_M_layLine (32, [some (.ref 0), some (.int (nI p)), some (.int (nI q)), some (.int (nI t))], [], (zw_M (upd g 25 (nI (t + 1 + 1))) gl (va_up (va_up a 12 e12) 13 h2) al)) _
    refine zr_go (t := (12, [some (.ref 0), some (.int (nI p)), some (.int (nI q)), some (.int ((nI t) + 1))], [], (zw_M (upd g 25 (nI (t + 1 + 1))) gl (va_up (va_up a 12 e12) 13 h2) al))) 2 rfl ?_
    rw [show (nI t) + 1 = nI (t + 1) from (zn_add rfl rfl)]
    exact ih (t + 1, e12, h2) ⟨by omega, hh2⟩ (by omega)
