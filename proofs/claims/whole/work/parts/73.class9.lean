/-! the class: its two sides (written by wip/whole/gen_c9.py) -/
def zg_or (f : Nat → Int64) : Nat → Int64
  | 0 => 0
  | n + 1 => zg_or f n ||| f n
def zg_cl (C D : Nat → Int64) (x : Nat) : Nat → Int64
  | 0 => 0
  | k + 1 => if lb (C x) k = true then zg_cl C D x k ||| D k else zg_cl C D x k
def zg_ap (e : Nat → Nat) (l : Nat) (x : Int64) (n j : Nat) : Nat := if j < l then e j else zX (lb x) n (j - l)
theorem zg_cl_y {C D : Nat → Int64} {x k : Nat} (h : lb (C x) k = true) : zg_cl C D x (k + 1) = zg_cl C D x k ||| D k := if_pos h
theorem zg_cl_n {C D : Nat → Int64} {x k : Nat} (h : lb (C x) k = false) : zg_cl C D x (k + 1) = zg_cl C D x k := if_neg (by rw [h]; decide)
theorem zg_ap_s {e : Nat → Nat} {l : Nat} {x : Int64} {n i : Nat} {F : Nat → Int32} (hb : lb x i = true) (hi : i < n) (hF : ∀ j, j < l + zC (lb x) i → F j = nI (zg_ap e l x n j)) : ∀ j, j < l + zC (lb x) i + 1 → upd F (l + zC (lb x) i) (nI i) j = nI (zg_ap e l x n j) := by
  refine lt_s (fun j hj => (pk_un (by omega)).trans (hF j hj)) (pk_us.trans ?_)
  unfold zg_ap
  rw [if_neg (by omega), show l + zC (lb x) i - l = zC (lb x) i by omega, zX_at hb hi]
theorem zs_C_taken_6 (g : Nat → Int32) (gl : Nat → Int64) (a : Nat → Nat → Int32) (al : Nat → Nat → Int64) (l : Nat) (hl : g 24 = nI l) (hl64 : l ≤ 64) (e : Nat → Nat) (he : ∀ k, k < l → a 26 k = nI (e k)) (n : Nat) (hn64 : n ≤ 64) (hen : ∀ k, k < l → e k < n) : zm_Ev zt_get 1 52 [.ref 6] (zw_C g gl a al) (fun v w => v = some (.long (zg_or (fun k => zf_b (e k)) l)) ∧ w = (zw_C g gl a al)) := by
  refine zr_ev zt_D_taken rfl rfl ?_
  show zm_Run zt_get 0 zt_D_taken (0, [some (.ref 6), none, none, none], [], (zw_C g gl a al)) _
  refine zr_go (t := (4, [some (.ref 6), some (.long 0), none, some (.int 0)], [], (zw_C g gl a al))) 4 rfl ?_
  refine zr_loop (fun zq : Nat × Int64 => (4, [some (.ref 6), some (.long zq.2), none, some (.int (nI zq.1))], [], (zw_C g gl a al))) (fun zq => zq.1 ≤ l ∧ zq.2 = zg_or (fun k => zf_b (e k)) zq.1) (fun zq => l - zq.1) ?_ (0, 0) ⟨by omega, rfl⟩
  rintro ⟨i, y⟩ ⟨hi, hy⟩ ih
  try dsimp only at *
  refine zr_go (t := (9, [some (.ref 6), some (.long y), none, some (.int (nI i))], [.int (g 24), .int (nI i)], (zw_C g gl a al))) 3 rfl ?_
  refine zr_ige (x := nI i) (y := g 24) i l rfl hl (by omega) (by omega) (t := (29, [some (.ref 6), some (.long y), none, some (.int (nI i))], [], (zw_C g gl a al))) (f := (12, [some (.ref 6), some (.long y), none, some (.int (nI i))], [], (zw_C g gl a al))) rfl (fun h1 => ?_) (fun h1 => ?_)
  · skip
    refine zr_go (t := (30, [some (.ref 6), some (.long y), none, some (.int (nI i))], [.long y], (zw_C g gl a al))) 1 rfl ?_
    exact zr_ret rfl trivial ⟨by rw [hy, show i = l by omega], rfl⟩
  · skip
    have hei := hen i h1
    refine zr_go (t := (19, [some (.ref 6), some (.long y), none, some (.int (nI i))], [.int (nI i), .ref 26, .long 1, .long y], (zw_C g gl a al))) 5 rfl ?_
    refine zr_cd (t := (20, [some (.ref 6), some (.long y), none, some (.int (nI i))], [.int ((a 26) (nI i).toNatClampNeg), .long 1, .long y], (zw_C g gl a al))) rfl (pk_in i 64 (by omega) rfl (by omega)) ?_
    rw [pk_cl (x := (nI i)) i rfl (by omega)]
    rw [show (a 26) i = nI (e i) from he i h1]
    refine zr_go (t := (4, [some (.ref 6), some (.long (y ||| (1 <<< ((nI (e i)).toInt64 &&& 63)))), none, some (.int ((nI i) + 1))], [], (zw_C g gl a al))) 5 rfl ?_
    rw [show (nI i) + 1 = nI (i + 1) from (zn_add rfl rfl)]
    exact ih (i + 1, y ||| zf_b (e i)) ⟨by omega, by rw [hy]; rfl⟩ (by omega)
theorem zs_C_covered_6 (g : Nat → Int32) (gl : Nat → Int64) (a : Nat → Nat → Int32) (al : Nat → Nat → Int64) (l : Nat) (hl : g 24 = nI l) (hl64 : l ≤ 64) (e : Nat → Nat) (he : ∀ k, k < l → a 26 k = nI (e k)) (n : Nat) (hn64 : n ≤ 64) (hen : ∀ k, k < l → e k < n) (C : Nat → Int64) (hC : ∀ k, k < n → al 24 k = C k) : zm_Ev zt_get 1 53 [.ref 6] (zw_C g gl a al) (fun v w => v = some (.long (zg_or (fun k => C (e k)) l)) ∧ w = (zw_C g gl a al)) := by
  refine zr_ev zt_D_covered rfl rfl ?_
  show zm_Run zt_get 0 zt_D_covered (0, [some (.ref 6), none, none, none], [], (zw_C g gl a al)) _
  refine zr_go (t := (4, [some (.ref 6), some (.long 0), none, some (.int 0)], [], (zw_C g gl a al))) 4 rfl ?_
  refine zr_loop (fun zq : Nat × Int64 => (4, [some (.ref 6), some (.long zq.2), none, some (.int (nI zq.1))], [], (zw_C g gl a al))) (fun zq => zq.1 ≤ l ∧ zq.2 = zg_or (fun k => C (e k)) zq.1) (fun zq => l - zq.1) ?_ (0, 0) ⟨by omega, rfl⟩
  rintro ⟨i, y⟩ ⟨hi, hy⟩ ih
  try dsimp only at *
  refine zr_go (t := (9, [some (.ref 6), some (.long y), none, some (.int (nI i))], [.int (g 24), .int (nI i)], (zw_C g gl a al))) 3 rfl ?_
  refine zr_ige (x := nI i) (y := g 24) i l rfl hl (by omega) (by omega) (t := (32, [some (.ref 6), some (.long y), none, some (.int (nI i))], [], (zw_C g gl a al))) (f := (12, [some (.ref 6), some (.long y), none, some (.int (nI i))], [], (zw_C g gl a al))) rfl (fun h1 => ?_) (fun h1 => ?_)
  · skip
    refine zr_go (t := (33, [some (.ref 6), some (.long y), none, some (.int (nI i))], [.long y], (zw_C g gl a al))) 1 rfl ?_
    exact zr_ret rfl trivial ⟨by rw [hy, show i = l by omega], rfl⟩
  · skip
    have hei := hen i h1
    refine zr_go (t := (22, [some (.ref 6), some (.long y), none, some (.int (nI i))], [.int (nI i), .ref 26, .ref 24, .long y], (zw_C g gl a al))) 6 rfl ?_
    refine zr_cd (t := (23, [some (.ref 6), some (.long y), none, some (.int (nI i))], [.int ((a 26) (nI i).toNatClampNeg), .ref 24, .long y], (zw_C g gl a al))) rfl (pk_in i 64 (by omega) rfl (by omega)) ?_
    rw [pk_cl (x := (nI i)) i rfl (by omega)]
    rw [show (a 26) i = nI (e i) from he i h1]
    refine zr_cd (t := (24, [some (.ref 6), some (.long y), none, some (.int (nI i))], [.long ((al 24) (nI (e i)).toNatClampNeg), .long y], (zw_C g gl a al))) rfl (pk_in (e i) 64 (by omega) rfl (by omega)) ?_
    rw [pk_cl (x := (nI (e i))) (e i) rfl (by omega)]
    rw [hC (e i) hei]
    refine zr_go (t := (4, [some (.ref 6), some (.long (y ||| (C (e i)))), none, some (.int ((nI i) + 1))], [], (zw_C g gl a al))) 4 rfl ?_
    rw [show (nI i) + 1 = nI (i + 1) from (zn_add rfl rfl)]
    exact ih (i + 1, y ||| C (e i)) ⟨by omega, by rw [hy]; rfl⟩ (by omega)
theorem zs_C_clashing_6 (g : Nat → Int32) (gl : Nat → Int64) (a : Nat → Nat → Int32) (al : Nat → Nat → Int64) (l : Nat) (hl : g 24 = nI l) (hl64 : l ≤ 64) (e : Nat → Nat) (he : ∀ k, k < l → a 26 k = nI (e k)) (n : Nat) (hn64 : n ≤ 64) (hen : ∀ k, k < l → e k < n) (C : Nat → Int64) (hC : ∀ k, k < n → al 25 k = C k) : zm_Ev zt_get 1 54 [.ref 6] (zw_C g gl a al) (fun v w => v = some (.long (zg_or (fun k => C (e k)) l)) ∧ w = (zw_C g gl a al)) := by
  refine zr_ev zt_D_clashing rfl rfl ?_
  show zm_Run zt_get 0 zt_D_clashing (0, [some (.ref 6), none, none, none], [], (zw_C g gl a al)) _
  refine zr_go (t := (4, [some (.ref 6), some (.long 0), none, some (.int 0)], [], (zw_C g gl a al))) 4 rfl ?_
  refine zr_loop (fun zq : Nat × Int64 => (4, [some (.ref 6), some (.long zq.2), none, some (.int (nI zq.1))], [], (zw_C g gl a al))) (fun zq => zq.1 ≤ l ∧ zq.2 = zg_or (fun k => C (e k)) zq.1) (fun zq => l - zq.1) ?_ (0, 0) ⟨by omega, rfl⟩
  rintro ⟨i, y⟩ ⟨hi, hy⟩ ih
  try dsimp only at *
  refine zr_go (t := (9, [some (.ref 6), some (.long y), none, some (.int (nI i))], [.int (g 24), .int (nI i)], (zw_C g gl a al))) 3 rfl ?_
  refine zr_ige (x := nI i) (y := g 24) i l rfl hl (by omega) (by omega) (t := (32, [some (.ref 6), some (.long y), none, some (.int (nI i))], [], (zw_C g gl a al))) (f := (12, [some (.ref 6), some (.long y), none, some (.int (nI i))], [], (zw_C g gl a al))) rfl (fun h1 => ?_) (fun h1 => ?_)
  · skip
    refine zr_go (t := (33, [some (.ref 6), some (.long y), none, some (.int (nI i))], [.long y], (zw_C g gl a al))) 1 rfl ?_
    exact zr_ret rfl trivial ⟨by rw [hy, show i = l by omega], rfl⟩
  · skip
    have hei := hen i h1
    refine zr_go (t := (22, [some (.ref 6), some (.long y), none, some (.int (nI i))], [.int (nI i), .ref 26, .ref 25, .long y], (zw_C g gl a al))) 6 rfl ?_
    refine zr_cd (t := (23, [some (.ref 6), some (.long y), none, some (.int (nI i))], [.int ((a 26) (nI i).toNatClampNeg), .ref 25, .long y], (zw_C g gl a al))) rfl (pk_in i 64 (by omega) rfl (by omega)) ?_
    rw [pk_cl (x := (nI i)) i rfl (by omega)]
    rw [show (a 26) i = nI (e i) from he i h1]
    refine zr_cd (t := (24, [some (.ref 6), some (.long y), none, some (.int (nI i))], [.long ((al 25) (nI (e i)).toNatClampNeg), .long y], (zw_C g gl a al))) rfl (pk_in (e i) 64 (by omega) rfl (by omega)) ?_
    rw [pk_cl (x := (nI (e i))) (e i) rfl (by omega)]
    rw [hC (e i) hei]
    refine zr_go (t := (4, [some (.ref 6), some (.long (y ||| (C (e i)))), none, some (.int ((nI i) + 1))], [], (zw_C g gl a al))) 4 rfl ?_
    rw [show (nI i) + 1 = nI (i + 1) from (zn_add rfl rfl)]
    exact ih (i + 1, y ||| C (e i)) ⟨by omega, by rw [hy]; rfl⟩ (by omega)
theorem zs_C_taken_7 (g : Nat → Int32) (gl : Nat → Int64) (a : Nat → Nat → Int32) (al : Nat → Nat → Int64) (l : Nat) (hl : g 26 = nI l) (hl64 : l ≤ 64) (e : Nat → Nat) (he : ∀ k, k < l → a 29 k = nI (e k)) (n : Nat) (hn64 : n ≤ 64) (hen : ∀ k, k < l → e k < n) : zm_Ev zt_get 1 52 [.ref 7] (zw_C g gl a al) (fun v w => v = some (.long (zg_or (fun k => zf_b (e k)) l)) ∧ w = (zw_C g gl a al)) := by
  refine zr_ev zt_D_taken rfl rfl ?_
  show zm_Run zt_get 0 zt_D_taken (0, [some (.ref 7), none, none, none], [], (zw_C g gl a al)) _
  refine zr_go (t := (4, [some (.ref 7), some (.long 0), none, some (.int 0)], [], (zw_C g gl a al))) 4 rfl ?_
  refine zr_loop (fun zq : Nat × Int64 => (4, [some (.ref 7), some (.long zq.2), none, some (.int (nI zq.1))], [], (zw_C g gl a al))) (fun zq => zq.1 ≤ l ∧ zq.2 = zg_or (fun k => zf_b (e k)) zq.1) (fun zq => l - zq.1) ?_ (0, 0) ⟨by omega, rfl⟩
  rintro ⟨i, y⟩ ⟨hi, hy⟩ ih
  try dsimp only at *
  refine zr_go (t := (9, [some (.ref 7), some (.long y), none, some (.int (nI i))], [.int (g 26), .int (nI i)], (zw_C g gl a al))) 3 rfl ?_
  refine zr_ige (x := nI i) (y := g 26) i l rfl hl (by omega) (by omega) (t := (29, [some (.ref 7), some (.long y), none, some (.int (nI i))], [], (zw_C g gl a al))) (f := (12, [some (.ref 7), some (.long y), none, some (.int (nI i))], [], (zw_C g gl a al))) rfl (fun h1 => ?_) (fun h1 => ?_)
  · skip
    refine zr_go (t := (30, [some (.ref 7), some (.long y), none, some (.int (nI i))], [.long y], (zw_C g gl a al))) 1 rfl ?_
    exact zr_ret rfl trivial ⟨by rw [hy, show i = l by omega], rfl⟩
  · skip
    have hei := hen i h1
    refine zr_go (t := (19, [some (.ref 7), some (.long y), none, some (.int (nI i))], [.int (nI i), .ref 29, .long 1, .long y], (zw_C g gl a al))) 5 rfl ?_
    refine zr_cd (t := (20, [some (.ref 7), some (.long y), none, some (.int (nI i))], [.int ((a 29) (nI i).toNatClampNeg), .long 1, .long y], (zw_C g gl a al))) rfl (pk_in i 64 (by omega) rfl (by omega)) ?_
    rw [pk_cl (x := (nI i)) i rfl (by omega)]
    rw [show (a 29) i = nI (e i) from he i h1]
    refine zr_go (t := (4, [some (.ref 7), some (.long (y ||| (1 <<< ((nI (e i)).toInt64 &&& 63)))), none, some (.int ((nI i) + 1))], [], (zw_C g gl a al))) 5 rfl ?_
    rw [show (nI i) + 1 = nI (i + 1) from (zn_add rfl rfl)]
    exact ih (i + 1, y ||| zf_b (e i)) ⟨by omega, by rw [hy]; rfl⟩ (by omega)
theorem zs_C_covered_7 (g : Nat → Int32) (gl : Nat → Int64) (a : Nat → Nat → Int32) (al : Nat → Nat → Int64) (l : Nat) (hl : g 26 = nI l) (hl64 : l ≤ 64) (e : Nat → Nat) (he : ∀ k, k < l → a 29 k = nI (e k)) (n : Nat) (hn64 : n ≤ 64) (hen : ∀ k, k < l → e k < n) (C : Nat → Int64) (hC : ∀ k, k < n → al 27 k = C k) : zm_Ev zt_get 1 53 [.ref 7] (zw_C g gl a al) (fun v w => v = some (.long (zg_or (fun k => C (e k)) l)) ∧ w = (zw_C g gl a al)) := by
  refine zr_ev zt_D_covered rfl rfl ?_
  show zm_Run zt_get 0 zt_D_covered (0, [some (.ref 7), none, none, none], [], (zw_C g gl a al)) _
  refine zr_go (t := (4, [some (.ref 7), some (.long 0), none, some (.int 0)], [], (zw_C g gl a al))) 4 rfl ?_
  refine zr_loop (fun zq : Nat × Int64 => (4, [some (.ref 7), some (.long zq.2), none, some (.int (nI zq.1))], [], (zw_C g gl a al))) (fun zq => zq.1 ≤ l ∧ zq.2 = zg_or (fun k => C (e k)) zq.1) (fun zq => l - zq.1) ?_ (0, 0) ⟨by omega, rfl⟩
  rintro ⟨i, y⟩ ⟨hi, hy⟩ ih
  try dsimp only at *
  refine zr_go (t := (9, [some (.ref 7), some (.long y), none, some (.int (nI i))], [.int (g 26), .int (nI i)], (zw_C g gl a al))) 3 rfl ?_
  refine zr_ige (x := nI i) (y := g 26) i l rfl hl (by omega) (by omega) (t := (32, [some (.ref 7), some (.long y), none, some (.int (nI i))], [], (zw_C g gl a al))) (f := (12, [some (.ref 7), some (.long y), none, some (.int (nI i))], [], (zw_C g gl a al))) rfl (fun h1 => ?_) (fun h1 => ?_)
  · skip
    refine zr_go (t := (33, [some (.ref 7), some (.long y), none, some (.int (nI i))], [.long y], (zw_C g gl a al))) 1 rfl ?_
    exact zr_ret rfl trivial ⟨by rw [hy, show i = l by omega], rfl⟩
  · skip
    have hei := hen i h1
    refine zr_go (t := (22, [some (.ref 7), some (.long y), none, some (.int (nI i))], [.int (nI i), .ref 29, .ref 27, .long y], (zw_C g gl a al))) 6 rfl ?_
    refine zr_cd (t := (23, [some (.ref 7), some (.long y), none, some (.int (nI i))], [.int ((a 29) (nI i).toNatClampNeg), .ref 27, .long y], (zw_C g gl a al))) rfl (pk_in i 64 (by omega) rfl (by omega)) ?_
    rw [pk_cl (x := (nI i)) i rfl (by omega)]
    rw [show (a 29) i = nI (e i) from he i h1]
    refine zr_cd (t := (24, [some (.ref 7), some (.long y), none, some (.int (nI i))], [.long ((al 27) (nI (e i)).toNatClampNeg), .long y], (zw_C g gl a al))) rfl (pk_in (e i) 64 (by omega) rfl (by omega)) ?_
    rw [pk_cl (x := (nI (e i))) (e i) rfl (by omega)]
    rw [hC (e i) hei]
    refine zr_go (t := (4, [some (.ref 7), some (.long (y ||| (C (e i)))), none, some (.int ((nI i) + 1))], [], (zw_C g gl a al))) 4 rfl ?_
    rw [show (nI i) + 1 = nI (i + 1) from (zn_add rfl rfl)]
    exact ih (i + 1, y ||| C (e i)) ⟨by omega, by rw [hy]; rfl⟩ (by omega)
theorem zs_C_clashing_7 (g : Nat → Int32) (gl : Nat → Int64) (a : Nat → Nat → Int32) (al : Nat → Nat → Int64) (l : Nat) (hl : g 26 = nI l) (hl64 : l ≤ 64) (e : Nat → Nat) (he : ∀ k, k < l → a 29 k = nI (e k)) (n : Nat) (hn64 : n ≤ 64) (hen : ∀ k, k < l → e k < n) (C : Nat → Int64) (hC : ∀ k, k < n → al 28 k = C k) : zm_Ev zt_get 1 54 [.ref 7] (zw_C g gl a al) (fun v w => v = some (.long (zg_or (fun k => C (e k)) l)) ∧ w = (zw_C g gl a al)) := by
  refine zr_ev zt_D_clashing rfl rfl ?_
  show zm_Run zt_get 0 zt_D_clashing (0, [some (.ref 7), none, none, none], [], (zw_C g gl a al)) _
  refine zr_go (t := (4, [some (.ref 7), some (.long 0), none, some (.int 0)], [], (zw_C g gl a al))) 4 rfl ?_
  refine zr_loop (fun zq : Nat × Int64 => (4, [some (.ref 7), some (.long zq.2), none, some (.int (nI zq.1))], [], (zw_C g gl a al))) (fun zq => zq.1 ≤ l ∧ zq.2 = zg_or (fun k => C (e k)) zq.1) (fun zq => l - zq.1) ?_ (0, 0) ⟨by omega, rfl⟩
  rintro ⟨i, y⟩ ⟨hi, hy⟩ ih
  try dsimp only at *
  refine zr_go (t := (9, [some (.ref 7), some (.long y), none, some (.int (nI i))], [.int (g 26), .int (nI i)], (zw_C g gl a al))) 3 rfl ?_
  refine zr_ige (x := nI i) (y := g 26) i l rfl hl (by omega) (by omega) (t := (32, [some (.ref 7), some (.long y), none, some (.int (nI i))], [], (zw_C g gl a al))) (f := (12, [some (.ref 7), some (.long y), none, some (.int (nI i))], [], (zw_C g gl a al))) rfl (fun h1 => ?_) (fun h1 => ?_)
  · skip
    refine zr_go (t := (33, [some (.ref 7), some (.long y), none, some (.int (nI i))], [.long y], (zw_C g gl a al))) 1 rfl ?_
    exact zr_ret rfl trivial ⟨by rw [hy, show i = l by omega], rfl⟩
  · skip
    have hei := hen i h1
    refine zr_go (t := (22, [some (.ref 7), some (.long y), none, some (.int (nI i))], [.int (nI i), .ref 29, .ref 28, .long y], (zw_C g gl a al))) 6 rfl ?_
    refine zr_cd (t := (23, [some (.ref 7), some (.long y), none, some (.int (nI i))], [.int ((a 29) (nI i).toNatClampNeg), .ref 28, .long y], (zw_C g gl a al))) rfl (pk_in i 64 (by omega) rfl (by omega)) ?_
    rw [pk_cl (x := (nI i)) i rfl (by omega)]
    rw [show (a 29) i = nI (e i) from he i h1]
    refine zr_cd (t := (24, [some (.ref 7), some (.long y), none, some (.int (nI i))], [.long ((al 28) (nI (e i)).toNatClampNeg), .long y], (zw_C g gl a al))) rfl (pk_in (e i) 64 (by omega) rfl (by omega)) ?_
    rw [pk_cl (x := (nI (e i))) (e i) rfl (by omega)]
    rw [hC (e i) hei]
    refine zr_go (t := (4, [some (.ref 7), some (.long (y ||| (C (e i)))), none, some (.int ((nI i) + 1))], [], (zw_C g gl a al))) 4 rfl ?_
    rw [show (nI i) + 1 = nI (i + 1) from (zn_add rfl rfl)]
    exact ih (i + 1, y ||| C (e i)) ⟨by omega, by rw [hy]; rfl⟩ (by omega)
theorem zs_C_everything_6 (g : Nat → Int32) (gl : Nat → Int64) (a : Nat → Nat → Int32) (al : Nat → Nat → Int64) (n : Nat) (hn : g 23 = nI n) (hn64 : n < 64) : zm_Ev zt_get 1 55 [.ref 6] (zw_C g gl a al) (fun v w => v = some (.long (zy_all n)) ∧ w = (zw_C g gl a al)) := by
  refine zr_ev zt_D_everything rfl rfl ?_
  show zm_Run zt_get 0 zt_D_everything (0, [some (.ref 6)], [], (zw_C g gl a al)) _
  refine zr_go (t := (6, [some (.ref 6)], [.int 64, .int (g 23)], (zw_C g gl a al))) 3 rfl ?_
  refine zr_ilt (x := g 23) (y := 64) n 64 hn rfl (by omega) (by omega) (t := (15, [some (.ref 6)], [], (zw_C g gl a al))) (f := (9, [some (.ref 6)], [], (zw_C g gl a al))) rfl (fun h1 => ?_) (fun h1 => ?_)
  · skip
    refine zr_go (t := (23, [some (.ref 6)], [.long ((1 <<< ((g 23).toInt64 &&& 63)) - 1)], (zw_C g gl a al))) 6 rfl ?_
    exact zr_ret rfl trivial ⟨by rw [hn]; rfl, rfl⟩
  · skip
    exfalso; omega
theorem zs_C_everything_7 (g : Nat → Int32) (gl : Nat → Int64) (a : Nat → Nat → Int32) (al : Nat → Nat → Int64) (n : Nat) (hn : g 25 = nI n) (hn64 : n < 64) : zm_Ev zt_get 1 55 [.ref 7] (zw_C g gl a al) (fun v w => v = some (.long (zy_all n)) ∧ w = (zw_C g gl a al)) := by
  refine zr_ev zt_D_everything rfl rfl ?_
  show zm_Run zt_get 0 zt_D_everything (0, [some (.ref 7)], [], (zw_C g gl a al)) _
  refine zr_go (t := (6, [some (.ref 7)], [.int 64, .int (g 25)], (zw_C g gl a al))) 3 rfl ?_
  refine zr_ilt (x := g 25) (y := 64) n 64 hn rfl (by omega) (by omega) (t := (15, [some (.ref 7)], [], (zw_C g gl a al))) (f := (9, [some (.ref 7)], [], (zw_C g gl a al))) rfl (fun h1 => ?_) (fun h1 => ?_)
  · skip
    refine zr_go (t := (23, [some (.ref 7)], [.long ((1 <<< ((g 25).toInt64 &&& 63)) - 1)], (zw_C g gl a al))) 6 rfl ?_
    exact zr_ret rfl trivial ⟨by rw [hn]; rfl, rfl⟩
  · skip
    exfalso; omega
theorem zs_C_findClashes_6 (g : Nat → Int32) (gl : Nat → Int64) (a : Nat → Nat → Int32) (al : Nat → Nat → Int64) (n : Nat) (hn : g 23 = nI n) (hn64 : n ≤ 64) (m : Nat) (hm : g 25 = nI m) (hm64 : m ≤ 64) (C : Nat → Int64) (hC : ∀ k, k < n → al 24 k = C k) (D : Nat → Int64) (hD : ∀ k, k < m → al 27 k = D k) : zm_Ev zt_get 1 48 [.ref 6, .ref 7] (zw_C g gl a al) (fun v w => v = none ∧ ∃ F, w = (zw_C g gl a (va_up al 25 F)) ∧ ∀ k, k < n → F k = zg_cl C D k m) := by
  refine zr_ev zt_D_findClashes rfl rfl ?_
  show zm_Run zt_get 0 zt_D_findClashes (0, [some (.ref 6), some (.ref 7), none, none, none, none], [], (zw_C g gl a al)) _
  refine zr_go (t := (2, [some (.ref 6), some (.ref 7), some (.int 0), none, none, none], [], (zw_C g gl a al))) 2 rfl ?_
  refine zr_loop (fun zq : Nat × (Nat → Int64) => (2, [some (.ref 6), some (.ref 7), some (.int (nI zq.1)), none, none, none], [], (zw_C g gl a (va_up al 25 zq.2)))) (fun zq => zq.1 ≤ n ∧ ∀ k, k < zq.1 → zq.2 k = zg_cl C D k m) (fun zq => n - zq.1) ?_ (0, al 25) ⟨by omega, fun k h => absurd h (Nat.not_lt_zero k)⟩
  rintro ⟨p, F⟩ ⟨hp, hF⟩ ih
  try dsimp only at *
  refine zr_go (t := (7, [some (.ref 6), some (.ref 7), some (.int (nI p)), none, none, none], [.int (g 23), .int (nI p)], (zw_C g gl a (va_up al 25 F)))) 3 rfl ?_
  refine zr_ige (x := nI p) (y := g 23) p n rfl hn (by omega) (by omega) (t := (69, [some (.ref 6), some (.ref 7), some (.int (nI p)), none, none, none], [], (zw_C g gl a (va_up al 25 F)))) (f := (10, [some (.ref 6), some (.ref 7), some (.int (nI p)), none, none, none], [], (zw_C g gl a (va_up al 25 F)))) rfl (fun h1 => ?_) (fun h1 => ?_)
  · skip
    exact zr_ret rfl trivial ⟨rfl, F, rfl, fun k hk => hF k (by omega)⟩
  · skip
    refine zr_go (t := (15, [some (.ref 6), some (.ref 7), some (.int (nI p)), some (.long 0), none, some (.int 0)], [], (zw_C g gl a (va_up al 25 F)))) 4 rfl ?_
    refine zr_loop (fun zq : Nat × Int64 => (15, [some (.ref 6), some (.ref 7), some (.int (nI p)), some (.long zq.2), none, some (.int (nI zq.1))], [], (zw_C g gl a (va_up al 25 F)))) (fun zq => zq.1 ≤ m ∧ zq.2 = zg_cl C D p zq.1) (fun zq => m - zq.1) ?_ (0, 0) ⟨by omega, rfl⟩
    rintro ⟨q, y⟩ ⟨hq, hy⟩ ih2
    try dsimp only at *
    refine zr_go (t := (21, [some (.ref 6), some (.ref 7), some (.int (nI p)), some (.long y), none, some (.int (nI q))], [.int (g 25), .int (nI q)], (zw_C g gl a (va_up al 25 F)))) 3 rfl ?_
    refine zr_ige (x := nI q) (y := g 25) q m rfl hm (by omega) (by omega) (t := (56, [some (.ref 6), some (.ref 7), some (.int (nI p)), some (.long y), none, some (.int (nI q))], [], (zw_C g gl a (va_up al 25 F)))) (f := (24, [some (.ref 6), some (.ref 7), some (.int (nI p)), some (.long y), none, some (.int (nI q))], [], (zw_C g gl a (va_up al 25 F)))) rfl (fun h2 => ?_) (fun h2 => ?_)
    · skip
      refine zr_go (t := (62, [some (.ref 6), some (.ref 7), some (.int (nI p)), some (.long y), none, some (.int (nI q))], [.long y, .int (nI p), .ref 25], (zw_C g gl a (va_up al 25 F)))) 4 rfl ?_
      refine zr_cd (t := (63, [some (.ref 6), some (.ref 7), some (.int (nI p)), some (.long y), none, some (.int (nI q))], [], (zw_C g gl a (va_up al 25 (vp_updL F ((nI p).toNatClampNeg) y))))) rfl (pk_in p 64 (by omega) rfl (by omega)) ?_
      rw [pk_cl (x := (nI p)) p rfl (by omega)]
      refine zr_go (t := (2, [some (.ref 6), some (.ref 7), some (.int ((nI p) + 1)), some (.long y), none, some (.int (nI q))], [], (zw_C g gl a (va_up al 25 (vp_updL F p y))))) 2 rfl ?_
      rw [show (nI p) + 1 = nI (p + 1) from (zn_add rfl rfl)]
      refine zr_forget [some (.ref 6), some (.ref 7), some (.int (nI (p + 1))), none, none, none] ⟨Or.inr rfl, Or.inr rfl, Or.inr rfl, Or.inl rfl, Or.inr rfl, Or.inl rfl, trivial⟩ ?_
      exact ih (p + 1, (vp_updL F p y)) ⟨by omega, lt_s (fun k hk => (pk_uLn (by omega)).trans (hF k hk)) (pk_uLs.trans (by rw [hy, show q = m by omega]))⟩ (by omega)
    · skip
      refine zr_go (t := (29, [some (.ref 6), some (.ref 7), some (.int (nI p)), some (.long y), none, some (.int (nI q))], [.int (nI p), .ref 24], (zw_C g gl a (va_up al 25 F)))) 3 rfl ?_
      refine zr_cd (t := (30, [some (.ref 6), some (.ref 7), some (.int (nI p)), some (.long y), none, some (.int (nI q))], [.long ((al 24) (nI p).toNatClampNeg)], (zw_C g gl a (va_up al 25 F)))) rfl (pk_in p 64 (by omega) rfl (by omega)) ?_
      rw [pk_cl (x := (nI p)) p rfl (by omega)]
      rw [hC p h1]
      refine zr_go (t := (35, [some (.ref 6), some (.ref 7), some (.int (nI p)), some (.long y), none, some (.int (nI q))], [.long ((((C p).toUInt64 >>> ((nI q).toInt64.toUInt64 &&& Int64.toUInt64 63)).toInt64) &&& 1)], (zw_C g gl a (va_up al 25 F)))) 4 rfl ?_
      rw [lb_ush (x := (C p)) (k := q) (by omega)]
      refine zr_go (t := (37, [some (.ref 6), some (.ref 7), some (.int (nI p)), some (.long y), none, some (.int (nI q))], [.int (lg_cmp (nL (lb (C p) q).toNat) 0)], (zw_C g gl a (va_up al 25 F)))) 2 rfl ?_
      refine zr_if (c := (lg_cmp (nL (lb (C p) q).toNat) 0) = 0) (t := (50, [some (.ref 6), some (.ref 7), some (.int (nI p)), some (.long y), none, some (.int (nI q))], [], (zw_C g gl a (va_up al 25 F)))) (f := (40, [some (.ref 6), some (.ref 7), some (.int (nI p)), some (.long y), none, some (.int (nI q))], [], (zw_C g gl a (va_up al 25 F)))) rfl (fun hbit => ?_) (fun hbit => ?_)
      · skip
        have hb := zb_c0 hbit
        refine zr_go (t := (15, [some (.ref 6), some (.ref 7), some (.int (nI p)), some (.long y), none, some (.int ((nI q) + 1))], [], (zw_C g gl a (va_up al 25 F)))) 2 rfl ?_
        rw [show (nI q) + 1 = nI (q + 1) from (zn_add rfl rfl)]
        exact ih2 (q + 1, y) ⟨by omega, by rw [hy, zg_cl_n hb]⟩ (by omega)
      · skip
        have hb := zb_c1 hbit
        refine zr_go (t := (47, [some (.ref 6), some (.ref 7), some (.int (nI p)), some (.long y), none, some (.int (nI q))], [.int (nI q), .ref 27, .long y], (zw_C g gl a (va_up al 25 F)))) 4 rfl ?_
        refine zr_cd (t := (48, [some (.ref 6), some (.ref 7), some (.int (nI p)), some (.long y), none, some (.int (nI q))], [.long ((al 27) (nI q).toNatClampNeg), .long y], (zw_C g gl a (va_up al 25 F)))) rfl (pk_in q 64 (by omega) rfl (by omega)) ?_
        rw [pk_cl (x := (nI q)) q rfl (by omega)]
        rw [hD q h2]
        refine zr_go (t := (15, [some (.ref 6), some (.ref 7), some (.int (nI p)), some (.long (y ||| (D q))), none, some (.int ((nI q) + 1))], [], (zw_C g gl a (va_up al 25 F)))) 4 rfl ?_
        rw [show (nI q) + 1 = nI (q + 1) from (zn_add rfl rfl)]
        exact ih2 (q + 1, y ||| D q) ⟨by omega, by rw [hy, zg_cl_y hb]⟩ (by omega)
theorem zs_C_findClashes_7 (g : Nat → Int32) (gl : Nat → Int64) (a : Nat → Nat → Int32) (al : Nat → Nat → Int64) (n : Nat) (hn : g 25 = nI n) (hn64 : n ≤ 64) (m : Nat) (hm : g 23 = nI m) (hm64 : m ≤ 64) (C : Nat → Int64) (hC : ∀ k, k < n → al 27 k = C k) (D : Nat → Int64) (hD : ∀ k, k < m → al 24 k = D k) : zm_Ev zt_get 1 48 [.ref 7, .ref 6] (zw_C g gl a al) (fun v w => v = none ∧ ∃ F, w = (zw_C g gl a (va_up al 28 F)) ∧ ∀ k, k < n → F k = zg_cl C D k m) := by
  refine zr_ev zt_D_findClashes rfl rfl ?_
  show zm_Run zt_get 0 zt_D_findClashes (0, [some (.ref 7), some (.ref 6), none, none, none, none], [], (zw_C g gl a al)) _
  refine zr_go (t := (2, [some (.ref 7), some (.ref 6), some (.int 0), none, none, none], [], (zw_C g gl a al))) 2 rfl ?_
  refine zr_loop (fun zq : Nat × (Nat → Int64) => (2, [some (.ref 7), some (.ref 6), some (.int (nI zq.1)), none, none, none], [], (zw_C g gl a (va_up al 28 zq.2)))) (fun zq => zq.1 ≤ n ∧ ∀ k, k < zq.1 → zq.2 k = zg_cl C D k m) (fun zq => n - zq.1) ?_ (0, al 28) ⟨by omega, fun k h => absurd h (Nat.not_lt_zero k)⟩
  rintro ⟨p, F⟩ ⟨hp, hF⟩ ih
  try dsimp only at *
  refine zr_go (t := (7, [some (.ref 7), some (.ref 6), some (.int (nI p)), none, none, none], [.int (g 25), .int (nI p)], (zw_C g gl a (va_up al 28 F)))) 3 rfl ?_
  refine zr_ige (x := nI p) (y := g 25) p n rfl hn (by omega) (by omega) (t := (69, [some (.ref 7), some (.ref 6), some (.int (nI p)), none, none, none], [], (zw_C g gl a (va_up al 28 F)))) (f := (10, [some (.ref 7), some (.ref 6), some (.int (nI p)), none, none, none], [], (zw_C g gl a (va_up al 28 F)))) rfl (fun h1 => ?_) (fun h1 => ?_)
  · skip
    exact zr_ret rfl trivial ⟨rfl, F, rfl, fun k hk => hF k (by omega)⟩
  · skip
    refine zr_go (t := (15, [some (.ref 7), some (.ref 6), some (.int (nI p)), some (.long 0), none, some (.int 0)], [], (zw_C g gl a (va_up al 28 F)))) 4 rfl ?_
    refine zr_loop (fun zq : Nat × Int64 => (15, [some (.ref 7), some (.ref 6), some (.int (nI p)), some (.long zq.2), none, some (.int (nI zq.1))], [], (zw_C g gl a (va_up al 28 F)))) (fun zq => zq.1 ≤ m ∧ zq.2 = zg_cl C D p zq.1) (fun zq => m - zq.1) ?_ (0, 0) ⟨by omega, rfl⟩
    rintro ⟨q, y⟩ ⟨hq, hy⟩ ih2
    try dsimp only at *
    refine zr_go (t := (21, [some (.ref 7), some (.ref 6), some (.int (nI p)), some (.long y), none, some (.int (nI q))], [.int (g 23), .int (nI q)], (zw_C g gl a (va_up al 28 F)))) 3 rfl ?_
    refine zr_ige (x := nI q) (y := g 23) q m rfl hm (by omega) (by omega) (t := (56, [some (.ref 7), some (.ref 6), some (.int (nI p)), some (.long y), none, some (.int (nI q))], [], (zw_C g gl a (va_up al 28 F)))) (f := (24, [some (.ref 7), some (.ref 6), some (.int (nI p)), some (.long y), none, some (.int (nI q))], [], (zw_C g gl a (va_up al 28 F)))) rfl (fun h2 => ?_) (fun h2 => ?_)
    · skip
      refine zr_go (t := (62, [some (.ref 7), some (.ref 6), some (.int (nI p)), some (.long y), none, some (.int (nI q))], [.long y, .int (nI p), .ref 28], (zw_C g gl a (va_up al 28 F)))) 4 rfl ?_
      refine zr_cd (t := (63, [some (.ref 7), some (.ref 6), some (.int (nI p)), some (.long y), none, some (.int (nI q))], [], (zw_C g gl a (va_up al 28 (vp_updL F ((nI p).toNatClampNeg) y))))) rfl (pk_in p 64 (by omega) rfl (by omega)) ?_
      rw [pk_cl (x := (nI p)) p rfl (by omega)]
      refine zr_go (t := (2, [some (.ref 7), some (.ref 6), some (.int ((nI p) + 1)), some (.long y), none, some (.int (nI q))], [], (zw_C g gl a (va_up al 28 (vp_updL F p y))))) 2 rfl ?_
      rw [show (nI p) + 1 = nI (p + 1) from (zn_add rfl rfl)]
      refine zr_forget [some (.ref 7), some (.ref 6), some (.int (nI (p + 1))), none, none, none] ⟨Or.inr rfl, Or.inr rfl, Or.inr rfl, Or.inl rfl, Or.inr rfl, Or.inl rfl, trivial⟩ ?_
      exact ih (p + 1, (vp_updL F p y)) ⟨by omega, lt_s (fun k hk => (pk_uLn (by omega)).trans (hF k hk)) (pk_uLs.trans (by rw [hy, show q = m by omega]))⟩ (by omega)
    · skip
      refine zr_go (t := (29, [some (.ref 7), some (.ref 6), some (.int (nI p)), some (.long y), none, some (.int (nI q))], [.int (nI p), .ref 27], (zw_C g gl a (va_up al 28 F)))) 3 rfl ?_
      refine zr_cd (t := (30, [some (.ref 7), some (.ref 6), some (.int (nI p)), some (.long y), none, some (.int (nI q))], [.long ((al 27) (nI p).toNatClampNeg)], (zw_C g gl a (va_up al 28 F)))) rfl (pk_in p 64 (by omega) rfl (by omega)) ?_
      rw [pk_cl (x := (nI p)) p rfl (by omega)]
      rw [hC p h1]
      refine zr_go (t := (35, [some (.ref 7), some (.ref 6), some (.int (nI p)), some (.long y), none, some (.int (nI q))], [.long ((((C p).toUInt64 >>> ((nI q).toInt64.toUInt64 &&& Int64.toUInt64 63)).toInt64) &&& 1)], (zw_C g gl a (va_up al 28 F)))) 4 rfl ?_
      rw [lb_ush (x := (C p)) (k := q) (by omega)]
      refine zr_go (t := (37, [some (.ref 7), some (.ref 6), some (.int (nI p)), some (.long y), none, some (.int (nI q))], [.int (lg_cmp (nL (lb (C p) q).toNat) 0)], (zw_C g gl a (va_up al 28 F)))) 2 rfl ?_
      refine zr_if (c := (lg_cmp (nL (lb (C p) q).toNat) 0) = 0) (t := (50, [some (.ref 7), some (.ref 6), some (.int (nI p)), some (.long y), none, some (.int (nI q))], [], (zw_C g gl a (va_up al 28 F)))) (f := (40, [some (.ref 7), some (.ref 6), some (.int (nI p)), some (.long y), none, some (.int (nI q))], [], (zw_C g gl a (va_up al 28 F)))) rfl (fun hbit => ?_) (fun hbit => ?_)
      · skip
        have hb := zb_c0 hbit
        refine zr_go (t := (15, [some (.ref 7), some (.ref 6), some (.int (nI p)), some (.long y), none, some (.int ((nI q) + 1))], [], (zw_C g gl a (va_up al 28 F)))) 2 rfl ?_
        rw [show (nI q) + 1 = nI (q + 1) from (zn_add rfl rfl)]
        exact ih2 (q + 1, y) ⟨by omega, by rw [hy, zg_cl_n hb]⟩ (by omega)
      · skip
        have hb := zb_c1 hbit
        refine zr_go (t := (47, [some (.ref 7), some (.ref 6), some (.int (nI p)), some (.long y), none, some (.int (nI q))], [.int (nI q), .ref 24, .long y], (zw_C g gl a (va_up al 28 F)))) 4 rfl ?_
        refine zr_cd (t := (48, [some (.ref 7), some (.ref 6), some (.int (nI p)), some (.long y), none, some (.int (nI q))], [.long ((al 24) (nI q).toNatClampNeg), .long y], (zw_C g gl a (va_up al 28 F)))) rfl (pk_in q 64 (by omega) rfl (by omega)) ?_
        rw [pk_cl (x := (nI q)) q rfl (by omega)]
        rw [hD q h2]
        refine zr_go (t := (15, [some (.ref 7), some (.ref 6), some (.int (nI p)), some (.long (y ||| (D q))), none, some (.int ((nI q) + 1))], [], (zw_C g gl a (va_up al 28 F)))) 4 rfl ?_
        rw [show (nI q) + 1 = nI (q + 1) from (zn_add rfl rfl)]
        exact ih2 (q + 1, y ||| D q) ⟨by omega, by rw [hy, zg_cl_y hb]⟩ (by omega)
theorem zs_C_append_6 (g : Nat → Int32) (gl : Nat → Int64) (a : Nat → Nat → Int32) (al : Nat → Nat → Int64) (l : Nat) (hl : g 24 = nI l) (hl64 : l < 64) (x : Int32) : zm_Ev zt_get 1 50 [.ref 6, .int x] (zw_C g gl a al) (fun v w => v = none ∧ w = (zw_C (upd g 24 (nI (l + 1))) gl (va_up a 26 (upd (a 26) l x)) al)) := by
  refine zr_ev zt_D_append rfl rfl ?_
  show zm_Run zt_get 0 zt_D_append (0, [some (.ref 6), some (.int x)], [], (zw_C g gl a al)) _
  refine zr_go (t := (6, [some (.ref 6), some (.int x)], [.int 64, .int (g 24)], (zw_C g gl a al))) 3 rfl ?_
  refine zr_ige (x := g 24) (y := 64) l 64 hl rfl (by omega) (by omega) (t := (29, [some (.ref 6), some (.int x)], [], (zw_C g gl a al))) (f := (9, [some (.ref 6), some (.int x)], [], (zw_C g gl a al))) rfl (fun h1 => ?_) (fun h1 => ?_)
  · skip
    exfalso; omega
  · skip
    refine zr_go (t := (18, [some (.ref 6), some (.int x)], [.int x, .int (g 24), .ref 26], (zw_C g gl a al))) 5 rfl ?_
    refine zr_cd (t := (19, [some (.ref 6), some (.int x)], [], (zw_C g gl (va_up a 26 (upd (a 26) ((g 24).toNatClampNeg) x)) al))) rfl (pk_in l 64 (by omega) hl (by omega)) ?_
    rw [pk_cl (x := (g 24)) l hl (by omega)]
    refine zr_go (t := (29, [some (.ref 6), some (.int x)], [], (zw_C (upd g 24 ((g 24) + 1)) gl (va_up a 26 (upd (a 26) l x)) al))) 6 rfl ?_
    rw [show (g 24) + 1 = nI (l + 1) from (zn_add hl rfl)]
    exact zr_ret rfl trivial ⟨rfl, rfl⟩
theorem zs_C_append_7 (g : Nat → Int32) (gl : Nat → Int64) (a : Nat → Nat → Int32) (al : Nat → Nat → Int64) (l : Nat) (hl : g 26 = nI l) (hl64 : l < 64) (x : Int32) : zm_Ev zt_get 1 50 [.ref 7, .int x] (zw_C g gl a al) (fun v w => v = none ∧ w = (zw_C (upd g 26 (nI (l + 1))) gl (va_up a 29 (upd (a 29) l x)) al)) := by
  refine zr_ev zt_D_append rfl rfl ?_
  show zm_Run zt_get 0 zt_D_append (0, [some (.ref 7), some (.int x)], [], (zw_C g gl a al)) _
  refine zr_go (t := (6, [some (.ref 7), some (.int x)], [.int 64, .int (g 26)], (zw_C g gl a al))) 3 rfl ?_
  refine zr_ige (x := g 26) (y := 64) l 64 hl rfl (by omega) (by omega) (t := (29, [some (.ref 7), some (.int x)], [], (zw_C g gl a al))) (f := (9, [some (.ref 7), some (.int x)], [], (zw_C g gl a al))) rfl (fun h1 => ?_) (fun h1 => ?_)
  · skip
    exfalso; omega
  · skip
    refine zr_go (t := (18, [some (.ref 7), some (.int x)], [.int x, .int (g 26), .ref 29], (zw_C g gl a al))) 5 rfl ?_
    refine zr_cd (t := (19, [some (.ref 7), some (.int x)], [], (zw_C g gl (va_up a 29 (upd (a 29) ((g 26).toNatClampNeg) x)) al))) rfl (pk_in l 64 (by omega) hl (by omega)) ?_
    rw [pk_cl (x := (g 26)) l hl (by omega)]
    refine zr_go (t := (29, [some (.ref 7), some (.int x)], [], (zw_C (upd g 26 ((g 26) + 1)) gl (va_up a 29 (upd (a 29) l x)) al))) 6 rfl ?_
    rw [show (g 26) + 1 = nI (l + 1) from (zn_add hl rfl)]
    exact zr_ret rfl trivial ⟨rfl, rfl⟩
theorem zs_C_appendAll_6 (g : Nat → Int32) (gl : Nat → Int64) (a : Nat → Nat → Int32) (al : Nat → Nat → Int64) (n : Nat) (hn : g 23 = nI n) (x : Int64) (l : Nat) (hl : g 24 = nI l) (hl64 : l + zC (lb x) n ≤ 64) (e : Nat → Nat) (he : ∀ k, k < l → a 26 k = nI (e k)) (hn64 : n ≤ 64) : zm_Ev zt_get 2 51 [.ref 6, .long x] (zw_C g gl a al) (fun v w => v = none ∧ ∃ F, w = (zw_C (upd g 24 (nI (l + zC (lb x) n))) gl (va_up a 26 F) al) ∧ ∀ j, j < l + zC (lb x) n → F j = nI (zg_ap e l x n j)) := by
  refine zr_ev zt_D_appendAll rfl rfl ?_
  show zm_Run zt_get 1 zt_D_appendAll (0, [some (.ref 6), some (.long x), none, none], [], (zw_C g gl a al)) _
  refine zr_go (t := (2, [some (.ref 6), some (.long x), none, some (.int 0)], [], (zw_C g gl a al))) 2 rfl ?_
  refine zr_loop (fun zq : Nat × Int32 × (Nat → Int32) => (2, [some (.ref 6), some (.long x), none, some (.int (nI zq.1))], [], (zw_C (upd g 24 zq.2.1) gl (va_up a 26 zq.2.2) al))) (fun zq => zq.1 ≤ n ∧ zq.2.1 = nI (l + zC (lb x) zq.1) ∧ ∀ j, j < l + zC (lb x) zq.1 → zq.2.2 j = nI (zg_ap e l x n j)) (fun zq => n - zq.1) ?_ (0, g 24, a 26) ⟨by omega, hl, fun j hj => (he j hj).trans (by unfold zg_ap; rw [if_pos (show j < l from hj)])⟩
  rintro ⟨i, y, F⟩ ⟨hi, hy, hF⟩ ih
  try dsimp only at *
  subst hy
  refine zr_go (t := (7, [some (.ref 6), some (.long x), none, some (.int (nI i))], [.int (g 23), .int (nI i)], (zw_C (upd g 24 (nI (l + zC (lb x) i))) gl (va_up a 26 F) al))) 3 rfl ?_
  refine zr_ige (x := nI i) (y := g 23) i n rfl hn (by omega) (by omega) (t := (31, [some (.ref 6), some (.long x), none, some (.int (nI i))], [], (zw_C (upd g 24 (nI (l + zC (lb x) i))) gl (va_up a 26 F) al))) (f := (10, [some (.ref 6), some (.long x), none, some (.int (nI i))], [], (zw_C (upd g 24 (nI (l + zC (lb x) i))) gl (va_up a 26 F) al))) rfl (fun h1 => ?_) (fun h1 => ?_)
  · skip
    have ein : i = n := by omega
    subst ein
    exact zr_ret rfl trivial ⟨rfl, F, rfl, hF⟩
  · skip
    have hcl := zC_mono (lb x) (show i + 1 ≤ n by omega)
    have hce : zC (lb x) (i + 1) = zC (lb x) i + (lb x i).toNat := rfl
    refine zr_go (t := (15, [some (.ref 6), some (.long x), none, some (.int (nI i))], [.long (((x.toUInt64 >>> ((nI i).toInt64.toUInt64 &&& Int64.toUInt64 63)).toInt64) &&& 1)], (zw_C (upd g 24 (nI (l + zC (lb x) i))) gl (va_up a 26 F) al))) 5 rfl ?_
    rw [lb_ush (x := x) (k := i) (by omega)]
    refine zr_go (t := (17, [some (.ref 6), some (.long x), none, some (.int (nI i))], [.int (lg_cmp (nL (lb x i).toNat) 0)], (zw_C (upd g 24 (nI (l + zC (lb x) i))) gl (va_up a 26 F) al))) 2 rfl ?_
    refine zr_if (c := (lg_cmp (nL (lb x i).toNat) 0) = 0) (t := (25, [some (.ref 6), some (.long x), none, some (.int (nI i))], [], (zw_C (upd g 24 (nI (l + zC (lb x) i))) gl (va_up a 26 F) al))) (f := (20, [some (.ref 6), some (.long x), none, some (.int (nI i))], [], (zw_C (upd g 24 (nI (l + zC (lb x) i))) gl (va_up a 26 F) al))) rfl (fun hbit => ?_) (fun hbit => ?_)
    · skip
      have hb := zb_c0 hbit
      rw [hb] at hce
      have hce2 : zC (lb x) (i + 1) = zC (lb x) i := hce
      refine zr_go (t := (2, [some (.ref 6), some (.long x), none, some (.int ((nI i) + 1))], [], (zw_C (upd g 24 (nI (l + zC (lb x) i))) gl (va_up a 26 F) al))) 2 rfl ?_
      rw [show (nI i) + 1 = nI (i + 1) from (zn_add rfl rfl)]
      exact ih (i + 1, nI (l + zC (lb x) i), F) ⟨by omega, by rw [hce2], fun j hj => hF j (by rw [hce2] at hj; exact hj)⟩ (by omega)
    · skip
      have hb := zb_c1 hbit
      rw [hb] at hce
      have hce2 : zC (lb x) (i + 1) = zC (lb x) i + 1 := hce
      have hzX : zX (lb x) n (zC (lb x) i) = i := zX_at hb h1
      refine zr_go (t := (22, [some (.ref 6), some (.long x), none, some (.int (nI i))], [.int (nI i), .ref 6], (zw_C (upd g 24 (nI (l + zC (lb x) i))) gl (va_up a 26 F) al))) 2 rfl ?_
      refine zr_call (t := (25, [some (.ref 6), some (.long x), none, some (.int (nI i))], [], (zw_C (upd g 24 (nI (l + zC (lb x) i))) gl (va_up a 26 F) al))) rfl (Nat.le_of_ble_eq_true rfl : 1 ≤ 1) (zs_C_append_6 (upd g 24 (nI (l + zC (lb x) i))) gl (va_up a 26 F) al (l + zC (lb x) i) rfl (by omega) (nI i)) ?_
      rintro _ _ ⟨rfl, rfl⟩
      show zm_Run zt_get 1 zt_D_appendAll (25, [some (.ref 6), some (.long x), none, some (.int (nI i))], [], (zw_C (upd g 24 (nI (l + zC (lb x) i + 1))) gl (va_up a 26 (upd F (l + zC (lb x) i) (nI i))) al)) _
      refine zr_go (t := (2, [some (.ref 6), some (.long x), none, some (.int ((nI i) + 1))], [], (zw_C (upd g 24 (nI (l + zC (lb x) i + 1))) gl (va_up a 26 (upd F (l + zC (lb x) i) (nI i))) al))) 2 rfl ?_
      rw [show (nI i) + 1 = nI (i + 1) from (zn_add rfl rfl)]
      exact ih (i + 1, nI (l + zC (lb x) i + 1), upd F (l + zC (lb x) i) (nI i)) ⟨by omega, by rw [hce2]; rfl, fun j hj => zg_ap_s hb h1 hF j (by rw [hce2] at hj; omega)⟩ (by omega)
theorem zs_C_appendAll_7 (g : Nat → Int32) (gl : Nat → Int64) (a : Nat → Nat → Int32) (al : Nat → Nat → Int64) (n : Nat) (hn : g 25 = nI n) (x : Int64) (l : Nat) (hl : g 26 = nI l) (hl64 : l + zC (lb x) n ≤ 64) (e : Nat → Nat) (he : ∀ k, k < l → a 29 k = nI (e k)) (hn64 : n ≤ 64) : zm_Ev zt_get 2 51 [.ref 7, .long x] (zw_C g gl a al) (fun v w => v = none ∧ ∃ F, w = (zw_C (upd g 26 (nI (l + zC (lb x) n))) gl (va_up a 29 F) al) ∧ ∀ j, j < l + zC (lb x) n → F j = nI (zg_ap e l x n j)) := by
  refine zr_ev zt_D_appendAll rfl rfl ?_
  show zm_Run zt_get 1 zt_D_appendAll (0, [some (.ref 7), some (.long x), none, none], [], (zw_C g gl a al)) _
  refine zr_go (t := (2, [some (.ref 7), some (.long x), none, some (.int 0)], [], (zw_C g gl a al))) 2 rfl ?_
  refine zr_loop (fun zq : Nat × Int32 × (Nat → Int32) => (2, [some (.ref 7), some (.long x), none, some (.int (nI zq.1))], [], (zw_C (upd g 26 zq.2.1) gl (va_up a 29 zq.2.2) al))) (fun zq => zq.1 ≤ n ∧ zq.2.1 = nI (l + zC (lb x) zq.1) ∧ ∀ j, j < l + zC (lb x) zq.1 → zq.2.2 j = nI (zg_ap e l x n j)) (fun zq => n - zq.1) ?_ (0, g 26, a 29) ⟨by omega, hl, fun j hj => (he j hj).trans (by unfold zg_ap; rw [if_pos (show j < l from hj)])⟩
  rintro ⟨i, y, F⟩ ⟨hi, hy, hF⟩ ih
  try dsimp only at *
  subst hy
  refine zr_go (t := (7, [some (.ref 7), some (.long x), none, some (.int (nI i))], [.int (g 25), .int (nI i)], (zw_C (upd g 26 (nI (l + zC (lb x) i))) gl (va_up a 29 F) al))) 3 rfl ?_
  refine zr_ige (x := nI i) (y := g 25) i n rfl hn (by omega) (by omega) (t := (31, [some (.ref 7), some (.long x), none, some (.int (nI i))], [], (zw_C (upd g 26 (nI (l + zC (lb x) i))) gl (va_up a 29 F) al))) (f := (10, [some (.ref 7), some (.long x), none, some (.int (nI i))], [], (zw_C (upd g 26 (nI (l + zC (lb x) i))) gl (va_up a 29 F) al))) rfl (fun h1 => ?_) (fun h1 => ?_)
  · skip
    have ein : i = n := by omega
    subst ein
    exact zr_ret rfl trivial ⟨rfl, F, rfl, hF⟩
  · skip
    have hcl := zC_mono (lb x) (show i + 1 ≤ n by omega)
    have hce : zC (lb x) (i + 1) = zC (lb x) i + (lb x i).toNat := rfl
    refine zr_go (t := (15, [some (.ref 7), some (.long x), none, some (.int (nI i))], [.long (((x.toUInt64 >>> ((nI i).toInt64.toUInt64 &&& Int64.toUInt64 63)).toInt64) &&& 1)], (zw_C (upd g 26 (nI (l + zC (lb x) i))) gl (va_up a 29 F) al))) 5 rfl ?_
    rw [lb_ush (x := x) (k := i) (by omega)]
    refine zr_go (t := (17, [some (.ref 7), some (.long x), none, some (.int (nI i))], [.int (lg_cmp (nL (lb x i).toNat) 0)], (zw_C (upd g 26 (nI (l + zC (lb x) i))) gl (va_up a 29 F) al))) 2 rfl ?_
    refine zr_if (c := (lg_cmp (nL (lb x i).toNat) 0) = 0) (t := (25, [some (.ref 7), some (.long x), none, some (.int (nI i))], [], (zw_C (upd g 26 (nI (l + zC (lb x) i))) gl (va_up a 29 F) al))) (f := (20, [some (.ref 7), some (.long x), none, some (.int (nI i))], [], (zw_C (upd g 26 (nI (l + zC (lb x) i))) gl (va_up a 29 F) al))) rfl (fun hbit => ?_) (fun hbit => ?_)
    · skip
      have hb := zb_c0 hbit
      rw [hb] at hce
      have hce2 : zC (lb x) (i + 1) = zC (lb x) i := hce
      refine zr_go (t := (2, [some (.ref 7), some (.long x), none, some (.int ((nI i) + 1))], [], (zw_C (upd g 26 (nI (l + zC (lb x) i))) gl (va_up a 29 F) al))) 2 rfl ?_
      rw [show (nI i) + 1 = nI (i + 1) from (zn_add rfl rfl)]
      exact ih (i + 1, nI (l + zC (lb x) i), F) ⟨by omega, by rw [hce2], fun j hj => hF j (by rw [hce2] at hj; exact hj)⟩ (by omega)
    · skip
      have hb := zb_c1 hbit
      rw [hb] at hce
      have hce2 : zC (lb x) (i + 1) = zC (lb x) i + 1 := hce
      have hzX : zX (lb x) n (zC (lb x) i) = i := zX_at hb h1
      refine zr_go (t := (22, [some (.ref 7), some (.long x), none, some (.int (nI i))], [.int (nI i), .ref 7], (zw_C (upd g 26 (nI (l + zC (lb x) i))) gl (va_up a 29 F) al))) 2 rfl ?_
      refine zr_call (t := (25, [some (.ref 7), some (.long x), none, some (.int (nI i))], [], (zw_C (upd g 26 (nI (l + zC (lb x) i))) gl (va_up a 29 F) al))) rfl (Nat.le_of_ble_eq_true rfl : 1 ≤ 1) (zs_C_append_7 (upd g 26 (nI (l + zC (lb x) i))) gl (va_up a 29 F) al (l + zC (lb x) i) rfl (by omega) (nI i)) ?_
      rintro _ _ ⟨rfl, rfl⟩
      show zm_Run zt_get 1 zt_D_appendAll (25, [some (.ref 7), some (.long x), none, some (.int (nI i))], [], (zw_C (upd g 26 (nI (l + zC (lb x) i + 1))) gl (va_up a 29 (upd F (l + zC (lb x) i) (nI i))) al)) _
      refine zr_go (t := (2, [some (.ref 7), some (.long x), none, some (.int ((nI i) + 1))], [], (zw_C (upd g 26 (nI (l + zC (lb x) i + 1))) gl (va_up a 29 (upd F (l + zC (lb x) i) (nI i))) al))) 2 rfl ?_
      rw [show (nI i) + 1 = nI (i + 1) from (zn_add rfl rfl)]
      exact ih (i + 1, nI (l + zC (lb x) i + 1), upd F (l + zC (lb x) i) (nI i)) ⟨by omega, by rw [hce2]; rfl, fun j hj => zg_ap_s hb h1 hF j (by rw [hce2] at hj; omega)⟩ (by omega)
theorem zs_C_refuses_6 (g : Nat → Int32) (gl : Nat → Int64) (a : Nat → Nat → Int32) (al : Nat → Nat → Int64) (l : Nat) (hl : g 24 = nI l) (hl64 : l ≤ 64) (e : Nat → Nat) (he : ∀ k, k < l → a 26 k = nI (e k)) (n : Nat) (hn64 : n ≤ 64) (hen : ∀ k, k < l → e k < n) (C : Nat → Int64) (hC : ∀ k, k < n → al 25 k = C k) (hll : l < 64) (x : Nat) (hx : x < n) : zm_Ev zt_get 2 49 [.ref 6, .int (nI x)] (zw_C g gl a al) (fun v w => v = some (.int (nI (!decide (C x &&& (zg_or (fun k => zf_b (e k)) l) = 0)).toNat)) ∧ w = (zw_C g gl a al)) := by
  refine zr_ev zt_D_refuses rfl rfl ?_
  show zm_Run zt_get 1 zt_D_refuses (0, [some (.ref 6), some (.int (nI x))], [], (zw_C g gl a al)) _
  refine zr_go (t := (5, [some (.ref 6), some (.int (nI x))], [.int (nI x), .ref 25], (zw_C g gl a al))) 3 rfl ?_
  refine zr_cd (t := (6, [some (.ref 6), some (.int (nI x))], [.long ((al 25) (nI x).toNatClampNeg)], (zw_C g gl a al))) rfl (pk_in x 64 (by omega) rfl (by omega)) ?_
  rw [pk_cl (x := (nI x)) x rfl (by omega)]
  rw [hC x hx]
  refine zr_go (t := (7, [some (.ref 6), some (.int (nI x))], [.ref 6, .long (C x)], (zw_C g gl a al))) 1 rfl ?_
  refine zr_call (t := (10, [some (.ref 6), some (.int (nI x))], [.long (C x)], (zw_C g gl a al))) rfl (Nat.le_of_ble_eq_true rfl : 1 ≤ 1) (zs_C_taken_6 g gl a al l hl hl64 e he n hn64 hen) ?_
  rintro _ _ ⟨rfl, rfl⟩
  show zm_Run zt_get 1 zt_D_refuses (10, [some (.ref 6), some (.int (nI x))], [.long (zg_or (fun k => zf_b (e k)) l), .long (C x)], (zw_C g gl a al)) _
  refine zr_go (t := (13, [some (.ref 6), some (.int (nI x))], [.int (lg_cmp ((C x) &&& (zg_or (fun k => zf_b (e k)) l)) 0)], (zw_C g gl a al))) 3 rfl ?_
  refine zr_if (c := lg_cmp ((C x) &&& (zg_or (fun k => zf_b (e k)) l)) 0 = 0) (t := (16, [some (.ref 6), some (.int (nI x))], [], (zw_C g gl a al))) (f := (25, [some (.ref 6), some (.int (nI x))], [], (zw_C g gl a al))) rfl (fun hcm => ?_) (fun hcm => ?_)
  · skip
    have hz := (zcmp0 _).mp hcm
    refine zr_go (t := (22, [some (.ref 6), some (.int (nI x))], [.int 64, .int (g 24)], (zw_C g gl a al))) 3 rfl ?_
    refine zr_ilt (x := g 24) (y := 64) l 64 hl rfl (by omega) (by omega) (t := (29, [some (.ref 6), some (.int (nI x))], [], (zw_C g gl a al))) (f := (25, [some (.ref 6), some (.int (nI x))], [], (zw_C g gl a al))) rfl (fun h2 => ?_) (fun h2 => ?_)
    · skip
      refine zr_go (t := (30, [some (.ref 6), some (.int (nI x))], [.int 0], (zw_C g gl a al))) 1 rfl ?_
      exact zr_ret rfl (Or.inl rfl) ⟨by rw [decide_eq_true hz]; rfl, rfl⟩
    · skip
      exfalso; omega
  · skip
    have hz : ¬ C x &&& (zg_or (fun k => zf_b (e k)) l) = 0 := fun q => hcm ((zcmp0 _).mpr q)
    refine zr_go (t := (30, [some (.ref 6), some (.int (nI x))], [.int 1], (zw_C g gl a al))) 2 rfl ?_
    exact zr_ret rfl (Or.inr rfl) ⟨by rw [decide_eq_false hz]; rfl, rfl⟩
theorem zs_C_refuses_7 (g : Nat → Int32) (gl : Nat → Int64) (a : Nat → Nat → Int32) (al : Nat → Nat → Int64) (l : Nat) (hl : g 26 = nI l) (hl64 : l ≤ 64) (e : Nat → Nat) (he : ∀ k, k < l → a 29 k = nI (e k)) (n : Nat) (hn64 : n ≤ 64) (hen : ∀ k, k < l → e k < n) (C : Nat → Int64) (hC : ∀ k, k < n → al 28 k = C k) (hll : l < 64) (x : Nat) (hx : x < n) : zm_Ev zt_get 2 49 [.ref 7, .int (nI x)] (zw_C g gl a al) (fun v w => v = some (.int (nI (!decide (C x &&& (zg_or (fun k => zf_b (e k)) l) = 0)).toNat)) ∧ w = (zw_C g gl a al)) := by
  refine zr_ev zt_D_refuses rfl rfl ?_
  show zm_Run zt_get 1 zt_D_refuses (0, [some (.ref 7), some (.int (nI x))], [], (zw_C g gl a al)) _
  refine zr_go (t := (5, [some (.ref 7), some (.int (nI x))], [.int (nI x), .ref 28], (zw_C g gl a al))) 3 rfl ?_
  refine zr_cd (t := (6, [some (.ref 7), some (.int (nI x))], [.long ((al 28) (nI x).toNatClampNeg)], (zw_C g gl a al))) rfl (pk_in x 64 (by omega) rfl (by omega)) ?_
  rw [pk_cl (x := (nI x)) x rfl (by omega)]
  rw [hC x hx]
  refine zr_go (t := (7, [some (.ref 7), some (.int (nI x))], [.ref 7, .long (C x)], (zw_C g gl a al))) 1 rfl ?_
  refine zr_call (t := (10, [some (.ref 7), some (.int (nI x))], [.long (C x)], (zw_C g gl a al))) rfl (Nat.le_of_ble_eq_true rfl : 1 ≤ 1) (zs_C_taken_7 g gl a al l hl hl64 e he n hn64 hen) ?_
  rintro _ _ ⟨rfl, rfl⟩
  show zm_Run zt_get 1 zt_D_refuses (10, [some (.ref 7), some (.int (nI x))], [.long (zg_or (fun k => zf_b (e k)) l), .long (C x)], (zw_C g gl a al)) _
  refine zr_go (t := (13, [some (.ref 7), some (.int (nI x))], [.int (lg_cmp ((C x) &&& (zg_or (fun k => zf_b (e k)) l)) 0)], (zw_C g gl a al))) 3 rfl ?_
  refine zr_if (c := lg_cmp ((C x) &&& (zg_or (fun k => zf_b (e k)) l)) 0 = 0) (t := (16, [some (.ref 7), some (.int (nI x))], [], (zw_C g gl a al))) (f := (25, [some (.ref 7), some (.int (nI x))], [], (zw_C g gl a al))) rfl (fun hcm => ?_) (fun hcm => ?_)
  · skip
    have hz := (zcmp0 _).mp hcm
    refine zr_go (t := (22, [some (.ref 7), some (.int (nI x))], [.int 64, .int (g 26)], (zw_C g gl a al))) 3 rfl ?_
    refine zr_ilt (x := g 26) (y := 64) l 64 hl rfl (by omega) (by omega) (t := (29, [some (.ref 7), some (.int (nI x))], [], (zw_C g gl a al))) (f := (25, [some (.ref 7), some (.int (nI x))], [], (zw_C g gl a al))) rfl (fun h2 => ?_) (fun h2 => ?_)
    · skip
      refine zr_go (t := (30, [some (.ref 7), some (.int (nI x))], [.int 0], (zw_C g gl a al))) 1 rfl ?_
      exact zr_ret rfl (Or.inl rfl) ⟨by rw [decide_eq_true hz]; rfl, rfl⟩
    · skip
      exfalso; omega
  · skip
    have hz : ¬ C x &&& (zg_or (fun k => zf_b (e k)) l) = 0 := fun q => hcm ((zcmp0 _).mpr q)
    refine zr_go (t := (30, [some (.ref 7), some (.int (nI x))], [.int 1], (zw_C g gl a al))) 2 rfl ?_
    exact zr_ret rfl (Or.inr rfl) ⟨by rw [decide_eq_false hz]; rfl, rfl⟩
