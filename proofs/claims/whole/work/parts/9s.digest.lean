/-! digest -/
theorem zh_f_cg {h : Int64} {f g : Nat → Int64} : ∀ n, (∀ k, k < n → f k = g k) → zh_f h f n = zh_f h g n
  | 0, _ => rfl
  | n + 1, hh => by
    show 31 * zh_f h f n + f n = 31 * zh_f h g n + g n
    rw [zh_f_cg n (fun k hk => hh k (by omega)), hh n (by omega)]
theorem zh_f_add {h : Int64} {f : Nat → Int64} (a : Nat) : ∀ b, zh_f h f (a + b) = zh_f (zh_f h f a) (fun k => f (a + k)) b
  | 0 => rfl
  | b + 1 => by
    show 31 * zh_f h f (a + b) + f (a + b) = 31 * zh_f (zh_f h f a) (fun k => f (a + k)) b + f (a + b)
    rw [zh_f_add a b]
theorem zg_fold_y {α : Type} {h : Nat → α → α} {x : Int64} {k : Nat} {s : α} (hb : lb x k = true) : zg_fold h x (k + 1) s = h k (zg_fold h x k s) := if_pos hb
theorem zg_fold_n {α : Type} {h : Nat → α → α} {x : Int64} {k : Nat} {s : α} (hb : lb x k = false) : zg_fold h x (k + 1) s = zg_fold h x k s := if_neg (by rw [hb]; decide)
theorem zfold_x {g : Nat → Int64} {x h : Int64} : ∀ n, n ≤ 64 → zg_fold (fun j y => 31 * y + g j) x n h = zh_f h (fun k => g (zX (lb x) 64 k)) (zC (lb x) n)
  | 0, _ => rfl
  | n + 1, hn => by
    have ih := zfold_x (g := g) (x := x) (h := h) n (by omega)
    have e1 : zC (lb x) (n + 1) = zC (lb x) n + (lb x n).toNat := rfl
    cases hb : lb x n with
    | true =>
      rw [hb] at e1
      have e1 : zC (lb x) (n + 1) = zC (lb x) n + 1 := e1
      rw [zg_fold_y hb, ih, e1]
      show _ = 31 * zh_f h (fun k => g (zX (lb x) 64 k)) (zC (lb x) n) + g (zX (lb x) 64 (zC (lb x) n))
      rw [zX_at hb (by omega)]
    | false =>
      rw [hb] at e1
      have e1 : zC (lb x) (n + 1) = zC (lb x) n := e1
      rw [zg_fold_n hb, ih, e1]
theorem zhg_eq {P N : Nat} {c : Nat → Nat} (hok : zv_ok P N) (hNS : zNS P N c) (h : Int64) : ∀ n, n ≤ zw_gm P N c → zj_hg P N c h n = zh_f h (fun k => (nI (zw_pin P N c (zw_ix P N c) (k / zq_sz P (zw_ix P N c)) (k % zq_sz P (zw_ix P N c)))).toInt64) (n * zq_sz P (zw_ix P N c))
  | 0, _ => by rw [Nat.zero_mul]; rfl
  | n + 1, hn => by
    have hd := zj_d13 (c := c) hok
    have hix := (zall hok hNS).1
    obtain ⟨m1, m2⟩ := zmk_pin hok hNS hd.1 hd.2 (f := n) (by rw [hix]; exact hn)
    have hm : zj_m P N c n = zj_mk P N c (zj_d P N c) n := rfl
    show zg_fold (fun j y => 31 * y + (nI (zj_x P N c j)).toInt64) (zj_m P N c n) 64 (zj_hg P N c h n) = _
    rw [zfold_x (g := fun j => (nI (zj_x P N c j)).toInt64) 64 (Nat.le_refl _), zhg_eq hok hNS h n (by omega), hm, m1, Nat.add_mul, Nat.one_mul, zh_f_add]
    rw [hix] at m2 ⊢
    refine zh_f_cg _ (fun k hk => ?_)
    have hsz : 0 < zq_sz P (zw_ix P N c) := by omega
    show (nI (zj_x P N c (zX (lb (zj_mk P N c (zw_ix P N c) n)) 64 k))).toInt64 = (nI (zw_pin P N c (zw_ix P N c) ((n * zq_sz P (zw_ix P N c) + k) / zq_sz P (zw_ix P N c)) ((n * zq_sz P (zw_ix P N c) + k) % zq_sz P (zw_ix P N c)))).toInt64
    rw [(m2 k hk).2, Nat.mul_comm n, Nat.mul_add_div hsz, Nat.div_eq_of_lt hk, Nat.add_zero, Nat.mul_add_mod, Nat.mod_eq_of_lt hk]
