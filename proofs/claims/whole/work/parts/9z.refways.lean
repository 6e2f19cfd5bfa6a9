/-! the reference's search counts the exact covers -/
theorem zec_all {C : Nat → Int64} {a : Int64} : ∀ m, (∀ k, k < m → ¬ C k &&& a = 0) → zec C a m a = 1
  | 0, _ => if_pos rfl
  | m + 1, h => by
    show zec C a m a + (if C m &&& a = 0 then zec C a m (a ||| C m) else 0) = 1
    rw [if_neg (h m (by omega)), zec_all m (fun k hk => h k (by omega))]
theorem zyW_eq {can : Nat → Int64} {m w : Nat} (hw : w < 64) (hcan : ∀ t, t < m → zy_sub w (can t)) (hne : ∀ t, t < m → ¬ can t &&& zy_all w = 0) : ∀ d x, zy_sub w x → x ≠ zy_all w → w ≤ zC (lb x) w + d → zy_W can m (zy_all w) d x = zec can (zy_all w) m x
  | 0, x, hx, hn, hd => by
    have := zy_few hw hx hn
    omega
  | d + 1, x, hx, hn, hd => by
    obtain ⟨f1, f2⟩ := zy_fm_ok hw hx hn
    rw [zec_br (j := zy_fm x) (by omega) (by rw [zy_alls hw]; exact decide_eq_true f1) m x f2]
    show zS (fun k => if zy_ok can x k = true then (if x ||| can k = zy_all w then 1 else zy_W can m (zy_all w) d (x ||| can k)) else 0) m = _
    refine zS_congr m (fun k hk => ?_)
    unfold zebr
    have hiff : zy_ok can x k = true ↔ can k &&& x = 0 ∧ lb (can k) (zy_fm x) = true := by
      unfold zy_ok
      rw [Bool.and_eq_true, decide_eq_true_iff]
    by_cases h : zy_ok can x k = true
    · rw [if_pos h, if_pos (hiff.mp h)]
      by_cases e : x ||| can k = zy_all w
      · rw [if_pos e, e, zec_all m hne]
      · rw [if_neg e]
        have hg := zy_grow hw hx hn h
        exact zyW_eq hw hcan hne d (x ||| can k) (zy_sub_or hx (hcan k hk)) e (by omega)
    · rw [if_neg h, if_neg (fun z => h (hiff.mpr z))]
