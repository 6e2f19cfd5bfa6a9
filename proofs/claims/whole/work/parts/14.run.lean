/-! How a run of our machine is proved: goal first, many steps at once. -/
section ZR
variable {get : Nat → Option zm_M} {d : Nat} {M : zm_M} {Q : Option Value → List zm_E → Prop}
theorem zr_step {s : zm_S} {c : Option Prop} {t : zm_S} (h : zm_nx M s = some (.inl (c, t))) (hc : zm_c c) (k : zm_Run get d M t Q) : zm_Run get d M s Q := by
  obtain ⟨n, v, w, h1, h2⟩ := k
  exact ⟨n + 1, v, w, Or.inr (by rw [h]; exact ⟨hc, h1⟩), h2⟩
theorem zr_go {s t : zm_S} (n : Nat) (h : zm_un M n s = some t) (k : zm_Run get d M t Q) : zm_Run get d M s Q := by
  induction n generalizing s with
  | zero => cases h; exact k
  | succ n ih =>
    unfold zm_un at h
    split at h
    next t1 h1 => exact zr_step h1 trivial (ih h)
    next => cases h
theorem zr_cd {s t : zm_S} {c : Prop} (h : zm_nx M s = some (.inl (some c, t))) (hc : c) (k : zm_Run get d M t Q) : zm_Run get d M s Q := zr_step h hc k
theorem zr_if {s t f : zm_S} {c : Prop} (h : zm_nx M s = some (.inr (.inl (c, t, f)))) (k1 : c → zm_Run get d M t Q) (k2 : ¬ c → zm_Run get d M f Q) : zm_Run get d M s Q := by
  by_cases hc : c
  · obtain ⟨n, v, w, h1, h2⟩ := k1 hc
    exact ⟨n + 1, v, w, Or.inr (by rw [h]; exact Or.inl ⟨hc, h1⟩), h2⟩
  · obtain ⟨n, v, w, h1, h2⟩ := k2 hc
    exact ⟨n + 1, v, w, Or.inr (by rw [h]; exact Or.inr ⟨hc, h1⟩), h2⟩
theorem zr_ret {s : zm_S} {c : Prop} {v : Option Value} {w : List zm_E} (h : zm_nx M s = some (.inr (.inr (.inl (c, v, w))))) (hc : c) (hQ : Q v w) : zm_Run get d M s Q :=
  ⟨1, v, w, Or.inr (by rw [h]; exact ⟨hc, rfl, rfl⟩), hQ⟩
theorem zr_forget {s : zm_S} (lv : List (Option Value)) (h : zm_le lv s.2.1) (k : zm_Run get d M (s.1, lv, s.2.2) Q) : zm_Run get d M s Q := by
  obtain ⟨n, v, w, h1, h2⟩ := k
  exact ⟨n + 1, v, w, Or.inl ⟨lv, h, h1⟩, h2⟩
theorem zr_post {s : zm_S} {Q' : Option Value → List zm_E → Prop} (k : zm_Run get d M s Q') (h : ∀ v w, Q' v w → Q v w) : zm_Run get d M s Q := by
  obtain ⟨n, v, w, h1, h2⟩ := k
  exact ⟨n, v, w, h1, h v w h2⟩
theorem zm_o_ev {e1 e2 : Nat → List Value → List zm_E → Option Value → List zm_E → Prop} {g1 g2 : zm_S → Prop} {v : Option Value} {w : List zm_E} {r : zm_R} (he : ∀ k as ws v w, e1 k as ws v w → e2 k as ws v w) (hg : ∀ t, g1 t → g2 t) (h : zm_o e1 g1 v w r) : zm_o e2 g2 v w r := by
  rcases r with _ | ⟨⟨c, t⟩ | ⟨c, t, f⟩ | ⟨c, v0, w0⟩ | ⟨k, as, t⟩⟩
  · exact h
  · exact ⟨h.1, hg _ h.2⟩
  · exact h.elim (fun q => Or.inl ⟨q.1, hg _ q.2⟩) (fun q => Or.inr ⟨q.1, hg _ q.2⟩)
  · exact h
  · obtain ⟨v1, w1, h1, h2⟩ := h
    exact ⟨v1, w1, he _ _ _ _ _ h1, hg _ h2⟩
theorem zm_rn_ev {e1 e2 : Nat → List Value → List zm_E → Option Value → List zm_E → Prop} {v : Option Value} {w : List zm_E} (he : ∀ k as ws v w, e1 k as ws v w → e2 k as ws v w) (n : Nat) : ∀ s, zm_rn e1 M v w n s → zm_rn e2 M v w n s := by
  induction n with
  | zero => intro s h; exact h
  | succ n ih =>
    intro s h
    rcases h with ⟨lv, h1, h2⟩ | h
    · exact Or.inl ⟨lv, h1, ih _ h2⟩
    · exact Or.inr (zm_o_ev he ih h)
theorem zm_ev_up (d : Nat) : ∀ k as ws v w, zm_ev get d k as ws v w → zm_ev get (d + 1) k as ws v w := by
  induction d with
  | zero => intro k as ws v w h; exact (show False from h).elim
  | succ d ih =>
    intro k as ws v w h
    obtain ⟨M, n, h1, h2, h3⟩ := h
    exact ⟨M, n, h1, h2, zm_rn_ev ih n _ h3⟩
theorem zm_ev_le {d d' : Nat} (h : d ≤ d') {k : Nat} {as : List Value} {ws : List zm_E} {v : Option Value} {w : List zm_E} (he : zm_ev get d k as ws v w) : zm_ev get d' k as ws v w := by
  induction h with
  | refl => exact he
  | step _ ih => exact zm_ev_up _ _ _ _ _ _ ih
/-- a call: the callee's own row, at a depth that is small enough -/
theorem zr_call {s t : zm_S} {k d' : Nat} {as : List Value} {P : Option Value → List zm_E → Prop} (h : zm_nx M s = some (.inr (.inr (.inr (k, as, t))))) (hd : d' ≤ d) (he : zm_Ev get d' k as t.2.2.2 P) (kk : ∀ v w, P v w → zm_Run get d M (t.1, t.2.1, v.toList ++ t.2.2.1, w) Q) : zm_Run get d M s Q := by
  obtain ⟨v1, w1, h1, h2⟩ := he
  obtain ⟨n, v, w, h3, h4⟩ := kk v1 w1 h2
  exact ⟨n + 1, v, w, Or.inr (by rw [h]; exact ⟨v1, w1, zm_ev_le hd h1, h3⟩), h4⟩
theorem zr_ev {k : Nat} {as : List Value} {ws : List zm_E} (M : zm_M) (hM : get k = some M) (hl : Nat.ble (zm_a0 as).length M.2.2.1 = true) (h : zm_Run get d M (zm_in M as ws) Q) : zm_Ev get (d + 1) k as ws Q := by
  obtain ⟨n, v, w, h1, h2⟩ := h
  exact ⟨v, w, ⟨M, n, hM, Nat.le_of_ble_eq_true hl, h1⟩, h2⟩
theorem zr_evp {k : Nat} {as : List Value} {ws : List zm_E} {Q' : Option Value → List zm_E → Prop} (h : zm_Ev get d k as ws Q') (hq : ∀ v w, Q' v w → Q v w) : zm_Ev get d k as ws Q := by
  obtain ⟨v, w, h1, h2⟩ := h
  exact ⟨v, w, h1, hq v w h2⟩
/-- what two rows say of one run goes together: our machine has one answer only where this is used through 'zr_evp' -/
theorem zr_up {k d' : Nat} {as : List Value} {ws : List zm_E} (hd : d' ≤ d) (h : zm_Ev get d' k as ws Q) : zm_Ev get d k as ws Q := by
  obtain ⟨v, w, h1, h2⟩ := h
  exact ⟨v, w, zm_ev_le hd h1, h2⟩
end ZR
