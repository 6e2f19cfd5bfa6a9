/-! how many ways there are to cover all -/
theorem zS_mono (f : Nat → Nat) {n m : Nat} (h : n ≤ m) : zS f n ≤ zS f m := by
  induction h with
  | refl => exact Nat.le_refl _
  | step _ ih => exact Nat.le_trans ih (Nat.le_add_right _ _)
theorem zS_skip {f : Nat → Nat} {n k : Nat} (hnk : n ≤ k) (h : ∀ t, n ≤ t → t < k → f t = 0) : zS f k = zS f n := by
  induction hnk with
  | refl => rfl
  | step q ih => show zS f _ + f _ = _; rw [ih (fun t a b => h t a (by omega)), h _ q (Nat.lt_succ_self _)]; rfl
theorem zM_bef {f : Nat → Bool} : ∀ n k t, k ≤ t → t < zM f k n → f t = false
  | 0, k, t, h1, h2 => by have h2 : t < k := h2; omega
  | n + 1, k, t, h1, h2 => by
    have h3 : t < (if f k = true then k else zM f (k + 1) n) := h2
    by_cases q : f k = true
    · rw [if_pos q] at h3; omega
    · rw [if_neg q] at h3
      rcases Nat.lt_or_eq_of_le h1 with e | e
      · exact zM_bef n (k + 1) t e h3
      · subst e; exact Bool.eq_false_iff.mpr q
theorem zC_more {f h : Nat → Bool} (hfh : ∀ k, f k = true → h k = true) : ∀ n, zC f n ≤ zC h n
  | 0 => Nat.le_refl _
  | n + 1 => by
    have h1 := zC_more hfh n
    show zC f n + (f n).toNat ≤ zC h n + (h n).toNat
    cases q : f n
    · show zC f n + 0 ≤ _; omega
    · rw [hfh n q]; omega
theorem zC_gain {f h : Nat → Bool} (hfh : ∀ k, f k = true → h k = true) {j : Nat} (hj : f j = false) (hj2 : h j = true) : ∀ n, j < n → zC f n + 1 ≤ zC h n
  | 0, q => by omega
  | n + 1, q => by
    show zC f n + (f n).toNat + 1 ≤ zC h n + (h n).toNat
    by_cases e : j = n
    · subst e
      have h1 := zC_more hfh j
      rw [hj, hj2]
      show zC f j + 0 + 1 ≤ zC h j + 1
      omega
    · have h1 := zC_gain hfh hj hj2 n (by omega)
      cases r : f n
      · show zC f n + 0 + 1 ≤ _; omega
      · rw [hfh n r]; omega
/-- how many of the ways are left, from one on -/
def zy_R (f : Nat → Nat) (n m : Nat) : Nat := zS f m - zS f n
theorem zy_R_at {f : Nat → Nat} {n m : Nat} (h : n < m) : zy_R f n m = f n + zy_R f (n + 1) m := by
  have h1 := zS_mono f (show n + 1 ≤ m from h)
  have h2 : zS f (n + 1) = zS f n + f n := rfl
  unfold zy_R; omega
theorem zy_R_skip {f : Nat → Nat} {n k m : Nat} (hnk : n ≤ k) (h : ∀ t, n ≤ t → t < k → f t = 0) : zy_R f n m = zy_R f k m := by
  unfold zy_R; rw [zS_skip hnk h]
theorem zy_R_end (f : Nat → Nat) (m : Nat) : zy_R f m m = 0 := Nat.sub_self _
theorem zy_R_0 (f : Nat → Nat) (m : Nat) : zy_R f 0 m = zS f m := rfl
/-- the ways; the rounds of the search -/
def zy_W (can : Nat → Int64) (m : Nat) (all : Int64) : Nat → Int64 → Nat
  | 0, _ => 0
  | d + 1, x => zS (fun k => if zy_ok can x k = true then (if x ||| can k = all then 1 else zy_W can m all d (x ||| can k)) else 0) m
def zy_T (can : Nat → Int64) (m : Nat) (all : Int64) : Nat → Int64 → Nat
  | 0, _ => 0
  | d + 1, x => 1 + zS (fun k => if zy_ok can x k = true then 1 + (if x ||| can k = all then 0 else zy_T can m all d (x ||| can k)) else 0) m
def zy_f (can : Nat → Int64) (m : Nat) (all : Int64) (d : Nat) (x : Int64) (k : Nat) : Nat := if zy_ok can x k = true then (if x ||| can k = all then 1 else zy_W can m all d (x ||| can k)) else 0
def zy_g (can : Nat → Int64) (m : Nat) (all : Int64) (d : Nat) (x : Int64) (k : Nat) : Nat := if zy_ok can x k = true then 1 + (if x ||| can k = all then 0 else zy_T can m all d (x ||| can k)) else 0
/-- all, of so many -/
def zy_all (w : Nat) : Int64 := (1 <<< ((nI w).toInt64 &&& 63)) - 1
theorem zy_alls {w k : Nat} (hw : w < 64) : lb (zy_all w) k = decide (k < w) := lb_all hw
def zy_sub (w : Nat) (x : Int64) : Prop := ∀ k, lb x k = true → k < w
theorem zy_sub_or {w : Nat} {x y : Int64} (hx : zy_sub w x) (hy : zy_sub w y) : zy_sub w (x ||| y) := by
  intro k h
  rw [lb_or, Bool.or_eq_true] at h
  rcases h with h | h
  · exact hx k h
  · exact hy k h
theorem zy_miss {w : Nat} (hw : w < 64) {x : Int64} (hx : zy_sub w x) (hn : x ≠ zy_all w) : ∃ j, j < w ∧ lb x j = false := by
  refine Decidable.byContradiction (fun h => hn (lb_ext (fun k _ => ?_)))
  rw [zy_alls hw]
  by_cases q : k < w
  · rw [decide_eq_true q]
    cases r : lb x k
    · exact absurd ⟨k, q, r⟩ h
    · rfl
  · rw [decide_eq_false q]
    cases r : lb x k
    · rfl
    · exact absurd (hx k r) q
theorem zy_fm_ok {w : Nat} (hw : w < 64) {x : Int64} (hx : zy_sub w x) (hn : x ≠ zy_all w) : zy_fm x < w ∧ lb x (zy_fm x) = false := by
  obtain ⟨j, h1, h2⟩ := zy_miss hw hx hn
  have h3 := zy_fm_le (by omega) h2
  refine ⟨by omega, ?_⟩
  have h4 := (zM_ge (fun k => !lb x k) 64 0).2.2 (show zy_fm x < 0 + 64 by omega)
  have h5 : (!lb x (zy_fm x)) = true := h4
  cases q : lb x (zy_fm x)
  · rfl
  · rw [q] at h5; cases h5
theorem zy_grow {w : Nat} (hw : w < 64) {x : Int64} (hx : zy_sub w x) (hn : x ≠ zy_all w) {can : Nat → Int64} {k : Nat} (hk : zy_ok can x k = true) : zC (lb x) w + 1 ≤ zC (lb (x ||| can k)) w := by
  obtain ⟨h1, h2⟩ := zy_fm_ok hw hx hn
  have h3 := (Bool.and_eq_true_iff.mp hk).2
  exact zC_gain (fun t ht => by rw [lb_or, ht]; rfl) h2 (by rw [lb_or, h3, Bool.or_true]) w h1
theorem zy_few {w : Nat} (hw : w < 64) {x : Int64} (hx : zy_sub w x) (hn : x ≠ zy_all w) : zC (lb x) w < w := by
  obtain ⟨h1, h2⟩ := zy_fm_ok hw hx hn
  have h3 := zC_gain (f := lb x) (h := fun _ => true) (fun _ _ => rfl) h2 rfl w h1
  have h4 := zC_le (fun _ => true) w
  omega
/-- what the reference's search answers -/
def zy_ways (can : Nat → Int64) (m w most : Nat) (x : Int64) : Nat := if x = zy_all w then 1 else min most (zy_W can m (zy_all w) 64 x)
/-- the search's levels -/
def zy_I (can : Nat → Int64) (m w most : Nat) (x0 : Int64) (W dep : Nat) (D : Int32) (nx : Nat → Nat) (F : Nat → Int64) (T : Nat → Int32) : Prop :=
  (D = if dep = 0 then -1 else nI (dep - 1)) ∧ (∀ j, j < dep → T j + 1 = nI (nx j) ∧ nx j ≤ m ∧ zy_sub w (F j) ∧ F j ≠ zy_all w ∧ j ≤ zC (lb (F j)) w) ∧ (W + zS (fun j => zy_R (zy_f can m (zy_all w) (63 - j) (F j)) (nx j) m) dep = zy_W can m (zy_all w) 64 x0) ∧ W ≤ most
theorem zy_I.dep {can : Nat → Int64} {m w most : Nat} {x0 : Int64} {W dep : Nat} {D : Int32} {nx : Nat → Nat} {F : Nat → Int64} {T : Nat → Int32} (h : zy_I can m w most x0 W dep D nx F T) : D = if dep = 0 then -1 else nI (dep - 1) := h.1
theorem zy_I.lev {can : Nat → Int64} {m w most : Nat} {x0 : Int64} {W dep : Nat} {D : Int32} {nx : Nat → Nat} {F : Nat → Int64} {T : Nat → Int32} (h : zy_I can m w most x0 W dep D nx F T) : ∀ j, j < dep → T j + 1 = nI (nx j) ∧ nx j ≤ m ∧ zy_sub w (F j) ∧ F j ≠ zy_all w ∧ j ≤ zC (lb (F j)) w := h.2.1
theorem zy_I.sum {can : Nat → Int64} {m w most : Nat} {x0 : Int64} {W dep : Nat} {D : Int32} {nx : Nat → Nat} {F : Nat → Int64} {T : Nat → Int32} (h : zy_I can m w most x0 W dep D nx F T) : W + zS (fun j => zy_R (zy_f can m (zy_all w) (63 - j) (F j)) (nx j) m) dep = zy_W can m (zy_all w) 64 x0 := h.2.2.1
theorem zy_I.few {can : Nat → Int64} {m w most : Nat} {x0 : Int64} {W dep : Nat} {D : Int32} {nx : Nat → Nat} {F : Nat → Int64} {T : Nat → Int32} (h : zy_I can m w most x0 W dep D nx F T) : W ≤ most := h.2.2.2
def zy_mu (can : Nat → Int64) (m w dep : Nat) (nx : Nat → Nat) (F : Nat → Int64) : Nat := zS (fun j => zy_R (zy_g can m (zy_all w) (63 - j) (F j)) (nx j) m) dep + dep
def zy_n1 (nx : Nat → Nat) (e k : Nat) : Nat → Nat := fun j => if j = e then k else nx j
theorem zy_n1s {nx : Nat → Nat} {e k : Nat} : zy_n1 nx e k e = k := if_pos rfl
theorem zy_n1n {nx : Nat → Nat} {e k j : Nat} (h : j ≠ e) : zy_n1 nx e k j = nx j := if_neg h
theorem zy_I.deep {can : Nat → Int64} {m w most : Nat} {x0 : Int64} {W e : Nat} {D : Int32} {nx : Nat → Nat} {F : Nat → Int64} {T : Nat → Int32} (hw : w < 62) (h : zy_I can m w most x0 W (e + 1) D nx F T) : D = nI e ∧ e < 62 ∧ T e + 1 = nI (nx e) ∧ nx e ≤ m ∧ zy_sub w (F e) ∧ F e ≠ zy_all w ∧ e ≤ zC (lb (F e)) w := by
  obtain ⟨h1, h2, h3, h4, h5⟩ := h.lev e (Nat.lt_succ_self e)
  have h6 := zy_few (by omega) h3 h4
  refine ⟨?_, by omega, h1, h2, h3, h4, h5⟩
  have h7 := h.dep
  rw [if_neg (Nat.succ_ne_zero e), Nat.add_sub_cancel] at h7
  exact h7
section ZYI
variable {can : Nat → Int64} {m w most : Nat} {x0 : Int64} {W e : Nat} {D : Int32} {nx : Nat → Nat} {F : Nat → Int64} {T : Nat → Int32}
/-- nothing more here -/
theorem zy_I.pop (hw : w < 62) (h : zy_I can m w most x0 W (e + 1) D nx F T) (hk : zM (zy_ok can (F e)) (nx e) (m - nx e) = m) (z : Int32) : zy_I can m w most x0 W e (nI e + (-1)) nx F (upd T e z) ∧ zy_mu can m w e nx F < zy_mu can m w (e + 1) nx F := by
  obtain ⟨hD, he, h1, h2, h3, h4, h5⟩ := h.deep hw
  have hz : ∀ t, nx e ≤ t → t < m → zy_ok can (F e) t = false := fun t a b => zM_bef _ _ t a (by rw [hk]; exact b)
  have hR : ∀ f : Nat → Nat, (∀ t, zy_ok can (F e) t = false → f t = 0) → zy_R f (nx e) m = 0 := fun f hf => by
    rw [zy_R_skip h2 (fun t a b => hf t (hz t a b)), zy_R_end]
  refine ⟨⟨?_, fun j hj => ?_, ?_, h.few⟩, ?_⟩
  · by_cases q : e = 0
    · subst q; rfl
    · rw [if_neg q]
      obtain ⟨b, rfl⟩ : ∃ b, e = b + 1 := ⟨e - 1, by omega⟩
      rw [pk_m1]; rfl
  · rw [pk_un (show j ≠ e by omega)]; exact h.lev j (by omega)
  · have h6 := h.sum
    have h7 : zS (fun j => zy_R (zy_f can m (zy_all w) (63 - j) (F j)) (nx j) m) (e + 1) = zS (fun j => zy_R (zy_f can m (zy_all w) (63 - j) (F j)) (nx j) m) e + zy_R (zy_f can m (zy_all w) (63 - e) (F e)) (nx e) m := rfl
    rw [h7, hR _ (fun t q => by unfold zy_f; rw [if_neg (by rw [q]; decide)])] at h6
    exact h6
  · have h7 : zS (fun j => zy_R (zy_g can m (zy_all w) (63 - j) (F j)) (nx j) m) (e + 1) = zS (fun j => zy_R (zy_g can m (zy_all w) (63 - j) (F j)) (nx j) m) e + zy_R (zy_g can m (zy_all w) (63 - e) (F e)) (nx e) m := rfl
    unfold zy_mu
    rw [h7]; omega
theorem zy_step1 (hw : w < 62) (h : zy_I can m w most x0 W (e + 1) D nx F T) {k : Nat} (hk : zM (zy_ok can (F e)) (nx e) (m - nx e) = k) (hkm : k ≠ m) : nx e ≤ k ∧ k < m ∧ zy_ok can (F e) k = true ∧ ∀ f : Nat → Nat, (∀ t, zy_ok can (F e) t = false → f t = 0) → zy_R f (nx e) m = f k + zy_R f (k + 1) m := by
  obtain ⟨hD, he, h1, h2, h3, h4, h5⟩ := h.deep hw
  obtain ⟨a1, a2, a3⟩ := zM_ge (zy_ok can (F e)) (m - nx e) (nx e)
  rw [hk] at a1 a2 a3
  have hlt : k < m := by omega
  refine ⟨a1, hlt, a3 (by omega), fun f hf => ?_⟩
  rw [zy_R_skip a1 (fun t a b => hf t (zM_bef _ _ t a (by rw [hk]; exact b))), zy_R_at hlt]
/-- one more way -/
theorem zy_I.leaf (hw : w < 62) (h : zy_I can m w most x0 W (e + 1) D nx F T) {k : Nat} (hk : zM (zy_ok can (F e)) (nx e) (m - nx e) = k) (hkm : k ≠ m) (hW : W < most) (ha : F e ||| can k = zy_all w) : zy_I can m w most x0 (W + 1) (e + 1) (nI e) (zy_n1 nx e (k + 1)) F (upd T e (nI k)) ∧ zy_mu can m w (e + 1) (zy_n1 nx e (k + 1)) F < zy_mu can m w (e + 1) nx F := by
  obtain ⟨hD, he, h1, h2, h3, h4, h5⟩ := h.deep hw
  obtain ⟨b1, b2, b3, b4⟩ := zy_step1 hw h hk hkm
  have hc : ∀ f : Nat → Nat → Nat, zS (fun j => zy_R (f j) (zy_n1 nx e (k + 1) j) m) e = zS (fun j => zy_R (f j) (nx j) m) e := fun f => zS_congr e (fun j hj => by rw [zy_n1n (show j ≠ e by omega)])
  refine ⟨⟨?_, fun j hj => ?_, ?_, by omega⟩, ?_⟩
  · rw [if_neg (Nat.succ_ne_zero e)]; rfl
  · by_cases q : j = e
    · subst q; rw [pk_us, zy_n1s]; exact ⟨nI_add k 1, by omega, h3, h4, h5⟩
    · rw [pk_un q, zy_n1n q]; exact h.lev j hj
  · have h6 := h.sum
    have h7 : ∀ n : Nat → Nat, zS (fun j => zy_R (zy_f can m (zy_all w) (63 - j) (F j)) (n j) m) (e + 1) = zS (fun j => zy_R (zy_f can m (zy_all w) (63 - j) (F j)) (n j) m) e + zy_R (zy_f can m (zy_all w) (63 - e) (F e)) (n e) m := fun _ => rfl
    rw [h7, b4 _ (fun t q => by unfold zy_f; rw [if_neg (by rw [q]; decide)])] at h6
    have h8 : zy_f can m (zy_all w) (63 - e) (F e) k = 1 := by unfold zy_f; rw [if_pos b3, if_pos ha]
    rw [h7, hc (fun j => zy_f can m (zy_all w) (63 - j) (F j)), zy_n1s]
    omega
  · have h7 : ∀ n : Nat → Nat, zS (fun j => zy_R (zy_g can m (zy_all w) (63 - j) (F j)) (n j) m) (e + 1) = zS (fun j => zy_R (zy_g can m (zy_all w) (63 - j) (F j)) (n j) m) e + zy_R (zy_g can m (zy_all w) (63 - e) (F e)) (n e) m := fun _ => rfl
    have h8 : zy_g can m (zy_all w) (63 - e) (F e) k = 1 := by unfold zy_g; rw [if_pos b3, if_pos ha]
    unfold zy_mu
    rw [h7, h7, hc (fun j => zy_g can m (zy_all w) (63 - j) (F j)), zy_n1s, b4 (zy_g can m (zy_all w) (63 - e) (F e)) (fun t q => by unfold zy_g; rw [if_neg (by rw [q]; decide)])]
    omega
/-- one level more -/
theorem zy_I.push (hw : w < 62) (h : zy_I can m w most x0 W (e + 1) D nx F T) {k : Nat} (hk : zM (zy_ok can (F e)) (nx e) (m - nx e) = k) (hkm : k ≠ m) (hcan : ∀ t, t < m → zy_sub w (can t)) (ha : F e ||| can k ≠ zy_all w) : zy_I can m w most x0 W (e + 2) (nI (e + 1)) (zy_n1 (zy_n1 nx e (k + 1)) (e + 1) 0) (vp_updL F (e + 1) (F e ||| can k)) (upd (upd T e (nI k)) (e + 1) (-1)) ∧ zy_mu can m w (e + 2) (zy_n1 (zy_n1 nx e (k + 1)) (e + 1) 0) (vp_updL F (e + 1) (F e ||| can k)) < zy_mu can m w (e + 1) nx F := by
  obtain ⟨hD, he, h1, h2, h3, h4, h5⟩ := h.deep hw
  obtain ⟨b1, b2, b3, b4⟩ := zy_step1 hw h hk hkm
  have hg := zy_grow (by omega) h3 h4 b3
  have hc : ∀ f : Nat → Int64 → Nat → Nat, zS (fun j => zy_R (f j (vp_updL F (e + 1) (F e ||| can k) j)) (zy_n1 (zy_n1 nx e (k + 1)) (e + 1) 0 j) m) (e + 2) = zS (fun j => zy_R (f j (F j)) (nx j) m) e + zy_R (f e (F e)) (k + 1) m + zS (f (e + 1) (F e ||| can k)) m := fun f => by
    show zS _ e + _ + _ = _
    rw [zS_congr e (fun j hj => by rw [pk_uLn (show j ≠ e + 1 by omega), zy_n1n (show j ≠ e + 1 by omega), zy_n1n (show j ≠ e by omega)])]
    show _ + zy_R (f e (vp_updL F (e + 1) (F e ||| can k) e)) (zy_n1 (zy_n1 nx e (k + 1)) (e + 1) 0 e) m + zy_R (f (e + 1) (vp_updL F (e + 1) (F e ||| can k) (e + 1))) (zy_n1 (zy_n1 nx e (k + 1)) (e + 1) 0 (e + 1)) m = _
    rw [pk_uLn (show e ≠ e + 1 by omega), zy_n1n (show e ≠ e + 1 by omega), zy_n1s, pk_uLs, zy_n1s, zy_R_0]
  refine ⟨⟨?_, fun j hj => ?_, ?_, h.few⟩, ?_⟩
  · rw [if_neg (Nat.succ_ne_zero _)]; rfl
  · by_cases q : j = e + 1
    · subst q; rw [pk_us, pk_uLs, zy_n1s]; exact ⟨rfl, Nat.zero_le _, zy_sub_or h3 (hcan k b2), ha, by omega⟩
    · rw [pk_un q, pk_uLn q, zy_n1n q]
      by_cases r : j = e
      · subst r; rw [pk_us, zy_n1s]; exact ⟨nI_add k 1, by omega, h3, h4, h5⟩
      · rw [pk_un r, zy_n1n r]; exact h.lev j (by omega)
  · have h6 := h.sum
    have h7 : zS (fun j => zy_R (zy_f can m (zy_all w) (63 - j) (F j)) (nx j) m) (e + 1) = zS (fun j => zy_R (zy_f can m (zy_all w) (63 - j) (F j)) (nx j) m) e + zy_R (zy_f can m (zy_all w) (63 - e) (F e)) (nx e) m := rfl
    rw [h7, b4 _ (fun t q => by unfold zy_f; rw [if_neg (by rw [q]; decide)])] at h6
    have h8 : zy_f can m (zy_all w) (63 - e) (F e) k = zS (zy_f can m (zy_all w) (63 - (e + 1)) (F e ||| can k)) m := by
      unfold zy_f; rw [if_pos b3, if_neg ha, show 63 - e = (63 - (e + 1)) + 1 by omega]; rfl
    rw [hc (fun j => zy_f can m (zy_all w) (63 - j))]
    omega
  · have h7 : zS (fun j => zy_R (zy_g can m (zy_all w) (63 - j) (F j)) (nx j) m) (e + 1) = zS (fun j => zy_R (zy_g can m (zy_all w) (63 - j) (F j)) (nx j) m) e + zy_R (zy_g can m (zy_all w) (63 - e) (F e)) (nx e) m := rfl
    have h8 : zy_g can m (zy_all w) (63 - e) (F e) k = 1 + (1 + zS (zy_g can m (zy_all w) (63 - (e + 1)) (F e ||| can k)) m) := by
      unfold zy_g; rw [if_pos b3, if_neg ha, show 63 - e = (63 - (e + 1)) + 1 by omega]; rfl
    unfold zy_mu
    rw [hc (fun j => zy_g can m (zy_all w) (63 - j)), h7, b4 (zy_g can m (zy_all w) (63 - e) (F e)) (fun t q => by unfold zy_g; rw [if_neg (by rw [q]; decide)])]
    omega
end ZYI
