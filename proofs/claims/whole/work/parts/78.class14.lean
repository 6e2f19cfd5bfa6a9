/-! the class: letter .. section (written by wip/whole/gen_c14.py) -/
def zj_kd (P N : Nat) (c : Nat → Nat) : Nat := zz_kd P N (zw_on P N c) (zj_ns P N c) (zv_np P N)
/-- the image, and what else the class holds -/
def zK_i (g : Nat → Int32) (a : Nat → Nat → Int32) (K M : Nat) (e : Nat → Nat) : Prop := zC_m (a 13) 6 e ∧ (∀ k, k < 36 → e k ≤ 4) ∧ g 14 = nI M ∧ ((K = 0 ∧ M = 0) ∨ (zv_ok K M ∧ g 13 = nI K ∧ (∀ k l, k < M → l < M → zx_S e k l < K) ∧ g 0 = nI (zj_kd K M e)))
def zK_r (g : Nat → Int32) (a : Nat → Nat → Int32) (n : Nat) (cd : Nat → Nat) (K M : Nat) (e : Nat → Nat) (fr fi wa : Nat) : Prop := zC_p g a n cd ∧ zK_i g a K M e ∧ g 1 = nI fr ∧ g 2 = nI fi ∧ g 3 = nI wa
theorem zK_r_e {g : Nat → Int32} {a : Nat → Nat → Int32} {g' : Nat → Int32} {a' : Nat → Nat → Int32} {n : Nat} {cd : Nat → Nat} {K M : Nat} {e : Nat → Nat} {fr fi wa : Nat} (he : zK_e g a g' a') (h : zK_r g a n cd K M e fr fi wa) : zK_r g' a' n cd K M e fr fi wa := by
  unfold zK_r zK_i zC_p at h ⊢
  rw [he.1 6 (by decide), he.1 14 (by decide), he.1 13 (by decide), he.1 0 (by decide), he.1 1 (by decide), he.1 2 (by decide), he.1 3 (by decide), he.2 10 (by decide), he.2 13 (by decide)]
  exact h
/-- the class's world holds this state -/
def zKW (w : List zm_E) (P N : Nat) (c : Nat → Nat) (n0 : Nat) (e0 : Nat → Nat) (n1 : Nat) (e1 : Nat → Nat) (n : Nat) (cd : Nat → Nat) (K M : Nat) (e : Nat → Nat) (fr fi wa : Nat) : Prop := ∃ g gl a al sv bt, w = zw_C g gl a al ∧ zK_1 g a al P N c sv bt n0 e0 n1 e1 ∧ zK_r g a n cd K M e fr fi wa
def aw_letter (n : Nat) (x : Int32) : Int32 := if 32 ≤ x ∧ x ≤ 126 then (if n < 28 then nI (n + 1) else -104) else -102
def zt_ln (n : Nat) (x : Int32) : Nat := if (32 ≤ x ∧ x ≤ 126) ∧ n < 28 then n + 1 else n
def zt_lc (n : Nat) (cd : Nat → Nat) (x : Int32) : Nat → Nat := if (32 ≤ x ∧ x ≤ 126) ∧ n < 28 then zu_c cd n (zx_k x) else cd
theorem zx_126 {x : Int32} (h : 32 ≤ x ∧ x ≤ 126) : x = nI (zx_k x) ∧ 32 ≤ zx_k x ∧ zx_k x ≤ 126 := by
  have h1 := h.1
  have h2 := h.2
  rw [Int32.le_iff_toInt_le, show (32 : Int32).toInt = 32 from rfl] at h1
  rw [Int32.le_iff_toInt_le, show (126 : Int32).toInt = 126 from rfl] at h2
  have h3 : zx_in x 127 = true := decide_eq_true ⟨by omega, by omega⟩
  refine ⟨(zx_of h3).2, ?_, ?_⟩ <;> unfold zx_k <;> omega
theorem zt_pg {f : Nat → Int32} {n : Nat} {cd : Nat → Nat} {x : Int32} (h : 32 ≤ x ∧ x ≤ 126) (hn : n < 28) (hf : ∀ k, k < n → f k = nI (cd k)) (hb : ∀ k, k < n → 32 ≤ cd k ∧ cd k ≤ 126) : (∀ k, k < n + 1 → upd f n x k = nI (zt_lc n cd x k)) ∧ ∀ k, k < n + 1 → 32 ≤ zt_lc n cd x k ∧ zt_lc n cd x k ≤ 126 := by
  obtain ⟨e1, e2, e3⟩ := zx_126 h
  unfold zt_lc
  rw [if_pos ⟨h, hn⟩]
  have hu : ∀ k, k < n → zu_c cd n (zx_k x) k = cd k := fun k hk => if_neg (by omega)
  have hs : zu_c cd n (zx_k x) n = zx_k x := if_pos rfl
  refine ⟨lt_s (fun k hk => ?_) ?_, lt_s (fun k hk => ?_) ?_⟩
  · rw [pk_un (by omega), hu k hk]; exact hf k hk
  · rw [pk_us, hs]; exact e1
  · rw [hu k hk]; exact hb k hk
  · rw [hs]; exact ⟨e2, e3⟩
theorem zp_C_letter (w0 : List zm_E) (P N : Nat) (c : Nat → Nat) (n0 : Nat) (e0 : Nat → Nat) (n1 : Nat) (e1 : Nat → Nat) (n : Nat) (cd : Nat → Nat) (K M : Nat) (e : Nat → Nat) (fr fi wa : Nat) (hw : zKW w0 P N c n0 e0 n1 e1 n cd K M e fr fi wa) (x : Int32) : zm_Ev zt_get 2 56 [.ref 0, .int x] w0 (fun v w => v = some (.int (aw_letter n x)) ∧ zKW w P N c n0 e0 n1 e1 (zt_ln n x) (zt_lc n cd x) K M e fr fi wa) := by
  obtain ⟨g, gl, a, al, sv, bt, rfl, hK, hr⟩ := hw
  obtain ⟨⟨hp1, hp2, hp3, hp4⟩, hr2⟩ := id hr
  refine zr_evp (zs_C_letter g gl a al n hp1 hp2 x) ?_
  unfold aw_letter zt_ln
  rintro v w (⟨h1, rfl, rfl⟩ | ⟨h1, h2, rfl, rfl⟩ | ⟨h1, h2, rfl, rfl⟩)
  · rw [if_neg h1, if_neg (fun q => h1 q.1)]
    unfold zt_lc
    rw [if_neg (fun q => h1 q.1)]
    exact ⟨rfl, g, gl, a, al, sv, bt, rfl, hK, hr⟩
  · rw [if_pos h1, if_neg (by omega), if_neg (fun q => by omega)]
    unfold zt_lc
    rw [if_neg (fun q => by omega)]
    exact ⟨rfl, g, gl, a, al, sv, bt, rfl, hK, hr⟩
  · rw [if_pos h1, if_pos h2, if_pos ⟨h1, h2⟩]
    obtain ⟨q1, q2⟩ := zt_pg h1 h2 hp3 hp4
    exact ⟨rfl, _, gl, _, al, sv, bt, rfl, hK, ⟨rfl, by omega, q1, q2⟩, hr2⟩
theorem zp_C_blank (w0 : List zm_E) (P N : Nat) (c : Nat → Nat) (n0 : Nat) (e0 : Nat → Nat) (n1 : Nat) (e1 : Nat → Nat) (n : Nat) (cd : Nat → Nat) (K M : Nat) (e : Nat → Nat) (fr fi wa : Nat) (hw : zKW w0 P N c n0 e0 n1 e1 n cd K M e fr fi wa) : zm_Ev zt_get 1 57 [.ref 0] w0 (fun v w => v = some (.int (nI n)) ∧ zKW w P N c n0 e0 n1 e1 0 cd K M e fr fi wa) := by
  obtain ⟨g, gl, a, al, sv, bt, rfl, hK, hr⟩ := hw
  refine zr_evp (zs_C_blank g gl a al) ?_
  rintro v w ⟨rfl, rfl⟩
  exact ⟨by rw [hr.1.1], _, gl, a, al, sv, bt, rfl, hK, ⟨rfl, by omega, fun k h => absurd h (Nat.not_lt_zero k), fun k h => absurd h (Nat.not_lt_zero k)⟩, hr.2⟩
theorem zp_C_fault (w0 : List zm_E) (P N : Nat) (c : Nat → Nat) (n0 : Nat) (e0 : Nat → Nat) (n1 : Nat) (e1 : Nat → Nat) (n : Nat) (cd : Nat → Nat) (K M : Nat) (e : Nat → Nat) (fr fi wa : Nat) (hw : zKW w0 P N c n0 e0 n1 e1 n cd K M e fr fi wa) : zm_Ev zt_get 4 58 [.ref 0] w0 (fun v w => v = some (.int (nI (zp_len cd n))) ∧ zKW w P N c n0 e0 n1 e1 n cd K M e fr fi wa) := by
  obtain ⟨g, gl, a, al, sv, bt, rfl, hK, hr⟩ := hw
  refine zr_evp (zs_C_fault g gl a al n cd hr.1) ?_
  rintro v w ⟨rfl, x7, x8, x9, x10, rfl⟩
  exact ⟨rfl, _, gl, a, al, sv, bt, rfl, hK, hr⟩
theorem zx_rt {x : Int32} {n : Nat} (k : Int32) (hk : k.toInt + 1 = n) (h1 : ¬ x < 0) (h2 : x ≤ k) : zx_in x n = true := by
  rw [Int32.lt_iff_toInt_lt, show (0 : Int32).toInt = 0 from rfl] at h1
  rw [Int32.le_iff_toInt_le] at h2
  exact decide_eq_true ⟨by omega, by omega⟩
theorem zx_rl {x : Int32} {n : Nat} (h : x < 0) : zx_in x n = false := by
  rw [Int32.lt_iff_toInt_lt, show (0 : Int32).toInt = 0 from rfl] at h
  exact decide_eq_false (fun q => by omega)
theorem zx_rg {x : Int32} {n : Nat} (k : Int32) (hk : k.toInt + 1 = n) (h2 : ¬ x ≤ k) : zx_in x n = false := by
  rw [Int32.le_iff_toInt_le] at h2
  exact decide_eq_false (fun q => by omega)
theorem zx_2n {x : Int32} (h0 : ¬ x = 0) (h1 : ¬ x = 1) : zx_in x 2 = false := by
  cases hb : zx_in x 2 with
  | false => rfl
  | true =>
    obtain ⟨q1, q2⟩ := zx_of hb
    exfalso
    rcases (show zx_k x = 0 ∨ zx_k x = 1 by omega) with e | e
    · rw [e] at q2; exact h0 q2
    · rw [e] at q2; exact h1 q2
def ac_ab (P N : Nat) (c : Nat → Nat) (k : Nat) : Int32 := if k = 0 then nI P else if k = 1 then nI N else if k = 2 then nI (zv_np P N) else if k = 3 then nI (zw_on P N c) else if k = 4 then nI (zj_ns P N c) else if k = 5 then nI (zj_kd P N c) else if k = 6 then zd_disc P N c else if 0 < zj_ns P N c then -1 else nI (zj_d P N c)
def ac_about (P N : Nat) (c : Nat → Nat) (x : Int32) : Int32 := if zx_in x 8 = true then (if 0 < P then ac_ab P N c (zx_k x) else -103) else -102
theorem zp_C_about (w0 : List zm_E) (P N : Nat) (c : Nat → Nat) (n0 : Nat) (e0 : Nat → Nat) (n1 : Nat) (e1 : Nat → Nat) (n : Nat) (cd : Nat → Nat) (K M : Nat) (e : Nat → Nat) (fr fi wa : Nat) (hw : zKW w0 P N c n0 e0 n1 e1 n cd K M e fr fi wa) (x : Int32) : zm_Ev zt_get 6 60 [.ref 0, .int x] w0 (fun v w => v = some (.int (ac_about P N c x)) ∧ zKW w P N c n0 e0 n1 e1 n cd K M e fr fi wa) := by
  obtain ⟨g, gl, a, al, sv, bt, rfl, hK, hr⟩ := hw
  unfold ac_about
  refine zr_ev zt_X_about rfl rfl ?_
  show zm_Run zt_get 5 zt_X_about (0, [some (.ref 0), some (.int x)], [], (zw_C g gl a al)) _
  refine zr_go (t := (1, [some (.ref 0), some (.int x)], [.int x], (zw_C g gl a al))) 1 rfl ?_
  refine zr_if (c := x < 0) (t := (10, [some (.ref 0), some (.int x)], [], (zw_C g gl a al))) (f := (4, [some (.ref 0), some (.int x)], [], (zw_C g gl a al))) rfl (fun h1 => ?_) (fun h1 => ?_)
  · skip
    refine zr_go (t := (12, [some (.ref 0), some (.int x)], [.int (-102)], (zw_C g gl a al))) 1 rfl ?_
    exact zr_ret rfl trivial ⟨by rw [if_neg (by rw [zx_rl h1]; decide)], g, gl, a, al, sv, bt, rfl, hK, hr⟩
  · skip
    refine zr_go (t := (7, [some (.ref 0), some (.int x)], [.int 7, .int x], (zw_C g gl a al))) 2 rfl ?_
    refine zr_if (c := x ≤ 7) (t := (13, [some (.ref 0), some (.int x)], [], (zw_C g gl a al))) (f := (10, [some (.ref 0), some (.int x)], [], (zw_C g gl a al))) rfl (fun h2 => ?_) (fun h2 => ?_)
    · skip
      have hx := zx_rt (n := 8) 7 (by decide) h1 h2
      rw [if_pos hx]
      obtain ⟨hk, hxk⟩ := zx_of hx
      generalize zx_k x = k at hk hxk ⊢
      subst hxk
      refine zr_go (t := (14, [some (.ref 0), some (.int (nI k))], [.ref 0], (zw_C g gl a al))) 1 rfl ?_
      refine zr_call (t := (17, [some (.ref 0), some (.int (nI k))], [], (zw_C g gl a al))) rfl (Nat.le_of_ble_eq_true rfl : 4 ≤ 5) (zs_C_hasForm g gl a al P N c sv bt n0 e0 n1 e1 hK) ?_
      rintro _ _ ⟨rfl, g1, a1, rfl, hK1, he1⟩
      have hdb := zb_le (decide (0 < P))
      have hr1 := zK_r_e he1 hr
      show zm_Run zt_get 5 zt_X_about (17, [some (.ref 0), some (.int (nI k))], [.int (nI ((decide (0 < P)).toNat))], (zw_C g1 gl a1 al)) _
      refine zr_ine (x := nI ((decide (0 < P)).toNat)) (y := 0) ((decide (0 < P)).toNat) 0 rfl rfl (by omega) (by omega) (t := (23, [some (.ref 0), some (.int (nI k))], [], (zw_C g1 gl a1 al))) (f := (20, [some (.ref 0), some (.int (nI k))], [], (zw_C g1 gl a1 al))) rfl (fun h3 => ?_) (fun h3 => ?_)
      · skip
        have hPp : 0 < P := of_decide_eq_true (zb_1n _ h3)
        rw [if_pos hPp]
        obtain ⟨hm, hc4, h4, h5, h24, h26, h12, hcase⟩ := id hK1
        rcases hcase with ⟨q1, q2, q, q3, _⟩ | ⟨⟨hok, h11, hcP, hQ⟩, hsv, hbt, hnb⟩
        · skip
          exfalso; omega
        · skip
          have hN6 := zv_okN hok
          have hN3 := hok.2.1
          obtain ⟨hP0, hP5⟩ := zv_P5 hok.1
          obtain ⟨-, hnp1, hnp0⟩ := zv_nums hok
          have hon1 := (zj_nums (c := c) hok).1
          have hns1 := (zj_nums (c := c) hok).2
          have hd : decide (0 < P) = true := decide_eq_true hP0
          have hv := hsv hd
          have h17 := hQ.2.2.2.1
          have h18 := hv.1
          have h19 : g1 19 = nI (zj_ns P N c) := hv.2.1
          unfold ac_ab
          refine zr_go (t := (24, [some (.ref 0), some (.int (nI k))], [.int (nI k)], (zw_C g1 gl a1 al))) 1 rfl ?_
          rcases (show k = 0 ∨ k = 1 ∨ k = 2 ∨ k = 3 ∨ k = 4 ∨ k = 5 ∨ k = 6 ∨ k = 7 by omega) with rfl | rfl | rfl | rfl | rfl | rfl | rfl | rfl
          · skip
            refine zr_step (c := none) (t := ((zm_sw 24 100 0 6 #[44, 52, 60, 68, 76, 84, 92] (nI 0)), [some (.ref 0), some (.int (nI 0))], [], (zw_C g1 gl a1 al))) rfl trivial ?_
            rw [show zm_sw 24 100 0 6 #[44, 52, 60, 68, 76, 84, 92] (nI 0) = 68 from by decide]
            refine zr_go (t := (75, [some (.ref 0), some (.int (nI 0))], [.int (g1 11)], (zw_C g1 gl a1 al))) 3 rfl ?_
            exact zr_ret rfl trivial ⟨by rw [h11]; rfl, _, gl, a1, al, _, bt, rfl, hK1, hr1⟩
          · skip
            refine zr_step (c := none) (t := ((zm_sw 24 100 0 6 #[44, 52, 60, 68, 76, 84, 92] (nI 1)), [some (.ref 0), some (.int (nI 1))], [], (zw_C g1 gl a1 al))) rfl trivial ?_
            rw [show zm_sw 24 100 0 6 #[44, 52, 60, 68, 76, 84, 92] (nI 1) = 76 from by decide]
            refine zr_go (t := (83, [some (.ref 0), some (.int (nI 1))], [.int (g1 12)], (zw_C g1 gl a1 al))) 3 rfl ?_
            exact zr_ret rfl trivial ⟨by rw [h12]; rfl, _, gl, a1, al, _, bt, rfl, hK1, hr1⟩
          · skip
            refine zr_step (c := none) (t := ((zm_sw 24 100 0 6 #[44, 52, 60, 68, 76, 84, 92] (nI 2)), [some (.ref 0), some (.int (nI 2))], [], (zw_C g1 gl a1 al))) rfl trivial ?_
            rw [show zm_sw 24 100 0 6 #[44, 52, 60, 68, 76, 84, 92] (nI 2) = 84 from by decide]
            refine zr_go (t := (91, [some (.ref 0), some (.int (nI 2))], [.int (g1 17)], (zw_C g1 gl a1 al))) 3 rfl ?_
            exact zr_ret rfl trivial ⟨by rw [h17]; rfl, _, gl, a1, al, _, bt, rfl, hK1, hr1⟩
          · skip
            refine zr_step (c := none) (t := ((zm_sw 24 100 0 6 #[44, 52, 60, 68, 76, 84, 92] (nI 3)), [some (.ref 0), some (.int (nI 3))], [], (zw_C g1 gl a1 al))) rfl trivial ?_
            rw [show zm_sw 24 100 0 6 #[44, 52, 60, 68, 76, 84, 92] (nI 3) = 92 from by decide]
            refine zr_go (t := (99, [some (.ref 0), some (.int (nI 3))], [.int (g1 18)], (zw_C g1 gl a1 al))) 3 rfl ?_
            exact zr_ret rfl trivial ⟨by rw [h18]; rfl, _, gl, a1, al, _, bt, rfl, hK1, hr1⟩
          · skip
            refine zr_step (c := none) (t := ((zm_sw 24 100 0 6 #[44, 52, 60, 68, 76, 84, 92] (nI 4)), [some (.ref 0), some (.int (nI 4))], [], (zw_C g1 gl a1 al))) rfl trivial ?_
            rw [show zm_sw 24 100 0 6 #[44, 52, 60, 68, 76, 84, 92] (nI 4) = 100 from by decide]
            refine zr_go (t := (107, [some (.ref 0), some (.int (nI 4))], [.int (g1 19)], (zw_C g1 gl a1 al))) 3 rfl ?_
            exact zr_ret rfl trivial ⟨by rw [h19]; rfl, _, gl, a1, al, _, bt, rfl, hK1, hr1⟩
          · skip
            refine zr_step (c := none) (t := ((zm_sw 24 100 0 6 #[44, 52, 60, 68, 76, 84, 92] (nI 5)), [some (.ref 0), some (.int (nI 5))], [], (zw_C g1 gl a1 al))) rfl trivial ?_
            rw [show zm_sw 24 100 0 6 #[44, 52, 60, 68, 76, 84, 92] (nI 5) = 108 from by decide]
            refine zr_go (t := (112, [some (.ref 0), some (.int (nI 5))], [.ref 4], (zw_C g1 gl a1 al))) 2 rfl ?_
            refine zr_call (t := (115, [some (.ref 0), some (.int (nI 5))], [], (zw_C g1 gl a1 al))) rfl (Nat.le_of_ble_eq_true rfl : 2 ≤ 5) (zs_C_kindJ g1 gl a1 al P N hQ c hv) ?_
            rintro _ _ ⟨rfl, rfl⟩
            show zm_Run zt_get 5 zt_X_about (115, [some (.ref 0), some (.int (nI 5))], [.int (nI (zz_kd P N (zw_on P N c) (zj_ns P N c) (zv_np P N)))], (zw_C g1 gl a1 al)) _
            exact zr_ret rfl trivial ⟨rfl, _, gl, a1, al, _, bt, rfl, hK1, hr1⟩
          · skip
            refine zr_step (c := none) (t := ((zm_sw 24 100 0 6 #[44, 52, 60, 68, 76, 84, 92] (nI 6)), [some (.ref 0), some (.int (nI 6))], [], (zw_C g1 gl a1 al))) rfl trivial ?_
            rw [show zm_sw 24 100 0 6 #[44, 52, 60, 68, 76, 84, 92] (nI 6) = 116 from by decide]
            refine zr_go (t := (120, [some (.ref 0), some (.int (nI 6))], [.ref 2], (zw_C g1 gl a1 al))) 2 rfl ?_
            refine zr_call (t := (123, [some (.ref 0), some (.int (nI 6))], [], (zw_C g1 gl a1 al))) rfl (Nat.le_of_ble_eq_true rfl : 4 ≤ 5) (zs_C_disc_2 g1 gl a1 al N h12 hN6 P h11 hok.1 c hm hc4) ?_
            rintro _ _ ⟨rfl, f12, rfl⟩
            show zm_Run zt_get 5 zt_X_about (123, [some (.ref 0), some (.int (nI 6))], [.int (zd_disc P N c)], (zw_C g1 gl (va_up a1 12 f12) al)) _
            exact zr_ret rfl trivial ⟨rfl, _, gl, _, al, _, bt, rfl, hK1, hr1⟩
          · skip
            refine zr_step (c := none) (t := ((zm_sw 24 100 0 6 #[44, 52, 60, 68, 76, 84, 92] (nI 7)), [some (.ref 0), some (.int (nI 7))], [], (zw_C g1 gl a1 al))) rfl trivial ?_
            rw [show zm_sw 24 100 0 6 #[44, 52, 60, 68, 76, 84, 92] (nI 7) = 124 from by decide]
            refine zr_go (t := (128, [some (.ref 0), some (.int (nI 7))], [.ref 4], (zw_C g1 gl a1 al))) 2 rfl ?_
            refine zr_call (t := (131, [some (.ref 0), some (.int (nI 7))], [], (zw_C g1 gl a1 al))) rfl (Nat.le_of_ble_eq_true rfl : 2 ≤ 5) (zs_C_index g1 gl a1 al P N (zw_on P N c) (zj_ns P N c) (zv_np P N) hQ.2.1 hQ.2.2.1 h17 h18 h19 hP5 hN6 hN3 hnp1 hnp0 hon1 hns1) ?_
            rintro _ _ ⟨rfl, rfl⟩
            show zm_Run zt_get 5 zt_X_about (131, [some (.ref 0), some (.int (nI 7))], [.int (if 0 < zj_ns P N c then -1 else nI (zz_ix P N (zw_on P N c) (zv_np P N)))], (zw_C g1 gl a1 al)) _
            exact zr_ret rfl trivial ⟨rfl, _, gl, a1, al, _, bt, rfl, hK1, hr1⟩
      · skip
        have hPp : ¬ 0 < P := of_decide_eq_false (zb_0n _ h3)
        rw [if_neg hPp]
        refine zr_go (t := (22, [some (.ref 0), some (.int (nI k))], [.int (-103)], (zw_C g1 gl a1 al))) 1 rfl ?_
        exact zr_ret rfl trivial ⟨rfl, g1, gl, a1, al, _, bt, rfl, hK1, hr1⟩
    · skip
      refine zr_go (t := (12, [some (.ref 0), some (.int x)], [.int (-102)], (zw_C g gl a al))) 1 rfl ?_
      exact zr_ret rfl trivial ⟨by rw [if_neg (by rw [zx_rg 7 (by decide) h2]; decide)], g, gl, a, al, sv, bt, rfl, hK, hr⟩
def ac_coef (N : Nat) (c : Nat → Nat) (x y : Int32) : Int32 := if zx_in x N = true ∧ zx_in y N = true then nI (c (zq_pl (zx_k x) (zx_k y))) else -101
theorem zp_C_coefficient (w0 : List zm_E) (P N : Nat) (c : Nat → Nat) (n0 : Nat) (e0 : Nat → Nat) (n1 : Nat) (e1 : Nat → Nat) (n : Nat) (cd : Nat → Nat) (K M : Nat) (e : Nat → Nat) (fr fi wa : Nat) (hw : zKW w0 P N c n0 e0 n1 e1 n cd K M e fr fi wa) (x y : Int32) : zm_Ev zt_get 2 61 [.ref 0, .int x, .int y] w0 (fun v w => v = some (.int (ac_coef N c x y)) ∧ zKW w P N c n0 e0 n1 e1 n cd K M e fr fi wa) := by
  obtain ⟨g, gl, a, al, sv, bt, rfl, hK, hr⟩ := hw
  unfold ac_coef
  obtain ⟨hm, hc4, h4, h5, h24, h26, h12, hcase⟩ := id hK
  have hN6 : N ≤ 6 := by rcases hcase with ⟨_, q, _⟩ | ⟨⟨hok, _⟩, _⟩ <;> first | omega | exact zv_okN hok
  refine zr_ev zt_X_coefficient rfl rfl ?_
  show zm_Run zt_get 1 zt_X_coefficient (0, [some (.ref 0), some (.int x), some (.int y)], [], (zw_C g gl a al)) _
  refine zr_go (t := (5, [some (.ref 0), some (.int x), some (.int y)], [.int x, .ref 2], (zw_C g gl a al))) 3 rfl ?_
  refine zr_call (t := (8, [some (.ref 0), some (.int x), some (.int y)], [], (zw_C g gl a al))) rfl (Nat.le_of_ble_eq_true rfl : 1 ≤ 1) (zs_C_hasVar g gl a al N h12 (by omega) x) ?_
  rintro _ _ ⟨rfl, rfl⟩
  show zm_Run zt_get 1 zt_X_coefficient (8, [some (.ref 0), some (.int x), some (.int y)], [.int (nI ((zx_in x N).toNat))], (zw_C g gl a al)) _
  have hb_x := zb_le (zx_in x N)
  refine zr_ieq (x := nI ((zx_in x N).toNat)) (y := 0) ((zx_in x N).toNat) 0 rfl rfl (by omega) (by omega) (t := (22, [some (.ref 0), some (.int x), some (.int y)], [], (zw_C g gl a al))) (f := (11, [some (.ref 0), some (.int x), some (.int y)], [], (zw_C g gl a al))) rfl (fun h1 => ?_) (fun h1 => ?_)
  · skip
    refine zr_go (t := (24, [some (.ref 0), some (.int x), some (.int y)], [.int (-101)], (zw_C g gl a al))) 1 rfl ?_
    exact zr_ret rfl trivial ⟨by rw [if_neg (fun q => by rw [zb_0n _ h1] at q; exact absurd q.1 (by decide))], g, gl, a, al, sv, bt, rfl, hK, hr⟩
  · skip
    refine zr_go (t := (16, [some (.ref 0), some (.int x), some (.int y)], [.int y, .ref 2], (zw_C g gl a al))) 3 rfl ?_
    refine zr_call (t := (19, [some (.ref 0), some (.int x), some (.int y)], [], (zw_C g gl a al))) rfl (Nat.le_of_ble_eq_true rfl : 1 ≤ 1) (zs_C_hasVar g gl a al N h12 (by omega) y) ?_
    rintro _ _ ⟨rfl, rfl⟩
    show zm_Run zt_get 1 zt_X_coefficient (19, [some (.ref 0), some (.int x), some (.int y)], [.int (nI ((zx_in y N).toNat))], (zw_C g gl a al)) _
    have hb_y := zb_le (zx_in y N)
    refine zr_ine (x := nI ((zx_in y N).toNat)) (y := 0) ((zx_in y N).toNat) 0 rfl rfl (by omega) (by omega) (t := (25, [some (.ref 0), some (.int x), some (.int y)], [], (zw_C g gl a al))) (f := (22, [some (.ref 0), some (.int x), some (.int y)], [], (zw_C g gl a al))) rfl (fun h2 => ?_) (fun h2 => ?_)
    · skip
      have hx := zb_1n _ h1
      have hy := zb_1n _ h2
      rw [if_pos ⟨hx, hy⟩]
      obtain ⟨hx1, hx2⟩ := zx_of hx
      generalize zx_k x = i at hx1 hx2 ⊢
      subst hx2
      obtain ⟨hy1, hy2⟩ := zx_of hy
      generalize zx_k y = j at hy1 hy2 ⊢
      subst hy2
      refine zr_go (t := (31, [some (.ref 0), some (.int (nI i)), some (.int (nI j))], [.int (nI j), .int (nI i), .ref 2], (zw_C g gl a al))) 4 rfl ?_
      refine zr_call (t := (34, [some (.ref 0), some (.int (nI i)), some (.int (nI j))], [], (zw_C g gl a al))) rfl (Nat.le_of_ble_eq_true rfl : 1 ≤ 1) (zs_C_cell_2 g gl a al c hm i j (by omega) (by omega)) ?_
      rintro _ _ ⟨rfl, rfl⟩
      show zm_Run zt_get 1 zt_X_coefficient (34, [some (.ref 0), some (.int (nI i)), some (.int (nI j))], [.int (nI (c (zq_pl i j)))], (zw_C g gl a al)) _
      exact zr_ret rfl trivial ⟨rfl, g, gl, a, al, sv, bt, rfl, hK, hr⟩
    · skip
      refine zr_go (t := (24, [some (.ref 0), some (.int x), some (.int y)], [.int (-101)], (zw_C g gl a al))) 1 rfl ?_
      exact zr_ret rfl trivial ⟨by rw [if_neg (fun q => by rw [zb_0n _ h2] at q; exact absurd q.2 (by decide))], g, gl, a, al, sv, bt, rfl, hK, hr⟩
def ac_pt (P N : Nat) (x : Int32) : Bool := decide (0 < P) && zx_in x (zv_np P N)
def ac_point (P N : Nat) (x y : Int32) : Int32 := if ac_pt P N x = true ∧ zx_in y N = true then nI (zv_y P N (zx_k x) (zx_k y)) else -101
def ac_value (P N : Nat) (c : Nat → Nat) (x : Int32) : Int32 := if ac_pt P N x = true then nI (zv_val P N c (zv_y P N (zx_k x))) else -101
def ac_polar (P N : Nat) (c : Nat → Nat) (x y : Int32) : Int32 := if ac_pt P N x = true ∧ ac_pt P N y = true then nI (zv_dot N (zz_nm P N c (zv_y P N (zx_k x))) (zv_y P N (zx_k y)) % P) else -101
def zj_jn (P N : Nat) (c : Nat → Nat) (p q : Nat) : Bool := p != q && (zw_oo P N c p && (zw_oo P N c q && zv_dot N (zz_nm P N c (zv_y P N p)) (zv_y P N q) % P == 0))
def ac_joined (P N : Nat) (c : Nat → Nat) (x y : Int32) : Int32 := if ac_pt P N x = true ∧ ac_pt P N y = true then nI (zj_jn P N c (zx_k x) (zx_k y)).toNat else -101
def zj_tg (P N : Nat) (c : Nat → Nat) (h : Nat) : Int32 := if zM (fun u => zz_tp P N c h (zX (zw_oo P N c) (zv_np P N) u)) 0 (zw_on P N c) < zw_on P N c then nI (zX (zw_oo P N c) (zv_np P N) (zM (fun u => zz_tp P N c h (zX (zw_oo P N c) (zv_np P N) u)) 0 (zw_on P N c))) else -1
def ac_section (P N : Nat) (c : Nat → Nat) (x z : Int32) : Int32 := if ac_pt P N x = true then (if zx_in z 2 = true then (if z = 0 then nI (zC (fun k => zw_oo P N c k && zv_dot N (zv_y P N (zx_k x)) (zv_y P N k) % P == 0) (zv_np P N)) else zj_tg P N c (zx_k x)) else -102) else -101
theorem ac_ptP {P N : Nat} {x : Int32} (h : ac_pt P N x = true) : 0 < P ∧ zx_k x < zv_np P N ∧ x = nI (zx_k x) := by
  unfold ac_pt at h
  rw [Bool.and_eq_true] at h
  exact ⟨of_decide_eq_true h.1, (zx_of h.2).1, (zx_of h.2).2⟩
theorem zp_C_point (w0 : List zm_E) (P N : Nat) (c : Nat → Nat) (n0 : Nat) (e0 : Nat → Nat) (n1 : Nat) (e1 : Nat → Nat) (n : Nat) (cd : Nat → Nat) (K M : Nat) (e : Nat → Nat) (fr fi wa : Nat) (hw : zKW w0 P N c n0 e0 n1 e1 n cd K M e fr fi wa) (x y : Int32) : zm_Ev zt_get 6 62 [.ref 0, .int x, .int y] w0 (fun v w => v = some (.int (ac_point P N x y)) ∧ zKW w P N c n0 e0 n1 e1 n cd K M e fr fi wa) := by
  obtain ⟨g, gl, a, al, sv, bt, rfl, hK, hr⟩ := hw
  unfold ac_point
  refine zr_ev zt_X_point rfl rfl ?_
  show zm_Run zt_get 5 zt_X_point (0, [some (.ref 0), some (.int x), some (.int y)], [], (zw_C g gl a al)) _
  refine zr_go (t := (2, [some (.ref 0), some (.int x), some (.int y)], [.int x, .ref 0], (zw_C g gl a al))) 2 rfl ?_
  refine zr_call (t := (5, [some (.ref 0), some (.int x), some (.int y)], [], (zw_C g gl a al))) rfl (Nat.le_of_ble_eq_true rfl : 5 ≤ 5) (zs_C_hasPoint g gl a al P N c sv bt n0 e0 n1 e1 hK x) ?_
  rintro _ _ ⟨rfl, g1, a1, rfl, hK1, he1⟩
  have hdb1 := zb_le (decide (0 < P) && zx_in x (zv_np P N))
  have hr1 := zK_r_e he1 hr
  show zm_Run zt_get 5 zt_X_point (5, [some (.ref 0), some (.int x), some (.int y)], [.int (nI ((decide (0 < P) && zx_in x (zv_np P N)).toNat))], (zw_C g1 gl a1 al)) _
  refine zr_ieq (x := nI ((decide (0 < P) && zx_in x (zv_np P N)).toNat)) (y := 0) ((decide (0 < P) && zx_in x (zv_np P N)).toNat) 0 rfl rfl (by omega) (by omega) (t := (19, [some (.ref 0), some (.int x), some (.int y)], [], (zw_C g1 gl a1 al))) (f := (8, [some (.ref 0), some (.int x), some (.int y)], [], (zw_C g1 gl a1 al))) rfl (fun h1 => ?_) (fun h1 => ?_)
  · skip
    have hx : ac_pt P N x = false := zb_0n _ h1
    refine zr_go (t := (21, [some (.ref 0), some (.int x), some (.int y)], [.int (-101)], (zw_C g1 gl a1 al))) 1 rfl ?_
    exact zr_ret rfl trivial ⟨by rw [if_neg (fun q => by rw [hx] at q; exact absurd q.1 (by decide))], g1, gl, a1, al, _, bt, rfl, hK1, hr1⟩
  · skip
    have hxx : ac_pt P N x = true := zb_1n _ h1
    obtain ⟨hPp, hx1, hx2⟩ := ac_ptP hxx
    obtain ⟨hm, hc4, h4, h5, h24, h26, h12, hcase⟩ := id hK1
    rcases hcase with ⟨q1, q2, q, q3, _⟩ | ⟨⟨hok, h11, hcP, hQ⟩, hsv, hbt, hnb⟩
    · skip
      exfalso; omega
    · skip
      have hN6 := zv_okN hok
      have hN3 := hok.2.1
      obtain ⟨hP0, hP5⟩ := zv_P5 hok.1
      obtain ⟨-, hnp1, hnp0⟩ := zv_nums hok
      have hon1 := (zj_nums (c := c) hok).1
      have hns1 := (zj_nums (c := c) hok).2
      have hd : decide (0 < P) = true := decide_eq_true hP0
      have hv := hsv hd
      have h17 := hQ.2.2.2.1
      have h18 := hv.1
      have h19 : g1 19 = nI (zj_ns P N c) := hv.2.1
      refine zr_go (t := (13, [some (.ref 0), some (.int x), some (.int y)], [.int y, .ref 2], (zw_C g1 gl a1 al))) 3 rfl ?_
      refine zr_call (t := (16, [some (.ref 0), some (.int x), some (.int y)], [], (zw_C g1 gl a1 al))) rfl (Nat.le_of_ble_eq_true rfl : 1 ≤ 5) (zs_C_hasVar g1 gl a1 al N h12 (by omega) y) ?_
      rintro _ _ ⟨rfl, rfl⟩
      show zm_Run zt_get 5 zt_X_point (16, [some (.ref 0), some (.int x), some (.int y)], [.int (nI ((zx_in y N).toNat))], (zw_C g1 gl a1 al)) _
      have hb_y := zb_le (zx_in y N)
      refine zr_ine (x := nI ((zx_in y N).toNat)) (y := 0) ((zx_in y N).toNat) 0 rfl rfl (by omega) (by omega) (t := (22, [some (.ref 0), some (.int x), some (.int y)], [], (zw_C g1 gl a1 al))) (f := (19, [some (.ref 0), some (.int x), some (.int y)], [], (zw_C g1 gl a1 al))) rfl (fun h2 => ?_) (fun h2 => ?_)
      · skip
        have hy := zb_1n _ h2
        rw [if_pos ⟨hxx, hy⟩]
        obtain ⟨hy1, hy2⟩ := zx_of hy
        clear hy hb_y h2 hxx h1 hdb1
        generalize zx_k x = p at hx1 hx2 ⊢
        generalize zx_k y = i at hy1 hy2 ⊢
        subst hx2 hy2
        refine zr_go (t := (35, [some (.ref 0), some (.int (nI p)), some (.int (nI i))], [.int (((nI p) * 6) + (nI i)), .ref 15], (zw_C g1 gl a1 al))) 8 rfl ?_
        refine zr_cd (t := (36, [some (.ref 0), some (.int (nI p)), some (.int (nI i))], [.int ((a1 15) (((nI p) * 6) + (nI i)).toNatClampNeg)], (zw_C g1 gl a1 al))) rfl (pk_in ((p * 6) + i) 936 (by omega) (zn_add (zn_mul rfl rfl) rfl) (by omega)) ?_
        rw [pk_cl (x := (((nI p) * 6) + (nI i))) ((p * 6) + i) (zn_add (zn_mul rfl rfl) rfl) (by omega)]
        rw [show (a1 15) ((p * 6) + i) = nI (zv_y P N p i) from hQ.2.2.2.2 p i hx1 hy1]
        exact zr_ret rfl trivial ⟨rfl, g1, gl, a1, al, _, bt, rfl, hK1, hr1⟩
      · skip
        refine zr_go (t := (21, [some (.ref 0), some (.int x), some (.int y)], [.int (-101)], (zw_C g1 gl a1 al))) 1 rfl ?_
        exact zr_ret rfl trivial ⟨by rw [if_neg (fun q => by rw [zb_0n _ h2] at q; exact absurd q.2 (by decide))], g1, gl, a1, al, _, bt, rfl, hK1, hr1⟩
theorem zp_C_value (w0 : List zm_E) (P N : Nat) (c : Nat → Nat) (n0 : Nat) (e0 : Nat → Nat) (n1 : Nat) (e1 : Nat → Nat) (n : Nat) (cd : Nat → Nat) (K M : Nat) (e : Nat → Nat) (fr fi wa : Nat) (hw : zKW w0 P N c n0 e0 n1 e1 n cd K M e fr fi wa) (x : Int32) : zm_Ev zt_get 6 63 [.ref 0, .int x] w0 (fun v w => v = some (.int (ac_value P N c x)) ∧ zKW w P N c n0 e0 n1 e1 n cd K M e fr fi wa) := by
  obtain ⟨g, gl, a, al, sv, bt, rfl, hK, hr⟩ := hw
  unfold ac_value
  refine zr_ev zt_X_value rfl rfl ?_
  show zm_Run zt_get 5 zt_X_value (0, [some (.ref 0), some (.int x)], [], (zw_C g gl a al)) _
  refine zr_go (t := (2, [some (.ref 0), some (.int x)], [.int x, .ref 0], (zw_C g gl a al))) 2 rfl ?_
  refine zr_call (t := (5, [some (.ref 0), some (.int x)], [], (zw_C g gl a al))) rfl (Nat.le_of_ble_eq_true rfl : 5 ≤ 5) (zs_C_hasPoint g gl a al P N c sv bt n0 e0 n1 e1 hK x) ?_
  rintro _ _ ⟨rfl, g1, a1, rfl, hK1, he1⟩
  have hdb1 := zb_le (decide (0 < P) && zx_in x (zv_np P N))
  have hr1 := zK_r_e he1 hr
  show zm_Run zt_get 5 zt_X_value (5, [some (.ref 0), some (.int x)], [.int (nI ((decide (0 < P) && zx_in x (zv_np P N)).toNat))], (zw_C g1 gl a1 al)) _
  refine zr_ine (x := nI ((decide (0 < P) && zx_in x (zv_np P N)).toNat)) (y := 0) ((decide (0 < P) && zx_in x (zv_np P N)).toNat) 0 rfl rfl (by omega) (by omega) (t := (11, [some (.ref 0), some (.int x)], [], (zw_C g1 gl a1 al))) (f := (8, [some (.ref 0), some (.int x)], [], (zw_C g1 gl a1 al))) rfl (fun h1 => ?_) (fun h1 => ?_)
  · skip
    have hxx : ac_pt P N x = true := zb_1n _ h1
    obtain ⟨hPp, hx1, hx2⟩ := ac_ptP hxx
    rw [if_pos hxx]
    obtain ⟨hm, hc4, h4, h5, h24, h26, h12, hcase⟩ := id hK1
    rcases hcase with ⟨q1, q2, q, q3, _⟩ | ⟨⟨hok, h11, hcP, hQ⟩, hsv, hbt, hnb⟩
    · skip
      exfalso; omega
    · skip
      have hN6 := zv_okN hok
      have hN3 := hok.2.1
      obtain ⟨hP0, hP5⟩ := zv_P5 hok.1
      obtain ⟨-, hnp1, hnp0⟩ := zv_nums hok
      have hon1 := (zj_nums (c := c) hok).1
      have hns1 := (zj_nums (c := c) hok).2
      have hd : decide (0 < P) = true := decide_eq_true hP0
      have hv := hsv hd
      have h17 := hQ.2.2.2.1
      have h18 := hv.1
      have h19 : g1 19 = nI (zj_ns P N c) := hv.2.1
      clear hxx h1 hdb1
      generalize zx_k x = p at hx1 hx2 ⊢
      subst hx2
      refine zr_go (t := (19, [some (.ref 0), some (.int (nI p))], [.int (nI p), .ref 17], (zw_C g1 gl a1 al))) 4 rfl ?_
      refine zr_cd (t := (20, [some (.ref 0), some (.int (nI p))], [.int ((a1 17) (nI p).toNatClampNeg)], (zw_C g1 gl a1 al))) rfl (pk_in p 156 (by omega) rfl (by omega)) ?_
      rw [pk_cl (x := (nI p)) p rfl (by omega)]
      rw [show (a1 17) p = nI (zv_val P N c (zv_y P N p)) from hv.2.2.1 p hx1]
      exact zr_ret rfl trivial ⟨rfl, g1, gl, a1, al, _, bt, rfl, hK1, hr1⟩
  · skip
    have hx : ac_pt P N x = false := zb_0n _ h1
    refine zr_go (t := (10, [some (.ref 0), some (.int x)], [.int (-101)], (zw_C g1 gl a1 al))) 1 rfl ?_
    exact zr_ret rfl trivial ⟨by rw [if_neg (by rw [hx]; decide)], g1, gl, a1, al, _, bt, rfl, hK1, hr1⟩
theorem zp_C_polar (w0 : List zm_E) (P N : Nat) (c : Nat → Nat) (n0 : Nat) (e0 : Nat → Nat) (n1 : Nat) (e1 : Nat → Nat) (n : Nat) (cd : Nat → Nat) (K M : Nat) (e : Nat → Nat) (fr fi wa : Nat) (hw : zKW w0 P N c n0 e0 n1 e1 n cd K M e fr fi wa) (x y : Int32) : zm_Ev zt_get 6 64 [.ref 0, .int x, .int y] w0 (fun v w => v = some (.int (ac_polar P N c x y)) ∧ zKW w P N c n0 e0 n1 e1 n cd K M e fr fi wa) := by
  obtain ⟨g, gl, a, al, sv, bt, rfl, hK, hr⟩ := hw
  unfold ac_polar
  refine zr_ev zt_X_polar rfl rfl ?_
  show zm_Run zt_get 5 zt_X_polar (0, [some (.ref 0), some (.int x), some (.int y)], [], (zw_C g gl a al)) _
  refine zr_go (t := (2, [some (.ref 0), some (.int x), some (.int y)], [.int x, .ref 0], (zw_C g gl a al))) 2 rfl ?_
  refine zr_call (t := (5, [some (.ref 0), some (.int x), some (.int y)], [], (zw_C g gl a al))) rfl (Nat.le_of_ble_eq_true rfl : 5 ≤ 5) (zs_C_hasPoint g gl a al P N c sv bt n0 e0 n1 e1 hK x) ?_
  rintro _ _ ⟨rfl, g1, a1, rfl, hK1, he1⟩
  have hdb1 := zb_le (decide (0 < P) && zx_in x (zv_np P N))
  have hr1 := zK_r_e he1 hr
  show zm_Run zt_get 5 zt_X_polar (5, [some (.ref 0), some (.int x), some (.int y)], [.int (nI ((decide (0 < P) && zx_in x (zv_np P N)).toNat))], (zw_C g1 gl a1 al)) _
  refine zr_ieq (x := nI ((decide (0 < P) && zx_in x (zv_np P N)).toNat)) (y := 0) ((decide (0 < P) && zx_in x (zv_np P N)).toNat) 0 rfl rfl (by omega) (by omega) (t := (16, [some (.ref 0), some (.int x), some (.int y)], [], (zw_C g1 gl a1 al))) (f := (8, [some (.ref 0), some (.int x), some (.int y)], [], (zw_C g1 gl a1 al))) rfl (fun h1 => ?_) (fun h1 => ?_)
  · skip
    have hx : ac_pt P N x = false := zb_0n _ h1
    refine zr_go (t := (18, [some (.ref 0), some (.int x), some (.int y)], [.int (-101)], (zw_C g1 gl a1 al))) 1 rfl ?_
    exact zr_ret rfl trivial ⟨by rw [if_neg (fun q => by rw [hx] at q; exact absurd q.1 (by decide))], g1, gl, a1, al, _, bt, rfl, hK1, hr1⟩
  · skip
    have hxx : ac_pt P N x = true := zb_1n _ h1
    obtain ⟨hPp, hx1, hx2⟩ := ac_ptP hxx
    refine zr_go (t := (10, [some (.ref 0), some (.int x), some (.int y)], [.int y, .ref 0], (zw_C g1 gl a1 al))) 2 rfl ?_
    refine zr_call (t := (13, [some (.ref 0), some (.int x), some (.int y)], [], (zw_C g1 gl a1 al))) rfl (Nat.le_of_ble_eq_true rfl : 5 ≤ 5) (zs_C_hasPoint g1 gl a1 al P N c (decide (0 < P)) bt n0 e0 n1 e1 hK1 y) ?_
    rintro _ _ ⟨rfl, g2, a2, rfl, hK2, he2⟩
    have hdb2 := zb_le (decide (0 < P) && zx_in y (zv_np P N))
    have hr2 := zK_r_e he2 hr1
    show zm_Run zt_get 5 zt_X_polar (13, [some (.ref 0), some (.int x), some (.int y)], [.int (nI ((decide (0 < P) && zx_in y (zv_np P N)).toNat))], (zw_C g2 gl a2 al)) _
    refine zr_ine (x := nI ((decide (0 < P) && zx_in y (zv_np P N)).toNat)) (y := 0) ((decide (0 < P) && zx_in y (zv_np P N)).toNat) 0 rfl rfl (by omega) (by omega) (t := (19, [some (.ref 0), some (.int x), some (.int y)], [], (zw_C g2 gl a2 al))) (f := (16, [some (.ref 0), some (.int x), some (.int y)], [], (zw_C g2 gl a2 al))) rfl (fun h2 => ?_) (fun h2 => ?_)
    · skip
      have hxy : ac_pt P N y = true := zb_1n _ h2
      obtain ⟨hPp, hy1, hy2⟩ := ac_ptP hxy
      rw [if_pos ⟨hxx, hxy⟩]
      obtain ⟨hm, hc4, h4, h5, h24, h26, h12, hcase⟩ := id hK2
      rcases hcase with ⟨q1, q2, q, q3, _⟩ | ⟨⟨hok, h11, hcP, hQ⟩, hsv, hbt, hnb⟩
      · skip
        exfalso; omega
      · skip
        have hN6 := zv_okN hok
        have hN3 := hok.2.1
        obtain ⟨hP0, hP5⟩ := zv_P5 hok.1
        obtain ⟨-, hnp1, hnp0⟩ := zv_nums hok
        have hon1 := (zj_nums (c := c) hok).1
        have hns1 := (zj_nums (c := c) hok).2
        have hd : decide (0 < P) = true := decide_eq_true hP0
        have hv := hsv hd
        have h17 := hQ.2.2.2.1
        have h18 := hv.1
        have h19 : g2 19 = nI (zj_ns P N c) := hv.2.1
        clear hxx h1 hdb1 hxy h2 hdb2
        generalize zx_k x = p at hx1 hx2 ⊢
        generalize zx_k y = q at hy1 hy2 ⊢
        subst hx2 hy2
        refine zr_go (t := (32, [some (.ref 0), some (.int (nI p)), some (.int (nI q))], [.int (nI q), .int (nI p), .ref 16, .ref 4], (zw_C g2 gl a2 al))) 7 rfl ?_
        refine zr_call (t := (35, [some (.ref 0), some (.int (nI p)), some (.int (nI q))], [], (zw_C g2 gl a2 al))) rfl (Nat.le_of_ble_eq_true rfl : 2 ≤ 5) (zs_C_product_n g2 gl a2 al P N hQ.2.1 hQ.2.2.1 hP0 hP5 hN6 p q (by omega) (by omega) (zz_nm P N c (zv_y P N p)) (zv_y P N q) (fun i hi => hv.2.2.2.1 p hx1 i hi) (fun i _ => by have := zz_nm_lt (N := N) (c := c) (x := zv_y P N p) hP0 i; omega) (fun i hi => hQ.2.2.2.2 q i hy1 hi) (fun i _ => zv_y4 hok)) ?_
        rintro _ _ ⟨rfl, rfl⟩
        show zm_Run zt_get 5 zt_X_polar (35, [some (.ref 0), some (.int (nI p)), some (.int (nI q))], [.int (nI (zv_dot N (zz_nm P N c (zv_y P N p)) (zv_y P N q) % P))], (zw_C g2 gl a2 al)) _
        exact zr_ret rfl trivial ⟨rfl, g2, gl, a2, al, _, bt, rfl, hK2, hr2⟩
    · skip
      have hy : ac_pt P N y = false := zb_0n _ h2
      refine zr_go (t := (18, [some (.ref 0), some (.int x), some (.int y)], [.int (-101)], (zw_C g2 gl a2 al))) 1 rfl ?_
      exact zr_ret rfl trivial ⟨by rw [if_neg (fun q => by rw [hy] at q; exact absurd q.2 (by decide))], g2, gl, a2, al, _, bt, rfl, hK2, hr2⟩
theorem zp_C_joined (w0 : List zm_E) (P N : Nat) (c : Nat → Nat) (n0 : Nat) (e0 : Nat → Nat) (n1 : Nat) (e1 : Nat → Nat) (n : Nat) (cd : Nat → Nat) (K M : Nat) (e : Nat → Nat) (fr fi wa : Nat) (hw : zKW w0 P N c n0 e0 n1 e1 n cd K M e fr fi wa) (x y : Int32) : zm_Ev zt_get 6 65 [.ref 0, .int x, .int y] w0 (fun v w => v = some (.int (ac_joined P N c x y)) ∧ zKW w P N c n0 e0 n1 e1 n cd K M e fr fi wa) := by
  obtain ⟨g, gl, a, al, sv, bt, rfl, hK, hr⟩ := hw
  unfold ac_joined
  refine zr_ev zt_X_joined rfl rfl ?_
  show zm_Run zt_get 5 zt_X_joined (0, [some (.ref 0), some (.int x), some (.int y)], [], (zw_C g gl a al)) _
  refine zr_go (t := (2, [some (.ref 0), some (.int x), some (.int y)], [.int x, .ref 0], (zw_C g gl a al))) 2 rfl ?_
  refine zr_call (t := (5, [some (.ref 0), some (.int x), some (.int y)], [], (zw_C g gl a al))) rfl (Nat.le_of_ble_eq_true rfl : 5 ≤ 5) (zs_C_hasPoint g gl a al P N c sv bt n0 e0 n1 e1 hK x) ?_
  rintro _ _ ⟨rfl, g1, a1, rfl, hK1, he1⟩
  have hdb1 := zb_le (decide (0 < P) && zx_in x (zv_np P N))
  have hr1 := zK_r_e he1 hr
  show zm_Run zt_get 5 zt_X_joined (5, [some (.ref 0), some (.int x), some (.int y)], [.int (nI ((decide (0 < P) && zx_in x (zv_np P N)).toNat))], (zw_C g1 gl a1 al)) _
  refine zr_ieq (x := nI ((decide (0 < P) && zx_in x (zv_np P N)).toNat)) (y := 0) ((decide (0 < P) && zx_in x (zv_np P N)).toNat) 0 rfl rfl (by omega) (by omega) (t := (16, [some (.ref 0), some (.int x), some (.int y)], [], (zw_C g1 gl a1 al))) (f := (8, [some (.ref 0), some (.int x), some (.int y)], [], (zw_C g1 gl a1 al))) rfl (fun h1 => ?_) (fun h1 => ?_)
  · skip
    have hx : ac_pt P N x = false := zb_0n _ h1
    refine zr_go (t := (18, [some (.ref 0), some (.int x), some (.int y)], [.int (-101)], (zw_C g1 gl a1 al))) 1 rfl ?_
    exact zr_ret rfl trivial ⟨by rw [if_neg (fun q => by rw [hx] at q; exact absurd q.1 (by decide))], g1, gl, a1, al, _, bt, rfl, hK1, hr1⟩
  · skip
    have hxx : ac_pt P N x = true := zb_1n _ h1
    obtain ⟨hPp, hx1, hx2⟩ := ac_ptP hxx
    refine zr_go (t := (10, [some (.ref 0), some (.int x), some (.int y)], [.int y, .ref 0], (zw_C g1 gl a1 al))) 2 rfl ?_
    refine zr_call (t := (13, [some (.ref 0), some (.int x), some (.int y)], [], (zw_C g1 gl a1 al))) rfl (Nat.le_of_ble_eq_true rfl : 5 ≤ 5) (zs_C_hasPoint g1 gl a1 al P N c (decide (0 < P)) bt n0 e0 n1 e1 hK1 y) ?_
    rintro _ _ ⟨rfl, g2, a2, rfl, hK2, he2⟩
    have hdb2 := zb_le (decide (0 < P) && zx_in y (zv_np P N))
    have hr2 := zK_r_e he2 hr1
    show zm_Run zt_get 5 zt_X_joined (13, [some (.ref 0), some (.int x), some (.int y)], [.int (nI ((decide (0 < P) && zx_in y (zv_np P N)).toNat))], (zw_C g2 gl a2 al)) _
    refine zr_ine (x := nI ((decide (0 < P) && zx_in y (zv_np P N)).toNat)) (y := 0) ((decide (0 < P) && zx_in y (zv_np P N)).toNat) 0 rfl rfl (by omega) (by omega) (t := (19, [some (.ref 0), some (.int x), some (.int y)], [], (zw_C g2 gl a2 al))) (f := (16, [some (.ref 0), some (.int x), some (.int y)], [], (zw_C g2 gl a2 al))) rfl (fun h2 => ?_) (fun h2 => ?_)
    · skip
      have hxy : ac_pt P N y = true := zb_1n _ h2
      obtain ⟨hPp, hy1, hy2⟩ := ac_ptP hxy
      rw [if_pos ⟨hxx, hxy⟩]
      obtain ⟨hm, hc4, h4, h5, h24, h26, h12, hcase⟩ := id hK2
      rcases hcase with ⟨q1, q2, q, q3, _⟩ | ⟨⟨hok, h11, hcP, hQ⟩, hsv, hbt, hnb⟩
      · skip
        exfalso; omega
      · skip
        have hN6 := zv_okN hok
        have hN3 := hok.2.1
        obtain ⟨hP0, hP5⟩ := zv_P5 hok.1
        obtain ⟨-, hnp1, hnp0⟩ := zv_nums hok
        have hon1 := (zj_nums (c := c) hok).1
        have hns1 := (zj_nums (c := c) hok).2
        have hd : decide (0 < P) = true := decide_eq_true hP0
        have hv := hsv hd
        have h17 := hQ.2.2.2.1
        have h18 := hv.1
        have h19 : g2 19 = nI (zj_ns P N c) := hv.2.1
        clear hxx h1 hdb1 hxy h2 hdb2
        generalize zx_k x = p at hx1 hx2 ⊢
        generalize zx_k y = q at hy1 hy2 ⊢
        subst hx2 hy2
        refine zr_go (t := (25, [some (.ref 0), some (.int (nI p)), some (.int (nI q))], [.int (nI q), .int (nI p), .ref 4], (zw_C g2 gl a2 al))) 4 rfl ?_
        refine zr_call (t := (28, [some (.ref 0), some (.int (nI p)), some (.int (nI q))], [], (zw_C g2 gl a2 al))) rfl (Nat.le_of_ble_eq_true rfl : 3 ≤ 5) (zs_C_areCol g2 gl a2 al P N hQ.2.1 hQ.2.2.1 hP0 hP5 hN6 p q (zv_val P N c (zv_y P N p)) (zv_val P N c (zv_y P N q)) (by omega) (by omega) (hv.2.2.1 p hx1) (by have := zv_val_lt (N := N) (c := c) (x := zv_y P N p) hP0; omega) (hv.2.2.1 q hy1) (by have := zv_val_lt (N := N) (c := c) (x := zv_y P N q) hP0; omega) (zz_nm P N c (zv_y P N p)) (zv_y P N q) (fun i hi => hv.2.2.2.1 p hx1 i hi) (fun i _ => by have := zz_nm_lt (N := N) (c := c) (x := zv_y P N p) hP0 i; omega) (fun i hi => hQ.2.2.2.2 q i hy1 hi) (fun i _ => zv_y4 hok)) ?_
        rintro _ _ ⟨rfl, rfl⟩
        show zm_Run zt_get 5 zt_X_joined (28, [some (.ref 0), some (.int (nI p)), some (.int (nI q))], [.int (nI ((zj_jn P N c p q).toNat))], (zw_C g2 gl a2 al)) _
        have hjb := zb_le (zj_jn P N c p q)
        refine zr_ieq (x := nI ((zj_jn P N c p q).toNat)) (y := 0) ((zj_jn P N c p q).toNat) 0 rfl rfl (by omega) (by omega) (t := (35, [some (.ref 0), some (.int (nI p)), some (.int (nI q))], [], (zw_C g2 gl a2 al))) (f := (31, [some (.ref 0), some (.int (nI p)), some (.int (nI q))], [], (zw_C g2 gl a2 al))) rfl (fun h5 => ?_) (fun h5 => ?_)
        · skip
          refine zr_go (t := (36, [some (.ref 0), some (.int (nI p)), some (.int (nI q))], [.int 0], (zw_C g2 gl a2 al))) 1 rfl ?_
          exact zr_ret rfl trivial ⟨by rw [h5]; rfl, g2, gl, a2, al, _, bt, rfl, hK2, hr2⟩
        · skip
          refine zr_go (t := (36, [some (.ref 0), some (.int (nI p)), some (.int (nI q))], [.int 1], (zw_C g2 gl a2 al))) 2 rfl ?_
          exact zr_ret rfl trivial ⟨by rw [zb_1n _ h5]; rfl, g2, gl, a2, al, _, bt, rfl, hK2, hr2⟩
    · skip
      have hy : ac_pt P N y = false := zb_0n _ h2
      refine zr_go (t := (18, [some (.ref 0), some (.int x), some (.int y)], [.int (-101)], (zw_C g2 gl a2 al))) 1 rfl ?_
      exact zr_ret rfl trivial ⟨by rw [if_neg (fun q => by rw [hy] at q; exact absurd q.2 (by decide))], g2, gl, a2, al, _, bt, rfl, hK2, hr2⟩
theorem zp_C_section (w0 : List zm_E) (P N : Nat) (c : Nat → Nat) (n0 : Nat) (e0 : Nat → Nat) (n1 : Nat) (e1 : Nat → Nat) (n : Nat) (cd : Nat → Nat) (K M : Nat) (e : Nat → Nat) (fr fi wa : Nat) (hw : zKW w0 P N c n0 e0 n1 e1 n cd K M e fr fi wa) (x z : Int32) : zm_Ev zt_get 6 66 [.ref 0, .int x, .int z] w0 (fun v w => v = some (.int (ac_section P N c x z)) ∧ zKW w P N c n0 e0 n1 e1 n cd K M e fr fi wa) := by
  obtain ⟨g, gl, a, al, sv, bt, rfl, hK, hr⟩ := hw
  unfold ac_section
  refine zr_ev zt_X_section rfl rfl ?_
  show zm_Run zt_get 5 zt_X_section (0, [some (.ref 0), some (.int x), some (.int z)], [], (zw_C g gl a al)) _
  refine zr_go (t := (2, [some (.ref 0), some (.int x), some (.int z)], [.int x, .ref 0], (zw_C g gl a al))) 2 rfl ?_
  refine zr_call (t := (5, [some (.ref 0), some (.int x), some (.int z)], [], (zw_C g gl a al))) rfl (Nat.le_of_ble_eq_true rfl : 5 ≤ 5) (zs_C_hasPoint g gl a al P N c sv bt n0 e0 n1 e1 hK x) ?_
  rintro _ _ ⟨rfl, g1, a1, rfl, hK1, he1⟩
  have hdb1 := zb_le (decide (0 < P) && zx_in x (zv_np P N))
  have hr1 := zK_r_e he1 hr
  show zm_Run zt_get 5 zt_X_section (5, [some (.ref 0), some (.int x), some (.int z)], [.int (nI ((decide (0 < P) && zx_in x (zv_np P N)).toNat))], (zw_C g1 gl a1 al)) _
  refine zr_ine (x := nI ((decide (0 < P) && zx_in x (zv_np P N)).toNat)) (y := 0) ((decide (0 < P) && zx_in x (zv_np P N)).toNat) 0 rfl rfl (by omega) (by omega) (t := (11, [some (.ref 0), some (.int x), some (.int z)], [], (zw_C g1 gl a1 al))) (f := (8, [some (.ref 0), some (.int x), some (.int z)], [], (zw_C g1 gl a1 al))) rfl (fun h1 => ?_) (fun h1 => ?_)
  · skip
    have hxx : ac_pt P N x = true := zb_1n _ h1
    obtain ⟨hPp, hx1, hx2⟩ := ac_ptP hxx
    rw [if_pos hxx]
    obtain ⟨hm, hc4, h4, h5, h24, h26, h12, hcase⟩ := id hK1
    rcases hcase with ⟨q1, q2, q, q3, _⟩ | ⟨⟨hok, h11, hcP, hQ⟩, hsv, hbt, hnb⟩
    · skip
      exfalso; omega
    · skip
      have hN6 := zv_okN hok
      have hN3 := hok.2.1
      obtain ⟨hP0, hP5⟩ := zv_P5 hok.1
      obtain ⟨-, hnp1, hnp0⟩ := zv_nums hok
      have hon1 := (zj_nums (c := c) hok).1
      have hns1 := (zj_nums (c := c) hok).2
      have hd : decide (0 < P) = true := decide_eq_true hP0
      have hv := hsv hd
      have h17 := hQ.2.2.2.1
      have h18 := hv.1
      have h19 : g1 19 = nI (zj_ns P N c) := hv.2.1
      clear hxx h1 hdb1
      generalize zx_k x = p at hx1 hx2 ⊢
      subst hx2
      refine zr_go (t := (12, [some (.ref 0), some (.int (nI p)), some (.int z)], [.int z], (zw_C g1 gl a1 al))) 1 rfl ?_
      refine zr_if (c := z = 0) (t := (23, [some (.ref 0), some (.int (nI p)), some (.int z)], [], (zw_C g1 gl a1 al))) (f := (15, [some (.ref 0), some (.int (nI p)), some (.int z)], [], (zw_C g1 gl a1 al))) rfl (fun h2 => ?_) (fun h2 => ?_)
      · skip
        subst h2
        rw [if_pos (by decide), if_pos rfl]
        refine zr_go (t := (24, [some (.ref 0), some (.int (nI p)), some (.int (nI 0))], [.int (nI 0)], (zw_C g1 gl a1 al))) 1 rfl ?_
        refine zr_ine (x := nI 0) (y := 0) 0 0 rfl rfl (by omega) (by omega) (t := (38, [some (.ref 0), some (.int (nI p)), some (.int (nI 0))], [], (zw_C g1 gl a1 al))) (f := (27, [some (.ref 0), some (.int (nI p)), some (.int (nI 0))], [], (zw_C g1 gl a1 al))) rfl (fun h3 => ?_) (fun h3 => ?_)
        · skip
          exact absurd rfl h3
        · skip
          refine zr_go (t := (32, [some (.ref 0), some (.int (nI p)), some (.int (nI 0))], [.int (nI p), .ref 4], (zw_C g1 gl a1 al))) 3 rfl ?_
          refine zr_call (t := (35, [some (.ref 0), some (.int (nI p)), some (.int (nI 0))], [], (zw_C g1 gl a1 al))) rfl (Nat.le_of_ble_eq_true rfl : 3 ≤ 5) (zs_C_section g1 gl a1 al P N hQ c hv p hx1) ?_
          rintro _ _ ⟨rfl, rfl⟩
          show zm_Run zt_get 5 zt_X_section (35, [some (.ref 0), some (.int (nI p)), some (.int (nI 0))], [.int (nI (zC (fun k => zw_oo P N c k && zv_dot N (zv_y P N p) (zv_y P N k) % P == 0) (zv_np P N)))], (zw_C g1 gl a1 al)) _
          refine zr_go (t := (46, [some (.ref 0), some (.int (nI p)), some (.int (nI 0))], [.int (nI (zC (fun k => zw_oo P N c k && zv_dot N (zv_y P N p) (zv_y P N k) % P == 0) (zv_np P N)))], (zw_C g1 gl a1 al))) 1 rfl ?_
          exact zr_ret rfl trivial ⟨rfl, g1, gl, a1, al, _, bt, rfl, hK1, hr1⟩
      · skip
        refine zr_go (t := (17, [some (.ref 0), some (.int (nI p)), some (.int z)], [.int 1, .int z], (zw_C g1 gl a1 al))) 2 rfl ?_
        refine zr_if (c := z = 1) (t := (23, [some (.ref 0), some (.int (nI p)), some (.int z)], [], (zw_C g1 gl a1 al))) (f := (20, [some (.ref 0), some (.int (nI p)), some (.int z)], [], (zw_C g1 gl a1 al))) rfl (fun h3 => ?_) (fun h3 => ?_)
        · skip
          subst h3
          rw [if_pos (by decide), if_neg (by decide)]
          refine zr_go (t := (24, [some (.ref 0), some (.int (nI p)), some (.int (nI 1))], [.int (nI 1)], (zw_C g1 gl a1 al))) 1 rfl ?_
          refine zr_ine (x := nI 1) (y := 0) 1 0 rfl rfl (by omega) (by omega) (t := (38, [some (.ref 0), some (.int (nI p)), some (.int (nI 1))], [], (zw_C g1 gl a1 al))) (f := (27, [some (.ref 0), some (.int (nI p)), some (.int (nI 1))], [], (zw_C g1 gl a1 al))) rfl (fun h4 => ?_) (fun h4 => ?_)
          · skip
            refine zr_go (t := (43, [some (.ref 0), some (.int (nI p)), some (.int (nI 1))], [.int (nI p), .ref 4], (zw_C g1 gl a1 al))) 3 rfl ?_
            refine zr_call (t := (46, [some (.ref 0), some (.int (nI p)), some (.int (nI 1))], [], (zw_C g1 gl a1 al))) rfl (Nat.le_of_ble_eq_true rfl : 3 ≤ 5) (zs_C_tangent g1 gl a1 al P N hQ c hv p hx1) ?_
            rintro _ _ ⟨rfl, f20, rfl⟩
            show zm_Run zt_get 5 zt_X_section (46, [some (.ref 0), some (.int (nI p)), some (.int (nI 1))], [.int (zj_tg P N c p)], (zw_C g1 gl (va_up a1 20 f20) al)) _
            exact zr_ret rfl trivial ⟨rfl, _, gl, _, al, _, bt, rfl, hK1, hr1⟩
          · skip
            exact absurd h4 (by decide)
        · skip
          rw [if_neg (by rw [zx_2n h2 h3]; decide)]
          refine zr_go (t := (22, [some (.ref 0), some (.int (nI p)), some (.int z)], [.int (-102)], (zw_C g1 gl a1 al))) 1 rfl ?_
          exact zr_ret rfl trivial ⟨rfl, g1, gl, a1, al, _, bt, rfl, hK1, hr1⟩
  · skip
    have hx : ac_pt P N x = false := zb_0n _ h1
    refine zr_go (t := (10, [some (.ref 0), some (.int x), some (.int z)], [.int (-101)], (zw_C g1 gl a1 al))) 1 rfl ?_
    exact zr_ret rfl trivial ⟨by rw [if_neg (by rw [hx]; decide)], g1, gl, a1, al, _, bt, rfl, hK1, hr1⟩
