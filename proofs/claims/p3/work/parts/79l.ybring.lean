theorem ydv_e {a b : Int} (h1 : 0 ≤ a) (h2 : a ≤ 2147483647) (h3 : 0 < b) (h4 : b ≤ 2147483647) : ydv a b = a / b := by
  unfold ydv
  have e1 := zq_of (z := a) (by omega) (by omega)
  have e2 := zq_of (z := b) (by omega) (by omega)
  rw [zdiv_b _ _ (by omega) (by omega), e1, e2]
/-- the houses after so many falls -/
noncomputable def yit (r H k L : Int) : Nat → Int → Int
  | 0, x => x
  | n + 1, x => yit r H k L n (yan (yU r H k x) (yxo L (-1)))
theorem p_it7 {N : Nat} (hN : 10 ≤ N) {σ τ : yS} {H L : Nat} {k n : Int} (R : yRH σ τ 17) (hL : L < 128) (h6 : σ.1 17 6 = (L : Int)) (hH : τ.1 0 3 = (H : Int)) : ∀ (c m x : Nat), c ≤ 100 → x < 2 ^ H → ∃ y : Nat, y < 2 ^ H ∧ (y : Int) = yit (τ.1 0 4) (τ.1 0 3) k L c x ∧ f_X4_broughtBy_b28 N (m + c + 1) σ 17 n k x ((c : Int) - 1) = f_X4_broughtBy_b53 N N σ 17 n y 0
  | 0, m, x, hc, hx => by
    refine ⟨x, hx, rfl, ?_⟩
    rw [q_X4_broughtBy_b28]
    simp [ycP_lt]
  | c + 1, m, x, hc, hx => by
    have e3 : yad (((c + 1 : Nat) : Int) - 1) (-1) = (c : Int) - 1 := by rw [yad_e (by omega) (by omega)]; omega
    have lt : ¬ ((c + 1 : Nat) : Int) - 1 < 0 := by omega
    have em : m + (c + 1) + 1 = (m + c + 1) + 1 := by omega
    have c9 : c ≤ 100 := by omega
    obtain ⟨y, hy, ey, g7, g8⟩ := p_fallen (N := N) (by omega) (σ := σ) (t := 17) (k := k) R hH hL hx
    obtain ⟨z, hz, ez, i7⟩ := p_it7 hN (k := k) (n := n) R hL h6 hH c m y c9 hy
    refine ⟨z, hz, ?_, ?_⟩
    · rw [ez, yit, ey]
    · rw [em, q_X4_broughtBy_b28, h6, e3]
      simp only [ycP_lt, decide_eq_false lt, cond_false, g7]
      exact i7
theorem p_it8 {N : Nat} (hN : 10 ≤ N) {σ τ : yS} {H L p : Nat} {k : Int} (HR : yRR σ τ) (hL : L < 128) (h6 : σ.1 17 6 = (L : Int)) (hH : τ.1 0 3 = (H : Int)) (hp : p ≤ 90) : ∀ (c m i x : Nat), i + c = p + 1 → x < 2 ^ H → ∃ y : Nat, (y : Int) = yit (τ.1 0 4) (τ.1 0 3) k L c x ∧ f_X8_endsAt_b8 N (m + c + 1) τ k p x i = some ((y : Int), τ)
  | 0, m, i, x, hc, hx => by
    refine ⟨x, rfl, ?_⟩
    rw [q_X8_endsAt_b8]
    simp [ycP_gt, show (p : Int) < (i : Int) by omega]
  | c + 1, m, i, x, hc, hx => by
    have e3 : yad (i : Int) 1 = ((i + 1 : Nat) : Int) := by rw [yad_e (by omega) (by omega)]; omega
    have lt : ¬ (p : Int) < (i : Int) := by omega
    have em : m + (c + 1) + 1 = (m + c + 1) + 1 := by omega
    have ei : i + 1 + c = p + 1 := by omega
    have lw := x8_law (N := N) (by omega) HR
    rw [h6] at lw
    obtain ⟨y, hy, ey, g7, g8⟩ := p_fallen (N := N) (by omega) (σ := σ) (t := 17) (k := k) HR.1.2.2.1 hH hL hx
    obtain ⟨z, ez, i8⟩ := p_it8 hN (k := k) HR hL h6 hH hp c m (i + 1) y ei hy
    refine ⟨z, ?_, ?_⟩
    · rw [ez, yit, ey]
    · rw [em, q_X8_endsAt_b8]
      simp only [ycP_gt, decide_eq_false lt, cond_false, lw, g8, e3]
      exact i8
theorem yclr : ∀ S : Fin 128, ∀ h : Fin 7, (0 ≤ yan ((S.val : Nat) : Int) (yxo (ysl 1 ((h.val : Nat) : Int)) (-1)) ∧ yan ((S.val : Nat) : Int) (yxo (ysl 1 ((h.val : Nat) : Int)) (-1)) ≤ ((S.val : Nat) : Int)) ∧ ∀ j : Fin 7, yan (ysr (yan ((S.val : Nat) : Int) (yxo (ysl 1 ((h.val : Nat) : Int)) (-1))) ((j.val : Nat) : Int)) 1 = if j.val = h.val then 0 else yan (ysr ((S.val : Nat) : Int) ((j.val : Nat) : Int)) 1 := by decide +kernel
theorem x4_mask_l {N H d : Nat} {σ : yS} {n : Int} (h7 : H ≤ 7) (hH : σ.1 17 0 = (H : Int)) (hd : yrm n 5 = (d : Int)) : ∀ (c m h S : Nat), h + c = H → S < 128 → ∃ S' : Nat, S' < 128 ∧ f_X4_broughtBy_b53 N (m + c + 1) σ 17 n S h = some ((S' : Int), σ) ∧ ∀ j : Nat, j < 7 → yan (ysr (S' : Int) (j : Int)) 1 = if h ≤ j ∧ j < H ∧ yan (ysr (σ.1 20 j) (d : Int)) 1 = 0 then 0 else yan (ysr (S : Int) (j : Int)) 1
  | 0, m, h, S, e, hS => by
    refine ⟨S, hS, ?_, fun j hj => ?_⟩
    · rw [q_X4_broughtBy_b53, hH]
      simp [ycP_ge, show (H : Int) ≤ (h : Int) by omega]
    · rw [if_neg (by omega)]
  | c + 1, m, h, S, e, hS => by
    have e3 : yad (h : Int) 1 = ((h + 1 : Nat) : Int) := by rw [yad_e (by omega) (by omega)]; omega
    have ih : yin (h : Int) 7 = true := by rw [yin_d]; exact decide_eq_true (by omega)
    by_cases hb : yan (ysr (σ.1 20 h) (d : Int)) 1 = 0
    · have q := yclr ⟨S, hS⟩ ⟨h, by omega⟩
      dsimp only at q
      obtain ⟨T, hT⟩ : ∃ T : Nat, yan (S : Int) (yxo (ysl 1 (h : Int)) (-1)) = (T : Int) := ⟨(yan (S : Int) (yxo (ysl 1 (h : Int)) (-1))).toNat, by omega⟩
      rw [hT] at q
      obtain ⟨S', hS', g, bt⟩ := x4_mask_l (N := N) (H := H) (d := d) h7 hH hd c m (h + 1) T (by omega) (by omega)
      refine ⟨S', hS', ?_, fun j hj => ?_⟩
      · rw [show m + (c + 1) + 1 = (m + c + 1) + 1 by omega, q_X4_broughtBy_b53, hH]
        simp only [ycP_ge, ycP_ne, decide_eq_false (show ¬ (H : Int) ≤ (h : Int) by omega), cond_false, ih, cond_true, Int.toNat_natCast, f_X7_bit, hd, hb, not_true_eq_false, decide_false, x7_withBit, if_true, hT, f_X4_broughtBy_b86, e3, g]
      · rw [bt j hj]
        have qj := q.2 ⟨j, hj⟩
        dsimp only at qj
        by_cases ej : j = h
        · subst ej
          rw [if_pos rfl] at qj
          rw [if_neg (by omega), if_pos ⟨by omega, by omega, hb⟩, qj]
        · rw [if_neg ej] at qj
          rw [qj]
          by_cases cc : h + 1 ≤ j ∧ j < H ∧ yan (ysr (σ.1 20 j) (d : Int)) 1 = 0
          · rw [if_pos cc, if_pos (by omega)]
          · rw [if_neg cc, if_neg (by omega)]
    · obtain ⟨S', hS', g, bt⟩ := x4_mask_l (N := N) (H := H) (d := d) h7 hH hd c m (h + 1) S (by omega) hS
      refine ⟨S', hS', ?_, fun j hj => ?_⟩
      · rw [show m + (c + 1) + 1 = (m + c + 1) + 1 by omega, q_X4_broughtBy_b53, hH]
        simp only [ycP_ge, ycP_ne, decide_eq_false (show ¬ (H : Int) ≤ (h : Int) by omega), cond_false, ih, cond_true, Int.toNat_natCast, f_X7_bit, hd, hb, not_false_eq_true, decide_true, f_X4_broughtBy_b86, e3, g]
      · rw [bt j hj]
        by_cases ej : j = h
        · subst ej
          rw [if_neg (by omega), if_neg (by intro q; exact hb q.2.2)]
        · by_cases cc : h + 1 ≤ j ∧ j < H ∧ yan (ysr (σ.1 20 j) (d : Int)) 1 = 0
          · rw [if_pos cc, if_pos (by omega)]
          · rw [if_neg cc, if_neg (by omega)]
theorem ysl1 : ∀ h : Fin 7, ysl 1 ((h.val : Nat) : Int) = ((2 ^ h.val : Nat) : Int) := by decide +kernel
theorem ybit7 : ∀ S : Fin 128, ∀ d : Fin 7, yan (ysr ((S.val : Nat) : Int) ((d.val : Nat) : Int)) 1 = 0 ∨ yan (ysr ((S.val : Nat) : Int) ((d.val : Nat) : Int)) 1 = 1 := by decide +kernel
/-- a vow by its number: whether it brings its deed to a house -/
theorem p_bring {N : Nat} (hN : 132 ≤ N) {σ τ : yS} {H x k p d : Nat} (HR : yRR σ τ) (hH : τ.1 0 3 = (H : Int)) (hx : x < H) (hk : k < 5) (hp : p < 4) (hd : d < 5) : ∃ S : Nat, S < 128 ∧ f_X4_broughtBy N σ 17 ((100 * x + 20 * k + 5 * p + d : Nat) : Int) = some ((S : Int), σ) ∧ ∀ h : Nat, h < H → f_X8_doesBring N τ x k p h d = some (yan (ysr (S : Int) (h : Int)) 1, τ) := by
  obtain ⟨e0, e1, e2, b0, b1, b2, hc⟩ := HR.1.2.2.1
  have g0 : 0 ≤ σ.1 17 6 ∧ σ.1 17 6 < 128 := HR.1.2.2.2.2.1
  obtain ⟨L, hL⟩ : ∃ L : Nat, σ.1 17 6 = (L : Int) := ⟨(σ.1 17 6).toNat, by omega⟩
  have pw : (2 : Nat) ^ H ≤ 128 := Nat.pow_le_pow_right (n := 2) (by omega) (show H ≤ 7 by omega)
  have a1 : ydv ((100 * x + 20 * k + 5 * p + d : Nat) : Int) 20 = ((5 * x + k : Nat) : Int) := by rw [ydv_e (by omega) (by omega) (by omega) (by omega)]; omega
  have a2 : yrm ((5 * x + k : Nat) : Int) 5 = (k : Int) := by rw [yrm_e (by omega) (by omega) (by omega) (by omega)]; omega
  have a3 : ydv ((100 * x + 20 * k + 5 * p + d : Nat) : Int) 100 = (x : Int) := by rw [ydv_e (by omega) (by omega) (by omega) (by omega)]; omega
  have a4 : ydv ((100 * x + 20 * k + 5 * p + d : Nat) : Int) 5 = ((20 * x + 4 * k + p : Nat) : Int) := by rw [ydv_e (by omega) (by omega) (by omega) (by omega)]; omega
  have a5 : yrm ((20 * x + 4 * k + p : Nat) : Int) 4 = (p : Int) := by rw [yrm_e (by omega) (by omega) (by omega) (by omega)]; omega
  have a6 : yrm ((100 * x + 20 * k + 5 * p + d : Nat) : Int) 5 = (d : Int) := by rw [yrm_e (by omega) (by omega) (by omega) (by omega)]; omega
  by_cases h4 : k = 4
  · refine ⟨0, by omega, ?_, fun h hh => ?_⟩
    · simp only [f_X4_broughtBy, a1, a2, ycP_ne, decide_eq_false (show ¬ ¬ (k : Int) = 4 by omega), cond_false]
      rfl
    · have z := ysl0 ⟨h, by omega⟩
      have z2 : ∀ h : Fin 7, yan (ysr 0 ((h.val : Nat) : Int)) 1 = 0 := by decide +kernel
      have z3 := z2 ⟨h, by omega⟩
      dsimp only at z3
      have z3' : yan (ysr ((0 : Nat) : Int) (h : Int)) 1 = 0 := z3
      rw [z3']
      simp [f_X8_doesBring, f_X8_doesBring_b44, f_X8_doesBring_b45, h4, ycP_eq, yb1_d]
  · have s1 := ysl1 ⟨x, by omega⟩
    dsimp only at s1
    have x2 : 2 ^ x < 2 ^ H := Nat.pow_lt_pow_right (by omega) hx
    obtain ⟨y, hy, ey, g7⟩ := p_it7 (N := N) (by omega) (k := (k : Int)) (n := ((100 * x + 20 * k + 5 * p + d : Nat) : Int)) HR.1.2.2.1 (show L < 128 by omega) hL hH (p + 1) (N - p - 2) (2 ^ x) (by omega) x2
    obtain ⟨y', ey', g8⟩ := p_it8 (N := N) (by omega) (k := (k : Int)) HR (show L < 128 by omega) hL hH (show p ≤ 90 by omega) (p + 1) (N - p - 2) 0 (2 ^ x) (by omega) x2
    have yy : y' = y := Int.ofNat_inj.1 (ey'.trans ey.symm)
    subst yy
    clear ey ey'
    rw [show N - p - 2 + (p + 1) + 1 = N by omega] at g7 g8
    obtain ⟨S, hS, m7, bt⟩ := x4_mask_l (N := N) (H := H) (d := d) (σ := σ) (n := ((100 * x + 20 * k + 5 * p + d : Nat) : Int)) (by omega) (by rw [e0]; exact hH) a6 H (N - H - 1) 0 y' (by omega) (by omega)
    rw [show N - H - 1 + H + 1 = N by omega] at m7
    refine ⟨S, hS, ?_, fun h hh => ?_⟩
    · rw [show (((p + 1 : Nat) : Int) - 1) = (p : Int) by omega] at g7
      simp only [f_X4_broughtBy, a1, a2, a3, a4, a5, ycP_ne, decide_eq_true (show ¬ (k : Int) = 4 by omega), cond_true, s1, g7]
      exact m7
    · have q1 : σ.1 20 h = τ.1 1 (7 + h) := (HR.1.2.2.2.1.1 h (by omega)).2.1
      have sk : 0 ≤ τ.1 1 (7 + h) ∧ τ.1 1 (7 + h) < 32 := (HR.1.2.2.2.2.2.1 h (by omega)).1
      have bb := ybit5 ⟨(τ.1 1 (7 + h)).toNat, by omega⟩ ⟨d, hd⟩
      simp only [show (((τ.1 1 (7 + h)).toNat : Nat) : Int) = τ.1 1 (7 + h) by omega] at bb
      have by7 := ybit7 ⟨y', by omega⟩ ⟨h, by omega⟩
      dsimp only at by7
      have en : f_X8_endsAt N τ x k p = some ((y' : Int), τ) := by
        unfold f_X8_endsAt
        rw [s1]
        exact g8
      have m1 : yad 7 (h : Int) = 7 + (h : Int) := yad_e (by omega) (by omega)
      have c1 : (7 + (h : Int)).toNat = 7 + h := by omega
      have i1 : yin (7 + (h : Int)) 393 = true := by rw [yin_d]; exact decide_eq_true (by omega)
      rw [bt h (by omega), q1]
      by_cases hs : yan (ysr (τ.1 1 (7 + h)) (d : Int)) 1 = 0
      · rw [if_pos ⟨by omega, hh, hs⟩]
        simp [f_X8_doesBring, f_X8_doesBring_b44, f_X8_doesBring_b45, ycP_eq, ycP_ne, show ¬ (k : Int) = 4 by omega, m1, c1, i1, hs, yb1_d]
      · have hs1 : yan (ysr (τ.1 1 (7 + h)) (d : Int)) 1 = 1 := by omega
        rw [if_neg (by intro q; exact hs q.2.2)]
        rcases by7 with z | z
        · rw [z]
          simp [f_X8_doesBring, f_X8_doesBring_b44, f_X8_doesBring_b45, ycP_eq, ycP_ne, show ¬ (k : Int) = 4 by omega, m1, c1, i1, hs1, en, z, yb1_d]
        · rw [z]
          simp [f_X8_doesBring, f_X8_doesBring_b44, f_X8_doesBring_b45, ycP_eq, ycP_ne, show ¬ (k : Int) = 4 by omega, m1, c1, i1, hs1, en, z, yb1_d]
