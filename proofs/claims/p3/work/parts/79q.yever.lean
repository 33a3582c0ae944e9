theorem x4_endl_l {N : Nat} (hN : 10 ≤ N) {σ τ : yS} {H L k r i : Nat} (R : yRH σ τ 17) (hH : τ.1 0 3 = (H : Int)) (hr : τ.1 0 4 = (r : Int)) (hk : k < 5) (hL : L < 2 ^ H) (hi : i < 10) (hki : σ.1 (σ.2 17 11 + 2) i = (k : Int)) : ∀ (c m j x : Nat), j + c = 7 → x < 2 ^ H → f_X4_isEndless_b31 N (m + c + 1) σ 17 i L x j = some (if yiN r H k L c x = 0 then 0 else 1, σ)
  | 0, m, j, x, hj, hx => by
    have e : j = 7 := by omega
    subst e
    rw [q_X4_isEndless_b31]
    by_cases z : x = 0
    · simp [ycP_ge, ycP_eq, f_X4_isEndless_b69, yb1_d, yiN, z]
    · simp [ycP_ge, ycP_eq, f_X4_isEndless_b69, yb1_d, yiN, z]
  | c + 1, m, j, x, hj, hx => by
    have e3 : yad (j : Int) 1 = ((j + 1 : Nat) : Int) := by rw [yad_e (by omega) (by omega)]; omega
    have i5 : yin (i : Int) 10 = true := by rw [yin_d]; exact decide_eq_true (by omega)
    have g := (p_fN (N := N) hN (σ := σ) (τ := τ) R hH hr hk hL hx).1
    have ih := x4_endl_l hN R hH hr hk hL hi hki c m (j + 1) _ (by omega) (yfN_b r H k L x)
    rw [show m + (c + 1) + 1 = (m + c + 1) + 1 by omega, q_X4_isEndless_b31]
    simp only [ycP_ge, decide_eq_false (show ¬ (7 : Int) ≤ (j : Int) by omega), cond_false, i5, cond_true, Int.toNat_natCast, hki, g, e3]
    exact ih
theorem x8_endl_l {N : Nat} (hN : 10 ≤ N) {σ τ : yS} {H L k r i : Nat} (R : yRH σ τ 17) (hH : τ.1 0 3 = (H : Int)) (hr : τ.1 0 4 = (r : Int)) (hk : k < 5) (hL : L < 2 ^ H) (hi : i < 10) (hki : τ.1 1 (79 + 4 * i) = (k : Int)) : ∀ (c m j x : Nat), j + c = 129 → x < 2 ^ H → f_X8_isEndless_b17 N (m + c + 1) τ i L x j = some (if τ.1 1 (80 + 4 * i) = 9 then (if yiN r H k L c x = 0 then 0 else 1) else 0, τ)
  | 0, m, j, x, hj, hx => by
    have e : j = 129 := by omega
    subst e
    have m2 : yad (yad 78 (ymu 4 (i : Int))) 2 = ((80 + 4 * i : Nat) : Int) := by
      rw [ymu_e (by omega) (by omega), yad_e (a := 78) (by omega) (by omega), yad_e (by omega) (by omega)]; omega
    have j2 : yin ((80 + 4 * i : Nat) : Int) 393 = true := by rw [yin_d]; exact decide_eq_true (by omega)
    rw [q_X8_isEndless_b17, m2, Int.toNat_natCast]
    simp only [ycP_gt, show decide ((128 : Int) < ((129 : Nat) : Int)) = true from rfl, cond_true, j2, ycP_ne, ycP_eq, f_X8_isEndless_b77, f_X8_isEndless_b78, yiN]
    by_cases h9 : τ.1 1 (80 + 4 * i) = 9
    · by_cases z : x = 0
      · simp [h9, z, yb1_d]
      · simp [h9, z, yb1_d]
    · simp [h9, yb1_d]
  | c + 1, m, j, x, hj, hx => by
    have e3 : yad (j : Int) 1 = ((j + 1 : Nat) : Int) := by rw [yad_e (by omega) (by omega)]; omega
    have m1 : yad (yad 78 (ymu 4 (i : Int))) 1 = ((79 + 4 * i : Nat) : Int) := by
      rw [ymu_e (by omega) (by omega), yad_e (a := 78) (by omega) (by omega), yad_e (by omega) (by omega)]; omega
    have j1 : yin ((79 + 4 * i : Nat) : Int) 393 = true := by rw [yin_d]; exact decide_eq_true (by omega)
    have g := (p_fN (N := N) hN (σ := σ) (τ := τ) R hH hr hk hL hx).2
    have ih := x8_endl_l hN R hH hr hk hL hi hki c m (j + 1) _ (by omega) (yfN_b r H k L x)
    rw [show m + (c + 1) + 1 = (m + c + 1) + 1 by omega, q_X8_isEndless_b17, m1, Int.toNat_natCast]
    simp only [ycP_gt, decide_eq_false (show ¬ (128 : Int) < (j : Int) by omega), cond_false, j1, cond_true, hki, g, e3]
    exact ih
/-- whether a vow walks for ever: the same on both sides -/
theorem p_endl {N : Nat} (hN : 132 ≤ N) {σ τ : yS} {H L i : Nat} (HR : yRR σ τ) (hH : τ.1 0 3 = (H : Int)) (hL : L < 2 ^ H) (hi : (i : Int) < τ.1 1 77) : ∃ e : Int, (e = 0 ∨ e = 1) ∧ f_X4_isEndless N σ 17 i L = some (e, σ) ∧ f_X8_isEndless N τ i L = some (e, τ) ∧ (L = 2 ^ H - 1 → e = 0) := by
  have R := HR.1.2.2.1
  obtain ⟨e0, e1, e2, b0, b1, b2, hc⟩ := HR.1.2.2.1
  have g2 : 0 ≤ τ.1 1 77 ∧ τ.1 1 77 ≤ 10 := HR.1.2.2.2.2.2.2.1
  obtain ⟨v1, v2, v3, v4⟩ := HR.1.2.2.2.1.2.2.1.2 i hi
  obtain ⟨w1, w2, w3, w4⟩ := HR.1.2.2.2.2.2.2.2.1 i hi
  dsimp only at v1 v2 v3 v4 w1 w2 w3 w4
  obtain ⟨r, hr⟩ : ∃ r : Nat, τ.1 0 4 = (r : Int) := ⟨(τ.1 0 4).toNat, by omega⟩
  obtain ⟨k, hk⟩ : ∃ k : Nat, τ.1 1 (79 + 4 * i) = (k : Int) := ⟨(τ.1 1 (79 + 4 * i)).toNat, by omega⟩
  obtain ⟨h, hh⟩ : ∃ h : Nat, τ.1 1 (78 + 4 * i) = (h : Int) := ⟨(τ.1 1 (78 + 4 * i)).toNat, by omega⟩
  have hH7 : h < H := by omega
  have s1 := ysl1 ⟨h, by omega⟩
  dsimp only at s1
  have x2 : 2 ^ h < 2 ^ H := Nat.pow_lt_pow_right (by omega) hH7
  have c7 := x4_endl_l (N := N) (by omega) (σ := σ) (τ := τ) (H := H) (L := L) (k := k) (r := r) (i := i) R hH hr (by omega) hL (by omega) (by rw [v2]; exact hk) 7 (N - 8) 0 (2 ^ h) (by omega) x2
  have c8 := x8_endl_l (N := N) (by omega) (σ := σ) (τ := τ) (H := H) (L := L) (k := k) (r := r) (i := i) R hH hr (by omega) hL (by omega) hk 129 (N - 130) 0 (2 ^ h) (by omega) x2
  rw [show N - 8 + 7 + 1 = N by omega, show ((0 : Nat) : Int) = 0 from rfl] at c7
  rw [show N - 130 + 129 + 1 = N by omega, show ((0 : Nat) : Int) = 0 from rfl] at c8
  simp only [yi_ever (show r < 2 by omega) (show H < 8 by omega) (show 2 ≤ H by omega) (show k < 5 by omega) hL hH7] at c8
  have i5 : yin (i : Int) 10 = true := by rw [yin_d]; exact decide_eq_true (by omega)
  have m0 : yad 78 (ymu 4 (i : Int)) = ((78 + 4 * i : Nat) : Int) := by
    rw [ymu_e (by omega) (by omega), yad_e (by omega) (by omega)]; omega
  have j0 : yin ((78 + 4 * i : Nat) : Int) 393 = true := by rw [yin_d]; exact decide_eq_true (by omega)
  have d8 : f_X8_isEndless N τ i L = some (if τ.1 1 (80 + 4 * i) = 9 then (if yiN r H k L 7 (2 ^ h) = 0 then 0 else 1) else 0, τ) := by
    unfold f_X8_isEndless
    rw [m0, j0, Int.toNat_natCast, hh, s1]
    exact c8
  refine ⟨if τ.1 1 (80 + 4 * i) = 9 then (if yiN r H k L 7 (2 ^ h) = 0 then 0 else 1) else 0, ?_, ?_, d8, fun q => ?_⟩
  · split
    · split
      · exact Or.inl rfl
      · exact Or.inr rfl
    · exact Or.inl rfl
  · unfold f_X4_isEndless
    rw [i5, Int.toNat_natCast, v1, v3, hh, s1]
    by_cases h9 : τ.1 1 (80 + 4 * i) = 9
    · simp only [ycP_eq, decide_eq_true h9, cond_true, if_pos h9]
      exact c7
    · simp only [ycP_eq, decide_eq_false h9, cond_true, cond_false, if_neg h9]
  · have f0 : ∀ x : Nat, yfN r H k L x = 0 := fun x => by
      unfold yfN
      have ub := yuN_b r H k x
      generalize yuN r H k x = y at ub ⊢
      have hq : ∀ H : Fin 8, ∀ y : Fin 128, y.val < 2 ^ H.val → y.val &&& (127 ^^^ (2 ^ H.val - 1)) = 0 := by decide +kernel
      have pw : (2 : Nat) ^ H ≤ 128 := Nat.pow_le_pow_right (n := 2) (by omega) (show H ≤ 7 by omega)
      rw [q]
      exact hq ⟨H, by omega⟩ ⟨y, by omega⟩ ub
    have z : yiN r H k L 7 (2 ^ h) = 0 := by
      rw [show (7 : Nat) = 6 + 1 from rfl, yiN, f0]
      exact yi0 (show r < 2 by omega) (by omega) (show k < 5 by omega) 6
    rw [z]
    simp
theorem yev10 : ∀ i : Fin 10, ∀ A : Fin 1024, A.val < 2 ^ i.val → (yan ((A.val : Nat) : Int) (yxo (ysl 1 ((i.val : Nat) : Int)) (-1)) = ((A.val : Nat) : Int) ∧ yor ((A.val : Nat) : Int) (ysl 0 ((i.val : Nat) : Int)) = ((A.val : Nat) : Int) ∧ 0 < yor ((A.val : Nat) : Int) (ysl 1 ((i.val : Nat) : Int)) ∧ yor ((A.val : Nat) : Int) (ysl 1 ((i.val : Nat) : Int)) < ((2 ^ (i.val + 1) : Nat) : Int)) := by decide +kernel
theorem p_ever_l {N : Nat} (hN : 132 ≤ N) {σ τ : yS} {H L S : Nat} (HR : yRR σ τ) (hH : τ.1 0 3 = (H : Int)) (hL : L < 2 ^ H) (h6 : σ.1 17 6 = (L : Int)) (hS : τ.1 1 77 = (S : Int)) (h10 : S ≤ 10) : ∀ (c m q i A : Nat), i + c = S → A < 2 ^ i → ∃ A' : Nat, f_X7_ever_b4 N (m + c + 1) σ A i = some ((A' : Int), σ) ∧ f_X8_endless_b4 N (q + c + 1) τ L A i = some ((A' : Int), τ)
  | 0, m, q, i, A, hi, hA => by
    have t3 : σ.1 (σ.2 17 11) 0 = τ.1 1 77 := HR.1.2.2.2.1.2.2.1.1
    refine ⟨A, ?_, ?_⟩
    · rw [q_X7_ever_b4, t3, hS]
      simp [ycP_ge, show (S : Int) ≤ (i : Int) by omega]
    · rw [q_X8_endless_b4, hS]
      simp [ycP_ge, show (S : Int) ≤ (i : Int) by omega]
  | c + 1, m, q, i, A, hi, hA => by
    have t3 : σ.1 (σ.2 17 11) 0 = τ.1 1 77 := HR.1.2.2.2.1.2.2.1.1
    have e3 : yad (i : Int) 1 = ((i + 1 : Nat) : Int) := by rw [yad_e (by omega) (by omega)]; omega
    obtain ⟨e, he, g7, g8, -⟩ := p_endl (N := N) hN (i := i) HR hH hL (by omega)
    have pw : (2 : Nat) ^ i ≤ 2 ^ 10 := Nat.pow_le_pow_right (by omega) (by omega)
    have ev := yev10 ⟨i, by omega⟩ ⟨A, by omega⟩ hA
    dsimp only at ev
    rcases he with rfl | rfl
    · have p2 : A < 2 ^ (i + 1) := Nat.lt_trans hA (Nat.pow_lt_pow_right (by omega) (by omega))
      obtain ⟨A', i7, i8⟩ := p_ever_l hN HR hH hL h6 hS h10 c m q (i + 1) A (by omega) p2
      refine ⟨A', ?_, ?_⟩
      · rw [show m + (c + 1) + 1 = (m + c + 1) + 1 by omega, q_X7_ever_b4, t3, hS, h6]
        simp only [ycP_ge, decide_eq_false (show ¬ (S : Int) ≤ (i : Int) by omega), cond_false, g7, x7_withBit, if_true, ev.1, e3, i7]
      · rw [show q + (c + 1) + 1 = (q + c + 1) + 1 by omega, q_X8_endless_b4, hS]
        simp only [ycP_ge, decide_eq_false (show ¬ (S : Int) ≤ (i : Int) by omega), cond_false, g8, x8_flag (show (0 : Int) ≤ 0 ∧ (0 : Int) ≤ 1 by omega), ev.2.1, e3, i8]
    · obtain ⟨B, hB⟩ : ∃ B : Nat, yor (A : Int) (ysl 1 (i : Int)) = (B : Int) := ⟨(yor (A : Int) (ysl 1 (i : Int))).toNat, by omega⟩
      rw [hB] at ev
      have p2 : B < 2 ^ (i + 1) := by omega
      obtain ⟨A', i7, i8⟩ := p_ever_l hN HR hH hL h6 hS h10 c m q (i + 1) B (by omega) p2
      refine ⟨A', ?_, ?_⟩
      · rw [show m + (c + 1) + 1 = (m + c + 1) + 1 by omega, q_X7_ever_b4, t3, hS, h6]
        simp only [ycP_ge, decide_eq_false (show ¬ (S : Int) ≤ (i : Int) by omega), cond_false, g7, x7_withBit, show ¬ (1 : Int) = 0 by omega, if_false, hB, e3, i7]
      · rw [show q + (c + 1) + 1 = (q + c + 1) + 1 by omega, q_X8_endless_b4, hS]
        simp only [ycP_ge, decide_eq_false (show ¬ (S : Int) ≤ (i : Int) by omega), cond_false, g8, x8_flag (show (0 : Int) ≤ 1 ∧ (1 : Int) ≤ 1 by omega), hB, e3, i8]
theorem yL_b {σ τ : yS} {H : Nat} (HR : yRR σ τ) (hH : τ.1 0 3 = (H : Int)) : ∃ L : Nat, σ.1 17 6 = (L : Int) ∧ L < 2 ^ H := by
  obtain ⟨e0, e1, e2, b0, b1, b2, hc⟩ := HR.1.2.2.1
  have g0 : 0 ≤ σ.1 17 6 ∧ σ.1 17 6 < 128 := HR.1.2.2.2.2.1
  obtain ⟨L, hL⟩ : ∃ L : Nat, σ.1 17 6 = (L : Int) := ⟨(σ.1 17 6).toNat, by omega⟩
  have z := ylawz ⟨L, by omega⟩ ⟨H, by omega⟩ (fun h hh => by
    have q : yan (ysr (σ.1 17 6) ((h.val : Nat) : Int)) 1 = τ.1 1 (14 + h.val) := (HR.1.2.2.2.1.1 h.val h.isLt).2.2.1
    rw [hL] at q
    rw [q]
    have hh : H ≤ h.val := hh
    exact HR.2.1.2.2 h.val h.isLt (by omega))
  dsimp only at z
  refine ⟨L, hL, ?_⟩
  rw [← z]
  exact Nat.mod_lt _ (Nat.two_pow_pos H)
theorem P_ever {N : Nat} (hN : 132 ≤ N) {σ τ : yS} (HR : yRR σ τ) : ∃ (a : Int) (σ' τ' : yS), f_X7_ever N σ = some (a, σ') ∧ f_X8_ever N τ = some (a, τ') ∧ yRR σ' τ' := by
  obtain ⟨e0, e1, e2, b0, b1, b2, hc⟩ := HR.1.2.2.1
  obtain ⟨H, hH⟩ : ∃ m : Nat, τ.1 0 3 = (m : Int) := ⟨(τ.1 0 3).toNat, by omega⟩
  have g2 : 0 ≤ τ.1 1 77 ∧ τ.1 1 77 ≤ 10 := HR.1.2.2.2.2.2.2.1
  obtain ⟨S, hS⟩ : ∃ m : Nat, τ.1 1 77 = (m : Int) := ⟨(τ.1 1 77).toNat, by omega⟩
  obtain ⟨L, h6, hL⟩ := yL_b HR hH
  obtain ⟨A, g7, g8⟩ := p_ever_l (N := N) hN HR hH hL h6 hS (by omega) S (N - S - 1) (N - S - 1) 0 0 (by omega) (by omega)
  rw [show N - S - 1 + S + 1 = N by omega, show ((0 : Nat) : Int) = 0 from rfl] at g7 g8
  have lw := x8_law (N := N) (by omega) HR
  rw [h6] at lw
  refine ⟨A, σ, τ, g7, ?_, HR⟩
  simp only [f_X8_ever, lw, f_X8_endless, g8]
