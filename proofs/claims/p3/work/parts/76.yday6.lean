theorem p_vowf {N : Nat} (hN : 3 ≤ N) {σ τ : yS} {t f i : Nat} {o : Int} (k12 : yS → Nat → Int → Int → Option (Int × yS)) (k7 : yS → Int → Option (Int × yS)) (H : yDY σ τ t) (hf : σ.2 t 12 = f) (F : yFal σ τ f) (hi : (i : Int) < τ.1 2 77) (ho : 0 ≤ o ∧ o ≤ 900) : ∃ (z : Int) (σ' τ' : yS), f_X4_passDay_b36 N k12 N σ t o i (τ.1 2 (79 + 4 * i)) 0 = k12 σ' t (o + z) ((i + 1 : Nat) : Int) ∧ f_X8_days_b27 N k7 N τ i ((78 + 4 * i : Nat) : Int) 0 = k7 τ' ((i + 1 : Nat) : Int) ∧ yDY σ' τ' t ∧ yFal σ' τ' f ∧ yAc t σ τ σ' τ' 2 z := by
  obtain ⟨n, hn⟩ : ∃ n, N = n + 3 := ⟨N - 3, by omega⟩
  have g2 : 0 ≤ τ.1 2 77 ∧ τ.1 2 77 ≤ 10 := H.2.2.1.2.2.1
  have ei : yad (i : Int) 1 = ((i + 1 : Nat) : Int) := by rw [yad_e (by omega) (by omega)]; omega
  have m1 : yad ((78 + 4 * i : Nat) : Int) 1 = ((79 + 4 * i : Nat) : Int) := by rw [yad_e (by omega) (by omega)]; omega
  have j1 : yin ((79 + 4 * i : Nat) : Int) 131 = true := by rw [yin_d]; exact decide_eq_true (by omega)
  have x7 : ∀ (m : Nat) (σ1 : yS) (o1 k : Int), (if τ.1 2 (79 + 4 * i) = 3 then 2 else 1) ≤ k → f_X4_passDay_b36 N k12 (m + 1) σ1 t o1 i (τ.1 2 (79 + 4 * i)) k = k12 σ1 t o1 ((i + 1 : Nat) : Int) := fun m σ1 o1 k hk => by
    rw [q_X4_passDay_b36]
    simp only [x4_fallsOf, ycP_ge, decide_eq_true hk, cond_true, ei]
  have x8 : ∀ (m : Nat) (τ1 : yS) (k : Int), τ1.1 2 (79 + 4 * i) = τ.1 2 (79 + 4 * i) → (if τ.1 2 (79 + 4 * i) = 3 then 2 else 1) ≤ k → f_X8_days_b27 N k7 (m + 1) τ1 i ((78 + 4 * i : Nat) : Int) k = k7 τ1 ((i + 1 : Nat) : Int) := fun m τ1 k hq hk => by
    rw [q_X8_days_b27]
    simp only [m1, j1, cond_true, Int.toNat_natCast, x8_fallsOf, ycP_ge, hq, decide_eq_true hk, ei]
  obtain ⟨r, σ1, τ1, c7, c8, K1, F1, A1⟩ := p_turn (N := N) (i := i) (k := 0) (o := o) k12 k7 H hf F hi (by split <;> simp) (by omega)
  have a1 := A1.2.2.2.2.1
  have e1 : τ1.1 2 (79 + 4 * i) = τ.1 2 (79 + 4 * i) := A1.2.2.2.1 _ (by omega) (by omega)
  have e77 : τ1.1 2 77 = τ.1 2 77 := A1.2.2.2.1 _ (by omega) (by omega)
  by_cases h3 : τ.1 2 (79 + 4 * i) = 3
  · obtain ⟨r2, σ2, τ2, d7, d8, K2, F2, A2⟩ := p_turn (N := N) (i := i) (k := 1) (o := o + r) k12 k7 K1 (by rw [A1.1]; exact hf) F1 (by rw [e77]; exact hi) (by rw [e1, if_pos h3]; simp) (by omega)
    have e2 : τ2.1 2 (79 + 4 * i) = τ1.1 2 (79 + 4 * i) := A2.2.2.2.1 _ (by omega) (by omega)
    rw [e1] at d7
    refine ⟨r + r2, σ2, τ2, ?_, ?_, K2, F2, yAc_t A1 A2⟩
    · have q := c7 (n + 2)
      rw [show n + 2 + 1 = N by omega] at q
      refine q.trans ((d7 (n + 1)).trans ?_)
      rw [x7 n σ2 _ _ (by rw [if_pos h3]; simp), Int.add_assoc]
    · have q := c8 (n + 2)
      rw [show n + 2 + 1 = N by omega] at q
      refine q.trans ((d8 (n + 1)).trans ?_)
      exact x8 n τ2 _ (e2.trans e1) (by rw [if_pos h3]; simp)
  · refine ⟨r, σ1, τ1, ?_, ?_, K1, F1, yAc_w A1 (by omega)⟩
    · have q := c7 (n + 2)
      rw [show n + 2 + 1 = N by omega] at q
      refine q.trans ?_
      exact x7 (n + 1) σ1 _ _ (by rw [if_neg h3]; simp)
    · have q := c8 (n + 2)
      rw [show n + 2 + 1 = N by omega] at q
      refine q.trans ?_
      exact x8 (n + 1) τ1 _ e1 (by rw [if_neg h3]; simp)
theorem p_vowsf {N : Nat} (hN : 3 ≤ N) {t f : Nat} : ∀ (c n m i : Nat) (σ τ : yS) (o : Int), yDY σ τ t → σ.2 t 12 = f → yFal σ τ f → ((i + c : Nat) : Int) = τ.1 2 77 → 0 ≤ o → o + 2 * c ≤ 900 → ∃ (z : Int) (σ' τ' : yS), f_X4_passDay_b12 N (n + c) σ t o i = f_X4_passDay_b12 N n σ' t (o + z) ((i + c : Nat) : Int) ∧ f_X8_days_b7 N (m + c) τ i = f_X8_days_b7 N m τ' ((i + c : Nat) : Int) ∧ yDY σ' τ' t ∧ yFal σ' τ' f ∧ yAc t σ τ σ' τ' (2 * c) z
  | 0, n, m, i, σ, τ, o, H, hf, F, hi, h0, h9 => ⟨0, σ, τ, by rw [Int.add_zero, Nat.add_zero, Nat.add_zero], by rw [Nat.add_zero, Nat.add_zero], H, F, yAc_r⟩
  | c + 1, n, m, i, σ, τ, o, H, hf, F, hi, h0, h9 => by
    have g2 : 0 ≤ τ.1 2 77 ∧ τ.1 2 77 ≤ 10 := H.2.2.1.2.2.1
    have t3 : σ.1 (σ.2 t 11) 0 = τ.1 2 77 := H.2.1.2.2.1.1
    have hlt : (i : Int) < τ.1 2 77 := by omega
    have v2 : σ.1 (σ.2 t 11 + 2) i = τ.1 2 (79 + 4 * i) := (H.2.1.2.2.1.2 i hlt).2.1
    obtain ⟨z, σ1, τ1, c7, c8, K1, F1, A1⟩ := p_vowf (N := N) hN (i := i) (o := o) (f_X4_passDay_b12 N (n + c)) (f_X8_days_b7 N (m + c)) H hf F hlt (by omega)
    have a1 := A1.2.2.2.2.1
    have e77 : τ1.1 2 77 = τ.1 2 77 := A1.2.2.2.1 _ (by omega) (by omega)
    obtain ⟨z2, σ2, τ2, d7, d8, K2, F2, A2⟩ := p_vowsf hN c n m (i + 1) σ1 τ1 (o + z) K1 (by rw [A1.1]; exact hf) F1 (by rw [e77]; omega) (by omega) (by omega)
    have em : yad 78 (ymu 4 (i : Int)) = ((78 + 4 * i : Nat) : Int) := by
      rw [ymu_e (by omega) (by omega), yad_e (by omega) (by omega)]; omega
    have i2 : yin (i : Int) 10 = true := by rw [yin_d]; exact decide_eq_true (by omega)
    have A3 := yAc_w (c2 := 2 * ((c + 1 : Nat) : Int)) (yAc_t A1 A2) (by omega)
    rw [show i + (c + 1) = i + 1 + c by omega]
    refine ⟨z + z2, σ2, τ2, ?_, ?_, K2, F2, A3⟩
    · rw [show n + (c + 1) = (n + c) + 1 by omega, q_X4_passDay_b12]
      simp only [ycP_ge, t3, decide_eq_false (show ¬ τ.1 2 77 ≤ (i : Int) by omega), cond_false, i2, cond_true, Int.toNat_natCast, v2, c7, d7]
      rw [Int.add_assoc]
    · rw [show m + (c + 1) = (m + c) + 1 by omega, q_X8_days_b7]
      simp only [ycP_ge, decide_eq_false (show ¬ τ.1 2 77 ≤ (i : Int) by omega), cond_false, em, c8, d8]
