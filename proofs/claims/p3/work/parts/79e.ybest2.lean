theorem p_best_i {N : Nat} (hN : 132 ≤ N) {a n H3 : Nat} {w : Int} (hn : n ≤ 60) (h7 : H3 ≤ 7) (k48 k45 : yS → Int → Int → Int → Int → Int → Option (Int × yS)) : ∀ (c m k b : Nat) (σ τ : yS) (o p : Int), b + c = H3 → a < b → τ.1 0 3 = (H3 : Int) → yRR σ τ → ∃ (o' p' : Int) (σ' τ' : yS), f_X7_best_b66 N k48 (m + c + 1) σ n w o p a b = k48 σ' n w o' p' ((a + 1 : Nat) : Int) ∧ f_X8_best_b60 N k45 (k + c + 1) τ n w o p a b = k45 τ' n w o' p' ((a + 1 : Nat) : Int) ∧ yRR σ' τ' ∧ τ'.1 0 3 = (H3 : Int)
  | 0, m, k, b, σ, τ, o, p, hb, hab, h3, H => by
    have e0 : σ.1 17 0 = τ.1 0 3 := H.1.2.2.1.1
    have ea : yad (a : Int) 1 = ((a + 1 : Nat) : Int) := by rw [yad_e (by omega) (by omega)]; omega
    have hle : (H3 : Int) ≤ (b : Int) := by omega
    refine ⟨o, p, σ, τ, ?_, ?_, H, h3⟩
    · rw [q_X7_best_b66, e0, h3]
      simp only [ycP_ge, decide_eq_true hle, cond_true, ea]
    · rw [q_X8_best_b60, h3]
      simp only [ycP_ge, decide_eq_true hle, cond_true, ea]
  | c + 1, m, k, b, σ, τ, o, p, hb, hab, h3, H => by
    have e0 : σ.1 17 0 = τ.1 0 3 := H.1.2.2.1.1
    have eb : yad (b : Int) 1 = ((b + 1 : Nat) : Int) := by rw [yad_e (by omega) (by omega)]; omega
    have hle : ¬ (H3 : Int) ≤ (b : Int) := by omega
    obtain ⟨z, σ1, σ2, σ3, τ1, τ2, τ3, τ4, s1, s2, s3, s4, s5, s6, s7, q1, K, q3⟩ := p_best_s (N := N) hN (a := a) (b := b) (n := n) (by omega) (by omega) (by omega) hn H
    by_cases hz : z ≤ o
    · obtain ⟨o', p', σ', τ', g7, g8, K', r3⟩ := p_best_i hN (a := a) (n := n) (H3 := H3) (w := w) hn h7 k48 k45 c m k (b + 1) σ3 τ4 o p (by omega) (by omega) (by rw [q3]; exact h3) K
      refine ⟨o', p', σ', τ', ?_, ?_, K', r3⟩
      · rw [show m + (c + 1) + 1 = (m + c + 1) + 1 by omega, q_X7_best_b66, e0, h3]
        simp only [ycP_ge, ycP_le, decide_eq_false hle, cond_false, s1, s2, s3, decide_eq_true hz, cond_true, f_X7_best_b129, eb, g7]
      · rw [show k + (c + 1) + 1 = (k + c + 1) + 1 by omega, q_X8_best_b60, h3]
        simp only [ycP_ge, ycP_le, decide_eq_false hle, cond_false, s4, s5, s6, s7, q1, decide_eq_true hz, cond_true, f_X8_best_b115, f_X8_best_b133, eb, g8]
    · obtain ⟨o', p', σ', τ', g7, g8, K', r3⟩ := p_best_i hN (a := a) (n := n) (H3 := H3) (w := w) hn h7 k48 k45 c m k (b + 1) σ3 τ4 z (yad (ymu 10 (a : Int)) (b : Int)) (by omega) (by omega) (by rw [q3]; exact h3) K
      refine ⟨o', p', σ', τ', ?_, ?_, K', r3⟩
      · rw [show m + (c + 1) + 1 = (m + c + 1) + 1 by omega, q_X7_best_b66, e0, h3]
        simp only [ycP_ge, ycP_le, decide_eq_false hle, cond_false, s1, s2, s3, decide_eq_false hz, f_X7_best_b129, eb, g7]
      · rw [show k + (c + 1) + 1 = (k + c + 1) + 1 by omega, q_X8_best_b60, h3]
        simp only [ycP_ge, ycP_le, decide_eq_false hle, cond_false, s4, s5, s6, s7, q1, decide_eq_false hz, f_X8_best_b115, f_X8_best_b133, eb, g8]
theorem p_best_o {N : Nat} (hN : 132 ≤ N) {n H3 : Nat} {w : Int} (hn : n ≤ 60) (h7 : H3 ≤ 7) : ∀ (c m k a : Nat) (σ τ : yS) (o p : Int), a + c = H3 → τ.1 0 3 = (H3 : Int) → yRR σ τ → ∃ (z : Int) (σ' τ' : yS), f_X7_best_b48 N (m + c + 1) σ n w o p a = some (z, σ') ∧ f_X8_best_b45 N (k + c + 1) τ n w o p a = some (z, τ') ∧ yRR σ' τ'
  | 0, m, k, a, σ, τ, o, p, ha, h3, H => by
    have e0 : σ.1 17 0 = τ.1 0 3 := H.1.2.2.1.1
    have hle : (H3 : Int) ≤ (a : Int) := by omega
    by_cases hp : p = -4
    · refine ⟨-4, σ, τ, ?_, ?_, H⟩
      · rw [q_X7_best_b48, e0, h3]
        by_cases hw : w = 0
        · simp [ycP_ge, ycP_eq, ycP_ne, hle, f_X7_best_b152, f_X7_best_b158, hw, hp]
        · simp [ycP_ge, ycP_eq, ycP_ne, hle, f_X7_best_b152, f_X7_best_b158, hw, hp]
      · rw [q_X8_best_b45, h3]
        simp [ycP_ge, ycP_ne, hle, f_X8_best_b168, hp]
    · by_cases hw : w = 0
      · refine ⟨p, σ, τ, ?_, ?_, H⟩
        · rw [q_X7_best_b48, e0, h3]
          simp [ycP_ge, ycP_eq, ycP_ne, hle, f_X7_best_b152, f_X7_best_b158, hw]
        · rw [q_X8_best_b45, h3]
          simp [ycP_ge, ycP_ne, hle, f_X8_best_b168, hp, hw]
      · refine ⟨o, σ, τ, ?_, ?_, H⟩
        · rw [q_X7_best_b48, e0, h3]
          simp [ycP_ge, ycP_eq, ycP_ne, hle, f_X7_best_b152, f_X7_best_b158, hw, hp]
        · rw [q_X8_best_b45, h3]
          simp [ycP_ge, ycP_ne, hle, f_X8_best_b168, hp, hw]
  | c + 1, m, k, a, σ, τ, o, p, ha, h3, H => by
    have e0 : σ.1 17 0 = τ.1 0 3 := H.1.2.2.1.1
    have hle : ¬ (H3 : Int) ≤ (a : Int) := by omega
    have ea : yad (a : Int) 1 = ((a + 1 : Nat) : Int) := by rw [yad_e (by omega) (by omega)]; omega
    obtain ⟨o', p', σ1, τ1, g7, g8, K, r3⟩ := p_best_i (N := N) hN (a := a) (n := n) (H3 := H3) (w := w) hn h7 (f_X7_best_b48 N (m + c + 1)) (f_X8_best_b45 N (k + c + 1)) c (N - c - 1) (N - c - 1) (a + 1) σ τ o p (by omega) (by omega) h3 H
    rw [show N - c - 1 + c + 1 = N by omega] at g7 g8
    obtain ⟨z, σ2, τ2, l7, l8, K2⟩ := p_best_o hN (n := n) (H3 := H3) (w := w) hn h7 c m k (a + 1) σ1 τ1 o' p' (by omega) r3 K
    refine ⟨z, σ2, τ2, ?_, ?_, K2⟩
    · rw [show m + (c + 1) + 1 = (m + c + 1) + 1 by omega, q_X7_best_b48, e0, h3]
      simp only [ycP_ge, decide_eq_false hle, cond_false, ea, g7, l7]
    · rw [show k + (c + 1) + 1 = (k + c + 1) + 1 by omega, q_X8_best_b45, h3]
      simp only [ycP_ge, decide_eq_false hle, cond_false, ea, g8, l8]
theorem P_best {N : Nat} (hN : 132 ≤ N) {σ τ : yS} {n w : Int} (H : yRR σ τ) : ∃ (a : Int) (σ' τ' : yS), f_X7_best N σ n w = some (a, σ') ∧ f_X8_best N τ n w = some (a, τ') ∧ yRR σ' τ' := by
  obtain ⟨e0, e1, e2, b0, b1, b2, hc⟩ := H.1.2.2.1
  simp only [f_X7_best, f_X7_best_b19, f_X8_best, f_X8_best_b22, x7_within, x8_in, ycP_ne, ycP_eq]
  by_cases hn : 1 ≤ n ∧ n ≤ 20
  · by_cases hw : 0 ≤ w ∧ w ≤ 1
    · obtain ⟨m, rfl⟩ : ∃ m : Nat, n = (m : Int) := ⟨n.toNat, by omega⟩
      obtain ⟨H3, h3⟩ : ∃ m : Nat, τ.1 0 3 = (m : Int) := ⟨(τ.1 0 3).toNat, by omega⟩
      obtain ⟨σ1, c0, f1, -, D1⟩ := yDY_trial (N := N) H
      have s8 := x8_starts (N := N) hN (τ := τ)
      obtain ⟨z, σ2, τ2, c7, c8, K, f7, f8, q1, q2, q3⟩ := p_days (N := N) (by omega) (show m ≤ 60 by omega) D1
      have H2 := yRR_tr H (yF7_t f1 f7) K (yF8_t yF8_c f8)
      have r3 : τ2.1 0 3 = (H3 : Int) := by rw [f8 0 3 (by omega) (by omega) (by omega), ycp_n (by omega)]; exact h3
      obtain ⟨y, σ3, τ3, g7, g8, K3⟩ := p_best_o (N := N) hN (n := m) (H3 := H3) (w := w) (by omega) (by omega) H3 (N - H3 - 1) (N - H3 - 1) 0 σ2 τ2 z (-4) (by omega) r3 H2
      rw [show N - H3 - 1 + H3 + 1 = N by omega, show ((0 : Nat) : Int) = 0 from rfl] at g7 g8
      refine ⟨y, σ3, τ3, ?_, ?_, K3⟩
      · simp [hn, hw, c0, c7, g7]
      · simp [hn, hw, s8, c8, q1, g8]
    · exact ⟨-1, σ, τ, by simp [hn, hw], by simp [hn, hw], H⟩
  · exact ⟨-1, σ, τ, by simp [hn], by simp [hn], H⟩
