theorem yRR_tr {σ τ σ' τ' : yS} (H : yRR σ τ) (f : yF7 38 σ σ') (D : yDY σ' τ' 38) (o : yF8 τ τ') : yRR σ' τ' :=
  yRR_scr H (fun a b h => f.2 a b h) D.2.1.2.2.2.2.2 (fun a b h => f.1 a b (by omega)) (fun a b h1 h2 _ _ h5 => o a b h1 h2 (by omega))
theorem yF8_c {τ : yS} : yF8 τ (ycp τ 1 2 0 0 131) := fun a b _ _ _ => ycp_n (by omega)
theorem P_ahead {N : Nat} (hN : 132 ≤ N) {σ τ : yS} {h d n : Int} (H : yRR σ τ) : ∃ (a : Int) (σ' τ' : yS), f_X7_ahead N σ h d n = some (a, σ') ∧ f_X8_ahead N τ h d n = some (a, τ') ∧ yRR σ' τ' := by
  obtain ⟨e0, e1, e2, b0, b1, b2, hc⟩ := H.1.2.2.1
  simp only [f_X7_ahead, f_X7_ahead_b32, f_X8_ahead, f_X8_ahead_b28, f_X7_doneAt, x4_isHouse (show 2 ≤ σ.1 17 0 ∧ σ.1 17 0 ≤ 7 by rw [e0]; exact b0), x8_isHouse b0, x4_isDeed (show 0 ≤ σ.1 17 2 ∧ σ.1 17 2 ≤ 5 by rw [e2]; exact b2), x8_isDeed b2, x7_within, x8_in, ycP_ne, ycP_eq, e0, e2]
  by_cases hh : 0 ≤ h ∧ h < τ.1 0 3
  · by_cases hd : 0 ≤ d ∧ d < τ.1 0 5
    · by_cases hn : 0 ≤ n ∧ n ≤ 60
      · obtain ⟨m, rfl⟩ : ∃ m : Nat, n = (m : Int) := ⟨n.toNat, by omega⟩
        obtain ⟨h, rfl⟩ : ∃ m : Nat, h = (m : Int) := ⟨h.toNat, by omega⟩
        obtain ⟨d, rfl⟩ : ∃ m : Nat, d = (m : Int) := ⟨d.toNat, by omega⟩
        obtain ⟨σ1, c0, f1, -, D1⟩ := yDY_trial (N := N) H
        obtain ⟨z, σ2, τ2, c7, c8, K, f7, f8, q1, q2, q3⟩ := p_days (N := N) (by omega) (show m ≤ 60 by omega) D1
        have s8 := x8_starts (N := N) hN (τ := τ)
        have m1 : yad (ymu (h : Int) 5) (d : Int) = 5 * (h : Int) + d := by
          rw [ymu_e (by omega) (by omega), yad_e (by omega) (by omega)]; omega
        have m2 : yad (yad 42 (ymu 5 (h : Int))) (d : Int) = 42 + (5 * (h : Int) + d) := by
          rw [ymu_e (by omega) (by omega), yad_e (a := 42) (by omega) (by omega), yad_e (by omega) (by omega)]; omega
        have n1 : (5 * (h : Int) + d).toNat = 5 * h + d := by omega
        have n2 : (42 + (5 * (h : Int) + d)).toNat = 42 + (5 * h + d) := by omega
        have i1 : yin (5 * (h : Int) + d) 35 = true := by rw [yin_d]; exact decide_eq_true (by omega)
        have i2 : yin (42 + (5 * (h : Int) + d)) 131 = true := by rw [yin_d]; exact decide_eq_true (by omega)
        have q : σ2.1 45 (5 * h + d) = τ2.1 2 (42 + (5 * h + d)) := K.2.1.2.1 (5 * h + d) (by omega)
        refine ⟨τ2.1 2 (42 + (5 * h + d)), σ2, τ2, ?_, ?_, yRR_tr H (yF7_t f1 f7) K (yF8_t yF8_c f8)⟩
        · simp [hh, hd, hn, c0, c7, m1, n1, i1, q]
        · simp [hh, hd, hn, s8, c8, m2, n2, i2]
      · exact ⟨-1, σ, τ, by simp [hh, hd, hn], by simp [hh, hd, hn], H⟩
    · exact ⟨-1, σ, τ, by simp [hh, hd], by simp [hh, hd], H⟩
  · exact ⟨-1, σ, τ, by simp [hh], by simp [hh], H⟩
theorem p_rest_l {N : Nat} (hN : 62 ≤ N) : ∀ (c m k i : Nat) (σ τ : yS), i + c = 61 → yDY σ τ 38 → ∃ (a : Int) (σ' τ' : yS), f_X7_rest_b13 N (m + c + 1) σ i = some (a, σ') ∧ f_X8_rest_b6 N (k + c + 1) τ i = some (a, τ') ∧ yDY σ' τ' 38 ∧ yF7 38 σ σ' ∧ yF8 τ τ'
  | 0, m, k, i, σ, τ, hi, H => by
    have e : i = 61 := by omega
    subst e
    refine ⟨-4, σ, τ, ?_, ?_, H, yF7_r, yF8_r⟩
    · rw [q_X7_rest_b13]
      simp [ycP_gt]
    · rw [q_X8_rest_b6]
      simp [ycP_gt]
  | c + 1, m, k, i, σ, τ, hi, H => by
    have t3 : σ.1 (σ.2 38 11) 0 = τ.1 2 77 := H.2.1.2.2.1.1
    by_cases hz : τ.1 2 77 = 0
    · refine ⟨i, σ, τ, ?_, ?_, H, yF7_r, yF8_r⟩
      · rw [q_X7_rest_b13, t3]
        simp [ycP_gt, ycP_ne, hz, show ¬ (60 : Int) < (i : Int) by omega]
      · rw [q_X8_rest_b6]
        simp [ycP_gt, ycP_ne, hz, show ¬ (60 : Int) < (i : Int) by omega]
    · obtain ⟨z, σ1, τ1, c7, c8, K, f7, f8, -⟩ := p_day (N := N) (by omega) H
      have e3 : yad (i : Int) 1 = ((i + 1 : Nat) : Int) := by rw [yad_e (by omega) (by omega)]; omega
      obtain ⟨a, σ2, τ2, g7, g8, K2, l7, l8⟩ := p_rest_l hN c m k (i + 1) σ1 τ1 (by omega) K
      refine ⟨a, σ2, τ2, ?_, ?_, K2, yF7_t f7 l7, yF8_t f8 l8⟩
      · rw [show m + (c + 1) + 1 = (m + c + 1) + 1 by omega, q_X7_rest_b13, t3]
        simp only [ycP_gt, ycP_ne, decide_eq_false (show ¬ (60 : Int) < (i : Int) by omega), decide_eq_true hz, cond_false, cond_true, c7, e3, g7]
      · rw [show k + (c + 1) + 1 = (k + c + 1) + 1 by omega, q_X8_rest_b6]
        simp only [ycP_gt, ycP_ne, decide_eq_false (show ¬ (60 : Int) < (i : Int) by omega), decide_eq_true hz, cond_false, cond_true, c8, e3, g8]
theorem P_rest {N : Nat} (hN : 132 ≤ N) {σ τ : yS} (H : yRR σ τ) : ∃ (a : Int) (σ' τ' : yS), f_X7_rest N σ = some (a, σ') ∧ f_X8_rest N τ = some (a, τ') ∧ yRR σ' τ' := by
  obtain ⟨σ1, c0, f1, -, D1⟩ := yDY_trial (N := N) H
  have s8 := x8_starts (N := N) hN (τ := τ)
  obtain ⟨a, σ2, τ2, g7, g8, K2, l7, l8⟩ := p_rest_l (N := N) (by omega) 61 (N - 62) (N - 62) 0 σ1 _ (by omega) D1
  rw [show N - 62 + 61 + 1 = N by omega, show ((0 : Nat) : Int) = 0 from rfl] at g7 g8
  refine ⟨a, σ2, τ2, ?_, ?_, yRR_tr H (yF7_t f1 l7) K2 (yF8_t yF8_c l8)⟩
  · simp only [f_X7_rest, c0, g7]
  · simp only [f_X8_rest, s8, g8]
