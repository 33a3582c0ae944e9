theorem yRN_dropv {σ τ : yS} (H : yRN σ τ) {n : Int} (hn : 0 ≤ n ∧ n ≤ τ.1 1 77) : yRN (yw σ (σ.2 17 11) 0 n) (yw τ 1 77 n) := by
  obtain ⟨⟨a0, a1, a2, a3⟩, f0, ⟨e0, e1, e2, b0, b1, b2, hc⟩, ⟨t1, t2, ⟨t3, t4⟩, ⟨t5, t6⟩, ⟨d0, d1, d2, d3⟩, t7⟩, ⟨g0, g1, g2, g3, g4, g5, g6⟩⟩ := H
  have hv : ¬ 2 = σ.2 17 11 ∧ ¬ 3 = σ.2 17 11 ∧ ¬ 4 = σ.2 17 11 ∧ ¬ 17 = σ.2 17 11 ∧ ¬ 18 = σ.2 17 11 ∧ ¬ 19 = σ.2 17 11 ∧ ¬ 20 = σ.2 17 11 ∧ ¬ 21 = σ.2 17 11 ∧ ¬ 22 = σ.2 17 11 ∧ ¬ 23 = σ.2 17 11 ∧ ¬ 24 = σ.2 17 11 ∧ ¬ 35 = σ.2 17 11 ∧ ¬ 36 = σ.2 17 11 ∧ ¬ 37 = σ.2 17 11 := by omega
  refine ⟨⟨by simpa [yw_1, hv] using a0, by simpa [yw_1, hv] using a1, by simpa [yw_1, hv] using a2, fun j hj => ?_⟩, by simpa [yw_1, hv] using f0, ⟨by simpa [yw_1, hv] using e0, by simpa [yw_1, hv] using e1, by simpa [yw_1, hv] using e2, by simpa [yw_1] using b0, by simpa [yw_1] using b1, by simpa [yw_1] using b2, fun d hd => ?_⟩, ⟨fun i hi => ?_, fun j hj => ?_, ⟨?_, fun i hi => ?_⟩, ⟨?_, fun i hi => ?_⟩, ⟨?_, ?_, ?_, ?_⟩, t7⟩, ⟨by simpa [yw_1, hv] using g0, fun i hi => ?_, ?_, fun i hi => ?_, ?_, fun i hi => ?_, ?_, ?_⟩⟩
  · have q := a3 j (by simpa [yw_1, hv] using hj)
    simpa [yw_1, hv] using q
  · have q := hc d (by simpa [yw_1] using hd)
    simpa [yw_1, hv] using q
  · have q := t1 i hi
    simp [yw_1, yw_2, hv, show ¬ i = 77 by omega, show ¬ 7 + i = 77 by omega, show ¬ 14 + i = 77 by omega, show ¬ 21 + i = 77 by omega, show ¬ 28 + i = 77 by omega, show ¬ 35 + i = 77 by omega]
    simpa using q
  · have q := t2 j hj
    simp [yw_1, hv, show ¬ 42 + j = 77 by omega]
    simpa using q
  · simp [yw_1, yw_2]
  · have hi : (i : Int) < n := by simpa [yw_1] using hi
    have q := t4 i (show (i : Int) < τ.1 1 77 by omega)
    simp [yw_1, yw_2, show ¬ 78 + 4 * i = 77 by omega, show ¬ 79 + 4 * i = 77 by omega, show ¬ 80 + 4 * i = 77 by omega, show ¬ 81 + 4 * i = 77 by omega]
    simpa using q
  · simp [yw_1, hv]
    simpa using t5
  · have q := t6 i (by simpa [yw_1] using hi)
    simp [yw_1, hv, show ¬ 119 + 2 * i = 77 by omega, show ¬ 120 + 2 * i = 77 by omega]
    simpa using q
  · simp [yw_1, hv]
    simpa using d0
  · simp [yw_1, hv]
    simpa using d1
  · simp [yw_1, hv]
    simpa using d2
  · simp [yw_1, hv]
    simpa using d3
  · have q := g1 i hi
    simp [yw_1, show ¬ 7 + i = 77 by omega, show ¬ 14 + i = 77 by omega, show ¬ 21 + i = 77 by omega, show ¬ 28 + i = 77 by omega, show ¬ 35 + i = 77 by omega]
    simpa using q
  · have g2 : 0 ≤ τ.1 1 77 ∧ τ.1 1 77 ≤ 10 := g2
    simp [yw_1]
    omega
  · have hi : (i : Int) < n := by simpa [yw_1] using hi
    have q := g3 i (show (i : Int) < τ.1 1 77 by omega)
    simp [yw_1, show ¬ 78 + 4 * i = 77 by omega, show ¬ 79 + 4 * i = 77 by omega, show ¬ 80 + 4 * i = 77 by omega, show ¬ 81 + 4 * i = 77 by omega]
    simpa using q
  · simp [yw_1]
    simpa using g4
  · have q := g5 i (by simpa [yw_1] using hi)
    simp [yw_1, show ¬ 119 + 2 * i = 77 by omega, show ¬ 120 + 2 * i = 77 by omega]
    simpa using q
  · simp [yw_1]
    simpa using g6.1
  · simp [yw_1]
    simpa using g6.2
theorem yRN_dropw {σ τ : yS} (H : yRN σ τ) {n : Int} (hn : 0 ≤ n ∧ n ≤ τ.1 1 118) : yRN (yw σ 35 0 n) (yw τ 1 118 n) := by
  obtain ⟨⟨a0, a1, a2, a3⟩, f0, ⟨e0, e1, e2, b0, b1, b2, hc⟩, ⟨t1, t2, ⟨t3, t4⟩, ⟨t5, t6⟩, ⟨d0, d1, d2, d3⟩, t7⟩, ⟨g0, g1, g2, g3, g4, g5, g6⟩⟩ := H
  have hv : ¬ σ.2 17 11 = 35 ∧ ¬ σ.2 17 11 + 1 = 35 ∧ ¬ σ.2 17 11 + 2 = 35 ∧ ¬ σ.2 17 11 + 3 = 35 ∧ ¬ σ.2 17 11 + 4 = 35 := by omega
  refine ⟨⟨by simpa [yw_1] using a0, by simpa [yw_1] using a1, by simpa [yw_1] using a2, fun j hj => ?_⟩, by simpa [yw_1] using f0, ⟨by simpa [yw_1] using e0, by simpa [yw_1] using e1, by simpa [yw_1] using e2, by simpa [yw_1] using b0, by simpa [yw_1] using b1, by simpa [yw_1] using b2, fun d hd => ?_⟩, ⟨fun i hi => ?_, fun j hj => ?_, ⟨?_, fun i hi => ?_⟩, ⟨?_, fun i hi => ?_⟩, ⟨?_, ?_, ?_, ?_⟩, t7⟩, ⟨by simpa [yw_1] using g0, fun i hi => ?_, ?_, fun i hi => ?_, ?_, fun i hi => ?_, ?_, ?_⟩⟩
  · have q := a3 j (by simpa [yw_1] using hj)
    simpa [yw_1] using q
  · have q := hc d (by simpa [yw_1] using hd)
    simpa [yw_1] using q
  · have q := t1 i hi
    simp [yw_1, yw_2, show ¬ i = 118 by omega, show ¬ 7 + i = 118 by omega, show ¬ 14 + i = 118 by omega, show ¬ 21 + i = 118 by omega, show ¬ 28 + i = 118 by omega, show ¬ 35 + i = 118 by omega]
    simpa using q
  · have q := t2 j hj
    simp [yw_1, show ¬ 42 + j = 118 by omega]
    simpa using q
  · simp [yw_1, yw_2, hv]
    simpa using t3
  · have g2 : 0 ≤ τ.1 1 77 ∧ τ.1 1 77 ≤ 10 := g2
    have hi : (i : Int) < τ.1 1 77 := by simpa [yw_1] using hi
    have q := t4 i hi
    simp [yw_1, yw_2, hv, show ¬ 78 + 4 * i = 118 by omega, show ¬ 79 + 4 * i = 118 by omega, show ¬ 80 + 4 * i = 118 by omega, show ¬ 81 + 4 * i = 118 by omega]
    simpa using q
  · simp [yw_1]
  · have hi : (i : Int) < n := by simpa [yw_1] using hi
    have q := t6 i (show (i : Int) < τ.1 1 118 by omega)
    simp [yw_1, show ¬ 119 + 2 * i = 118 by omega, show ¬ 120 + 2 * i = 118 by omega]
    simpa using q
  · simp [yw_1]
    simpa using d0
  · simp [yw_1]
    simpa using d1
  · simp [yw_1]
    simpa using d2
  · simp [yw_1]
    simpa using d3
  · have q := g1 i hi
    simp [yw_1, show ¬ 7 + i = 118 by omega, show ¬ 14 + i = 118 by omega, show ¬ 21 + i = 118 by omega, show ¬ 28 + i = 118 by omega, show ¬ 35 + i = 118 by omega]
    simpa using q
  · simp [yw_1]
    simpa using g2
  · have g2 : 0 ≤ τ.1 1 77 ∧ τ.1 1 77 ≤ 10 := g2
    have hi : (i : Int) < τ.1 1 77 := by simpa [yw_1] using hi
    have q := g3 i hi
    simp [yw_1, show ¬ 78 + 4 * i = 118 by omega, show ¬ 79 + 4 * i = 118 by omega, show ¬ 80 + 4 * i = 118 by omega, show ¬ 81 + 4 * i = 118 by omega]
    simpa using q
  · have g4 : 0 ≤ τ.1 1 118 ∧ τ.1 1 118 ≤ 4 := g4
    simp [yw_1]
    omega
  · have hi : (i : Int) < n := by simpa [yw_1] using hi
    have q := g5 i (show (i : Int) < τ.1 1 118 by omega)
    simp [yw_1, show ¬ 119 + 2 * i = 118 by omega, show ¬ 120 + 2 * i = 118 by omega]
    simpa using q
  · simp [yw_1]
    simpa using g6.1
  · simp [yw_1]
    simpa using g6.2
theorem p_drop {N : Nat} {σ τ : yS} {w n : Int} (H : yRN σ τ) : ∃ (a : Int) (σ' τ' : yS), f_X7_drop N σ w n = some (a, σ') ∧ f_X8_drop N τ w n = some (a, τ') ∧ yRN σ' τ' ∧ yFs σ σ' ∧ yFo τ τ' := by
  have H0 := H
  obtain ⟨-, -, -, ⟨-, -, ⟨t3, -⟩, ⟨t5, -⟩, -, t7⟩, -⟩ := H0
  have t3 : σ.1 (σ.2 17 11) 0 = τ.1 1 77 := t3
  have t5 : σ.1 35 0 = τ.1 1 118 := t5
  simp only [f_X7_drop, f_X7_drop_b38, f_X7_drop_b79, f_X8_drop, f_X8_drop_b11, f_X8_drop_b47, f_X8_drop_b48, f_X8_becomes, x7_within, x8_in, ycP_eq, ycP_ne, yin_d]
  by_cases h0 : w = 0
  · subst h0
    by_cases hn : 0 ≤ n ∧ n ≤ τ.1 1 77
    · exact ⟨τ.1 1 77, yw σ (σ.2 17 11) 0 n, yw τ 1 77 n, by simp [hn, t3], by simp [hn], yRN_dropv H hn, (by repeat (first | exact yFs_r | refine yFs_w ?_ (by omega))), (by repeat (first | exact yFo_r | refine yFo_w ?_ (by omega)))⟩
    · exact ⟨-1, σ, τ, by simp [hn, t3], by simp [hn], H, yFs_r, yFo_r⟩
  by_cases h1 : w = 1
  · subst h1
    by_cases hn : 0 ≤ n ∧ n ≤ τ.1 1 118
    · exact ⟨τ.1 1 118, yw σ 35 0 n, yw τ 1 118 n, by simp [hn, t5], by simp [hn], yRN_dropw H hn, (by repeat (first | exact yFs_r | refine yFs_w ?_ (by omega))), (by repeat (first | exact yFo_r | refine yFo_w ?_ (by omega)))⟩
    · exact ⟨-1, σ, τ, by simp [hn, t5], by simp [hn], H, yFs_r, yFo_r⟩
  · have hw : ¬ (0 ≤ w ∧ w ≤ 1) := by omega
    exact ⟨-1, σ, τ, by simp [hw], by simp [hw, h0], H, yFs_r, yFo_r⟩
theorem p_want {N : Nat} {σ τ : yS} {i w : Int} (H : yRN σ τ) : ∃ a : Int, f_X7_want N σ i w = some (a, σ) ∧ f_X8_want N τ i w = some (a, τ) := by
  obtain ⟨-, -, -, ⟨-, -, -, ⟨t5, t6⟩, -⟩, ⟨-, -, -, -, g4, -⟩⟩ := H
  have t5 : σ.1 35 0 = τ.1 1 118 := t5
  have g4 : 0 ≤ τ.1 1 118 ∧ τ.1 1 118 ≤ 4 := g4
  have e : ysu (τ.1 1 118) 1 = τ.1 1 118 - 1 := ysu_e (by omega) (by omega)
  simp only [f_X7_want, f_X8_want, f_X8_want_b45, f_X8_want_b46, x7_within, x8_in, ycP_eq, ycP_ne, yin_d, yeq_d, t5, e]
  by_cases hi : 0 ≤ i ∧ i ≤ τ.1 1 118 - 1
  · obtain ⟨n, rfl⟩ : ∃ n : Nat, i = (n : Int) := ⟨i.toNat, by omega⟩
    obtain ⟨q1, q2⟩ := t6 n (show (n : Int) < τ.1 1 118 by omega)
    have q1 : σ.1 36 n = τ.1 1 (119 + 2 * n) := q1
    have q2 : σ.1 37 n = τ.1 1 (120 + 2 * n) := q2
    have em : ymu 2 (n : Int) = 2 * (n : Int) := ymu_e (by omega) (by omega)
    have ea : yad 119 (2 * (n : Int)) = 119 + 2 * (n : Int) := yad_e (by omega) (by omega)
    by_cases w0 : w = 0
    · subst w0
      have eb : yad (119 + 2 * (n : Int)) 0 = 119 + 2 * (n : Int) := by rw [yad_e (by omega) (by omega)]; omega
      have ec : (119 + 2 * (n : Int)).toNat = 119 + 2 * n := by omega
      exact ⟨τ.1 1 (119 + 2 * n), by simp [hi, show (n : Int) < 4 by omega, q1], by simp [hi, em, ea, eb, ec, show (0 : Int) ≤ 119 + 2 * n by omega, show (119 : Int) + 2 * n < 393 by omega]⟩
    by_cases w1 : w = 1
    · subst w1
      have eb : yad (119 + 2 * (n : Int)) 1 = 120 + 2 * (n : Int) := by rw [yad_e (by omega) (by omega)]; omega
      have ec : (120 + 2 * (n : Int)).toNat = 120 + 2 * n := by omega
      exact ⟨τ.1 1 (120 + 2 * n), by simp [hi, show (n : Int) < 4 by omega, q2], by simp [hi, em, ea, eb, ec, show (0 : Int) ≤ 120 + 2 * n by omega, show (120 : Int) + 2 * n < 393 by omega]⟩
    · have hw : ¬ (0 ≤ w ∧ w ≤ 1) := by omega
      exact ⟨-1, by simp [hi, w0, w1], by simp [hi, hw]⟩
  · exact ⟨-1, by simp [hi], by simp [hi]⟩
