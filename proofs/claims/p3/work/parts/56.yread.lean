theorem p_vow {N : Nat} {σ τ : yS} {i w : Int} (H : yRN σ τ) : ∃ a : Int, f_X7_vow N σ i w = some (a, σ) ∧ f_X8_vow N τ i w = some (a, τ) := by
  obtain ⟨-, -, -, ⟨-, -, ⟨t3, t4⟩, -⟩, ⟨-, -, g2, -⟩⟩ := H
  have t3 : σ.1 (σ.2 17 11) 0 = τ.1 1 77 := t3
  have g2 : 0 ≤ τ.1 1 77 ∧ τ.1 1 77 ≤ 10 := g2
  have e : ysu (τ.1 1 77) 1 = τ.1 1 77 - 1 := ysu_e (by omega) (by omega)
  simp only [f_X7_vow, f_X8_vow, f_X8_vow_b47, f_X8_vow_b48, x7_within, x8_in, ycP_eq, ycP_ne, yin_d, yeq_d, t3, e]
  by_cases hi : 0 ≤ i ∧ i ≤ τ.1 1 77 - 1
  · obtain ⟨n, rfl⟩ : ∃ n : Nat, i = (n : Int) := ⟨i.toNat, by omega⟩
    obtain ⟨q1, q2, q3, q4⟩ := t4 n (show (n : Int) < τ.1 1 77 by omega)
    dsimp only at q1 q2 q3 q4
    have em : ymu 4 (n : Int) = 4 * (n : Int) := ymu_e (by omega) (by omega)
    have ea : yad 78 (4 * (n : Int)) = 78 + 4 * (n : Int) := yad_e (by omega) (by omega)
    have h10 : (n : Int) < 10 := by omega
    by_cases w0 : w = 0
    · subst w0
      have eb : yad (78 + 4 * (n : Int)) 0 = 78 + 4 * (n : Int) := by rw [yad_e (by omega) (by omega)]; omega
      have ec : (78 + 4 * (n : Int)).toNat = 78 + 4 * n := by omega
      exact ⟨τ.1 1 (78 + 4 * n), by simp [hi, h10, q1], by simp [hi, em, ea, eb, ec, show (0 : Int) ≤ 78 + 4 * n by omega, show (78 : Int) + 4 * n < 393 by omega]⟩
    by_cases w1 : w = 1
    · subst w1
      have eb : yad (78 + 4 * (n : Int)) 1 = 79 + 4 * (n : Int) := by rw [yad_e (by omega) (by omega)]; omega
      have ec : (79 + 4 * (n : Int)).toNat = 79 + 4 * n := by omega
      exact ⟨τ.1 1 (79 + 4 * n), by simp [hi, h10, q2], by simp [hi, em, ea, eb, ec, show (0 : Int) ≤ 79 + 4 * n by omega, show (79 : Int) + 4 * n < 393 by omega]⟩
    by_cases w2 : w = 2
    · subst w2
      have eb : yad (78 + 4 * (n : Int)) 2 = 80 + 4 * (n : Int) := by rw [yad_e (by omega) (by omega)]; omega
      have ec : (80 + 4 * (n : Int)).toNat = 80 + 4 * n := by omega
      exact ⟨τ.1 1 (80 + 4 * n), by simp [hi, h10, q3], by simp [hi, em, ea, eb, ec, show (0 : Int) ≤ 80 + 4 * n by omega, show (80 : Int) + 4 * n < 393 by omega]⟩
    by_cases w3 : w = 3
    · subst w3
      have eb : yad (78 + 4 * (n : Int)) 3 = 81 + 4 * (n : Int) := by rw [yad_e (by omega) (by omega)]; omega
      have ec : (81 + 4 * (n : Int)).toNat = 81 + 4 * n := by omega
      exact ⟨τ.1 1 (81 + 4 * n), by simp [hi, h10, q4], by simp [hi, em, ea, eb, ec, show (0 : Int) ≤ 81 + 4 * n by omega, show (81 : Int) + 4 * n < 393 by omega]⟩
    · have hw : ¬ (0 ≤ w ∧ w ≤ 3) := by omega
      exact ⟨-1, by simp [hi, w0, w1, w2, w3], by simp [hi, hw]⟩
  · exact ⟨-1, by simp [hi], by simp [hi]⟩
theorem ysu_10 {w : Int} (hw : yI w) : (10 ≤ w → ysu w 10 = w - 10) ∧ (w < 10 → ysu w 10 < 0 ∨ 5 ≤ ysu w 10) := by
  obtain ⟨h1, h2⟩ := hw
  constructor
  · intro h
    exact ysu_e (by omega) (by omega)
  · intro h
    by_cases q : -2147483648 ≤ w - 10
    · rw [ysu_e q (by omega)]
      omega
    · have e : ysu w 10 = w - 10 + 4294967296 := by
        unfold ysu
        rw [zq_subW, ← (zq_per (w - 10)).1, zq_of (by omega) (by omega)]
      omega
theorem p_house {N : Nat} {σ τ : yS} {h w : Int} (hw : yI w) (H : yRN σ τ) : ∃ a : Int, f_X7_house N σ h w = some (a, σ) ∧ f_X8_house N τ h w = some (a, τ) := by
  obtain ⟨-, -, ⟨e0, e1, e2, b0, b1, b2, hc⟩, ⟨t1, t2, -⟩, -⟩ := H
  have es : ysu (yad 10 (τ.1 0 5)) 1 = τ.1 0 5 + 9 := by
    rw [yad_e (by omega) (by omega), ysu_e (by omega) (by omega)]
    omega
  simp only [f_X7_house, f_X7_bit, f_X7_doneAt, f_X8_house, f_X8_house_b65, x4_isHouse (show 2 ≤ σ.1 17 0 ∧ σ.1 17 0 ≤ 7 by rw [e0]; exact b0), x8_isHouse b0, x8_isDeed b2, x7_within, x8_in, ycP_eq, ycP_ne, yin_d, yeq_d, e0, e2, es]
  by_cases hh : 0 ≤ h ∧ h < τ.1 0 3
  · obtain ⟨n, rfl⟩ : ∃ n : Nat, h = (n : Int) := ⟨h.toNat, by omega⟩
    obtain ⟨q0, q1, q2, q3, q4, q5⟩ := t1 n (by omega)
    dsimp only at q0 q1 q2 q3 q4 q5
    have h7 : (n : Int) < 7 := by omega
    by_cases w5 : 0 ≤ w ∧ w ≤ 5
    · have em : ymu 7 w = 7 * w := ymu_e (by omega) (by omega)
      have ea : yad (7 * w) (n : Int) = 7 * w + (n : Int) := yad_e (by omega) (by omega)
      refine ⟨τ.1 1 (7 * w + (n : Int)).toNat, ?_, ?_⟩
      · have : w = 0 ∨ w = 1 ∨ w = 2 ∨ w = 3 ∨ w = 4 ∨ w = 5 := by omega
        rcases this with r | r | r | r | r | r <;> subst r
        · simp [hh, h7, q0]
        · simp [hh, h7, q1, show ((7 : Int) + n).toNat = 7 + n by omega]
        · simp [hh, h7, q2, show ((14 : Int) + n).toNat = 14 + n by omega]
        · simp [hh, h7, q3, show ((21 : Int) + n).toNat = 21 + n by omega]
        · simp [hh, h7, q4, show ((28 : Int) + n).toNat = 28 + n by omega]
        · simp [hh, h7, q5, show ((35 : Int) + n).toNat = 35 + n by omega]
      · simp [hh, w5, em, ea, show 0 ≤ 7 * w + (n : Int) by omega, show 7 * w + (n : Int) < 393 by omega]
    · have z : ¬ w = 0 ∧ ¬ w = 1 ∧ ¬ w = 2 ∧ ¬ w = 3 ∧ ¬ w = 4 ∧ ¬ w = 5 := by omega
      by_cases wd : 10 ≤ w ∧ w ≤ τ.1 0 5 + 9
      · have s1 := (ysu_10 hw).1 wd.1
        have em : ymu (n : Int) 5 = 5 * (n : Int) := by rw [ymu_e (by omega) (by omega)]; omega
        have em2 : ymu 5 (n : Int) = 5 * (n : Int) := ymu_e (by omega) (by omega)
        have ea : yad (5 * (n : Int)) (w - 10) = 5 * (n : Int) + (w - 10) := yad_e (by omega) (by omega)
        have eb : ysu (yad (yad 42 (5 * (n : Int))) w) 10 = 42 + 5 * (n : Int) + (w - 10) := by
          rw [yad_e (a := 42) (by omega) (by omega), yad_e (by omega) (by omega), ysu_e (by omega) (by omega)]
          omega
        have q := t2 (5 * (n : Int) + (w - 10)).toNat (by omega)
        dsimp only at q
        have ec : (42 + 5 * (n : Int) + (w - 10)).toNat = 42 + (5 * (n : Int) + (w - 10)).toNat := by omega
        refine ⟨τ.1 1 (42 + (5 * (n : Int) + (w - 10)).toNat), ?_, ?_⟩
        · simp [hh, z, wd, s1, em, ea, q, show 0 ≤ 5 * (n : Int) + (w - 10) by omega, show 5 * (n : Int) + (w - 10) < 35 by omega]
        · simp [hh, w5, s1, em2, eb, ec, show ¬ w < 10 by omega, show 0 ≤ w - 10 by omega, show w - 10 < τ.1 0 5 by omega, show 0 ≤ 42 + 5 * (n : Int) + (w - 10) by omega, show 42 + 5 * (n : Int) + (w - 10) < 393 by omega]
      · have nd : ¬ (0 ≤ ysu w 10 ∧ ysu w 10 < τ.1 0 5) := by
          by_cases c : 10 ≤ w
          · rw [(ysu_10 hw).1 c]
            omega
          · have := (ysu_10 hw).2 (by omega)
            omega
        exact ⟨-1, by simp [hh, z, wd], by simp [hh, w5, nd]⟩
  · exact ⟨-1, by simp [hh], by simp [hh]⟩
