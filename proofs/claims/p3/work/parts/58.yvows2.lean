theorem x7_isDepth {N : Nat} {σ : yS} {p : Int} : f_X7_isDepth N σ p = some (if (0 ≤ p ∧ p ≤ 3) ∨ p = 9 then 1 else 0, σ) := by
  simp only [f_X7_isDepth, f_X7_isDepth_b15, f_X7_isDepth_b20, x7_within, ycP_ne, yb1_d]
  by_cases h : 0 ≤ p ∧ p ≤ 3
  · simp [h]
  · by_cases h9 : p = 9
    · simp [h9]
    · simp [h, h9]
theorem x8_isDeep {N : Nat} {τ : yS} {p : Int} : f_X8_isDeep N τ p = some (if (0 ≤ p ∧ p ≤ 3) ∨ p = 9 then 1 else 0, τ) := by
  simp only [f_X8_isDeep, f_X8_isDeep_b18, f_X8_isDeep_b23, x8_in, ycP_ne, yb1_d]
  by_cases h : 0 ≤ p ∧ p ≤ 3
  · simp [h]
  · by_cases h9 : p = 9
    · simp [h9]
    · simp [h, h9]
theorem p_vows {N : Nat} {σ τ : yS} {h k p d : Int} (H : yRN σ τ) : ∃ (a : Int) (σ' τ' : yS), f_X7_vows N σ h k p d = some (a, σ') ∧ f_X8_vows N τ h k p d = some (a, τ') ∧ yRN σ' τ' ∧ yFs σ σ' ∧ yFo τ τ' ∧ τ.1 1 77 ≤ τ'.1 1 77 := by
  have H0 := H
  obtain ⟨-, -, ⟨e0, e1, e2, b0, b1, b2, hc⟩, ⟨-, -, ⟨t3, -⟩, -, -, t7⟩, ⟨-, -, g2, -⟩⟩ := H0
  have t3 : σ.1 (σ.2 17 11) 0 = τ.1 1 77 := t3
  have g2 : 0 ≤ τ.1 1 77 ∧ τ.1 1 77 ≤ 10 := g2
  obtain ⟨v, hvr⟩ : ∃ v : Nat, σ.2 17 11 = v := ⟨_, rfl⟩
  rw [hvr] at t3
  simp only [f_X7_vows, f_X7_vows_b37, f_X7_vows_b72, f_X5_append, f_X5_append_b26, f_X5_append_b36, f_X5_append_b46, f_X5_append_b54, f_X8_vows, f_X8_vows_b31, f_X8_vows_b108, f_X8_vows_b118, x7_isKind, x8_isKind, x7_isDepth, x8_isDeep, x4_isHouse (show 2 ≤ σ.1 17 0 ∧ σ.1 17 0 ≤ 7 by rw [e0]; exact b0), x8_isHouse b0, x4_isDeed (show 0 ≤ σ.1 17 2 ∧ σ.1 17 2 ≤ 5 by rw [e2]; exact b2), x8_isDeed b2, ycP_eq, ycP_ne, ycP_lt, yin_d, e0, e2, hvr]
  by_cases hh : 0 ≤ h ∧ h < τ.1 0 3
  · by_cases hk : 0 ≤ k ∧ k ≤ 4
    · by_cases hp : (0 ≤ p ∧ p ≤ 3) ∨ p = 9
      · by_cases hd : 0 ≤ d ∧ d < τ.1 0 5
        · by_cases hf : τ.1 1 77 = 10
          · exact ⟨-3, σ, τ, by simp [hh, hk, hp, hd, t3, hf], by simp [hh, hk, hp, hd, hf], H, yFs_r, yFo_r, Int.le_refl _⟩
          · obtain ⟨m, hm⟩ : ∃ m : Nat, τ.1 1 77 = (m : Int) := ⟨(τ.1 1 77).toNat, by omega⟩
            have h4 : m < 10 := by omega
            have em : ymu 4 (m : Int) = 4 * (m : Int) := ymu_e (by omega) (by omega)
            have ea : yad 78 (4 * (m : Int)) = 78 + 4 * (m : Int) := yad_e (by omega) (by omega)
            have eb1 : yad (78 + 4 * (m : Int)) 1 = 79 + 4 * (m : Int) := by rw [yad_e (by omega) (by omega)]; omega
            have eb2 : yad (78 + 4 * (m : Int)) 2 = 80 + 4 * (m : Int) := by rw [yad_e (by omega) (by omega)]; omega
            have eb3 : yad (78 + 4 * (m : Int)) 3 = 81 + 4 * (m : Int) := by rw [yad_e (by omega) (by omega)]; omega
            have ec : (78 + 4 * (m : Int)).toNat = 78 + 4 * m := by omega
            have ec1 : (79 + 4 * (m : Int)).toNat = 79 + 4 * m := by omega
            have ec2 : (80 + 4 * (m : Int)).toNat = 80 + 4 * m := by omega
            have ec3 : (81 + 4 * (m : Int)).toNat = 81 + 4 * m := by omega
            have ee : yad (m : Int) 1 = (m : Int) + 1 := yad_e (by omega) (by omega)
            refine ⟨(m : Int) + 1, _, _, ?_, ?_, yRN_vows H hvr hm h4 hh hk (show 0 ≤ p ∧ p ≤ 9 by omega) hd, (by repeat (first | exact yFs_r | refine yFs_w ?_ (by omega))), (by repeat (first | exact yFo_r | refine yFo_w ?_ (by omega))), ?_⟩
            · simp [hh, hk, hp, hd, t3, hm, h4, yw_1, yw_2, hvr, ee, show (m : Int) < 10 by omega]
            · simp [hh, hk, hp, hd, hm, em, ea, eb1, eb2, eb3, ec, ec1, ec2, ec3, ee, yw_1, show ¬ (m : Int) = 10 by omega, show (0 : Int) ≤ 78 + 4 * m by omega, show (78 : Int) + 4 * m < 393 by omega, show (0 : Int) ≤ 79 + 4 * m by omega, show (79 : Int) + 4 * m < 393 by omega, show (0 : Int) ≤ 80 + 4 * m by omega, show (80 : Int) + 4 * m < 393 by omega, show (0 : Int) ≤ 81 + 4 * m by omega, show (81 : Int) + 4 * m < 393 by omega, show ¬ 77 = 78 + 4 * m by omega, show ¬ 77 = 79 + 4 * m by omega, show ¬ 77 = 80 + 4 * m by omega, show ¬ 77 = 81 + 4 * m by omega]
            · rw [yw_1, if_pos ⟨rfl, rfl⟩, hm]
              omega
        · exact ⟨-1, σ, τ, by simp [hh, hk, hp, hd], by simp [hh, hk, hp, hd], H, yFs_r, yFo_r, Int.le_refl _⟩
      · exact ⟨-1, σ, τ, by simp [hh, hk, hp], by simp [hh, hk, hp], H, yFs_r, yFo_r, Int.le_refl _⟩
    · exact ⟨-1, σ, τ, by simp [hh, hk], by simp [hh, hk], H, yFs_r, yFo_r, Int.le_refl _⟩
  · exact ⟨-1, σ, τ, by simp [hh], by simp [hh], H, yFs_r, yFo_r, Int.le_refl _⟩
