theorem yRN_wish {σ τ : yS} (H : yRN σ τ) {m : Nat} (hm : τ.1 1 118 = (m : Int)) (h4 : m < 4) {h d : Int} (hh : 0 ≤ h ∧ h < τ.1 0 3) (hd : 0 ≤ d ∧ d < τ.1 0 5) : yRN (yw (yw (yw σ 36 m h) 37 m d) 35 0 ((m : Int) + 1)) (yw (yw (yw τ 1 (119 + 2 * m) h) 1 (120 + 2 * m) d) 1 118 ((m : Int) + 1)) := by
  obtain ⟨⟨a0, a1, a2, a3⟩, f0, ⟨e0, e1, e2, b0, b1, b2, hc⟩, ⟨t1, t2, ⟨t3, t4⟩, ⟨t5, t6⟩, ⟨d0, d1, d2, d3⟩, t7⟩, ⟨g0, g1, g2, g3, g4, g5, g6⟩⟩ := H
  have hv : (¬ σ.2 17 11 = 35 ∧ ¬ σ.2 17 11 + 1 = 35 ∧ ¬ σ.2 17 11 + 2 = 35 ∧ ¬ σ.2 17 11 + 3 = 35 ∧ ¬ σ.2 17 11 + 4 = 35) ∧ (¬ σ.2 17 11 = 36 ∧ ¬ σ.2 17 11 + 1 = 36 ∧ ¬ σ.2 17 11 + 2 = 36 ∧ ¬ σ.2 17 11 + 3 = 36 ∧ ¬ σ.2 17 11 + 4 = 36) ∧ (¬ σ.2 17 11 = 37 ∧ ¬ σ.2 17 11 + 1 = 37 ∧ ¬ σ.2 17 11 + 2 = 37 ∧ ¬ σ.2 17 11 + 3 = 37 ∧ ¬ σ.2 17 11 + 4 = 37) := by omega
  have low : ∀ k : Nat, k < 118 → (yw (yw (yw τ 1 (119 + 2 * m) h) 1 (120 + 2 * m) d) 1 118 ((m : Int) + 1)).1 1 k = τ.1 1 k := fun k hk => by
    simp [yw_1, show ¬ k = 118 by omega, show ¬ k = 119 + 2 * m by omega, show ¬ k = 120 + 2 * m by omega]
  have hig : ∀ k : Nat, 127 ≤ k → (yw (yw (yw τ 1 (119 + 2 * m) h) 1 (120 + 2 * m) d) 1 118 ((m : Int) + 1)).1 1 k = τ.1 1 k := fun k hk => by
    simp [yw_1, show ¬ k = 118 by omega, show ¬ k = 119 + 2 * m by omega, show ¬ k = 120 + 2 * m by omega]
  have mid : (yw (yw (yw τ 1 (119 + 2 * m) h) 1 (120 + 2 * m) d) 1 118 ((m : Int) + 1)).1 1 118 = (m : Int) + 1 := by simp [yw_1]
  have ent : ∀ i : Nat, i < m + 1 → (yw (yw (yw τ 1 (119 + 2 * m) h) 1 (120 + 2 * m) d) 1 118 ((m : Int) + 1)).1 1 (119 + 2 * i) = (if i = m then h else τ.1 1 (119 + 2 * i)) ∧ (yw (yw (yw τ 1 (119 + 2 * m) h) 1 (120 + 2 * m) d) 1 118 ((m : Int) + 1)).1 1 (120 + 2 * i) = (if i = m then d else τ.1 1 (120 + 2 * i)) := fun i hi => by
    by_cases hq : i = m
    · subst hq
      simp [yw_1, show ¬ 119 + 2 * i = 118 by omega, show ¬ 120 + 2 * i = 118 by omega, show ¬ 119 + 2 * i = 120 + 2 * i by omega]
    · simp [yw_1, hq, show ¬ 119 + 2 * i = 118 by omega, show ¬ 120 + 2 * i = 118 by omega, show ¬ 119 + 2 * i = 120 + 2 * m by omega, show ¬ 120 + 2 * i = 119 + 2 * m by omega, show ¬ 2 * i = 2 * m by omega]
  have g2 : 0 ≤ τ.1 1 77 ∧ τ.1 1 77 ≤ 10 := g2
  refine ⟨⟨by simpa [yw_1] using a0, by simpa [yw_1] using a1, by simpa [yw_1] using a2, fun j hj => ?_⟩, by simpa [yw_1] using f0, ⟨by simpa [yw_1] using e0, by simpa [yw_1] using e1, by simpa [yw_1] using e2, by simpa [yw_1] using b0, by simpa [yw_1] using b1, by simpa [yw_1] using b2, fun d hd => ?_⟩, ⟨fun i hi => ?_, fun j hj => ?_, ⟨?_, fun i hi => ?_⟩, ⟨?_, fun i hi => ?_⟩, ⟨?_, ?_, ?_, ?_⟩, t7⟩, ⟨by simpa [yw_1] using g0, fun i hi => ?_, ?_, fun i hi => ?_, ?_, fun i hi => ?_, ?_, ?_⟩⟩
  · have q := a3 j (by simpa [yw_1] using hj)
    simpa [yw_1] using q
  · have q := hc d (by simpa [yw_1] using hd)
    simpa [yw_1] using q
  · have q := t1 i hi
    dsimp only at q ⊢
    rw [low i (by omega), low (7 + i) (by omega), low (14 + i) (by omega), low (21 + i) (by omega), low (28 + i) (by omega), low (35 + i) (by omega)]
    simpa [yw_1] using q
  · have q := t2 j hj
    dsimp only at q ⊢
    rw [low (42 + j) (by omega)]
    simpa [yw_1] using q
  · dsimp only at t3 ⊢
    rw [low 77 (by omega)]
    simpa [yw_1, yw_2, hv] using t3
  · dsimp only at hi
    rw [low 77 (by omega)] at hi
    have q := t4 i hi
    dsimp only at q ⊢
    rw [low (78 + 4 * i) (by omega), low (79 + 4 * i) (by omega), low (80 + 4 * i) (by omega), low (81 + 4 * i) (by omega)]
    simpa [yw_1, yw_2, hv] using q
  · dsimp only
    rw [mid]
    simp [yw_1]
  · dsimp only at hi ⊢
    rw [mid] at hi
    have hi2 : i < m + 1 := by omega
    rw [(ent i hi2).1, (ent i hi2).2]
    by_cases hq : i = m
    · subst hq
      simp [yw_1]
    · have q := t6 i (show (i : Int) < τ.1 1 118 by omega)
      simp [yw_1, hq]
      simpa using q
  · dsimp only at d0 ⊢
    rw [hig 127 (by omega)]
    simpa [yw_1] using d0
  · dsimp only at d1 ⊢
    rw [hig 128 (by omega)]
    simpa [yw_1] using d1
  · dsimp only at d2 ⊢
    rw [hig 129 (by omega)]
    simpa [yw_1] using d2
  · dsimp only at d3 ⊢
    rw [hig 130 (by omega)]
    simpa [yw_1] using d3
  · have q := g1 i hi
    dsimp only at q ⊢
    rw [low (7 + i) (by omega), low (14 + i) (by omega), low (21 + i) (by omega), low (28 + i) (by omega), low (35 + i) (by omega)]
    exact q
  · dsimp only
    rw [low 77 (by omega)]
    exact g2
  · dsimp only at hi
    rw [low 77 (by omega)] at hi
    have q := g3 i hi
    dsimp only at q ⊢
    rw [low (78 + 4 * i) (by omega), low (79 + 4 * i) (by omega), low (80 + 4 * i) (by omega), low (81 + 4 * i) (by omega)]
    simpa [yw_1] using q
  · dsimp only
    rw [mid]
    omega
  · dsimp only at hi ⊢
    rw [mid] at hi
    have hi2 : i < m + 1 := by omega
    rw [(ent i hi2).1, (ent i hi2).2]
    by_cases hq : i = m
    · simp [yw_1, hq, hh, hd]
    · have q := g5 i (show (i : Int) < τ.1 1 118 by omega)
      simp [yw_1, hq]
      simpa using q
  · dsimp only
    rw [hig 127 (by omega)]
    exact g6.1
  · dsimp only
    rw [hig 127 (by omega)]
    exact g6.2
theorem p_wish {N : Nat} {σ τ : yS} {h d : Int} (H : yRN σ τ) : ∃ (a : Int) (σ' τ' : yS), f_X7_wish N σ h d = some (a, σ') ∧ f_X8_wish N τ h d = some (a, τ') ∧ yRN σ' τ' ∧ yFs σ σ' ∧ yFo τ τ' := by
  have H0 := H
  obtain ⟨-, -, ⟨e0, e1, e2, b0, b1, b2, hc⟩, ⟨-, -, -, ⟨t5, -⟩, -⟩, ⟨-, -, -, -, g4, -⟩⟩ := H0
  have t5 : σ.1 35 0 = τ.1 1 118 := t5
  have g4 : 0 ≤ τ.1 1 118 ∧ τ.1 1 118 ≤ 4 := g4
  simp only [f_X7_wish, f_X7_wish_b22, f_X7_wish_b54, f_X6_append, f_X6_append_b25, f_X6_append_b32, f_X8_wish, f_X8_wish_b16, f_X8_wish_b63, f_X8_wish_b77, f_X8_wish_b87, x4_isHouse (show 2 ≤ σ.1 17 0 ∧ σ.1 17 0 ≤ 7 by rw [e0]; exact b0), x8_isHouse b0, x4_isDeed (show 0 ≤ σ.1 17 2 ∧ σ.1 17 2 ≤ 5 by rw [e2]; exact b2), x8_isDeed b2, ycP_eq, ycP_ne, ycP_lt, yin_d, e0, e2]
  by_cases hh : 0 ≤ h ∧ h < τ.1 0 3
  · by_cases hd : 0 ≤ d ∧ d < τ.1 0 5
    · by_cases hf : τ.1 1 118 = 4
      · exact ⟨-3, σ, τ, by simp [hh, hd, t5, hf], by simp [hh, hd, hf], H, yFs_r, yFo_r⟩
      · obtain ⟨m, hm⟩ : ∃ m : Nat, τ.1 1 118 = (m : Int) := ⟨(τ.1 1 118).toNat, by omega⟩
        have h4 : m < 4 := by omega
        have em : ymu 2 (m : Int) = 2 * (m : Int) := ymu_e (by omega) (by omega)
        have ea : yad 119 (2 * (m : Int)) = 119 + 2 * (m : Int) := yad_e (by omega) (by omega)
        have eb : yad (119 + 2 * (m : Int)) 1 = 120 + 2 * (m : Int) := by rw [yad_e (by omega) (by omega)]; omega
        have ec : (119 + 2 * (m : Int)).toNat = 119 + 2 * m := by omega
        have ed : (120 + 2 * (m : Int)).toNat = 120 + 2 * m := by omega
        have ee : yad (m : Int) 1 = (m : Int) + 1 := yad_e (by omega) (by omega)
        refine ⟨(m : Int) + 1, _, _, ?_, ?_, yRN_wish H hm h4 hh hd, (by repeat (first | exact yFs_r | refine yFs_w ?_ (by omega))), (by repeat (first | exact yFo_r | refine yFo_w ?_ (by omega)))⟩
        · simp [hh, hd, t5, hm, h4, yw_1, ee, show (m : Int) < 4 by omega]
        · simp [hh, hd, hm, em, ea, eb, ec, ed, ee, yw_1, show ¬ (m : Int) = 4 by omega, show (0 : Int) ≤ 119 + 2 * m by omega, show (119 : Int) + 2 * m < 393 by omega, show (0 : Int) ≤ 120 + 2 * m by omega, show (120 : Int) + 2 * m < 393 by omega, show ¬ 118 = 119 + 2 * m by omega, show ¬ 118 = 120 + 2 * m by omega]
    · exact ⟨-1, σ, τ, by simp [hh, hd], by simp [hh, hd], H, yFs_r, yFo_r⟩
  · exact ⟨-1, σ, τ, by simp [hh], by simp [hh], H, yFs_r, yFo_r⟩
