theorem yRN_purse {σ τ : yS} (H : yRN σ τ) {h : Nat} (hh : h < 7) (v : Int) : yRN (yw σ 19 h v) (yw τ 1 h v) := by
  obtain ⟨⟨a0, a1, a2, a3⟩, f0, ⟨e0, e1, e2, b0, b1, b2, hc⟩, ⟨t1, t2, ⟨t3, t4⟩, ⟨t5, t6⟩, ⟨d0, d1, d2, d3⟩, t7⟩, ⟨g0, g1, g2, g3, g4, g5, g6⟩⟩ := H
  have hv : ¬ σ.2 17 11 = 19 ∧ ¬ σ.2 17 11 + 1 = 19 ∧ ¬ σ.2 17 11 + 2 = 19 ∧ ¬ σ.2 17 11 + 3 = 19 ∧ ¬ σ.2 17 11 + 4 = 19 := by omega
  refine ⟨⟨by simpa [yw_1] using a0, by simpa [yw_1] using a1, by simpa [yw_1] using a2, fun j hj => ?_⟩, by simpa [yw_1] using f0, ⟨by simpa [yw_1] using e0, by simpa [yw_1] using e1, by simpa [yw_1] using e2, by simpa [yw_1] using b0, by simpa [yw_1] using b1, by simpa [yw_1] using b2, fun d hd => ?_⟩, ⟨fun i hi => ?_, fun j hj => ?_, ⟨?_, fun i hi => ?_⟩, ⟨?_, fun i hi => ?_⟩, ⟨?_, ?_, ?_, ?_⟩, t7⟩, ⟨by simpa [yw_1] using g0, fun i hi => ?_, ?_, fun i hi => ?_, ?_, fun i hi => ?_, ?_, ?_⟩⟩
  · have q := a3 j (by simpa [yw_1] using hj)
    simpa [yw_1] using q
  · have q := hc d (by simpa [yw_1] using hd)
    simpa [yw_1] using q
  · have q := t1 i hi
    have z1 : ¬ 7 + i = h := by omega
    have z2 : ¬ 14 + i = h := by omega
    have z3 : ¬ 21 + i = h := by omega
    have z4 : ¬ 28 + i = h := by omega
    have z5 : ¬ 35 + i = h := by omega
    by_cases hi2 : i = h
    · simp [yw_1, yw_2, hi2] at q z1 z2 z3 z4 z5 ⊢
      simp_all
    · simp [yw_1, yw_2, hi2, z1, z2, z3, z4, z5]
      simpa using q
  · have q := t2 j hj
    simp [yw_1, show ¬ 42 + j = h by omega]
    simpa using q
  · simp [yw_1, yw_2, hv, show ¬ 77 = h by omega]
    simpa using t3
  · have q := t4 i (by simpa [yw_1, show ¬ 77 = h by omega] using hi)
    simp [yw_1, yw_2, hv, show ¬ 78 + 4 * i = h by omega, show ¬ 79 + 4 * i = h by omega, show ¬ 80 + 4 * i = h by omega, show ¬ 81 + 4 * i = h by omega]
    simpa using q
  · simp [yw_1, show ¬ 118 = h by omega]
    simpa using t5
  · have q := t6 i (by simpa [yw_1, show ¬ 118 = h by omega] using hi)
    simp [yw_1, show ¬ 119 + 2 * i = h by omega, show ¬ 120 + 2 * i = h by omega]
    simpa using q
  · simp [yw_1, show ¬ 127 = h by omega]
    simpa using d0
  · simp [yw_1, show ¬ 128 = h by omega]
    simpa using d1
  · simp [yw_1, show ¬ 129 = h by omega]
    simpa using d2
  · simp [yw_1, show ¬ 130 = h by omega]
    simpa using d3
  · have q := g1 i hi
    simp [yw_1, show ¬ 7 + i = h by omega, show ¬ 14 + i = h by omega, show ¬ 21 + i = h by omega, show ¬ 28 + i = h by omega, show ¬ 35 + i = h by omega]
    simpa using q
  · simp [yw_1, show ¬ 77 = h by omega]
    simpa using g2
  · have q := g3 i (by simpa [yw_1, show ¬ 77 = h by omega] using hi)
    simp [yw_1, show ¬ 78 + 4 * i = h by omega, show ¬ 79 + 4 * i = h by omega, show ¬ 80 + 4 * i = h by omega, show ¬ 81 + 4 * i = h by omega]
    simpa using q
  · simp [yw_1, show ¬ 118 = h by omega]
    simpa using g4
  · have q := g5 i (by simpa [yw_1, show ¬ 118 = h by omega] using hi)
    simp [yw_1, show ¬ 119 + 2 * i = h by omega, show ¬ 120 + 2 * i = h by omega]
    simpa using q
  · simp [yw_1, show ¬ 127 = h by omega]
    simpa using g6.1
  · simp [yw_1, show ¬ 127 = h by omega]
    simpa using g6.2
theorem p_fund {N : Nat} {σ τ : yS} {h v : Int} (H : yRN σ τ) : ∃ (a : Int) (σ' τ' : yS), f_X7_fund N σ h v = some (a, σ') ∧ f_X8_fund N τ h v = some (a, τ') ∧ yRN σ' τ' ∧ yFs σ σ' ∧ yFo τ τ' := by
  have H0 := H
  obtain ⟨-, -, ⟨e0, e1, e2, b0, b1, b2, hc⟩, ⟨t1, -⟩, -⟩ := H0
  simp only [f_X7_fund, f_X7_fund_b21, f_X8_fund, f_X8_fund_b31, f_X8_fund_b32, f_X8_becomes, x4_isHouse (show 2 ≤ σ.1 17 0 ∧ σ.1 17 0 ≤ 7 by rw [e0]; exact b0), x8_isHouse b0, x7_within, x8_in, ycP_eq, ycP_ne, yin_d, e0]
  by_cases hh : 0 ≤ h ∧ h < τ.1 0 3
  · by_cases hv : 0 ≤ v ∧ v ≤ 99
    · have e : yad 0 h = h := by rw [yad_e (by omega) (by omega)]; omega
      have q := (t1 h.toNat (by omega)).1
      refine ⟨τ.1 1 h.toNat, yw σ 19 h.toNat v, yw τ 1 h.toNat v, ?_, ?_, yRN_purse H (by omega) v, (by repeat (first | exact yFs_r | refine yFs_w ?_ (by omega))), (by repeat (first | exact yFo_r | refine yFo_w ?_ (by omega)))⟩
      · have q : σ.1 19 h.toNat = τ.1 1 h.toNat := q
        simp [hh, hv, show h < 7 by omega, q]
      · simp [hh, hv, e, show h < 393 by omega]
    · exact ⟨-1, σ, τ, by simp [hh, hv], by simp [hh, hv], H, yFs_r, yFo_r⟩
  · exact ⟨-1, σ, τ, by simp [hh], by simp [hh], H, yFs_r, yFo_r⟩
