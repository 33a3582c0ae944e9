theorem yRN_can {σ τ : yS} (H : yRN σ τ) {h : Nat} (hh : h < 7) {v : Int} (hr : 0 ≤ v ∧ v < 32) : yRN (yw σ 20 h v) (yw τ 1 (7 + h) v) := by
  obtain ⟨⟨a0, a1, a2, a3⟩, f0, ⟨e0, e1, e2, b0, b1, b2, hc⟩, ⟨t1, t2, ⟨t3, t4⟩, ⟨t5, t6⟩, ⟨d0, d1, d2, d3⟩, t7⟩, ⟨g0, g1, g2, g3, g4, g5, g6⟩⟩ := H
  have hv : ¬ σ.2 17 11 = 20 ∧ ¬ σ.2 17 11 + 1 = 20 ∧ ¬ σ.2 17 11 + 2 = 20 ∧ ¬ σ.2 17 11 + 3 = 20 ∧ ¬ σ.2 17 11 + 4 = 20 := by omega
  refine ⟨⟨by simpa [yw_1] using a0, by simpa [yw_1] using a1, by simpa [yw_1] using a2, fun j hj => ?_⟩, by simpa [yw_1] using f0, ⟨by simpa [yw_1] using e0, by simpa [yw_1] using e1, by simpa [yw_1] using e2, by simpa [yw_1] using b0, by simpa [yw_1] using b1, by simpa [yw_1] using b2, fun d hd => ?_⟩, ⟨fun i hi => ?_, fun j hj => ?_, ⟨?_, fun i hi => ?_⟩, ⟨?_, fun i hi => ?_⟩, ⟨?_, ?_, ?_, ?_⟩, t7⟩, ⟨by simpa [yw_1] using g0, fun i hi => ?_, ?_, fun i hi => ?_, ?_, fun i hi => ?_, ?_, ?_⟩⟩
  · have q := a3 j (by simpa [yw_1] using hj)
    simpa [yw_1] using q
  · have q := hc d (by simpa [yw_1] using hd)
    simpa [yw_1] using q
  · have q := t1 i hi
    have z0 : ¬ i = 7 + h := by omega
    have z1 : ¬ 14 + i = 7 + h := by omega
    have z2 : ¬ 21 + i = 7 + h := by omega
    have z3 : ¬ 28 + i = 7 + h := by omega
    have z4 : ¬ 35 + i = 7 + h := by omega
    by_cases hi2 : i = h
    · subst hi2
      simp [yw_1, yw_2, z0, z1, z2, z3, z4]
      simp at q
      simp [q]
    · simp [yw_1, yw_2, hi2, z0, z1, z2, z3, z4]
      simpa using q
  · have q := t2 j hj
    simp [yw_1, show ¬ 42 + j = 7 + h by omega]
    simpa using q
  · simp [yw_1, yw_2, hv, show ¬ 77 = 7 + h by omega]
    simpa using t3
  · have q := t4 i (by simpa [yw_1, show ¬ 77 = 7 + h by omega] using hi)
    simp [yw_1, yw_2, hv, show ¬ 78 + 4 * i = 7 + h by omega, show ¬ 79 + 4 * i = 7 + h by omega, show ¬ 80 + 4 * i = 7 + h by omega, show ¬ 81 + 4 * i = 7 + h by omega]
    simpa using q
  · simp [yw_1, show ¬ 118 = 7 + h by omega]
    simpa using t5
  · have q := t6 i (by simpa [yw_1, show ¬ 118 = 7 + h by omega] using hi)
    simp [yw_1, show ¬ 119 + 2 * i = 7 + h by omega, show ¬ 120 + 2 * i = 7 + h by omega]
    simpa using q
  · simp [yw_1, show ¬ 127 = 7 + h by omega]
    simpa using d0
  · simp [yw_1, show ¬ 128 = 7 + h by omega]
    simpa using d1
  · simp [yw_1, show ¬ 129 = 7 + h by omega]
    simpa using d2
  · simp [yw_1, show ¬ 130 = 7 + h by omega]
    simpa using d3
  · have q := g1 i hi
    have z0 : ¬ i = 7 + h := by omega
    have z1 : ¬ 14 + i = 7 + h := by omega
    have z2 : ¬ 21 + i = 7 + h := by omega
    have z3 : ¬ 28 + i = 7 + h := by omega
    have z4 : ¬ 35 + i = 7 + h := by omega
    by_cases hi2 : i = h
    · subst hi2
      simp [yw_1, z0, z1, z2, z3, z4]
      simp at q
      simp [q, hr]
    · simp [yw_1, hi2, z0, z1, z2, z3, z4]
      simpa using q
  · simp [yw_1, show ¬ 77 = 7 + h by omega]
    simpa using g2
  · have q := g3 i (by simpa [yw_1, show ¬ 77 = 7 + h by omega] using hi)
    simp [yw_1, show ¬ 78 + 4 * i = 7 + h by omega, show ¬ 79 + 4 * i = 7 + h by omega, show ¬ 80 + 4 * i = 7 + h by omega, show ¬ 81 + 4 * i = 7 + h by omega]
    simpa using q
  · simp [yw_1, show ¬ 118 = 7 + h by omega]
    simpa using g4
  · have q := g5 i (by simpa [yw_1, show ¬ 118 = 7 + h by omega] using hi)
    simp [yw_1, show ¬ 119 + 2 * i = 7 + h by omega, show ¬ 120 + 2 * i = 7 + h by omega]
    simpa using q
  · simp [yw_1, show ¬ 127 = 7 + h by omega]
    simpa using g6.1
  · simp [yw_1, show ¬ 127 = 7 + h by omega]
    simpa using g6.2
theorem yRN_kind {σ τ : yS} (H : yRN σ τ) {h : Nat} (hh : h < 7) {v : Int} (hr : 0 ≤ v ∧ v ≤ 4) : yRN (yw σ 21 h v) (yw τ 1 (21 + h) v) := by
  obtain ⟨⟨a0, a1, a2, a3⟩, f0, ⟨e0, e1, e2, b0, b1, b2, hc⟩, ⟨t1, t2, ⟨t3, t4⟩, ⟨t5, t6⟩, ⟨d0, d1, d2, d3⟩, t7⟩, ⟨g0, g1, g2, g3, g4, g5, g6⟩⟩ := H
  have hv : ¬ σ.2 17 11 = 21 ∧ ¬ σ.2 17 11 + 1 = 21 ∧ ¬ σ.2 17 11 + 2 = 21 ∧ ¬ σ.2 17 11 + 3 = 21 ∧ ¬ σ.2 17 11 + 4 = 21 := by omega
  refine ⟨⟨by simpa [yw_1] using a0, by simpa [yw_1] using a1, by simpa [yw_1] using a2, fun j hj => ?_⟩, by simpa [yw_1] using f0, ⟨by simpa [yw_1] using e0, by simpa [yw_1] using e1, by simpa [yw_1] using e2, by simpa [yw_1] using b0, by simpa [yw_1] using b1, by simpa [yw_1] using b2, fun d hd => ?_⟩, ⟨fun i hi => ?_, fun j hj => ?_, ⟨?_, fun i hi => ?_⟩, ⟨?_, fun i hi => ?_⟩, ⟨?_, ?_, ?_, ?_⟩, t7⟩, ⟨by simpa [yw_1] using g0, fun i hi => ?_, ?_, fun i hi => ?_, ?_, fun i hi => ?_, ?_, ?_⟩⟩
  · have q := a3 j (by simpa [yw_1] using hj)
    simpa [yw_1] using q
  · have q := hc d (by simpa [yw_1] using hd)
    simpa [yw_1] using q
  · have q := t1 i hi
    have z0 : ¬ i = 21 + h := by omega
    have z1 : ¬ 7 + i = 21 + h := by omega
    have z2 : ¬ 14 + i = 21 + h := by omega
    have z3 : ¬ 28 + i = 21 + h := by omega
    have z4 : ¬ 35 + i = 21 + h := by omega
    by_cases hi2 : i = h
    · subst hi2
      simp [yw_1, yw_2, z0, z1, z2, z3, z4]
      simp at q
      simp [q]
    · simp [yw_1, yw_2, hi2, z0, z1, z2, z3, z4]
      simpa using q
  · have q := t2 j hj
    simp [yw_1, show ¬ 42 + j = 21 + h by omega]
    simpa using q
  · simp [yw_1, yw_2, hv, show ¬ 77 = 21 + h by omega]
    simpa using t3
  · have q := t4 i (by simpa [yw_1, show ¬ 77 = 21 + h by omega] using hi)
    simp [yw_1, yw_2, hv, show ¬ 78 + 4 * i = 21 + h by omega, show ¬ 79 + 4 * i = 21 + h by omega, show ¬ 80 + 4 * i = 21 + h by omega, show ¬ 81 + 4 * i = 21 + h by omega]
    simpa using q
  · simp [yw_1, show ¬ 118 = 21 + h by omega]
    simpa using t5
  · have q := t6 i (by simpa [yw_1, show ¬ 118 = 21 + h by omega] using hi)
    simp [yw_1, show ¬ 119 + 2 * i = 21 + h by omega, show ¬ 120 + 2 * i = 21 + h by omega]
    simpa using q
  · simp [yw_1, show ¬ 127 = 21 + h by omega]
    simpa using d0
  · simp [yw_1, show ¬ 128 = 21 + h by omega]
    simpa using d1
  · simp [yw_1, show ¬ 129 = 21 + h by omega]
    simpa using d2
  · simp [yw_1, show ¬ 130 = 21 + h by omega]
    simpa using d3
  · have q := g1 i hi
    have z0 : ¬ i = 21 + h := by omega
    have z1 : ¬ 7 + i = 21 + h := by omega
    have z2 : ¬ 14 + i = 21 + h := by omega
    have z3 : ¬ 28 + i = 21 + h := by omega
    have z4 : ¬ 35 + i = 21 + h := by omega
    by_cases hi2 : i = h
    · subst hi2
      simp [yw_1, z0, z1, z2, z3, z4]
      simp at q
      simp [q, hr]
    · simp [yw_1, hi2, z0, z1, z2, z3, z4]
      simpa using q
  · simp [yw_1, show ¬ 77 = 21 + h by omega]
    simpa using g2
  · have q := g3 i (by simpa [yw_1, show ¬ 77 = 21 + h by omega] using hi)
    simp [yw_1, show ¬ 78 + 4 * i = 21 + h by omega, show ¬ 79 + 4 * i = 21 + h by omega, show ¬ 80 + 4 * i = 21 + h by omega, show ¬ 81 + 4 * i = 21 + h by omega]
    simpa using q
  · simp [yw_1, show ¬ 118 = 21 + h by omega]
    simpa using g4
  · have q := g5 i (by simpa [yw_1, show ¬ 118 = 21 + h by omega] using hi)
    simp [yw_1, show ¬ 119 + 2 * i = 21 + h by omega, show ¬ 120 + 2 * i = 21 + h by omega]
    simpa using q
  · simp [yw_1, show ¬ 127 = 21 + h by omega]
    simpa using g6.1
  · simp [yw_1, show ¬ 127 = 21 + h by omega]
    simpa using g6.2
theorem yRN_deed {σ τ : yS} (H : yRN σ τ) {h : Nat} (hh : h < 7) {v : Int} (hr : 0 ≤ v ∧ v ≤ 4) : yRN (yw σ 22 h v) (yw τ 1 (28 + h) v) := by
  obtain ⟨⟨a0, a1, a2, a3⟩, f0, ⟨e0, e1, e2, b0, b1, b2, hc⟩, ⟨t1, t2, ⟨t3, t4⟩, ⟨t5, t6⟩, ⟨d0, d1, d2, d3⟩, t7⟩, ⟨g0, g1, g2, g3, g4, g5, g6⟩⟩ := H
  have hv : ¬ σ.2 17 11 = 22 ∧ ¬ σ.2 17 11 + 1 = 22 ∧ ¬ σ.2 17 11 + 2 = 22 ∧ ¬ σ.2 17 11 + 3 = 22 ∧ ¬ σ.2 17 11 + 4 = 22 := by omega
  refine ⟨⟨by simpa [yw_1] using a0, by simpa [yw_1] using a1, by simpa [yw_1] using a2, fun j hj => ?_⟩, by simpa [yw_1] using f0, ⟨by simpa [yw_1] using e0, by simpa [yw_1] using e1, by simpa [yw_1] using e2, by simpa [yw_1] using b0, by simpa [yw_1] using b1, by simpa [yw_1] using b2, fun d hd => ?_⟩, ⟨fun i hi => ?_, fun j hj => ?_, ⟨?_, fun i hi => ?_⟩, ⟨?_, fun i hi => ?_⟩, ⟨?_, ?_, ?_, ?_⟩, t7⟩, ⟨by simpa [yw_1] using g0, fun i hi => ?_, ?_, fun i hi => ?_, ?_, fun i hi => ?_, ?_, ?_⟩⟩
  · have q := a3 j (by simpa [yw_1] using hj)
    simpa [yw_1] using q
  · have q := hc d (by simpa [yw_1] using hd)
    simpa [yw_1] using q
  · have q := t1 i hi
    have z0 : ¬ i = 28 + h := by omega
    have z1 : ¬ 7 + i = 28 + h := by omega
    have z2 : ¬ 14 + i = 28 + h := by omega
    have z3 : ¬ 21 + i = 28 + h := by omega
    have z4 : ¬ 35 + i = 28 + h := by omega
    by_cases hi2 : i = h
    · subst hi2
      simp [yw_1, yw_2, z0, z1, z2, z3, z4]
      simp at q
      simp [q]
    · simp [yw_1, yw_2, hi2, z0, z1, z2, z3, z4]
      simpa using q
  · have q := t2 j hj
    simp [yw_1, show ¬ 42 + j = 28 + h by omega]
    simpa using q
  · simp [yw_1, yw_2, hv, show ¬ 77 = 28 + h by omega]
    simpa using t3
  · have q := t4 i (by simpa [yw_1, show ¬ 77 = 28 + h by omega] using hi)
    simp [yw_1, yw_2, hv, show ¬ 78 + 4 * i = 28 + h by omega, show ¬ 79 + 4 * i = 28 + h by omega, show ¬ 80 + 4 * i = 28 + h by omega, show ¬ 81 + 4 * i = 28 + h by omega]
    simpa using q
  · simp [yw_1, show ¬ 118 = 28 + h by omega]
    simpa using t5
  · have q := t6 i (by simpa [yw_1, show ¬ 118 = 28 + h by omega] using hi)
    simp [yw_1, show ¬ 119 + 2 * i = 28 + h by omega, show ¬ 120 + 2 * i = 28 + h by omega]
    simpa using q
  · simp [yw_1, show ¬ 127 = 28 + h by omega]
    simpa using d0
  · simp [yw_1, show ¬ 128 = 28 + h by omega]
    simpa using d1
  · simp [yw_1, show ¬ 129 = 28 + h by omega]
    simpa using d2
  · simp [yw_1, show ¬ 130 = 28 + h by omega]
    simpa using d3
  · have q := g1 i hi
    have z0 : ¬ i = 28 + h := by omega
    have z1 : ¬ 7 + i = 28 + h := by omega
    have z2 : ¬ 14 + i = 28 + h := by omega
    have z3 : ¬ 21 + i = 28 + h := by omega
    have z4 : ¬ 35 + i = 28 + h := by omega
    by_cases hi2 : i = h
    · subst hi2
      simp [yw_1, z0, z1, z2, z3, z4]
      simp at q
      simp [q, hr]
    · simp [yw_1, hi2, z0, z1, z2, z3, z4]
      simpa using q
  · simp [yw_1, show ¬ 77 = 28 + h by omega]
    simpa using g2
  · have q := g3 i (by simpa [yw_1, show ¬ 77 = 28 + h by omega] using hi)
    simp [yw_1, show ¬ 78 + 4 * i = 28 + h by omega, show ¬ 79 + 4 * i = 28 + h by omega, show ¬ 80 + 4 * i = 28 + h by omega, show ¬ 81 + 4 * i = 28 + h by omega]
    simpa using q
  · simp [yw_1, show ¬ 118 = 28 + h by omega]
    simpa using g4
  · have q := g5 i (by simpa [yw_1, show ¬ 118 = 28 + h by omega] using hi)
    simp [yw_1, show ¬ 119 + 2 * i = 28 + h by omega, show ¬ 120 + 2 * i = 28 + h by omega]
    simpa using q
  · simp [yw_1, show ¬ 127 = 28 + h by omega]
    simpa using g6.1
  · simp [yw_1, show ¬ 127 = 28 + h by omega]
    simpa using g6.2
theorem yRN_odds {σ τ : yS} (H : yRN σ τ) {h : Nat} (hh : h < 7) {v : Int} (hr : 0 ≤ v ∧ v ≤ 10) : yRN (yw σ 23 h v) (yw τ 1 (35 + h) v) := by
  obtain ⟨⟨a0, a1, a2, a3⟩, f0, ⟨e0, e1, e2, b0, b1, b2, hc⟩, ⟨t1, t2, ⟨t3, t4⟩, ⟨t5, t6⟩, ⟨d0, d1, d2, d3⟩, t7⟩, ⟨g0, g1, g2, g3, g4, g5, g6⟩⟩ := H
  have hv : ¬ σ.2 17 11 = 23 ∧ ¬ σ.2 17 11 + 1 = 23 ∧ ¬ σ.2 17 11 + 2 = 23 ∧ ¬ σ.2 17 11 + 3 = 23 ∧ ¬ σ.2 17 11 + 4 = 23 := by omega
  refine ⟨⟨by simpa [yw_1] using a0, by simpa [yw_1] using a1, by simpa [yw_1] using a2, fun j hj => ?_⟩, by simpa [yw_1] using f0, ⟨by simpa [yw_1] using e0, by simpa [yw_1] using e1, by simpa [yw_1] using e2, by simpa [yw_1] using b0, by simpa [yw_1] using b1, by simpa [yw_1] using b2, fun d hd => ?_⟩, ⟨fun i hi => ?_, fun j hj => ?_, ⟨?_, fun i hi => ?_⟩, ⟨?_, fun i hi => ?_⟩, ⟨?_, ?_, ?_, ?_⟩, t7⟩, ⟨by simpa [yw_1] using g0, fun i hi => ?_, ?_, fun i hi => ?_, ?_, fun i hi => ?_, ?_, ?_⟩⟩
  · have q := a3 j (by simpa [yw_1] using hj)
    simpa [yw_1] using q
  · have q := hc d (by simpa [yw_1] using hd)
    simpa [yw_1] using q
  · have q := t1 i hi
    have z0 : ¬ i = 35 + h := by omega
    have z1 : ¬ 7 + i = 35 + h := by omega
    have z2 : ¬ 14 + i = 35 + h := by omega
    have z3 : ¬ 21 + i = 35 + h := by omega
    have z4 : ¬ 28 + i = 35 + h := by omega
    by_cases hi2 : i = h
    · subst hi2
      simp [yw_1, yw_2, z0, z1, z2, z3, z4]
      simp at q
      simp [q]
    · simp [yw_1, yw_2, hi2, z0, z1, z2, z3, z4]
      simpa using q
  · have q := t2 j hj
    simp [yw_1, show ¬ 42 + j = 35 + h by omega]
    simpa using q
  · simp [yw_1, yw_2, hv, show ¬ 77 = 35 + h by omega]
    simpa using t3
  · have q := t4 i (by simpa [yw_1, show ¬ 77 = 35 + h by omega] using hi)
    simp [yw_1, yw_2, hv, show ¬ 78 + 4 * i = 35 + h by omega, show ¬ 79 + 4 * i = 35 + h by omega, show ¬ 80 + 4 * i = 35 + h by omega, show ¬ 81 + 4 * i = 35 + h by omega]
    simpa using q
  · simp [yw_1, show ¬ 118 = 35 + h by omega]
    simpa using t5
  · have q := t6 i (by simpa [yw_1, show ¬ 118 = 35 + h by omega] using hi)
    simp [yw_1, show ¬ 119 + 2 * i = 35 + h by omega, show ¬ 120 + 2 * i = 35 + h by omega]
    simpa using q
  · simp [yw_1, show ¬ 127 = 35 + h by omega]
    simpa using d0
  · simp [yw_1, show ¬ 128 = 35 + h by omega]
    simpa using d1
  · simp [yw_1, show ¬ 129 = 35 + h by omega]
    simpa using d2
  · simp [yw_1, show ¬ 130 = 35 + h by omega]
    simpa using d3
  · have q := g1 i hi
    have z0 : ¬ i = 35 + h := by omega
    have z1 : ¬ 7 + i = 35 + h := by omega
    have z2 : ¬ 14 + i = 35 + h := by omega
    have z3 : ¬ 21 + i = 35 + h := by omega
    have z4 : ¬ 28 + i = 35 + h := by omega
    by_cases hi2 : i = h
    · subst hi2
      simp [yw_1, z0, z1, z2, z3, z4]
      simp at q
      simp [q, hr]
    · simp [yw_1, hi2, z0, z1, z2, z3, z4]
      simpa using q
  · simp [yw_1, show ¬ 77 = 35 + h by omega]
    simpa using g2
  · have q := g3 i (by simpa [yw_1, show ¬ 77 = 35 + h by omega] using hi)
    simp [yw_1, show ¬ 78 + 4 * i = 35 + h by omega, show ¬ 79 + 4 * i = 35 + h by omega, show ¬ 80 + 4 * i = 35 + h by omega, show ¬ 81 + 4 * i = 35 + h by omega]
    simpa using q
  · simp [yw_1, show ¬ 118 = 35 + h by omega]
    simpa using g4
  · have q := g5 i (by simpa [yw_1, show ¬ 118 = 35 + h by omega] using hi)
    simp [yw_1, show ¬ 119 + 2 * i = 35 + h by omega, show ¬ 120 + 2 * i = 35 + h by omega]
    simpa using q
  · simp [yw_1, show ¬ 127 = 35 + h by omega]
    simpa using g6.1
  · simp [yw_1, show ¬ 127 = 35 + h by omega]
    simpa using g6.2
