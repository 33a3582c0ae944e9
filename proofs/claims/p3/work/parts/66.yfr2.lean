/-- what leaves the terrace now, the tape and the fault alone keeps yRN -/
theorem yRN_fr {σ τ σ' τ' : yS} (r2 : ∀ b : Nat, σ'.2 17 b = σ.2 17 b) (c1 : ∀ b : Nat, σ'.1 2 b = σ.1 2 b ∧ σ'.1 3 b = σ.1 3 b ∧ σ'.1 4 b = σ.1 4 b) (c2 : ∀ a b : Nat, 17 ≤ a → a < 38 → σ'.1 a b = σ.1 a b) (o1 : ∀ b : Nat, τ'.1 0 b = τ.1 0 b ∧ τ'.1 4 b = τ.1 4 b ∧ τ'.1 8 b = τ.1 8 b) (o4 : ∀ j : Nat, j < 131 → τ'.1 1 j = τ.1 1 j) (H : yRN σ τ) : yRN σ' τ' := by
  obtain ⟨⟨a0, a1, a2, a3⟩, f0, ⟨e0, e1, e2, b0, b1, b2, hc⟩, T, G⟩ := H
  have T1 := yRT_cong (g' := fun j => τ'.1 1 j) o4 G T
  obtain ⟨t1, t2, ⟨t3, t4⟩, ⟨t5, t6⟩, ⟨d0, d1, d2, d3⟩, t7⟩ := T1
  have G1 := yGd_cong (g' := fun j => τ'.1 1 j) o4 G
  refine ⟨⟨?_, ?_, ?_, fun j hj => ?_⟩, ?_, ⟨?_, ?_, ?_, ?_, ?_, ?_, fun d hd => ?_⟩, ⟨fun i hi => ?_, fun j hj => ?_, ⟨?_, fun i hi => ?_⟩, ⟨?_, fun i hi => ?_⟩, ⟨?_, ?_, ?_, ?_⟩, ?_⟩, ?_⟩
  · rw [(c1 0).2.1]; exact a0
  · rw [(c1 0).2.1]; exact a1
  · rw [(c1 0).2.1, (o1 17).1]; exact a2
  · rw [(c1 0).2.1] at hj
    rw [(c1 j).2.2, (o1 j).2.2]; exact a3 j hj
  · rw [(c1 4).1, (o1 22).1]; exact f0
  · rw [c2 17 0 (by omega) (by omega), (o1 3).1]; exact e0
  · rw [c2 17 1 (by omega) (by omega), (o1 4).1]; exact e1
  · rw [c2 17 2 (by omega) (by omega), (o1 5).1]; exact e2
  · rw [(o1 3).1]; exact b0
  · rw [(o1 4).1]; exact b1
  · rw [(o1 5).1]; exact b2
  · rw [(o1 5).1] at hd
    rw [c2 _ _ (by omega) (by omega), (o1 d).2.1]; exact hc d hd
  · rw [c2 (17 + 2) _ (by omega) (by omega), c2 (17 + 3) _ (by omega) (by omega), c2 17 _ (by omega) (by omega), c2 (17 + 4) _ (by omega) (by omega), c2 (17 + 5) _ (by omega) (by omega), c2 (17 + 6) _ (by omega) (by omega)]
    exact t1 i hi
  · rw [c2 _ _ (by omega) (by omega)]; exact t2 j hj
  · rw [r2, c2 _ _ (by omega) (by omega)]; exact t3
  · rw [r2, c2 _ _ (by omega) (by omega), c2 _ _ (by omega) (by omega), c2 _ _ (by omega) (by omega), c2 _ _ (by omega) (by omega)]; exact t4 i hi
  · rw [c2 _ _ (by omega) (by omega)]; exact t5
  · rw [c2 _ _ (by omega) (by omega), c2 _ _ (by omega) (by omega)]; exact t6 i hi
  · rw [c2 _ _ (by omega) (by omega)]; exact d0
  · rw [c2 _ _ (by omega) (by omega)]; exact d1
  · rw [c2 _ _ (by omega) (by omega)]; exact d2
  · rw [c2 _ _ (by omega) (by omega)]; exact d3
  · rw [r2, r2]; exact t7
  · rw [c2 _ _ (by omega) (by omega), (o1 3).1, (o1 5).1]; exact G1
