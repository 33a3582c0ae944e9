theorem yRT_fr {σ σ' : yS} {t : Nat} {g : Nat → Int} (r : ∀ b : Nat, σ'.2 t b = σ.2 t b) (c : ∀ a b : Nat, t ≤ a → a < t + 21 → σ'.1 a b = σ.1 a b) (H : yRT σ t g) : yRT σ' t g := by
  obtain ⟨t1, t2, ⟨t3, t4⟩, ⟨t5, t6⟩, ⟨d0, d1, d2, d3⟩, t7⟩ := H
  refine ⟨fun i hi => ?_, fun j hj => ?_, ⟨?_, fun i hi => ?_⟩, ⟨?_, fun i hi => ?_⟩, ⟨?_, ?_, ?_, ?_⟩, ?_⟩
  · rw [c (t + 2) _ (by omega) (by omega), c (t + 3) _ (by omega) (by omega), c t _ (by omega) (by omega), c (t + 4) _ (by omega) (by omega), c (t + 5) _ (by omega) (by omega), c (t + 6) _ (by omega) (by omega)]
    exact t1 i hi
  · rw [c _ _ (by omega) (by omega)]; exact t2 j hj
  · rw [r, c _ _ (by omega) (by omega)]; exact t3
  · rw [r, c _ _ (by omega) (by omega), c _ _ (by omega) (by omega), c _ _ (by omega) (by omega), c _ _ (by omega) (by omega)]; exact t4 i hi
  · rw [c _ _ (by omega) (by omega)]; exact t5
  · rw [c _ _ (by omega) (by omega), c _ _ (by omega) (by omega)]; exact t6 i hi
  · rw [c _ _ (by omega) (by omega)]; exact d0
  · rw [c _ _ (by omega) (by omega)]; exact d1
  · rw [c _ _ (by omega) (by omega)]; exact d2
  · rw [c _ _ (by omega) (by omega)]; exact d3
  · rw [r, r]; exact t7
