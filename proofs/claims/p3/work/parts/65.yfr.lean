/-- what leaves the images alone keeps them -/
theorem yRI_fr {σ τ σ' τ' : yS} {k : Nat} (hk : k < 2) (r1 : σ'.2 1 k = σ.2 1 k) (r2 : ∀ a b : Nat, 59 ≤ a → σ'.2 a b = σ.2 a b) (c1 : σ'.1 0 7 = σ.1 0 7) (c2 : ∀ a b : Nat, 59 ≤ a → σ'.1 a b = σ.1 a b) (o1 : ∀ b : Nat, τ'.1 3 b = τ.1 3 b) (o2 : ∀ b : Nat, τ'.1 4 b = τ.1 4 b) (o3 : τ'.1 0 3 = τ.1 0 3 ∧ τ'.1 0 4 = τ.1 0 4 ∧ τ'.1 0 5 = τ.1 0 5) (o4 : ∀ j : Nat, 131 ≤ j → τ'.1 1 j = τ.1 1 j) (I : yRI σ τ k) : yRI σ' τ' k := by
  obtain ⟨i1, i2, i3, i4, i5⟩ := I
  have os : (fun j => τ'.1 1 (131 * (k + 1) + j)) = (fun j => τ.1 1 (131 * (k + 1) + j)) := funext fun j => o4 _ (by omega)
  refine ⟨by rw [r1]; exact i1, ?_, ?_, ?_, fun hz => ?_⟩
  · rw [r2 _ _ (by omega), r2 _ _ (by omega)]; exact i2
  · rw [o1]; exact i3
  · rw [c1, o1]; exact i4
  · rw [o1] at hz
    obtain ⟨⟨e0, e1, e2, b0, b1, b2, hc⟩, ⟨t1, t2, ⟨t3, t4⟩, ⟨t5, t6⟩, ⟨d0, d1, d2, d3⟩, t7⟩, G⟩ := i5 hz
    rw [os]
    refine ⟨⟨?_, ?_, ?_, ?_, ?_, ?_, fun d hd => ?_⟩, ⟨fun i hi => ?_, fun j hj => ?_, ⟨?_, fun i hi => ?_⟩, ⟨?_, fun i hi => ?_⟩, ⟨?_, ?_, ?_, ?_⟩, ?_⟩, ?_⟩
    · rw [c2 _ _ (by omega), o3.1]; exact e0
    · rw [c2 _ _ (by omega), o3.2.1]; exact e1
    · rw [c2 _ _ (by omega), o3.2.2]; exact e2
    · rw [o3.1]; exact b0
    · rw [o3.2.1]; exact b1
    · rw [o3.2.2]; exact b2
    · rw [o3.2.2] at hd
      rw [c2 _ _ (by omega), o2]; exact hc d hd
    · rw [c2 (59 + 21 * k + 2) _ (by omega), c2 (59 + 21 * k + 3) _ (by omega), c2 (59 + 21 * k) _ (by omega), c2 (59 + 21 * k + 4) _ (by omega), c2 (59 + 21 * k + 5) _ (by omega), c2 (59 + 21 * k + 6) _ (by omega)]
      exact t1 i hi
    · rw [c2 _ _ (by omega)]; exact t2 j hj
    · rw [r2 _ _ (by omega), c2 _ _ (by omega)]; exact t3
    · rw [r2 _ _ (by omega), c2 _ _ (by omega), c2 _ _ (by omega), c2 _ _ (by omega), c2 _ _ (by omega)]; exact t4 i hi
    · rw [c2 _ _ (by omega)]; exact t5
    · rw [c2 _ _ (by omega), c2 _ _ (by omega)]; exact t6 i hi
    · rw [c2 _ _ (by omega)]; exact d0
    · rw [c2 _ _ (by omega)]; exact d1
    · rw [c2 _ _ (by omega)]; exact d2
    · rw [c2 _ _ (by omega)]; exact d3
    · rw [r2 _ _ (by omega), r2 _ _ (by omega)]; exact t7
    · rw [c2 _ _ (by omega), o3.1, o3.2.2]; exact G
