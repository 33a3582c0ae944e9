theorem yRN_tape {σ τ : yS} (H : yRN σ τ) {n : Int} (hn : 0 ≤ n ∧ n ≤ τ.1 0 17) : yRN (yw σ 3 0 n) (yw τ 0 17 n) := by
  obtain ⟨⟨a0, a1, a2, a3⟩, f0, ⟨e0, e1, e2, b0, b1, b2, hc⟩, ⟨t1, t2, ⟨t3, t4⟩, ⟨t5, t6⟩, ⟨d0, d1, d2, d3⟩, t7⟩, ⟨g0, g1, g2, g3, g4, g5, g6⟩⟩ := H
  have hv : ¬ σ.2 17 11 = 3 ∧ ¬ σ.2 17 11 + 1 = 3 ∧ ¬ σ.2 17 11 + 2 = 3 ∧ ¬ σ.2 17 11 + 3 = 3 ∧ ¬ σ.2 17 11 + 4 = 3 := by omega
  have cl : ∀ a b : Nat, a ≠ 3 → (yw σ 3 0 n).1 a b = σ.1 a b := fun a b ha => by simp [yw_1, ha]
  have c0 : (yw σ 3 0 n).1 3 0 = n := by simp [yw_1]
  have c2 : (yw σ 3 0 n).2 = σ.2 := rfl
  have o1 : ∀ a b : Nat, (a ≠ 0 ∨ b ≠ 17) → (yw τ 0 17 n).1 a b = τ.1 a b := fun a b ha => by
    by_cases h0 : a = 0
    · simp [yw_1, h0, show ¬ b = 17 by omega]
    · simp [yw_1, h0]
  have o0 : (yw τ 0 17 n).1 0 17 = n := by simp [yw_1]
  have os : (fun j => (yw τ 0 17 n).1 1 j) = (fun j => τ.1 1 j) := funext fun j => o1 1 j (by omega)
  generalize hS : yw σ 3 0 n = S at cl c0 c2 ⊢
  generalize hT : yw τ 0 17 n = U at o1 o0 os ⊢
  refine ⟨⟨?_, ?_, ?_, fun j hj => ?_⟩, ?_, ⟨?_, ?_, ?_, ?_, ?_, ?_, fun d hd => ?_⟩, ?_, ?_⟩
  · rw [c0]; exact hn.1
  · rw [c0]; omega
  · rw [c0, o0]
  · rw [c0] at hj
    rw [cl 4 j (by omega), o1 8 j (by omega)]
    exact a3 j (by omega)
  · rw [cl 2 4 (by omega), o1 0 22 (by omega)]; exact f0
  · rw [cl 17 0 (by omega), o1 0 3 (by omega)]; exact e0
  · rw [cl 17 1 (by omega), o1 0 4 (by omega)]; exact e1
  · rw [cl 17 2 (by omega), o1 0 5 (by omega)]; exact e2
  · rw [o1 0 3 (by omega)]; exact b0
  · rw [o1 0 4 (by omega)]; exact b1
  · rw [o1 0 5 (by omega)]; exact b2
  · rw [o1 0 5 (by omega)] at hd
    rw [cl (17 + 1) d (by omega), o1 4 d (by omega)]
    exact hc d hd
  · rw [os]
    refine ⟨fun i hi => ?_, fun j hj => ?_, ⟨?_, fun i hi => ?_⟩, ⟨?_, fun i hi => ?_⟩, ⟨?_, ?_, ?_, ?_⟩, ?_⟩
    · rw [cl (17 + 2) i (by omega), cl (17 + 3) i (by omega), cl 17 6 (by omega), cl (17 + 4) i (by omega), cl (17 + 5) i (by omega), cl (17 + 6) i (by omega)]
      exact t1 i hi
    · rw [cl (17 + 7) j (by omega)]; exact t2 j hj
    · rw [c2, cl _ _ (by omega)]; exact t3
    · rw [c2, cl _ _ (by omega), cl _ _ (by omega), cl _ _ (by omega), cl _ _ (by omega)]; exact t4 i hi
    · rw [cl _ _ (by omega)]; exact t5
    · rw [cl _ _ (by omega), cl _ _ (by omega)]; exact t6 i hi
    · rw [cl _ _ (by omega)]; exact d0
    · rw [cl _ _ (by omega)]; exact d1
    · rw [cl _ _ (by omega)]; exact d2
    · rw [cl _ _ (by omega)]; exact d3
    · rw [c2]; exact t7
  · rw [os, o1 0 3 (by omega), o1 0 5 (by omega), cl 17 6 (by omega)]
    exact ⟨g0, g1, g2, g3, g4, g5, g6⟩
theorem p_end {N : Nat} {σ τ : yS} {n : Int} (H : yRN σ τ) : ∃ (a : Int) (σ' τ' : yS), f_X7_end N σ n = some (a, σ') ∧ f_X8_end N τ n = some (a, τ') ∧ yRN σ' τ' ∧ yFs σ σ' ∧ yFo τ τ' := by
  have a2 : σ.1 3 0 = τ.1 0 17 := H.1.2.2.1
  simp only [f_X7_end, f_X8_end, x7_within, x8_in, ycP_ne, a2]
  by_cases hn : 0 ≤ n ∧ n ≤ τ.1 0 17
  · exact ⟨τ.1 0 17, yw σ 3 0 n, yw τ 0 17 n, by simp [hn], by simp [hn], yRN_tape H hn, (by repeat (first | exact yFs_r | refine yFs_w ?_ (by omega))), (by repeat (first | exact yFo_r | refine yFo_w ?_ (by omega)))⟩
  · exact ⟨-1, σ, τ, by simp [hn], by simp [hn], H, yFs_r, yFo_r⟩
