/-- a vow row's places lie apart from all else of the terrace -/
theorem yRN_vows {σ τ : yS} (H : yRN σ τ) {v m : Nat} (hvr : σ.2 17 11 = v) (hm : τ.1 1 77 = (m : Int)) (h4 : m < 10) {h k p d : Int} (hh : 0 ≤ h ∧ h < τ.1 0 3) (hk : 0 ≤ k ∧ k ≤ 4) (hp : 0 ≤ p ∧ p ≤ 9) (hd : 0 ≤ d ∧ d < τ.1 0 5) : yRN (yw (yw (yw (yw (yw σ (v + 1) m h) (v + 2) m k) (v + 3) m p) (v + 4) m d) v 0 ((m : Int) + 1)) (yw (yw (yw (yw (yw τ 1 (78 + 4 * m) h) 1 (79 + 4 * m) k) 1 (80 + 4 * m) p) 1 (81 + 4 * m) d) 1 77 ((m : Int) + 1)) := by
  obtain ⟨⟨a0, a1, a2, a3⟩, f0, ⟨e0, e1, e2, b0, b1, b2, hc⟩, ⟨t1, t2, ⟨t3, t4⟩, ⟨t5, t6⟩, ⟨d0, d1, d2, d3⟩, t7⟩, ⟨g0, g1, g2, g3, g4, g5, g6⟩⟩ := H
  have hv : v = 25 ∨ v = 30 := by omega
  have cl : ∀ a b : Nat, (a < 25 ∨ 35 ≤ a) → (yw (yw (yw (yw (yw σ (v + 1) m h) (v + 2) m k) (v + 3) m p) (v + 4) m d) v 0 ((m : Int) + 1)).1 a b = σ.1 a b := fun a b ha => by
    simp [yw_1, show ¬ a = v by omega, show ¬ a = v + 1 by omega, show ¬ a = v + 2 by omega, show ¬ a = v + 3 by omega, show ¬ a = v + 4 by omega]
  have vs : (yw (yw (yw (yw (yw σ (v + 1) m h) (v + 2) m k) (v + 3) m p) (v + 4) m d) v 0 ((m : Int) + 1)).1 v 0 = (m : Int) + 1 := by simp [yw_1]
  have v1 : ∀ i : Nat, (yw (yw (yw (yw (yw σ (v + 1) m h) (v + 2) m k) (v + 3) m p) (v + 4) m d) v 0 ((m : Int) + 1)).1 (v + 1) i = (if i = m then h else σ.1 (v + 1) i) := fun i => by simp [yw_1]
  have v2 : ∀ i : Nat, (yw (yw (yw (yw (yw σ (v + 1) m h) (v + 2) m k) (v + 3) m p) (v + 4) m d) v 0 ((m : Int) + 1)).1 (v + 2) i = (if i = m then k else σ.1 (v + 2) i) := fun i => by simp [yw_1]
  have v3 : ∀ i : Nat, (yw (yw (yw (yw (yw σ (v + 1) m h) (v + 2) m k) (v + 3) m p) (v + 4) m d) v 0 ((m : Int) + 1)).1 (v + 3) i = (if i = m then p else σ.1 (v + 3) i) := fun i => by simp [yw_1]
  have v4 : ∀ i : Nat, (yw (yw (yw (yw (yw σ (v + 1) m h) (v + 2) m k) (v + 3) m p) (v + 4) m d) v 0 ((m : Int) + 1)).1 (v + 4) i = (if i = m then d else σ.1 (v + 4) i) := fun i => by simp [yw_1]
  have c2 : (yw (yw (yw (yw (yw σ (v + 1) m h) (v + 2) m k) (v + 3) m p) (v + 4) m d) v 0 ((m : Int) + 1)).2 = σ.2 := rfl
  have o1 : ∀ a b : Nat, a ≠ 1 → (yw (yw (yw (yw (yw τ 1 (78 + 4 * m) h) 1 (79 + 4 * m) k) 1 (80 + 4 * m) p) 1 (81 + 4 * m) d) 1 77 ((m : Int) + 1)).1 a b = τ.1 a b := fun a b ha => by
    simp [yw_1, ha]
  have low : ∀ j : Nat, j < 77 → (yw (yw (yw (yw (yw τ 1 (78 + 4 * m) h) 1 (79 + 4 * m) k) 1 (80 + 4 * m) p) 1 (81 + 4 * m) d) 1 77 ((m : Int) + 1)).1 1 j = τ.1 1 j := fun j hj => by
    simp [yw_1, show ¬ j = 77 by omega, show ¬ j = 78 + 4 * m by omega, show ¬ j = 79 + 4 * m by omega, show ¬ j = 80 + 4 * m by omega, show ¬ j = 81 + 4 * m by omega]
  have hig : ∀ j : Nat, 118 ≤ j → (yw (yw (yw (yw (yw τ 1 (78 + 4 * m) h) 1 (79 + 4 * m) k) 1 (80 + 4 * m) p) 1 (81 + 4 * m) d) 1 77 ((m : Int) + 1)).1 1 j = τ.1 1 j := fun j hj => by
    simp [yw_1, show ¬ j = 77 by omega, show ¬ j = 78 + 4 * m by omega, show ¬ j = 79 + 4 * m by omega, show ¬ j = 80 + 4 * m by omega, show ¬ j = 81 + 4 * m by omega]
  have mid : (yw (yw (yw (yw (yw τ 1 (78 + 4 * m) h) 1 (79 + 4 * m) k) 1 (80 + 4 * m) p) 1 (81 + 4 * m) d) 1 77 ((m : Int) + 1)).1 1 77 = (m : Int) + 1 := by simp [yw_1]
  have u1 : ∀ i : Nat, (yw (yw (yw (yw (yw τ 1 (78 + 4 * m) h) 1 (79 + 4 * m) k) 1 (80 + 4 * m) p) 1 (81 + 4 * m) d) 1 77 ((m : Int) + 1)).1 1 (78 + 4 * i) = (if i = m then h else τ.1 1 (78 + 4 * i)) := fun i => by
    by_cases hq : i = m
    · subst hq
      simp [yw_1, show ¬ 78 + 4 * i = 77 by omega, show ¬ 78 + 4 * i = 79 + 4 * i by omega, show ¬ 78 + 4 * i = 80 + 4 * i by omega, show ¬ 78 + 4 * i = 81 + 4 * i by omega]
    · simp [yw_1, hq, show ¬ 78 + 4 * i = 77 by omega, show ¬ 4 * i = 4 * m by omega, show ¬ 78 + 4 * i = 79 + 4 * m by omega, show ¬ 78 + 4 * i = 80 + 4 * m by omega, show ¬ 78 + 4 * i = 81 + 4 * m by omega]
  have u2 : ∀ i : Nat, (yw (yw (yw (yw (yw τ 1 (78 + 4 * m) h) 1 (79 + 4 * m) k) 1 (80 + 4 * m) p) 1 (81 + 4 * m) d) 1 77 ((m : Int) + 1)).1 1 (79 + 4 * i) = (if i = m then k else τ.1 1 (79 + 4 * i)) := fun i => by
    by_cases hq : i = m
    · subst hq
      simp [yw_1, show ¬ 79 + 4 * i = 77 by omega, show ¬ 79 + 4 * i = 80 + 4 * i by omega, show ¬ 79 + 4 * i = 81 + 4 * i by omega]
    · simp [yw_1, hq, show ¬ 79 + 4 * i = 77 by omega, show ¬ 4 * i = 4 * m by omega, show ¬ 79 + 4 * i = 78 + 4 * m by omega, show ¬ 79 + 4 * i = 80 + 4 * m by omega, show ¬ 79 + 4 * i = 81 + 4 * m by omega]
  have u3 : ∀ i : Nat, (yw (yw (yw (yw (yw τ 1 (78 + 4 * m) h) 1 (79 + 4 * m) k) 1 (80 + 4 * m) p) 1 (81 + 4 * m) d) 1 77 ((m : Int) + 1)).1 1 (80 + 4 * i) = (if i = m then p else τ.1 1 (80 + 4 * i)) := fun i => by
    by_cases hq : i = m
    · subst hq
      simp [yw_1, show ¬ 80 + 4 * i = 77 by omega, show ¬ 80 + 4 * i = 81 + 4 * i by omega]
    · simp [yw_1, hq, show ¬ 80 + 4 * i = 77 by omega, show ¬ 4 * i = 4 * m by omega, show ¬ 80 + 4 * i = 78 + 4 * m by omega, show ¬ 80 + 4 * i = 79 + 4 * m by omega, show ¬ 80 + 4 * i = 81 + 4 * m by omega]
  have u4 : ∀ i : Nat, (yw (yw (yw (yw (yw τ 1 (78 + 4 * m) h) 1 (79 + 4 * m) k) 1 (80 + 4 * m) p) 1 (81 + 4 * m) d) 1 77 ((m : Int) + 1)).1 1 (81 + 4 * i) = (if i = m then d else τ.1 1 (81 + 4 * i)) := fun i => by
    by_cases hq : i = m
    · subst hq
      simp [yw_1, show ¬ 81 + 4 * i = 77 by omega]
    · simp [yw_1, hq, show ¬ 81 + 4 * i = 77 by omega, show ¬ 4 * i = 4 * m by omega, show ¬ 81 + 4 * i = 78 + 4 * m by omega, show ¬ 81 + 4 * i = 79 + 4 * m by omega, show ¬ 81 + 4 * i = 80 + 4 * m by omega]
  generalize hS : yw (yw (yw (yw (yw σ (v + 1) m h) (v + 2) m k) (v + 3) m p) (v + 4) m d) v 0 ((m : Int) + 1) = S at cl vs v1 v2 v3 v4 c2 ⊢
  generalize hT : yw (yw (yw (yw (yw τ 1 (78 + 4 * m) h) 1 (79 + 4 * m) k) 1 (80 + 4 * m) p) 1 (81 + 4 * m) d) 1 77 ((m : Int) + 1) = U at o1 low hig mid u1 u2 u3 u4 ⊢
  have g4 : 0 ≤ τ.1 1 118 ∧ τ.1 1 118 ≤ 4 := g4
  refine ⟨⟨?_, ?_, ?_, fun j hj => ?_⟩, ?_, ⟨?_, ?_, ?_, ?_, ?_, ?_, fun d hd => ?_⟩, ⟨fun i hi => ?_, fun j hj => ?_, ⟨?_, fun i hi => ?_⟩, ⟨?_, fun i hi => ?_⟩, ⟨?_, ?_, ?_, ?_⟩, ?_⟩, ⟨?_, fun i hi => ?_, ?_, fun i hi => ?_, ?_, fun i hi => ?_, ?_, ?_⟩⟩
  · rw [cl 3 0 (by omega)]; exact a0
  · rw [cl 3 0 (by omega)]; exact a1
  · rw [cl 3 0 (by omega), o1 0 17 (by omega)]; exact a2
  · rw [cl 3 0 (by omega)] at hj
    rw [cl 4 j (by omega), o1 8 j (by omega)]
    exact a3 j hj
  · rw [cl 2 4 (by omega), o1 0 22 (by omega)]; exact f0
  · rw [cl 17 0 (by omega), o1 0 3 (by omega)]; exact e0
  · rw [cl 17 1 (by omega), o1 0 4 (by omega)]; exact e1
  · rw [cl 17 2 (by omega), o1 0 5 (by omega)]; exact e2
  · rw [o1 0 3 (by omega)]; exact b0
  · rw [o1 0 4 (by omega)]; exact b1
  · rw [o1 0 5 (by omega)]; exact b2
  · rw [o1 0 5 (by omega)] at hd
    rw [cl (17 + 1) d (by omega), o1 4 d (by omega)]
    exact hc d hd
  · have q := t1 i hi
    dsimp only at q ⊢
    rw [cl (17 + 2) i (by omega), cl (17 + 3) i (by omega), cl 17 6 (by omega), cl (17 + 4) i (by omega), cl (17 + 5) i (by omega), cl (17 + 6) i (by omega), low i (by omega), low (7 + i) (by omega), low (14 + i) (by omega), low (21 + i) (by omega), low (28 + i) (by omega), low (35 + i) (by omega)]
    exact q
  · have q := t2 j hj
    dsimp only at q ⊢
    rw [cl (17 + 7) j (by omega), low (42 + j) (by omega)]
    exact q
  · dsimp only
    rw [c2, hvr, vs, mid]
  · dsimp only at hi ⊢
    rw [mid] at hi
    rw [c2, hvr, v1, v2, v3, v4, u1, u2, u3, u4]
    by_cases hq : i = m
    · simp [hq]
    · have q := t4 i (show (i : Int) < τ.1 1 77 by omega)
      rw [hvr] at q
      simp only [hq, if_false]
      exact q
  · dsimp only at t5 ⊢
    rw [cl (17 + 18) 0 (by omega), hig 118 (by omega)]
    exact t5
  · dsimp only at hi ⊢
    rw [hig 118 (by omega)] at hi
    have q := t6 i hi
    rw [cl (17 + 19) i (by omega), cl (17 + 20) i (by omega), hig (119 + 2 * i) (by omega), hig (120 + 2 * i) (by omega)]
    exact q
  · dsimp only
    rw [cl 17 14 (by omega), hig 127 (by omega)]; exact d0
  · dsimp only
    rw [cl 17 15 (by omega), hig 128 (by omega)]; exact d1
  · dsimp only
    rw [cl 17 16 (by omega), hig 129 (by omega)]; exact d2
  · dsimp only
    rw [cl 17 17 (by omega), hig 130 (by omega)]; exact d3
  · rw [c2]; exact t7
  · rw [cl 17 6 (by omega)]; exact g0
  · have q := g1 i hi
    dsimp only at q ⊢
    rw [low (7 + i) (by omega), low (14 + i) (by omega), low (21 + i) (by omega), low (28 + i) (by omega), low (35 + i) (by omega)]
    exact q
  · dsimp only
    rw [mid]
    omega
  · dsimp only at hi ⊢
    rw [mid] at hi
    rw [u1, u2, u3, u4, o1 0 3 (by omega), o1 0 5 (by omega)]
    by_cases hq : i = m
    · simp only [hq, if_true]
      exact ⟨hh, hk, hp, hd⟩
    · have q := g3 i (show (i : Int) < τ.1 1 77 by omega)
      simp only [hq, if_false]
      exact q
  · dsimp only
    rw [hig 118 (by omega)]
    exact g4
  · dsimp only at hi ⊢
    rw [hig 118 (by omega)] at hi
    have q := g5 i hi
    rw [hig (119 + 2 * i) (by omega), hig (120 + 2 * i) (by omega), o1 0 3 (by omega), o1 0 5 (by omega)]
    exact q
  · dsimp only
    rw [hig 127 (by omega)]
    exact g6.1
  · dsimp only
    rw [hig 127 (by omega)]
    exact g6.2
