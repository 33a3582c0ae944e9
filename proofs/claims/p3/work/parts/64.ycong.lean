theorem yRT_cong {σ : yS} {t : Nat} {g g' : Nat → Int} {hs ds L : Int} (h : ∀ j : Nat, j < 131 → g' j = g j) (G : yGd hs ds L g) (H : yRT σ t g) : yRT σ t g' := by
  obtain ⟨t1, t2, ⟨t3, t4⟩, ⟨t5, t6⟩, ⟨d0, d1, d2, d3⟩, t7⟩ := H
  obtain ⟨-, -, g2, -, g4, -⟩ := G
  refine ⟨fun i hi => ?_, fun j hj => ?_, ⟨?_, fun i hi => ?_⟩, ⟨?_, fun i hi => ?_⟩, ⟨?_, ?_, ?_, ?_⟩, t7⟩
  · rw [h i (by omega), h (7 + i) (by omega), h (14 + i) (by omega), h (21 + i) (by omega), h (28 + i) (by omega), h (35 + i) (by omega)]; exact t1 i hi
  · rw [h (42 + j) (by omega)]; exact t2 j hj
  · rw [h 77 (by omega)]; exact t3
  · rw [h 77 (by omega)] at hi
    rw [h (78 + 4 * i) (by omega), h (79 + 4 * i) (by omega), h (80 + 4 * i) (by omega), h (81 + 4 * i) (by omega)]; exact t4 i hi
  · rw [h 118 (by omega)]; exact t5
  · rw [h 118 (by omega)] at hi
    rw [h (119 + 2 * i) (by omega), h (120 + 2 * i) (by omega)]; exact t6 i hi
  · rw [h 127 (by omega)]; exact d0
  · rw [h 128 (by omega)]; exact d1
  · rw [h 129 (by omega)]; exact d2
  · rw [h 130 (by omega)]; exact d3
theorem yGd_cong {g g' : Nat → Int} {hs ds L : Int} (h : ∀ j : Nat, j < 131 → g' j = g j) (G : yGd hs ds L g) : yGd hs ds L g' := by
  obtain ⟨g0, g1, g2, g3, g4, g5, g6⟩ := G
  refine ⟨g0, fun i hi => ?_, ?_, fun i hi => ?_, ?_, fun i hi => ?_, ?_⟩
  · rw [h (7 + i) (by omega), h (14 + i) (by omega), h (21 + i) (by omega), h (28 + i) (by omega), h (35 + i) (by omega)]; exact g1 i hi
  · rw [h 77 (by omega)]; exact g2
  · rw [h 77 (by omega)] at hi
    rw [h (78 + 4 * i) (by omega), h (79 + 4 * i) (by omega), h (80 + 4 * i) (by omega), h (81 + 4 * i) (by omega)]; exact g3 i hi
  · rw [h 118 (by omega)]; exact g4
  · rw [h 118 (by omega)] at hi
    rw [h (119 + 2 * i) (by omega), h (120 + 2 * i) (by omega)]; exact g5 i hi
  · rw [h 127 (by omega)]; exact g6
/-- an image: kept or not, and if kept, one with its slice -/
def yRI (σ τ : yS) (k : Nat) : Prop :=
  σ.2 1 k = 59 + 21 * k ∧ ((σ.2 (59 + 21 * k) 11 = 59 + 21 * k + 8 ∧ σ.2 (59 + 21 * k) 12 = 59 + 21 * k + 13) ∨ (σ.2 (59 + 21 * k) 11 = 59 + 21 * k + 13 ∧ σ.2 (59 + 21 * k) 12 = 59 + 21 * k + 8)) ∧
  (0 ≤ τ.1 3 k ∧ τ.1 3 k ≤ 1) ∧ yan (ysr (σ.1 0 7) (k : Int)) 1 = τ.1 3 k ∧
  (τ.1 3 k = 1 → yRH σ τ (59 + 21 * k) ∧ yRT σ (59 + 21 * k) (fun j => τ.1 1 (131 * (k + 1) + j)) ∧ yGd (τ.1 0 3) (τ.1 0 5) (σ.1 (59 + 21 * k) 6) (fun j => τ.1 1 (131 * (k + 1) + j)))
theorem p_back {N : Nat} (hN : 132 ≤ N) {σ τ : yS} {n : Int} (H : yRN σ τ) (I : ∀ k : Nat, k < 2 → yRI σ τ k) : ∃ (a : Int) (σ' τ' : yS), f_X7_back N σ n = some (a, σ') ∧ f_X8_back N τ n = some (a, τ') ∧ yRN σ' τ' := by
  simp only [f_X7_back, f_X8_back, f_X7_bit, x7_within, x8_in, ycP_ne, yin_d]
  by_cases hn : 0 ≤ n ∧ n ≤ 1
  · obtain ⟨k, rfl⟩ : ∃ k : Nat, n = (k : Int) := ⟨n.toNat, by omega⟩
    have hk : k < 2 := by omega
    obtain ⟨i1, i2, i3, i4, i5⟩ := I k hk
    by_cases hz : τ.1 3 k = 0
    · exact ⟨-2, σ, τ, by simp [hn, i4, hz], by simp [hn, hz, show (k : Int) < 2 by omega], H⟩
    · obtain ⟨⟨e0, e1, e2, b0, b1, b2, hc⟩, T, G⟩ := i5 (by omega)
      obtain ⟨⟨a0, a1, a2, a3⟩, f0, -, ⟨-, -, -, -, -, t7⟩, -⟩ := H
      obtain ⟨σ', c, s2, fr, T', k6, k0, k1, k2, kc⟩ := yRT_copy (N := N) (x := 17) (y := 59 + 21 * k) (by omega) t7 (by rw [e1]; exact b1) T G
      have em : ymu 131 (yad (k : Int) 1) = ((131 * (k + 1) : Nat) : Int) := by
        rw [yad_e (by omega) (by omega), ymu_e (by omega) (by omega)]; omega
      have cc := x8_copies hN (τ := τ) (a := 0) (b := 131 * (k + 1)) (by omega) (by omega) (by omega)
      have sl : ∀ j : Nat, j < 131 → (ycp τ 1 1 (131 * (k + 1)) 0 131).1 1 j = τ.1 1 (131 * (k + 1) + j) := fun j hj => by
        rw [ycp_1, if_pos ⟨rfl, by omega, by omega⟩, Nat.sub_zero]
      have o1 : ∀ a b : Nat, a ≠ 1 → (ycp τ 1 1 (131 * (k + 1)) 0 131).1 a b = τ.1 a b := fun a b h => ycp_n (by omega)
      refine ⟨τ.1 1 (131 * (k + 1) + 127), σ', ycp τ 1 1 (131 * (k + 1)) 0 131, ?_, ?_, ?_⟩
      · have q : σ'.1 17 14 = τ.1 1 (131 * (k + 1) + 127) := T'.2.2.2.2.1.1
        simp [hn, i4, hz, show (k : Int) < 2 by omega, i1, c, q]
      · rw [em]
        have cc' : f_X8_copies N τ 0 ((131 * (k + 1) : Nat) : Int) = some (0, ycp τ 1 1 (131 * (k + 1)) 0 131) := cc
        rw [cc']
        simp [hn, hz, show (k : Int) < 2 by omega, sl 127 (by omega)]
      · generalize ycp τ 1 1 (131 * (k + 1)) 0 131 = U at sl o1
        refine ⟨⟨?_, ?_, ?_, fun j hj => ?_⟩, ?_, ⟨?_, ?_, ?_, ?_, ?_, ?_, fun d hd => ?_⟩, yRT_cong sl G T', ?_⟩
        · rw [fr 3 0 (by omega)]; exact a0
        · rw [fr 3 0 (by omega)]; exact a1
        · rw [fr 3 0 (by omega), o1 0 17 (by omega)]; exact a2
        · rw [fr 3 0 (by omega)] at hj
          rw [fr 4 j (by omega), o1 8 j (by omega)]; exact a3 j hj
        · rw [fr 2 4 (by omega), o1 0 22 (by omega)]; exact f0
        · rw [k0, o1 0 3 (by omega)]; exact e0
        · rw [k1, o1 0 4 (by omega)]; exact e1
        · rw [k2, o1 0 5 (by omega)]; exact e2
        · rw [o1 0 3 (by omega)]; exact b0
        · rw [o1 0 4 (by omega)]; exact b1
        · rw [o1 0 5 (by omega)]; exact b2
        · rw [o1 0 5 (by omega)] at hd
          rw [kc d (by omega), o1 4 d (by omega)]; exact hc d hd
        · rw [k6, o1 0 3 (by omega), o1 0 5 (by omega)]
          exact yGd_cong sl G
  · exact ⟨-1, σ, τ, by simp [hn], by simp [hn], H⟩
