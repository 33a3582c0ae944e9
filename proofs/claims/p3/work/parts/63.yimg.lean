theorem yRT_copy {N : Nat} {σ : yS} {x y : Nat} {g : Nat → Int} {hs ds : Int} (hx : x + 21 ≤ y ∨ y + 21 ≤ x) (hr : (σ.2 x 11 = x + 8 ∧ σ.2 x 12 = x + 13) ∨ (σ.2 x 11 = x + 13 ∧ σ.2 x 12 = x + 8)) (hb : 0 ≤ σ.1 y 1 ∧ σ.1 y 1 ≤ 1) (H : yRT σ y g) (G : yGd hs ds (σ.1 y 6) g) : ∃ σ' : yS, f_X4_copyFrom N σ x y = some (0, σ') ∧ σ'.2 = σ.2 ∧ (∀ a b : Nat, (a < x ∨ x + 21 ≤ a) → σ'.1 a b = σ.1 a b) ∧ yRT σ' x g ∧ σ'.1 x 6 = σ.1 y 6 ∧ σ'.1 x 0 = σ.1 y 0 ∧ σ'.1 x 1 = σ.1 y 1 ∧ σ'.1 x 2 = σ.1 y 2 ∧ ∀ d : Nat, d < 5 → σ'.1 (x + 1) d = σ.1 (y + 1) d := by
  obtain ⟨t1, t2, ⟨t3, t4⟩, ⟨t5, t6⟩, ⟨d0, d1, d2, d3⟩, t7⟩ := H
  obtain ⟨-, -, g2, -, g4, -⟩ := G
  obtain ⟨σ', c, s2, fr, k0, k1, k2, k6, k14, k15, k16, k17, r1, r2, r3, r4, r5, r6, r7, v0, v1, v2, v3, v4, w0, w1, w2⟩ := x4_copy (N := N) (σ := σ) hx rfl rfl (by omega) (by omega) hb
  refine ⟨σ', c, s2, fr, ⟨fun i hi => ?_, fun j hj => ?_, ⟨?_, fun i hi => ?_⟩, ⟨?_, fun i hi => ?_⟩, ⟨?_, ?_, ?_, ?_⟩, ?_⟩, k6, k0, k1, k2, r1⟩
  · rw [r2 i hi, r3 i hi, k6, r4 i hi, r5 i hi, r6 i hi]; exact t1 i hi
  · rw [r7 j hj]; exact t2 j hj
  · rw [s2, v0]; exact t3
  · rw [s2, v1 i (by omega), v2 i (by omega), v3 i (by omega), v4 i (by omega)]; exact t4 i hi
  · rw [w0]; exact t5
  · rw [w1 i (by omega), w2 i (by omega)]; exact t6 i hi
  · rw [k14]; exact d0
  · rw [k15]; exact d1
  · rw [k16]; exact d2
  · rw [k17]; exact d3
  · rw [s2]; exact hr
