/-- both read a text alike -/
theorem P_text {N : Nat} (hN : 400 ≤ N) {σ τ : yS} (H : yRR σ τ) : ∃ (a : Int) (σ' τ' : yS), f_X7_text N σ = some (a, σ') ∧ f_X8_text N τ = some (a, τ') ∧ yRR σ' τ' := by
  have ht : yTr σ := H.2.2.2.2.2.2
  obtain ⟨j, σ1, τ1, g1, k1, E, Z7, Z8, ok⟩ := p_readin (N := N) hN ht H.1.1
  have fe := yE_f E
  have ht1 : yTr (yw σ1 3 0 0) := by
    unfold yTr at ht ⊢
    show (σ1.2 38 11 = _ ∧ σ1.2 38 12 = _) ∨ (σ1.2 38 11 = _ ∧ σ1.2 38 12 = _)
    rw [Z7.1]; exact ht
  have c : ∀ a b : Nat, ¬ a = 2 → ¬ a = 3 → ¬ (38 ≤ a ∧ a < 59) → (yw σ1 3 0 0).1 a b = σ.1 a b := fun a b h1 h2 h3 => by rw [yw_n (by omega), Z7.2 a b h1 h3]
  have o : ∀ a b : Nat, ¬ a = 5 → ¬ a = 6 → ¬ a = 7 → ¬ (a = 0 ∧ ((8 ≤ b ∧ b ≤ 11) ∨ b = 14 ∨ b = 15 ∨ (17 ≤ b ∧ b ≤ 23))) → (yw τ1 0 17 0).1 a b = τ.1 a b := fun a b h1 h2 h3 h4 => by rw [yw_n (by omega), Z8 a b h1 h2 h3 (by omega)]
  have rf : ∀ a b : Nat, (yw σ1 3 0 0).2 a b = σ.2 a b := fun a b => by
    show σ1.2 a b = σ.2 a b
    rw [Z7.1]
  have s0 : (yw σ1 3 0 0).1 3 0 = 0 := yw_p
  have t0 : (yw τ1 0 17 0).1 0 17 = 0 := yw_p
  by_cases f0 : σ1.1 2 4 = 0
  · obtain ⟨⟨d1, d2, d3, d4, d5, d6, d7⟩, dT, dG, dK, d127, -, -, -, -, -⟩ := (ok f0).1
    obtain ⟨-, ej, lt1, lt2⟩ := ok f0
    obtain ⟨τ2, k2, u2, v2, a3, a4, a5, a6, a7, a8⟩ := x8_keepd (N := N) hN (τ := yw τ1 0 17 0) (by rw [yw_n (by omega)]; exact d5) (by rw [yw_n (by omega)]; exact d6)
    rw [yw_n (by omega)] at a3 a4 a5
    have v3 : ∀ b : Nat, b < 131 → τ2.1 1 b = τ1.1 5 b := fun b h => by rw [v2 b h, yw_n (by omega)]
    have G1 : yGd (τ1.1 0 14 + 1) (τ1.1 0 15 + 1) (σ1.1 38 6) (fun j => τ1.1 5 j) := yGe_d dG (by rw [d127]; decide)
    have G2 : yGd (τ1.1 0 8) (τ1.1 0 11) (σ1.1 38 6) (fun j => τ1.1 5 j) := yGe_d (yGe_m (by omega) (by omega) dG) (by rw [d127]; decide)
    have K2 : yGk (τ1.1 0 8) (τ1.1 0 11) (fun j => τ1.1 5 j) := yGk_m (by omega) (by omega) dK
    have dT1 : yRT (yw σ1 3 0 0) 38 (fun j => τ1.1 5 j) := yRT_fr (σ := σ1) (fun b => rfl) (fun a b h1 h2 => yw_n (by omega)) dT
    have h17 := H.1.2.2.2.1.2.2.2.2.2
    obtain ⟨σ2, g2, r2, w2, T2, e6, e0, e1, e2, e7⟩ := yRT_copy (N := N) (x := 17) (y := 38) (hs := τ1.1 0 8) (ds := τ1.1 0 11) (Or.inl (by decide)) (by rw [rf, rf]; exact h17) (by rw [yw_n (by omega), d2]; exact d5) dT1 (by rw [yw_n (by omega)]; exact G2)
    have hh : τ2.1 0 22 = τ1.1 0 22 := by rw [u2 _ _ (by omega) (by omega) (by omega) (by omega), yw_n (by omega)]
    refine ⟨j, yw σ2 0 7 0, τ2, ?_, ?_, ⟨⟨?_, ?_, ?_, fun i hi => ?_⟩, ?_, ⟨?_, ?_, ?_, ?_, ?_, ?_, fun d hd => ?_⟩, ?_, ?_⟩, ?_, ⟨?_, ?_⟩, fun k hk => ⟨?_, ?_, ?_, ?_, fun z => ?_⟩, fun k hk z => ?_, fun k hk => ?_, ?_⟩
    · unfold f_X7_text
      rw [g1]
      dsimp only
      unfold f_X7_text_b23
      rw [yw_n (by omega), f0, ybz, g2]
      dsimp only
      unfold f_X7_text_b60
      rw [yw_n (by omega), w2 2 6 (by omega), yw_n (by omega), ej]
    · rw [k1]
      unfold f_X8_text_b90
      rw [yw_n (by omega), ← fe.1, f0, ycP_le, decide_eq_true (by decide), cond_true, k2]
    · rw [yw_n (by omega), w2 3 0 (by omega), s0]; decide
    · rw [yw_n (by omega), w2 3 0 (by omega), s0]; decide
    · rw [yw_n (by omega), w2 3 0 (by omega), s0, u2 _ _ (by omega) (by omega) (by omega) (by omega), t0]
    · rw [yw_n (by omega), w2 3 0 (by omega), s0] at hi
      omega
    · rw [yw_n (by omega), w2 2 4 (by omega), yw_n (by omega), hh]; exact fe.1
    · rw [yw_n (by omega), e0, yw_n (by omega), a3]; exact d1
    · rw [yw_n (by omega), e1, yw_n (by omega), a4]; exact d2
    · rw [yw_n (by omega), e2, yw_n (by omega), a5]; exact d3
    · rw [a3]; exact d4
    · rw [a4]; exact d5
    · rw [a5]; exact d6
    · rw [a5] at hd
      rw [yw_n (by omega), e7 d (by omega), yw_n (by omega), a6 d (by rw [yw_n (by omega)]; exact hd), yw_n (by omega)]
      exact d7 d hd
    · exact yRT_fr (σ := σ2) (fun b => rfl) (fun a b h1 h2 => yw_n (by omega)) (yRT_cong (fun b h => v3 b h) G1 T2)
    · rw [yw_n (by omega), e6, yw_n (by omega), a3, a5]
      exact yGd_cong (fun b h => v3 b h) G2
    · rw [a3, a5]
      exact yGk_cong (fun b h => v3 b (by omega)) K2
    · rw [yw_p]; decide
    · rw [yw_p]; decide
    · show σ2.2 1 k = _
      rw [r2, rf]; exact (H.2.2.2.1 k hk).1
    · show (σ2.2 (59 + 21 * k) 11 = _ ∧ σ2.2 (59 + 21 * k) 12 = _) ∨ (σ2.2 (59 + 21 * k) 11 = _ ∧ σ2.2 (59 + 21 * k) 12 = _)
      rw [r2, rf, rf]; exact (H.2.2.2.1 k hk).2.1
    · have : k = 0 ∨ k = 1 := by omega
      rcases this with rfl | rfl
      · rw [a7]; decide
      · rw [a8]; decide
    · rw [yw_p, ybk0 k hk]
      have : k = 0 ∨ k = 1 := by omega
      rcases this with rfl | rfl
      · rw [a7]
      · rw [a8]
    · have : k = 0 ∨ k = 1 := by omega
      rcases this with rfl | rfl
      · rw [a7] at z; exact absurd z (by decide)
      · rw [a8] at z; exact absurd z (by decide)
    · have : k = 0 ∨ k = 1 := by omega
      rcases this with rfl | rfl
      · rw [a7] at z; exact absurd z (by decide)
      · rw [a8] at z; exact absurd z (by decide)
    · refine yRS_fr hk (fun b => ?_) (fun a b h1 h2 => ?_) (fun a b h => ?_) (H.2.2.2.2.2.1 k hk)
      · show σ2.2 8 b = _
        rw [r2, rf]
      · rw [yw_n (by omega), w2 a b (by omega), c a b (by omega) (by omega) (by omega)]
      · rw [u2 a b (by omega) (by omega) (by omega) (by omega), o a b (by omega) (by omega) (by omega) (by omega)]
    · unfold yTr at ht1 ⊢
      show (σ2.2 38 11 = _ ∧ σ2.2 38 12 = _) ∨ (σ2.2 38 11 = _ ∧ σ2.2 38 12 = _)
      rw [r2]; exact ht1
  · obtain ⟨⟨b1, b2, b3, -⟩, -⟩ := yE_Q E f0
    refine ⟨ysu (-10) (σ1.1 2 5), yw σ1 3 0 0, yw τ1 0 17 0, ?_, ?_, yRR_fr H ⟨⟨?_, ?_, ?_, fun i hi => ?_⟩, ?_, ?_, ?_, ?_⟩ ?_ (fun a b _ _ => rf a b) ht1 (c 0 7 (by omega) (by omega) (by omega)) (fun a b h => c a b (by omega) (by omega) (by omega)) (fun a b h => o a b (by omega) (by omega) (by omega) (by omega))⟩
    · unfold f_X7_text
      rw [g1]
      dsimp only
      unfold f_X7_text_b23
      rw [yw_n (by omega), ycP_eq, decide_eq_false f0, cond_false, yw_n (by omega)]
    · rw [k1]
      unfold f_X8_text_b90
      rw [yw_n (by omega), ycP_le, decide_eq_false (by omega), cond_false, yw_n (by omega), b3]
    · rw [s0]; decide
    · rw [s0]; decide
    · rw [s0, t0]
    · rw [s0] at hi; omega
    · rw [yw_n (by omega), yw_n (by omega)]; exact fe.1
    · exact yRH_f ⟨c _ _ (by omega) (by omega) (by omega), c _ _ (by omega) (by omega) (by omega), c _ _ (by omega) (by omega) (by omega)⟩ (fun b => c _ _ (by omega) (by omega) (by omega)) ⟨o _ _ (by omega) (by omega) (by omega) (by omega), o _ _ (by omega) (by omega) (by omega) (by omega), o _ _ (by omega) (by omega) (by omega) (by omega)⟩ (fun b => o _ _ (by omega) (by omega) (by omega) (by omega)) H.1.2.2.1
    · have e : (fun j => (yw τ1 0 17 0).1 1 j) = (fun j => τ.1 1 j) := funext fun j => o 1 j (by omega) (by omega) (by omega) (by omega)
      rw [e]
      exact yRT_fr (fun b => rf _ b) (fun a b h1 h2 => c a b (by omega) (by omega) (by omega)) H.1.2.2.2.1
    · have e : (fun j => (yw τ1 0 17 0).1 1 j) = (fun j => τ.1 1 j) := funext fun j => o 1 j (by omega) (by omega) (by omega) (by omega)
      rw [e, c 17 6 (by omega) (by omega) (by omega), o 0 3 (by omega) (by omega) (by omega) (by omega), o 0 5 (by omega) (by omega) (by omega) (by omega)]
      exact H.1.2.2.2.2
    · have e : (fun j => (yw τ1 0 17 0).1 1 j) = (fun j => τ.1 1 j) := funext fun j => o 1 j (by omega) (by omega) (by omega) (by omega)
      rw [e, o 0 3 (by omega) (by omega) (by omega) (by omega), o 0 5 (by omega) (by omega) (by omega) (by omega)]
      exact H.2.1
