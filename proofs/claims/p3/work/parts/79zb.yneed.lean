/-- writes that a reader does not see -/
theorem yE_w7 {σ τ : yS} {i k : Nat} {z : Int} (H : yE σ τ) (h : ¬ (i = 2 ∧ 1 ≤ k ∧ k ≤ 5) ∧ ¬ i = 3 ∧ ¬ i = 4) : yE (yw σ i k z) τ := by
  have r : ∀ a b : Nat, (a = 2 ∧ 1 ≤ b ∧ b ≤ 5) ∨ a = 3 ∨ a = 4 → (yw σ i k z).1 a b = σ.1 a b := fun a b q => yw_n (by omega)
  have T' : yTp σ τ → yTp (yw σ i k z) τ := fun ⟨a0, a1, a2, a3⟩ => ⟨by rw [r _ _ (by omega)]; exact a0, by rw [r _ _ (by omega)]; exact a1, by rw [r _ _ (by omega)]; exact a2, fun j hj => by rw [r _ _ (by omega)] at hj; rw [r _ _ (by omega)]; exact a3 j hj⟩
  rcases H with ⟨⟨T, f7, f8, hap, hp⟩, ⟨b, t, s0, t0, tz, tn, tv⟩⟩ | ⟨⟨b1, b2, b3, b4, b5, b6, b7⟩, T⟩
  · exact Or.inl ⟨⟨T' T, by rw [r _ _ (by omega)]; exact f7, f8, by rw [r _ _ (by omega)]; exact hap, hp⟩, ⟨by rw [r _ _ (by omega)]; exact b, by rw [r _ _ (by omega)]; exact t, s0, t0, tz, tn, tv⟩⟩
  · exact Or.inr ⟨⟨by rw [r _ _ (by omega)]; exact b1, b2, by rw [r _ _ (by omega)]; exact b3, b4, b5, by rw [r _ _ (by omega), r _ _ (by omega), r _ _ (by omega)]; exact b6, by rw [r _ _ (by omega)]; exact b7⟩, T' T⟩
theorem yE_c8 {σ τ τ' : yS} (H : yE σ τ) (r : ∀ a b : Nat, (a = 0 ∧ 17 ≤ b ∧ b ≤ 23) ∨ a = 8 → τ'.1 a b = τ.1 a b) : yE σ τ' := by
  have T' : yTp σ τ → yTp σ τ' := fun ⟨a0, a1, a2, a3⟩ => ⟨a0, a1, by rw [r _ _ (by omega)]; exact a2, fun j hj => by rw [r _ _ (by omega)]; exact a3 j hj⟩
  rcases H with ⟨⟨T, f7, f8, hap, hp⟩, ⟨b, t, s0, t0, tz, tn, tv⟩⟩ | ⟨⟨b1, b2, b3, b4, b5, b6, b7⟩, T⟩
  · refine Or.inl ⟨⟨T' T, f7, by rw [r _ _ (by omega)]; exact f8, by rw [r _ _ (by omega)]; exact hap, by rw [r 0 18 (by omega), r 0 17 (by omega)]; exact hp⟩, ⟨by rw [r _ _ (by omega)]; exact b, by rw [r _ _ (by omega)]; exact t, by rw [r 0 19 (by omega), r 0 18 (by omega)]; exact s0, by rw [r 0 20 (by omega)]; exact t0, by rw [r 0 20 (by omega), r 0 19 (by omega), r 0 17 (by omega)]; exact tz, by rw [r 0 20 (by omega), r 0 19 (by omega), r 0 18 (by omega)]; exact tn, fun q => ?_⟩⟩
    rw [r 0 20 (by omega)] at q
    obtain ⟨s, h1, h2, h3⟩ := tv q
    refine ⟨s, by rw [r 0 19 (by omega)]; exact h1, by rw [r 8 s (by omega)]; exact h2, ?_⟩
    rw [r 8 s (by omega), r 8 (s + 1) (by omega), r 0 18 (by omega), r 0 21 (by omega)]
    exact h3
  · exact Or.inr ⟨⟨by rw [r _ _ (by omega)]; exact b1, by rw [r _ _ (by omega)]; exact b2, by rw [r _ _ (by omega)]; exact b3, by rw [r _ _ (by omega)]; exact b4, by rw [r _ _ (by omega)]; exact b5, b6, b7⟩, T' T⟩
theorem yE_w8 {σ τ : yS} {i k : Nat} {z : Int} (H : yE σ τ) (h : ¬ (i = 0 ∧ 17 ≤ k ∧ k ≤ 23) ∧ ¬ i = 8) : yE σ (yw τ i k z) := yE_c8 H (fun a b q => yw_n (by omega))
theorem yE_f {σ τ : yS} (H : yE σ τ) : σ.1 2 4 = τ.1 0 22 ∧ 0 ≤ τ.1 0 22 := by
  rcases H with ⟨⟨T, f7, f8, -⟩, -⟩ | ⟨⟨b1, b2, -⟩, -⟩
  · omega
  · omega
theorem ymx_e (a b : Int) : ymx a b = if a < b then b else a := by
  unfold ymx
  by_cases h : a < b
  · rw [if_pos h, show zle (a + 1) b = true from decide_eq_true (by omega)]
    rfl
  · rw [if_neg h, show zle (a + 1) b = false from decide_eq_false (by omega)]
    rfl
/-- the greatest house or deed told so far -/
def yGr (x y : Int) (m : Int) : Prop := (x = -1 ∧ y = -4) ∨ (x = y ∧ 0 ≤ y ∧ y ≤ m)
theorem p_needHouse {N : Nat} (hN : 400 ≤ N) {σ0 σ τ : yS} (hr : f_X1_readToken N σ0 = some (0, σ)) (H : yE σ τ) (G : σ.1 2 4 = 0 → yGr (σ.1 2 11) (τ.1 0 14) 6) : ∃ (a b : Int) (σ' τ' : yS), f_X1_needHouse N σ0 = some (a, σ') ∧ f_X8_lookedHouse N τ = some (b, τ') ∧ yE σ' τ' ∧ (0 ≤ a ∧ a ≤ 6) ∧ (0 ≤ b ∧ b ≤ 6) ∧ σ'.2 = σ.2 ∧ (∀ i k : Nat, ¬ (i = 2 ∧ (1 ≤ k ∧ k ≤ 5 ∨ k = 11)) → σ'.1 i k = σ.1 i k) ∧ (∀ i k : Nat, ¬ (i = 0 ∧ (18 ≤ k ∧ k ≤ 23 ∨ k = 14)) → τ'.1 i k = τ.1 i k) ∧ σ'.1 2 1 = σ.1 2 1 ∧ (σ'.1 2 4 = 0 → a = b ∧ σ.1 2 4 = 0 ∧ (σ'.1 2 11 = τ'.1 0 14 ∧ τ.1 0 14 ≤ τ'.1 0 14 ∧ a ≤ τ'.1 0 14 ∧ 0 ≤ τ'.1 0 14 ∧ τ'.1 0 14 ≤ 6)) := by
  obtain ⟨a, b, σ1, τ1, g7, g8, E, k7, k8, ha, hb, ok, mo, ff, -⟩ := p_num (N := N) hN (lo := 0) (hi := 6) (by omega) H
  have b6 : 0 ≤ b ∧ b ≤ 6 := by omega
  obtain ⟨v, hv⟩ : ∃ v : Int, (if ¬ τ1.1 0 22 = 0 then τ1.1 0 14 else if b ≤ τ1.1 0 14 then τ1.1 0 14 else b) = v := ⟨_, rfl⟩
  refine ⟨a, b, yw σ1 2 11 (ymx (σ1.1 2 11) a), yw τ1 0 14 v, ?_, ?_, yE_w8 (yE_w7 E (by omega)) (by omega), ha, b6, k7.1, fun i k q => ?_, fun i k q => ?_, ?_, fun z => ?_⟩
  · simp only [f_X1_needHouse, hr, g7]
  · simp only [f_X8_lookedHouse, g8, f_X8_lookedHouse_b28, f_X8_lookedHouse_b32, ycP_ne, ycP_le]
    by_cases h1 : τ1.1 0 22 = 0
    · rw [if_neg (fun q => q h1)] at hv
      rw [decide_eq_false (show ¬ ¬ τ1.1 0 22 = 0 from fun q => q h1), cond_false]
      by_cases h2 : b ≤ τ1.1 0 14
      · rw [if_pos h2] at hv
        rw [decide_eq_true h2, cond_true, hv]
      · rw [if_neg h2] at hv
        rw [decide_eq_false h2, cond_false, hv]
    · rw [if_pos h1] at hv
      rw [decide_eq_true h1, cond_true, hv]
  · rw [yw_n (by omega)]; exact k7.2 i k (by omega)
  · rw [yw_n (by omega)]; exact k8 i k (by omega)
  · rw [yw_n (by omega)]; exact mo
  · rw [yw_n (by omega)] at z
    obtain ⟨e1, e2, e3⟩ := ok z
    subst e2
    subst e3
    have G := G z
    have f0 : τ1.1 0 22 = 0 := by omega
    rw [if_neg (fun q => q f0)] at hv
    rw [yw_p, yw_p, ymx_e]
    unfold yGr at G
    refine ⟨e1, z, ?_⟩
    by_cases h2 : b ≤ τ1.1 0 14
    · rw [if_pos h2] at hv
      by_cases h3 : σ1.1 2 11 < a
      · rw [if_pos h3]; omega
      · rw [if_neg h3]; omega
    · rw [if_neg h2] at hv
      by_cases h3 : σ1.1 2 11 < a
      · rw [if_pos h3]; omega
      · rw [if_neg h3]; omega
theorem p_deedHere {N : Nat} (hN : 400 ≤ N) {σ τ : yS} (H : yE σ τ) (G : σ.1 2 4 = 0 → yGr (σ.1 2 12) (τ.1 0 15) 4) : ∃ (a b : Int) (σ1 τ' : yS), f_X1_numberHere N σ 0 4 = some (a, σ1) ∧ f_X8_lookedDeed N τ = some (b, τ') ∧ yE (yw σ1 2 12 (ymx (σ1.1 2 12) a)) τ' ∧ (0 ≤ a ∧ a ≤ 4) ∧ (0 ≤ b ∧ b ≤ 4) ∧ σ1.2 = σ.2 ∧ (∀ i k : Nat, ¬ (i = 2 ∧ (1 ≤ k ∧ k ≤ 5)) → σ1.1 i k = σ.1 i k) ∧ (∀ i k : Nat, ¬ (i = 0 ∧ (18 ≤ k ∧ k ≤ 23 ∨ k = 15)) → τ'.1 i k = τ.1 i k) ∧ σ1.1 2 1 = σ.1 2 1 ∧ (σ1.1 2 4 = 0 → a = b ∧ σ1 = σ ∧ σ.1 2 4 = 0 ∧ (ymx (σ1.1 2 12) a = τ'.1 0 15 ∧ τ.1 0 15 ≤ τ'.1 0 15 ∧ a ≤ τ'.1 0 15 ∧ 0 ≤ τ'.1 0 15 ∧ τ'.1 0 15 ≤ 4)) := by
  obtain ⟨a, b, σ1, τ1, g7, g8, E, k7, k8, ha, hb, ok, mo, ff, -⟩ := p_num (N := N) hN (lo := 0) (hi := 4) (by omega) H
  have b6 : 0 ≤ b ∧ b ≤ 4 := by omega
  obtain ⟨v, hv⟩ : ∃ v : Int, (if ¬ τ1.1 0 22 = 0 then τ1.1 0 15 else if b ≤ τ1.1 0 15 then τ1.1 0 15 else b) = v := ⟨_, rfl⟩
  refine ⟨a, b, σ1, yw τ1 0 15 v, g7, ?_, yE_w8 (yE_w7 E (by omega)) (by omega), ha, b6, k7.1, fun i k q => k7.2 i k (by omega), fun i k q => ?_, mo, fun z => ?_⟩
  · simp only [f_X8_lookedDeed, g8, f_X8_lookedDeed_b27, f_X8_lookedDeed_b31, ycP_ne, ycP_le]
    by_cases h1 : τ1.1 0 22 = 0
    · rw [if_neg (fun q => q h1)] at hv
      rw [decide_eq_false (show ¬ ¬ τ1.1 0 22 = 0 from fun q => q h1), cond_false]
      by_cases h2 : b ≤ τ1.1 0 15
      · rw [if_pos h2] at hv
        rw [decide_eq_true h2, cond_true, hv]
      · rw [if_neg h2] at hv
        rw [decide_eq_false h2, cond_false, hv]
    · rw [if_pos h1] at hv
      rw [decide_eq_true h1, cond_true, hv]
  · rw [yw_n (by omega)]; exact k8 i k (by omega)
  · obtain ⟨e1, e2, e3⟩ := ok z
    subst e2
    subst e3
    have G := G z
    have f0 : τ1.1 0 22 = 0 := by omega
    rw [if_neg (fun q => q f0)] at hv
    rw [yw_p, ymx_e]
    unfold yGr at G
    refine ⟨e1, rfl, z, ?_⟩
    by_cases h2 : b ≤ τ1.1 0 15
    · rw [if_pos h2] at hv
      by_cases h3 : σ1.1 2 12 < a
      · rw [if_pos h3]; omega
      · rw [if_neg h3]; omega
    · rw [if_neg h2] at hv
      by_cases h3 : σ1.1 2 12 < a
      · rw [if_pos h3]; omega
      · rw [if_neg h3]; omega
theorem p_needDeed {N : Nat} (hN : 400 ≤ N) {σ0 σ τ : yS} (hr : f_X1_readToken N σ0 = some (0, σ)) (H : yE σ τ) (G : σ.1 2 4 = 0 → yGr (σ.1 2 12) (τ.1 0 15) 4) : ∃ (a b : Int) (σ' τ' : yS), f_X1_needDeed N σ0 = some (a, σ') ∧ f_X8_lookedDeed N τ = some (b, τ') ∧ yE σ' τ' ∧ (0 ≤ a ∧ a ≤ 4) ∧ (0 ≤ b ∧ b ≤ 4) ∧ σ'.2 = σ.2 ∧ (∀ i k : Nat, ¬ (i = 2 ∧ (1 ≤ k ∧ k ≤ 5 ∨ k = 12)) → σ'.1 i k = σ.1 i k) ∧ (∀ i k : Nat, ¬ (i = 0 ∧ (18 ≤ k ∧ k ≤ 23 ∨ k = 15)) → τ'.1 i k = τ.1 i k) ∧ σ'.1 2 1 = σ.1 2 1 ∧ (σ'.1 2 4 = 0 → a = b ∧ σ.1 2 4 = 0 ∧ (σ'.1 2 12 = τ'.1 0 15 ∧ τ.1 0 15 ≤ τ'.1 0 15 ∧ a ≤ τ'.1 0 15 ∧ 0 ≤ τ'.1 0 15 ∧ τ'.1 0 15 ≤ 4)) := by
  obtain ⟨a, b, σ1, τ', g7, g8, E, ha, hb, s2, f7, f8, mo, ok⟩ := p_deedHere (N := N) hN H G
  refine ⟨a, b, yw σ1 2 12 (ymx (σ1.1 2 12) a), τ', ?_, g8, E, ha, hb, s2, fun i k q => ?_, f8, ?_, fun z => ?_⟩
  · simp only [f_X1_needDeed, hr, g7, f_X1_noteDeed]
  · rw [yw_n (by omega)]; exact f7 i k (by omega)
  · rw [yw_n (by omega)]; exact mo
  · rw [yw_n (by omega)] at z
    obtain ⟨e1, e2, e3, e4⟩ := ok z
    rw [yw_p]
    exact ⟨e1, e3, e4⟩
theorem p_needNumber {N : Nat} (hN : 400 ≤ N) {σ0 σ τ : yS} {lo hi : Int} (hr : f_X1_readToken N σ0 = some (0, σ)) (hl : 0 ≤ lo ∧ lo ≤ hi) (H : yE σ τ) : ∃ (a b : Int) (σ' τ' : yS), f_X1_needNumber N σ0 lo hi = some (a, σ') ∧ f_X8_looked N τ lo hi = some (b, τ') ∧ yE σ' τ' ∧ yK7 σ σ' ∧ yK8 τ τ' ∧ (lo ≤ a ∧ a ≤ hi) ∧ (b = 0 ∨ (lo ≤ b ∧ b ≤ hi)) ∧ (σ'.1 2 4 = 0 → a = b ∧ σ' = σ ∧ τ' = τ) ∧ σ'.1 2 1 = σ.1 2 1 := by
  obtain ⟨a, b, σ1, τ1, g7, g8, E, k7, k8, ha, hb, ok, mo, ff, -⟩ := p_num (N := N) hN hl H
  refine ⟨a, b, σ1, τ1, ?_, g8, E, k7, k8, ha, hb, ok, mo⟩
  simp only [f_X1_needNumber, hr, g7]
