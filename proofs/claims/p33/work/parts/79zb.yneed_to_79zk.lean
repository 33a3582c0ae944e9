section
/-- writes that a reader does not see -/
theorem yE_w7 {σ τ : yS} {i k : Nat} {z : Int} (H : yE σ τ) (h : ¬ (i = 2 ∧ 1 ≤ k ∧ k ≤ 5) ∧ ¬ i = 3 ∧ ¬ i = 4) : yE (yw σ i k z) τ := by
  have r : ∀ a b : Nat, (a = 2 ∧ 1 ≤ b ∧ b ≤ 5) ∨ a = 3 ∨ a = 4 → (yw σ i k z).1 a b = σ.1 a b := fun a b q => yw_n (by omega)
  have T' : yTp σ τ → yTp (yw σ i k z) τ := fun ⟨a0, a1, a2, a3⟩ => ⟨by rw [r _ _ (by omega)]; exact a0, by rw [r _ _ (by omega)]; exact a1, by rw [r _ _ (by omega)]; exact a2, fun j hj => by rw [r _ _ (by omega)] at hj; rw [r _ _ (by omega)]; exact a3 j hj⟩
  rcases H with ⟨⟨T, f7, f8, hap, hp⟩, ⟨b, t, s0, t0, tz, tn, tv⟩⟩ | ⟨⟨b1, b2, b3, b4, b5, b6, b7⟩, T⟩
  · exact Or.inl ⟨⟨T' T, by rw [r _ _ (by omega)]; exact f7, f8, by rw [r _ _ (by omega)]; exact hap, hp⟩, ⟨by rw [r _ _ (by omega)]; exact b, by rw [r _ _ (by omega)]; exact t, s0, t0, tz, tn, tv⟩⟩
  · exact Or.inr ⟨⟨by rw [r _ _ (by omega)]; exact b1, b2, by rw [r _ _ (by omega)]; exact b3, b4, b5, by rw [r _ _ (by omega), r _ _ (by omega), r _ _ (by omega)]; exact b6, by rw [r _ _ (by omega)]; exact b7⟩, T' T⟩
theorem yE_c8 {σ τ τ' : yS} (H : yE σ τ) (r : ∀ a b : Nat, (a = 0 ∧ 17 ≤ b ∧ b ≤ 23) ∨ a = 8 → τ'.1 a b = τ.1 a b) : yE σ τ' := by
  have T' : yTp σ τ → yTp σ τ' := fun ⟨a0, a1, a2, a3⟩ => ⟨a0, a1, by rw [r _ _ (by omega)]; exact a2, fun j hj => by rw [r _ _ (by omega)]; exact a3 j hj⟩
  rcases H with ⟨⟨T, f7, f8, hap, hp⟩, ⟨b, t, s0, t0, tz, tn, tv⟩⟩ | ⟨⟨b1, b2, b3, b4, b5, b6, b7⟩, T⟩
  · refine Or.inl ⟨⟨T' T, f7, by rw [r _ _ (by omega)]; exact f8, by rw [r _ _ (by omega)]; exact hap, by rw [r 0 18 (by omega), r 0 17 (by omega)]; exact hp⟩, ⟨by rw [r _ _ (by omega)]; exact b, by rw [r _ _ (by omega)]; exact t, by rw [r 0 19 (by omega), r 0 18 (by omega)]; exact s0, by rw [r 0 20 (by omega)]; exact t0, by rw [r 0 20 (by omega), r 0 19 (by omega), r 0 17 (by omega)]; exact tz, by rw [r 0 20 (by omega), r 0 19 (by omega), r 0 18 (by omega)]; exact tn, fun q => ?_⟩⟩
    rw [r 0 20 (by omega)] at q
    obtain ⟨s, h1, h2, h3⟩ := tv q
    refine ⟨s, by rw [r 0 19 (by omega)]; exact h1, by rw [r 8 s (by omega)]; exact h2, ?_⟩
    rw [r 8 s (by omega), r 8 (s + 1) (by omega), r 0 18 (by omega), r 0 21 (by omega)]
    exact h3
  · exact Or.inr ⟨⟨by rw [r _ _ (by omega)]; exact b1, by rw [r _ _ (by omega)]; exact b2, by rw [r _ _ (by omega)]; exact b3, by rw [r _ _ (by omega)]; exact b4, by rw [r _ _ (by omega)]; exact b5, b6, b7⟩, T' T⟩
theorem yE_w8 {σ τ : yS} {i k : Nat} {z : Int} (H : yE σ τ) (h : ¬ (i = 0 ∧ 17 ≤ k ∧ k ≤ 23) ∧ ¬ i = 8) : yE σ (yw τ i k z) := yE_c8 H (fun a b q => yw_n (by omega))
theorem yE_f {σ τ : yS} (H : yE σ τ) : σ.1 2 4 = τ.1 0 22 ∧ 0 ≤ τ.1 0 22 := by
  rcases H with ⟨⟨T, f7, f8, -⟩, -⟩ | ⟨⟨b1, b2, -⟩, -⟩
  · omega
  · omega
theorem ymx_e (a b : Int) : ymx a b = if a < b then b else a := by
  unfold ymx
  by_cases h : a < b
  · rw [if_pos h, show zle (a + 1) b = true from decide_eq_true (by omega)]
    rfl
  · rw [if_neg h, show zle (a + 1) b = false from decide_eq_false (by omega)]
    rfl
/-- the greatest house or deed told so far -/
def yGr (x y : Int) (m : Int) : Prop := (x = -1 ∧ y = -4) ∨ (x = y ∧ 0 ≤ y ∧ y ≤ m)
theorem p_needHouse {N : Nat} (hN : 400 ≤ N) {σ0 σ τ : yS} (hr : f_X1_readToken N σ0 = some (0, σ)) (H : yE σ τ) (G : σ.1 2 4 = 0 → yGr (σ.1 2 11) (τ.1 0 14) 6) : ∃ (a b : Int) (σ' τ' : yS), f_X1_needHouse N σ0 = some (a, σ') ∧ f_X8_lookedHouse N τ = some (b, τ') ∧ yE σ' τ' ∧ (0 ≤ a ∧ a ≤ 6) ∧ (0 ≤ b ∧ b ≤ 6) ∧ σ'.2 = σ.2 ∧ (∀ i k : Nat, ¬ (i = 2 ∧ (1 ≤ k ∧ k ≤ 5 ∨ k = 11)) → σ'.1 i k = σ.1 i k) ∧ (∀ i k : Nat, ¬ (i = 0 ∧ (18 ≤ k ∧ k ≤ 23 ∨ k = 14)) → τ'.1 i k = τ.1 i k) ∧ σ'.1 2 1 = σ.1 2 1 ∧ (σ'.1 2 4 = 0 → a = b ∧ σ.1 2 4 = 0 ∧ (σ'.1 2 11 = τ'.1 0 14 ∧ τ.1 0 14 ≤ τ'.1 0 14 ∧ a ≤ τ'.1 0 14 ∧ 0 ≤ τ'.1 0 14 ∧ τ'.1 0 14 ≤ 6)) := by
  obtain ⟨a, b, σ1, τ1, g7, g8, E, k7, k8, ha, hb, ok, mo, ff, -⟩ := p_num (N := N) hN (lo := 0) (hi := 6) (by omega) H
  have b6 : 0 ≤ b ∧ b ≤ 6 := by omega
  obtain ⟨v, hv⟩ : ∃ v : Int, (if ¬ τ1.1 0 22 = 0 then τ1.1 0 14 else if b ≤ τ1.1 0 14 then τ1.1 0 14 else b) = v := ⟨_, rfl⟩
  refine ⟨a, b, yw σ1 2 11 (ymx (σ1.1 2 11) a), yw τ1 0 14 v, ?_, ?_, yE_w8 (yE_w7 E (by omega)) (by omega), ha, b6, k7.1, fun i k q => ?_, fun i k q => ?_, ?_, fun z => ?_⟩
  · simp only [f_X1_needHouse, hr, g7]
  · simp only [f_X8_lookedHouse, g8, f_X8_lookedHouse_b28, f_X8_lookedHouse_b32, ycP_ne, ycP_le]
    by_cases h1 : τ1.1 0 22 = 0
    · rw [if_neg (fun q => q h1)] at hv
      rw [decide_eq_false (show ¬ ¬ τ1.1 0 22 = 0 from fun q => q h1), cond_false]
      by_cases h2 : b ≤ τ1.1 0 14
      · rw [if_pos h2] at hv
        rw [decide_eq_true h2, cond_true, hv]
      · rw [if_neg h2] at hv
        rw [decide_eq_false h2, cond_false, hv]
    · rw [if_pos h1] at hv
      rw [decide_eq_true h1, cond_true, hv]
  · rw [yw_n (by omega)]; exact k7.2 i k (by omega)
  · rw [yw_n (by omega)]; exact k8 i k (by omega)
  · rw [yw_n (by omega)]; exact mo
  · rw [yw_n (by omega)] at z
    obtain ⟨e1, e2, e3⟩ := ok z
    subst e2
    subst e3
    have G := G z
    have f0 : τ1.1 0 22 = 0 := by omega
    rw [if_neg (fun q => q f0)] at hv
    rw [yw_p, yw_p, ymx_e]
    unfold yGr at G
    refine ⟨e1, z, ?_⟩
    by_cases h2 : b ≤ τ1.1 0 14
    · rw [if_pos h2] at hv
      by_cases h3 : σ1.1 2 11 < a
      · rw [if_pos h3]; omega
      · rw [if_neg h3]; omega
    · rw [if_neg h2] at hv
      by_cases h3 : σ1.1 2 11 < a
      · rw [if_pos h3]; omega
      · rw [if_neg h3]; omega
theorem p_deedHere {N : Nat} (hN : 400 ≤ N) {σ τ : yS} (H : yE σ τ) (G : σ.1 2 4 = 0 → yGr (σ.1 2 12) (τ.1 0 15) 4) : ∃ (a b : Int) (σ1 τ' : yS), f_X1_numberHere N σ 0 4 = some (a, σ1) ∧ f_X8_lookedDeed N τ = some (b, τ') ∧ yE (yw σ1 2 12 (ymx (σ1.1 2 12) a)) τ' ∧ (0 ≤ a ∧ a ≤ 4) ∧ (0 ≤ b ∧ b ≤ 4) ∧ σ1.2 = σ.2 ∧ (∀ i k : Nat, ¬ (i = 2 ∧ (1 ≤ k ∧ k ≤ 5)) → σ1.1 i k = σ.1 i k) ∧ (∀ i k : Nat, ¬ (i = 0 ∧ (18 ≤ k ∧ k ≤ 23 ∨ k = 15)) → τ'.1 i k = τ.1 i k) ∧ σ1.1 2 1 = σ.1 2 1 ∧ (σ1.1 2 4 = 0 → a = b ∧ σ1 = σ ∧ σ.1 2 4 = 0 ∧ (ymx (σ1.1 2 12) a = τ'.1 0 15 ∧ τ.1 0 15 ≤ τ'.1 0 15 ∧ a ≤ τ'.1 0 15 ∧ 0 ≤ τ'.1 0 15 ∧ τ'.1 0 15 ≤ 4)) := by
  obtain ⟨a, b, σ1, τ1, g7, g8, E, k7, k8, ha, hb, ok, mo, ff, -⟩ := p_num (N := N) hN (lo := 0) (hi := 4) (by omega) H
  have b6 : 0 ≤ b ∧ b ≤ 4 := by omega
  obtain ⟨v, hv⟩ : ∃ v : Int, (if ¬ τ1.1 0 22 = 0 then τ1.1 0 15 else if b ≤ τ1.1 0 15 then τ1.1 0 15 else b) = v := ⟨_, rfl⟩
  refine ⟨a, b, σ1, yw τ1 0 15 v, g7, ?_, yE_w8 (yE_w7 E (by omega)) (by omega), ha, b6, k7.1, fun i k q => k7.2 i k (by omega), fun i k q => ?_, mo, fun z => ?_⟩
  · simp only [f_X8_lookedDeed, g8, f_X8_lookedDeed_b27, f_X8_lookedDeed_b31, ycP_ne, ycP_le]
    by_cases h1 : τ1.1 0 22 = 0
    · rw [if_neg (fun q => q h1)] at hv
      rw [decide_eq_false (show ¬ ¬ τ1.1 0 22 = 0 from fun q => q h1), cond_false]
      by_cases h2 : b ≤ τ1.1 0 15
      · rw [if_pos h2] at hv
        rw [decide_eq_true h2, cond_true, hv]
      · rw [if_neg h2] at hv
        rw [decide_eq_false h2, cond_false, hv]
    · rw [if_pos h1] at hv
      rw [decide_eq_true h1, cond_true, hv]
  · rw [yw_n (by omega)]; exact k8 i k (by omega)
  · obtain ⟨e1, e2, e3⟩ := ok z
    subst e2
    subst e3
    have G := G z
    have f0 : τ1.1 0 22 = 0 := by omega
    rw [if_neg (fun q => q f0)] at hv
    rw [yw_p, ymx_e]
    unfold yGr at G
    refine ⟨e1, rfl, z, ?_⟩
    by_cases h2 : b ≤ τ1.1 0 15
    · rw [if_pos h2] at hv
      by_cases h3 : σ1.1 2 12 < a
      · rw [if_pos h3]; omega
      · rw [if_neg h3]; omega
    · rw [if_neg h2] at hv
      by_cases h3 : σ1.1 2 12 < a
      · rw [if_pos h3]; omega
      · rw [if_neg h3]; omega
theorem p_needDeed {N : Nat} (hN : 400 ≤ N) {σ0 σ τ : yS} (hr : f_X1_readToken N σ0 = some (0, σ)) (H : yE σ τ) (G : σ.1 2 4 = 0 → yGr (σ.1 2 12) (τ.1 0 15) 4) : ∃ (a b : Int) (σ' τ' : yS), f_X1_needDeed N σ0 = some (a, σ') ∧ f_X8_lookedDeed N τ = some (b, τ') ∧ yE σ' τ' ∧ (0 ≤ a ∧ a ≤ 4) ∧ (0 ≤ b ∧ b ≤ 4) ∧ σ'.2 = σ.2 ∧ (∀ i k : Nat, ¬ (i = 2 ∧ (1 ≤ k ∧ k ≤ 5 ∨ k = 12)) → σ'.1 i k = σ.1 i k) ∧ (∀ i k : Nat, ¬ (i = 0 ∧ (18 ≤ k ∧ k ≤ 23 ∨ k = 15)) → τ'.1 i k = τ.1 i k) ∧ σ'.1 2 1 = σ.1 2 1 ∧ (σ'.1 2 4 = 0 → a = b ∧ σ.1 2 4 = 0 ∧ (σ'.1 2 12 = τ'.1 0 15 ∧ τ.1 0 15 ≤ τ'.1 0 15 ∧ a ≤ τ'.1 0 15 ∧ 0 ≤ τ'.1 0 15 ∧ τ'.1 0 15 ≤ 4)) := by
  obtain ⟨a, b, σ1, τ', g7, g8, E, ha, hb, s2, f7, f8, mo, ok⟩ := p_deedHere (N := N) hN H G
  refine ⟨a, b, yw σ1 2 12 (ymx (σ1.1 2 12) a), τ', ?_, g8, E, ha, hb, s2, fun i k q => ?_, f8, ?_, fun z => ?_⟩
  · simp only [f_X1_needDeed, hr, g7, f_X1_noteDeed]
  · rw [yw_n (by omega)]; exact f7 i k (by omega)
  · rw [yw_n (by omega)]; exact mo
  · rw [yw_n (by omega)] at z
    obtain ⟨e1, e2, e3, e4⟩ := ok z
    rw [yw_p]
    exact ⟨e1, e3, e4⟩
theorem p_needNumber {N : Nat} (hN : 400 ≤ N) {σ0 σ τ : yS} {lo hi : Int} (hr : f_X1_readToken N σ0 = some (0, σ)) (hl : 0 ≤ lo ∧ lo ≤ hi) (H : yE σ τ) : ∃ (a b : Int) (σ' τ' : yS), f_X1_needNumber N σ0 lo hi = some (a, σ') ∧ f_X8_looked N τ lo hi = some (b, τ') ∧ yE σ' τ' ∧ yK7 σ σ' ∧ yK8 τ τ' ∧ (lo ≤ a ∧ a ≤ hi) ∧ (b = 0 ∨ (lo ≤ b ∧ b ≤ hi)) ∧ (σ'.1 2 4 = 0 → a = b ∧ σ' = σ ∧ τ' = τ) ∧ σ'.1 2 1 = σ.1 2 1 := by
  obtain ⟨a, b, σ1, τ1, g7, g8, E, k7, k8, ha, hb, ok, mo, ff, -⟩ := p_num (N := N) hN hl H
  refine ⟨a, b, σ1, τ1, ?_, g8, E, k7, k8, ha, hb, ok, mo⟩
  simp only [f_X1_needNumber, hr, g7]
end
section
/-- the class behind a fault -/
def yB7 (σ : yS) : Prop := ¬ σ.1 2 4 = 0 ∧ 0 ≤ σ.1 2 3 ∧ σ.1 2 3 ≤ σ.1 2 1 ∧ σ.1 2 1 ≤ 160
def yQ7 (σ : yS) : Prop := yTr σ ∧ (0 ≤ σ.1 38 2 ∧ σ.1 38 2 ≤ 5) ∧ (0 ≤ σ.1 (σ.2 38 11) 0 ∧ σ.1 (σ.2 38 11) 0 ≤ 10) ∧ (0 ≤ σ.1 56 0 ∧ σ.1 56 0 ≤ 4)
/-- what reading on behind a fault leaves alone -/
def yZB (σ σ' : yS) : Prop := σ'.2 = σ.2 ∧ ∀ a b : Nat, ¬ (a = 2 ∧ 7 ≤ b) → ¬ (38 ≤ a ∧ a < 59) → σ'.1 a b = σ.1 a b
theorem yZB_r {σ : yS} : yZB σ σ := ⟨rfl, fun _ _ _ _ => rfl⟩
theorem yZB_t {σ1 σ2 σ3 : yS} (h : yZB σ1 σ2) (k : yZB σ2 σ3) : yZB σ1 σ3 := ⟨k.1.trans h.1, fun a b x y => by rw [k.2 a b x y, h.2 a b x y]⟩
theorem yZB_w {σ1 σ2 : yS} {i k : Nat} {z : Int} (h : yZB σ1 σ2) (hi : (i = 2 ∧ 7 ≤ k) ∨ (38 ≤ i ∧ i < 59)) : yZB σ1 (yw σ2 i k z) := ⟨h.1, fun a b x y => by rw [yw_n (by omega), h.2 a b x y]⟩
theorem yB7_z {σ σ' : yS} (h : yZB σ σ') (B : yB7 σ) : yB7 σ' := by
  unfold yB7 at B ⊢
  rw [h.2 2 4 (by omega) (by omega), h.2 2 3 (by omega) (by omega), h.2 2 1 (by omega) (by omega)]
  exact B
theorem yQ7_w {σ : yS} {i k : Nat} {z : Int} (Q : yQ7 σ) (h : ¬ (i = 38 ∧ k = 2) ∧ ¬ (i = 46 ∧ k = 0) ∧ ¬ (i = 51 ∧ k = 0) ∧ ¬ (i = 56 ∧ k = 0)) : yQ7 (yw σ i k z) := by
  obtain ⟨q1, q2, q3, q4⟩ := Q
  have q1' := q1
  unfold yTr at q1'
  refine ⟨q1, by rw [yw_n (by omega)]; exact q2, ?_, by rw [yw_n (by omega)]; exact q4⟩
  rw [yw_2, yw_n (by omega)]
  exact q3
theorem x1_tbad {N : Nat} {σ : yS} (B : yB7 σ) : f_X1_readToken N σ = some (0, σ) := by
  unfold f_X1_readToken
  rw [ycP_eq, decide_eq_false B.1, cond_false]
theorem x1_nbad {N : Nat} (hN : 400 ≤ N) {σ : yS} {lo hi : Int} (B : yB7 σ) : f_X1_numberHere N σ lo hi = some (lo, σ) := by
  obtain ⟨n7, b1, b2, b3⟩ := B
  have e79 : ∀ v : Int, f_X1_numberHere_b79 N σ lo v = some (lo, σ) := fun v => by
    unfold f_X1_numberHere_b79
    rw [ycP_ne, decide_eq_true n7]
    rfl
  unfold f_X1_numberHere
  by_cases h2 : σ.1 2 2 = 2
  · rw [ycP_eq, decide_eq_true h2, cond_true]
    obtain ⟨A, hA⟩ : ∃ A : Nat, σ.1 2 1 = (A : Int) := ⟨(σ.1 2 1).toNat, by omega⟩
    obtain ⟨s, hs⟩ : ∃ A : Nat, σ.1 2 3 = (A : Int) := ⟨(σ.1 2 3).toNat, by omega⟩
    obtain ⟨v', g⟩ := x1_num_l (N := N) (σ := σ) (lo := lo) (hi := hi) hA (by omega) (A - s) (N - (A - s) - 1) s 0 (by omega)
    rw [show N - (A - s) - 1 + (A - s) + 1 = N by omega] at g
    rw [hs, g, x7_within]
    by_cases hr : lo ≤ v' ∧ v' ≤ hi
    · rw [if_pos hr]
      exact e79 v'
    · rw [if_neg hr]
      show (match f_X1_complain N σ 3 (σ.1 2 3) with
          | none => none
          | some r2 => f_X1_numberHere_b79 N r2.2 lo v') = _
      rw [x1_cbad n7]
      exact e79 v'
  · rw [ycP_eq, decide_eq_false h2, cond_false, x1_cbad n7]
theorem x1_kbad {N : Nat} {σ : yS} (B : yB7 σ) : ∃ k : Int, (0 ≤ k ∧ k ≤ 4) ∧ f_X1_needKind N σ = some (k, σ) := by
  have hr := x1_tbad (N := N) B
  obtain ⟨n7, b1, b2, b3⟩ := B
  obtain ⟨s, hs⟩ : ∃ s : Nat, σ.1 2 3 = (s : Int) := ⟨(σ.1 2 3).toNat, by omega⟩
  obtain ⟨P, hP⟩ : ∃ s : Nat, σ.1 2 1 = (s : Int) := ⟨(σ.1 2 1).toNat, by omega⟩
  have nm : ∀ w : List Int, f_X1_isName w σ 2 = some (0, σ) ∨ f_X1_isName w σ 2 = some (1, σ) := fun w => by
    obtain ⟨e, g, e01, -⟩ := x1_isName (σ := σ) (s := s) (P := P) w hs hP (by omega) (by omega)
    rcases e01 with rfl | rfl
    · exact Or.inl g
    · exact Or.inr g
  unfold f_X1_needKind
  rw [hr]
  rcases nm [112, 108, 97, 105, 110] with a1 | a1
  · rcases nm [108, 101, 102, 116] with a2 | a2
    · rcases nm [100, 114, 117, 110, 107] with a3 | a3
      · rcases nm [106, 111, 105, 110, 116] with a4 | a4
        · rcases nm [116, 104, 114, 101, 97, 116] with a5 | a5
          · exact ⟨4, by decide, by simp only [a1, a2, a3, a4, a5, ybz, ybz2, x1_cbad n7, f_X1_needKind_b66]⟩
          · exact ⟨4, by decide, by simp only [a1, a2, a3, a4, a5, ybz, ybo2, f_X1_needKind_b66]⟩
        · exact ⟨3, by decide, by simp only [a1, a2, a3, a4, ybz, ybo]⟩
      · exact ⟨2, by decide, by simp only [a1, a2, a3, ybz, ybo]⟩
    · exact ⟨1, by decide, by simp only [a1, a2, ybz, ybo]⟩
  · exact ⟨0, by decide, by simp only [a1, ybo]⟩
theorem x1_hbad {N : Nat} (hN : 400 ≤ N) {σ : yS} (B : yB7 σ) : f_X1_needHouse N σ = some (0, yw σ 2 11 (ymx (σ.1 2 11) 0)) := by
  simp only [f_X1_needHouse, x1_tbad B, x1_nbad hN B]
theorem x1_dbad {N : Nat} (hN : 400 ≤ N) {σ : yS} (B : yB7 σ) : f_X1_needDeed N σ = some (0, yw σ 2 12 (ymx (σ.1 2 12) 0)) := by
  simp only [f_X1_needDeed, x1_tbad B, x1_nbad hN B, f_X1_noteDeed]
theorem x1_mbad {N : Nat} (hN : 400 ≤ N) {σ : yS} {lo hi : Int} (B : yB7 σ) : f_X1_needNumber N σ lo hi = some (lo, σ) := by
  simp only [f_X1_needNumber, x1_tbad B, x1_nbad hN B]
theorem x1_obad {N : Nat} {σ : yS} {x i : Int} (B : yB7 σ) : ∃ v : Int, f_X1_tellOnce N σ x i = some (v, σ) := by
  simp only [f_X1_tellOnce, f_X1_tellOnce_b18, f_X7_bit, x7_withBit, ycP_ne, x1_cbad B.1]
  refine ⟨yor x (ysl 1 i), ?_⟩
  have n1 : ¬ (1 : Int) = 0 := by decide
  by_cases h : yan (ysr x i) 1 = 1
  · rw [decide_eq_false (fun q => q h), cond_false, if_neg n1]
  · rw [decide_eq_true h, cond_true, if_neg n1]
/-- a line read on behind a fault -/
def yRB (N : Nat) (σ : yS) (f : Option (Int × yS)) : Prop := ∃ (r : Int) (σ' : yS), f = some (r, σ') ∧ yZB σ σ' ∧ yQ7 σ'
theorem x1_bshape {N : Nat} (hN : 400 ≤ N) {σ : yS} {x : Int} (hx : 0 ≤ x ∧ x ≤ 1) (B : yB7 σ) (Q : yQ7 σ) : yRB N σ (f_X1_readShape_b16 N σ 38 x) := by
  have B1 : yB7 (yw σ 2 7 1) := yB7_z (yZB_w yZB_r (by omega)) B
  have B2 : yB7 (yw (yw (yw σ 2 7 1) 38 0 2) 38 1 x) := yB7_z (yZB_w (yZB_w (yZB_w yZB_r (by omega)) (by omega)) (by omega)) B
  refine ⟨0, yw (yw (yw σ 2 7 1) 38 0 2) 38 1 x, ?_, yZB_w (yZB_w (yZB_w yZB_r (by omega)) (by omega)) (by omega), yQ7_w (yQ7_w (yQ7_w Q (by omega)) (by omega)) (by omega)⟩
  simp only [f_X1_readShape_b16, x1_mbad hN B1, yb1_d, decide_eq_true hx, cond_true, x1_tbad B2]
theorem x1_bdeed {N : Nat} (hN : 400 ≤ N) {σ : yS} (B : yB7 σ) (Q : yQ7 σ) : yRB N σ (f_X1_readDeed_b17 N σ 38) := by
  have Q0 := Q
  obtain ⟨q1, q2, q3, q4⟩ := Q
  unfold f_X1_readDeed_b17
  rw [x1_mbad hN B]
  simp only [f_X4_addDeed, f_X4_addDeed_b20, f_X4_addDeed_b28, ycP_ge]
  by_cases h5 : (5 : Int) ≤ σ.1 38 2
  · refine ⟨0, σ, ?_, yZB_r, Q0⟩
    rw [decide_eq_true h5, cond_true]
    simp only [x1_tbad B]
  · obtain ⟨d, hd⟩ : ∃ d : Nat, σ.1 38 2 = (d : Int) := ⟨(σ.1 38 2).toNat, by omega⟩
    have i5 : yin (d : Int) 5 = true := by rw [yin_d]; exact decide_eq_true (by omega)
    have e1 : yad (d : Int) 1 = (d : Int) + 1 := yad_e (by omega) (by omega)
    have B2 : yB7 (yw (yw σ (38 + 1) d 0) 38 2 ((d : Int) + 1)) := yB7_z (yZB_w (yZB_w yZB_r (by omega)) (by omega)) B
    refine ⟨0, yw (yw σ (38 + 1) d 0) 38 2 ((d : Int) + 1), ?_, yZB_w (yZB_w yZB_r (by omega)) (by omega), q1, ?_, ?_, ?_⟩
    · rw [decide_eq_false h5, cond_false, hd, i5, cond_true, Int.toNat_natCast, yw_n (a := 38) (b := 2) (by omega), hd, e1]
      simp only [x1_tbad B2]
    · rw [yw_p]; omega
    · unfold yTr at q1
      rw [yw_2, yw_2, yw_n (by omega), yw_n (by omega)]; exact q3
    · rw [yw_n (by omega), yw_n (by omega)]; exact q4
theorem x1_blawyer {N : Nat} (hN : 400 ≤ N) {σ : yS} (B : yB7 σ) (Q : yQ7 σ) : yRB N σ (f_X1_readLawyer N σ 38) := by
  have B1 : yB7 (yw σ 2 11 (ymx (σ.1 2 11) 0)) := yB7_z (yZB_w yZB_r (by omega)) B
  obtain ⟨v, hv⟩ := x1_obad (N := N) (x := (yw σ 2 11 (ymx (σ.1 2 11) 0)).1 2 9) (i := 0) B1
  obtain ⟨u, hu⟩ : ∃ u : Int, (yw (yw σ 2 11 (ymx (σ.1 2 11) 0)) 2 9 v).1 2 9 = u := ⟨_, rfl⟩
  have B2 : yB7 (yw (yw (yw σ 2 11 (ymx (σ.1 2 11) 0)) 2 9 v) 38 6 u) := yB7_z (yZB_w (yZB_w (yZB_w yZB_r (by omega)) (by omega)) (by omega)) B
  refine ⟨0, yw (yw (yw σ 2 11 (ymx (σ.1 2 11) 0)) 2 9 v) 38 6 u, ?_, yZB_w (yZB_w (yZB_w yZB_r (by omega)) (by omega)) (by omega), yQ7_w (yQ7_w (yQ7_w Q (by omega)) (by omega)) (by omega)⟩
  simp only [f_X1_readLawyer, f_X1_readLawyer_b20, x1_hbad hN B, hv, hu, x1_tbad B2]
/-- behind the house of a house's line -/
theorem x1_bhouse {N : Nat} (hN : 400 ≤ N) {σ : yS} (B : yB7 σ) (Q : yQ7 σ) : yRB N σ (f_X1_readHouse N σ 38) := by
  obtain ⟨M, hM⟩ : ∃ M, N = M + 1 := ⟨N - 1, by omega⟩
  have B1 : yB7 (yw σ 2 11 (ymx (σ.1 2 11) 0)) := yB7_z (yZB_w yZB_r (by omega)) B
  obtain ⟨v, hv⟩ := x1_obad (N := N) (x := (yw σ 2 11 (ymx (σ.1 2 11) 0)).1 2 8) (i := 0) B1
  have B2 : yB7 (yw (yw σ 2 11 (ymx (σ.1 2 11) 0)) 2 8 v) := yB7_z (yZB_w (yZB_w yZB_r (by omega)) (by omega)) B
  have B3 : yB7 (yw (yw (yw σ 2 11 (ymx (σ.1 2 11) 0)) 2 8 v) (38 + 2) 0 0) := yB7_z (yZB_w (yZB_w (yZB_w yZB_r (by omega)) (by omega)) (by omega)) B
  refine ⟨0, yw (yw (yw σ 2 11 (ymx (σ.1 2 11) 0)) 2 8 v) (38 + 2) 0 0, ?_, yZB_w (yZB_w (yZB_w yZB_r (by omega)) (by omega)) (by omega), yQ7_w (yQ7_w (yQ7_w Q (by omega)) (by omega)) (by omega)⟩
  have i0 : yin 0 7 = true := by decide +kernel
  have lp := q_X1_readHouse_b37 N M (yw (yw (yw σ 2 11 (ymx (σ.1 2 11) 0)) 2 8 v) (38 + 2) 0 0) 38 0 0
  rw [show M + 1 = N by omega, ycP_ge, decide_eq_false (by decide), cond_false, ycP_ne, decide_eq_true B3.1, cond_true] at lp
  simp only [f_X1_readHouse, x1_hbad hN B, hv, x1_mbad hN B2, i0, cond_true, show (0 : Int).toNat = 0 from rfl, x1_tbad B3]
  exact lp
theorem x1_bhabit {N : Nat} (hN : 400 ≤ N) {σ : yS} (B : yB7 σ) (Q : yQ7 σ) : yRB N σ (f_X1_readHabit N σ 38) := by
  have B1 : yB7 (yw σ 2 11 (ymx (σ.1 2 11) 0)) := yB7_z (yZB_w yZB_r (by omega)) B
  obtain ⟨v, hv⟩ := x1_obad (N := N) (x := (yw σ 2 11 (ymx (σ.1 2 11) 0)).1 2 10) (i := 0) B1
  obtain ⟨S, hS⟩ : ∃ S : yS, yw (yw σ 2 11 (ymx (σ.1 2 11) 0)) 2 10 v = S := ⟨_, rfl⟩
  have Z2 : yZB σ S := by rw [← hS]; exact yZB_w (yZB_w yZB_r (by omega)) (by omega)
  have Q2 : yQ7 S := by rw [← hS]; exact yQ7_w (yQ7_w Q (by omega)) (by omega)
  have B2 : yB7 S := yB7_z Z2 B
  obtain ⟨k, hk, gk⟩ := x1_kbad (N := N) B2
  have B3 : yB7 (yw S 2 12 (ymx (S.1 2 12) 0)) := yB7_z (yZB_w yZB_r (by omega)) B2
  have B4 : yB7 (yw (yw (yw (yw S 2 12 (ymx (S.1 2 12) 0)) (38 + 4) 0 k) (38 + 5) 0 0) (38 + 6) 0 0) := yB7_z (yZB_w (yZB_w (yZB_w (yZB_w yZB_r (by omega)) (by omega)) (by omega)) (by omega)) B2
  have i0 : yin 0 7 = true := by decide +kernel
  refine ⟨0, yw (yw (yw (yw S 2 12 (ymx (S.1 2 12) 0)) (38 + 4) 0 k) (38 + 5) 0 0) (38 + 6) 0 0, ?_, yZB_t Z2 (yZB_w (yZB_w (yZB_w (yZB_w yZB_r (by omega)) (by omega)) (by omega)) (by omega)), yQ7_w (yQ7_w (yQ7_w (yQ7_w Q2 (by omega)) (by omega)) (by omega)) (by omega)⟩
  simp only [f_X1_readHabit, x1_hbad hN B, hv, hS, gk, x1_dbad hN B2, x1_mbad hN B3, f_X4_setHabit, i0, cond_true, show (0 : Int).toNat = 0 from rfl, x1_tbad B4]
theorem x5_appb {N : Nat} {σ : yS} {h k p d : Int} (Q : yQ7 σ) : ∃ (r : Int) (σ' : yS), f_X5_append N σ (σ.2 38 11) h k p d = some (r, σ') ∧ yZB σ σ' ∧ yQ7 σ' := by
  have Q0 := Q
  obtain ⟨q1, q2, q3, q4⟩ := Q
  have q1' := q1
  unfold yTr at q1'
  obtain ⟨v, hv⟩ : ∃ v : Nat, σ.2 38 11 = v := ⟨_, rfl⟩
  rw [hv] at q3 q1' ⊢
  by_cases hf : σ.1 v 0 < 10
  · obtain ⟨m, hm⟩ : ∃ m : Nat, σ.1 v 0 = (m : Int) := ⟨(σ.1 v 0).toNat, by omega⟩
    have im : yin (m : Int) 10 = true := by rw [yin_d]; exact decide_eq_true (by omega)
    have e1 : yad (m : Int) 1 = (m : Int) + 1 := yad_e (by omega) (by omega)
    refine ⟨1, yw (yw (yw (yw (yw σ (v + 1) m h) (v + 2) m k) (v + 3) m p) (v + 4) m d) v 0 ((m : Int) + 1), ?_, yZB_w (yZB_w (yZB_w (yZB_w (yZB_w yZB_r (by omega)) (by omega)) (by omega)) (by omega)) (by omega), q1, ?_, ?_, ?_⟩
    · simp only [f_X5_append, f_X5_append_b26, f_X5_append_b36, f_X5_append_b46, f_X5_append_b54, ycP_lt, decide_eq_true hf, cond_true, hm, im, Int.toNat_natCast]
      rw [yw_n (a := v) (b := 0) (by omega), hm, im, cond_true, Int.toNat_natCast, yw_n (a := v) (b := 0) (by omega), yw_n (a := v) (b := 0) (by omega), hm, im, cond_true, Int.toNat_natCast, yw_n (a := v) (b := 0) (by omega), yw_n (a := v) (b := 0) (by omega), yw_n (a := v) (b := 0) (by omega), hm, im, cond_true, Int.toNat_natCast, yw_n (a := v) (b := 0) (by omega), yw_n (a := v) (b := 0) (by omega), yw_n (a := v) (b := 0) (by omega), yw_n (a := v) (b := 0) (by omega), hm, e1, decide_eq_true (show (m : Int) < 10 by omega), cond_true]
    · rw [yw_n (by omega), yw_n (by omega), yw_n (by omega), yw_n (by omega), yw_n (by omega)]; exact q2
    · show 0 ≤ (yw (yw (yw (yw (yw σ (v + 1) m h) (v + 2) m k) (v + 3) m p) (v + 4) m d) v 0 ((m : Int) + 1)).1 (σ.2 38 11) 0 ∧ (yw (yw (yw (yw (yw σ (v + 1) m h) (v + 2) m k) (v + 3) m p) (v + 4) m d) v 0 ((m : Int) + 1)).1 (σ.2 38 11) 0 ≤ 10
      rw [hv, yw_p]; omega
    · rw [yw_n (by omega), yw_n (by omega), yw_n (by omega), yw_n (by omega), yw_n (by omega)]; exact q4
  · refine ⟨0, σ, ?_, yZB_r, Q0⟩
    unfold f_X5_append
    rw [ycP_lt, decide_eq_false hf, cond_false]
theorem x6_appb {N : Nat} {σ : yS} {h d : Int} (Q : yQ7 σ) : ∃ (r : Int) (σ' : yS), f_X6_append N σ (38 + 18) h d = some (r, σ') ∧ yZB σ σ' ∧ yQ7 σ' := by
  have Q0 := Q
  obtain ⟨q1, q2, q3, q4⟩ := Q
  have q1' := q1
  unfold yTr at q1'
  by_cases hf : σ.1 56 0 < 4
  · obtain ⟨m, hm⟩ : ∃ m : Nat, σ.1 56 0 = (m : Int) := ⟨(σ.1 56 0).toNat, by omega⟩
    have im : yin (m : Int) 4 = true := by rw [yin_d]; exact decide_eq_true (by omega)
    have e1 : yad (m : Int) 1 = (m : Int) + 1 := yad_e (by omega) (by omega)
    refine ⟨1, yw (yw (yw σ 57 m h) 58 m d) 56 0 ((m : Int) + 1), ?_, yZB_w (yZB_w (yZB_w yZB_r (by omega)) (by omega)) (by omega), q1, ?_, ?_, ?_⟩
    · simp only [f_X6_append, f_X6_append_b25, f_X6_append_b32, ycP_lt, show 38 + 18 = 56 from rfl, decide_eq_true hf, cond_true, hm, im, Int.toNat_natCast, show 56 + 1 = 57 from rfl, show 56 + 2 = 58 from rfl]
      rw [yw_n (a := 56) (b := 0) (by omega), hm, im, cond_true, Int.toNat_natCast, yw_n (a := 56) (b := 0) (by omega), yw_n (a := 56) (b := 0) (by omega), hm, e1, decide_eq_true (show (m : Int) < 4 by omega), cond_true]
    · rw [yw_n (by omega), yw_n (by omega), yw_n (by omega)]; exact q2
    · show 0 ≤ (yw (yw (yw σ 57 m h) 58 m d) 56 0 ((m : Int) + 1)).1 (σ.2 38 11) 0 ∧ (yw (yw (yw σ 57 m h) 58 m d) 56 0 ((m : Int) + 1)).1 (σ.2 38 11) 0 ≤ 10
      rw [yw_n (by omega), yw_n (by omega), yw_n (by omega)]; exact q3
    · rw [yw_p]; omega
  · refine ⟨0, σ, ?_, yZB_r, Q0⟩
    unfold f_X6_append
    rw [ycP_lt, decide_eq_false hf, cond_false]
theorem x1_bvow {N : Nat} (hN : 400 ≤ N) {σ : yS} (B : yB7 σ) (Q : yQ7 σ) : yRB N σ (f_X1_readVow_b21 N σ 38) := by
  obtain ⟨S, hS⟩ : ∃ S : yS, yw σ 2 11 (ymx (σ.1 2 11) 0) = S := ⟨_, rfl⟩
  have Z1 : yZB σ S := by rw [← hS]; exact yZB_w yZB_r (by omega)
  have Q1 : yQ7 S := by rw [← hS]; exact yQ7_w Q (by omega)
  have B1 : yB7 S := yB7_z Z1 B
  obtain ⟨k, hk, gk⟩ := x1_kbad (N := N) B1
  obtain ⟨U, hU⟩ : ∃ U : yS, yw S 2 12 (ymx (S.1 2 12) 0) = U := ⟨_, rfl⟩
  have Z2 : yZB S U := by rw [← hU]; exact yZB_w yZB_r (by omega)
  have Q2 : yQ7 U := by rw [← hU]; exact yQ7_w Q1 (by omega)
  have u2 : U.2 38 11 = S.2 38 11 := by rw [Z2.1]
  obtain ⟨r, σ', g, Z3, Q3⟩ := x5_appb (N := N) (h := 0) (k := k) (p := 0) (d := 0) Q2
  rw [u2] at g
  have B3 : yB7 σ' := yB7_z (yZB_t Z2 Z3) B1
  refine ⟨0, σ', ?_, yZB_t Z1 (yZB_t Z2 Z3), Q3⟩
  simp only [f_X1_readVow_b21, f_X1_readVow_b57, x1_hbad hN B, hS, gk, x1_mbad hN B1, x7_isDepth, show ((0 : Int) ≤ 0 ∧ (0 : Int) ≤ 3) ∨ (0 : Int) = 9 from Or.inl (by decide), if_true, ybo2, x1_dbad hN B1, hU, g, x1_tbad B3]
theorem x1_bwant {N : Nat} (hN : 400 ≤ N) {σ : yS} (B : yB7 σ) (Q : yQ7 σ) : yRB N σ (f_X1_readWant_b20 N σ 38) := by
  obtain ⟨S, hS⟩ : ∃ S : yS, yw σ 2 11 (ymx (σ.1 2 11) 0) = S := ⟨_, rfl⟩
  have Z1 : yZB σ S := by rw [← hS]; exact yZB_w yZB_r (by omega)
  have Q1 : yQ7 S := by rw [← hS]; exact yQ7_w Q (by omega)
  have B1 : yB7 S := yB7_z Z1 B
  obtain ⟨U, hU⟩ : ∃ U : yS, yw S 2 12 (ymx (S.1 2 12) 0) = U := ⟨_, rfl⟩
  have Z2 : yZB S U := by rw [← hU]; exact yZB_w yZB_r (by omega)
  have Q2 : yQ7 U := by rw [← hU]; exact yQ7_w Q1 (by omega)
  obtain ⟨r, σ', g, Z3, Q3⟩ := x6_appb (N := N) (h := 0) (d := 0) Q2
  have B3 : yB7 σ' := yB7_z (yZB_t Z2 Z3) B1
  refine ⟨0, σ', ?_, yZB_t Z1 (yZB_t Z2 Z3), Q3⟩
  simp only [f_X1_readWant_b20, x1_hbad hN B, hS, x1_dbad hN B1, hU, g, x1_tbad B3]
end
section
/-- what both have read so far -/
def yRD (σ τ : yS) : Prop :=
  (σ.1 38 0 = τ.1 0 8 ∧ σ.1 38 1 = τ.1 0 9 ∧ σ.1 38 2 = τ.1 0 11 ∧ (2 ≤ τ.1 0 8 ∧ τ.1 0 8 ≤ 7) ∧ (0 ≤ τ.1 0 9 ∧ τ.1 0 9 ≤ 1) ∧ (0 ≤ τ.1 0 11 ∧ τ.1 0 11 ≤ 5) ∧ ∀ d : Nat, (d : Int) < τ.1 0 11 → σ.1 39 d = τ.1 6 d ∧ 0 ≤ τ.1 6 d ∧ τ.1 6 d ≤ 9) ∧
  yRT σ 38 (fun j => τ.1 5 j) ∧ yGe (τ.1 0 14 + 1) (τ.1 0 15 + 1) (σ.1 38 6) (fun j => τ.1 5 j) ∧ yGk (τ.1 0 14 + 1) (τ.1 0 15 + 1) (fun j => τ.1 5 j) ∧ τ.1 5 127 = 0 ∧
  (σ.1 2 7 = τ.1 0 10 ∧ 0 ≤ τ.1 0 10 ∧ τ.1 0 10 ≤ 1) ∧
  (σ.1 2 8 = τ.1 7 0 ∧ σ.1 2 9 = τ.1 7 1 ∧ σ.1 2 10 = τ.1 7 2 ∧ σ.1 38 6 = σ.1 2 9) ∧ (∀ k : Nat, k < 3 → 0 ≤ τ.1 7 k ∧ τ.1 7 k < 128) ∧
  yGr (σ.1 2 11) (τ.1 0 14) 6 ∧ yGr (σ.1 2 12) (τ.1 0 15) 4
theorem yGe_m {hs ds hs' ds' L : Int} {g : Nat → Int} (h1 : hs ≤ hs') (h2 : ds ≤ ds') (G : yGe hs ds L g) : yGe hs' ds' L g := by
  obtain ⟨g0, g1, g2, g3, g4, g5⟩ := G
  refine ⟨g0, g1, g2, fun i hi => ?_, g4, fun i hi => ?_⟩
  · have q := g3 i hi
    omega
  · have q := g5 i hi
    omega
theorem yGk_m {hs ds hs' ds' : Int} {g : Nat → Int} (h1 : hs ≤ hs') (h2 : ds ≤ ds') (G : yGk hs ds g) : yGk hs' ds' g := by
  obtain ⟨g0, g1, g2⟩ := G
  refine ⟨g0, fun i hi z => ?_, fun i hi z => g2 i hi (by omega)⟩
  have q := g1 i hi z
  omega
/-- all but houses, ring, deeds and the row's flag as it was -/
theorem yRD_mk {σ τ σ' τ' : yS} (H : yRD σ τ) (h1 : σ'.1 38 0 = τ'.1 0 8 ∧ σ'.1 38 1 = τ'.1 0 9 ∧ σ'.1 38 2 = τ'.1 0 11 ∧ (2 ≤ τ'.1 0 8 ∧ τ'.1 0 8 ≤ 7) ∧ (0 ≤ τ'.1 0 9 ∧ τ'.1 0 9 ≤ 1) ∧ (0 ≤ τ'.1 0 11 ∧ τ'.1 0 11 ≤ 5) ∧ ∀ d : Nat, (d : Int) < τ'.1 0 11 → σ'.1 39 d = τ'.1 6 d ∧ 0 ≤ τ'.1 6 d ∧ τ'.1 6 d ≤ 9) (r : ∀ b : Nat, σ'.2 38 b = σ.2 38 b) (c : ∀ a b : Nat, (a = 38 ∧ 6 ≤ b) ∨ (40 ≤ a ∧ a < 59) → σ'.1 a b = σ.1 a b) (d5 : ∀ j : Nat, τ'.1 5 j = τ.1 5 j) (hs : τ'.1 0 14 = τ.1 0 14 ∧ τ'.1 0 15 = τ.1 0 15) (sh : σ'.1 2 7 = τ'.1 0 10 ∧ 0 ≤ τ'.1 0 10 ∧ τ'.1 0 10 ≤ 1) (t7 : ∀ b : Nat, 8 ≤ b ∧ b ≤ 12 → σ'.1 2 b = σ.1 2 b) (t8 : ∀ b : Nat, τ'.1 7 b = τ.1 7 b) : yRD σ' τ' := by
  obtain ⟨-, T, G, K, z, -, ⟨a1, a2, a3, a4⟩, b, g1, g2⟩ := H
  have e : (fun j => τ'.1 5 j) = (fun j => τ.1 5 j) := funext d5
  have T' : yRT σ' 38 (fun j => τ.1 5 j) := by
    obtain ⟨t1, t2, ⟨t3, t4⟩, ⟨t5, t6⟩, ⟨x0, x1, x2, x3⟩, x7⟩ := T
    refine ⟨fun i hi => ?_, fun j hj => ?_, ⟨?_, fun i hi => ?_⟩, ⟨?_, fun i hi => ?_⟩, ⟨?_, ?_, ?_, ?_⟩, ?_⟩
    · rw [c (38 + 2) _ (by omega), c (38 + 3) _ (by omega), c 38 _ (by omega), c (38 + 4) _ (by omega), c (38 + 5) _ (by omega), c (38 + 6) _ (by omega)]
      exact t1 i hi
    · rw [c _ _ (by omega)]; exact t2 j hj
    · rw [r, c _ _ (by omega)]; exact t3
    · rw [r, c _ _ (by omega), c _ _ (by omega), c _ _ (by omega), c _ _ (by omega)]; exact t4 i hi
    · rw [c _ _ (by omega)]; exact t5
    · rw [c _ _ (by omega), c _ _ (by omega)]; exact t6 i hi
    · rw [c _ _ (by omega)]; exact x0
    · rw [c _ _ (by omega)]; exact x1
    · rw [c _ _ (by omega)]; exact x2
    · rw [c _ _ (by omega)]; exact x3
    · rw [r, r]; exact x7
  refine ⟨h1, by rw [e]; exact T', by rw [e, hs.1, hs.2, c _ _ (by omega)]; exact G, by rw [e, hs.1, hs.2]; exact K, by rw [d5]; exact z, sh, ⟨by rw [t7 _ (by omega), t8]; exact a1, by rw [t7 _ (by omega), t8]; exact a2, by rw [t7 _ (by omega), t8]; exact a3, by rw [c _ _ (by omega), t7 _ (by omega)]; exact a4⟩, fun k hk => by rw [t8]; exact b k hk, by rw [t7 _ (by omega), hs.1]; exact g1, by rw [t7 _ (by omega), hs.2]; exact g2⟩
theorem yRD_k {σ τ σ' τ' : yS} (H : yRD σ τ) (k7 : yK7 σ σ') (k8 : yK8 τ τ') : yRD σ' τ' := by
  have c : ∀ a b : Nat, ¬ a = 2 → σ'.1 a b = σ.1 a b := fun a b h => k7.2 a b (by omega)
  refine yRD_mk H ?_ (fun b => by rw [k7.1]) (fun a b h => c a b (by omega)) (fun j => k8 _ _ (by omega)) ⟨k8 _ _ (by omega), k8 _ _ (by omega)⟩ ?_ (fun b h => k7.2 _ _ (by omega)) (fun b => k8 _ _ (by omega))
  · obtain ⟨⟨a1, a2, a3, a4, a5, a6, a7⟩, -⟩ := H
    refine ⟨by rw [c _ _ (by omega), k8 _ _ (by omega)]; exact a1, by rw [c _ _ (by omega), k8 _ _ (by omega)]; exact a2, by rw [c _ _ (by omega), k8 _ _ (by omega)]; exact a3, by rw [k8 _ _ (by omega)]; exact a4, by rw [k8 _ _ (by omega)]; exact a5, by rw [k8 _ _ (by omega)]; exact a6, fun d hd => ?_⟩
    rw [k8 0 11 (by omega)] at hd
    rw [c _ _ (by omega), k8 _ _ (by omega)]
    exact a7 d hd
  · have q := H.2.2.2.2.2.1
    rw [k7.2 _ _ (by omega), k8 _ _ (by omega)]
    exact q
theorem yRD_Q {σ τ : yS} (H : yRD σ τ) : yQ7 σ := by
  obtain ⟨⟨-, -, a3, -, -, a6, -⟩, ⟨-, -, ⟨t3, -⟩, ⟨t5, -⟩, -, t7⟩, ⟨-, -, g2, -, g4, -⟩, -⟩ := H
  refine ⟨t7, by rw [a3]; exact a6, ?_, ?_⟩
  · rw [t3]; exact g2
  · have t5 : σ.1 56 0 = τ.1 5 118 := t5
    rw [t5]; exact g4
/-- what a line leaves alone -/
def yZ7 (σ σ' : yS) : Prop := σ'.2 = σ.2 ∧ ∀ a b : Nat, ¬ a = 2 → ¬ (38 ≤ a ∧ a < 59) → σ'.1 a b = σ.1 a b
def yZ8 (τ τ' : yS) : Prop := ∀ a b : Nat, ¬ a = 5 → ¬ a = 6 → ¬ a = 7 → ¬ (a = 0 ∧ ((8 ≤ b ∧ b ≤ 11) ∨ b = 14 ∨ b = 15 ∨ (18 ≤ b ∧ b ≤ 23))) → τ'.1 a b = τ.1 a b
theorem yZ7_r {σ : yS} : yZ7 σ σ := ⟨rfl, fun _ _ _ _ => rfl⟩
theorem yZ7_t {σ1 σ2 σ3 : yS} (h : yZ7 σ1 σ2) (k : yZ7 σ2 σ3) : yZ7 σ1 σ3 := ⟨k.1.trans h.1, fun a b x y => by rw [k.2 a b x y, h.2 a b x y]⟩
theorem yZ7_w {σ1 σ2 : yS} {i k : Nat} {z : Int} (h : yZ7 σ1 σ2) (hi : i = 2 ∨ (38 ≤ i ∧ i < 59)) : yZ7 σ1 (yw σ2 i k z) := ⟨h.1, fun a b x y => by rw [yw_n (by omega), h.2 a b x y]⟩
theorem yZ7_k {σ σ' : yS} (h : yK7 σ σ') : yZ7 σ σ' := ⟨h.1, fun a b x _ => h.2 a b (by omega)⟩
theorem yZ7_b {σ σ' : yS} (h : yZB σ σ') : yZ7 σ σ' := ⟨h.1, fun a b x y => h.2 a b (by omega) y⟩
theorem yZ8_r {τ : yS} : yZ8 τ τ := fun _ _ _ _ _ _ => rfl
theorem yZ8_t {τ1 τ2 τ3 : yS} (h : yZ8 τ1 τ2) (k : yZ8 τ2 τ3) : yZ8 τ1 τ3 := fun a b x y z w => by rw [k a b x y z w, h a b x y z w]
theorem yZ8_w {τ1 τ2 : yS} {i k : Nat} {z : Int} (h : yZ8 τ1 τ2) (hi : i = 5 ∨ i = 6 ∨ i = 7 ∨ (i = 0 ∧ ((8 ≤ k ∧ k ≤ 11) ∨ k = 14 ∨ k = 15 ∨ (18 ≤ k ∧ k ≤ 23)))) : yZ8 τ1 (yw τ2 i k z) := fun a b x y q w => by rw [yw_n (by omega), h a b x y q w]
theorem yZ8_k {τ τ' : yS} (h : yK8 τ τ') : yZ8 τ τ' := fun a b _ _ _ w => h a b (by omega)
/-- the end of a line: the stroke, and the next token -/
noncomputable def yTl7 (N : Nat) (σ : yS) : Option (Int × yS) := match f_X1_needStroke N σ with
  | none => none
  | some r5 => f_X1_readToken N (yw r5.2 2 6 (yad (r5.2.1 2 6) 1))
noncomputable def yTl8 (N : Nat) (τ : yS) : Option (Int × yS) := bif ycP .ne (τ.1 0 22) 0 then f_X8_readLine_b201 N τ else bif ycP .ne (τ.1 0 20) 3 then f_X8_readLine_b197 N τ 0 else f_X8_readLine_b197 N τ 1
theorem x8_tlbad {N : Nat} {τ : yS} (h : 0 < τ.1 0 22) : yTl8 N τ = some (0, τ) := by
  unfold yTl8
  rw [ycP_ne, decide_eq_true (show ¬ τ.1 0 22 = 0 by omega), cond_true]
  unfold f_X8_readLine_b201 f_X8_next
  rw [ycP_le, decide_eq_false (show ¬ τ.1 0 22 ≤ 0 by omega), cond_false]
theorem p_tail {N : Nat} (hN : 400 ≤ N) {σ τ : yS} (H : yE σ τ) (hl : 0 ≤ σ.1 2 6 ∧ σ.1 2 6 ≤ 1000) : ∃ (σ' τ' : yS), yTl7 N σ = some (0, σ') ∧ yTl8 N τ = some (0, τ') ∧ yE σ' τ' ∧ σ'.2 = σ.2 ∧ (∀ a b : Nat, ¬ (a = 2 ∧ 1 ≤ b ∧ b ≤ 6) → σ'.1 a b = σ.1 a b) ∧ yK8 τ τ' ∧ σ.1 2 1 ≤ σ'.1 2 1 ∧ σ'.1 2 6 = σ.1 2 6 + 1 ∧ (σ'.1 2 4 = 0 → σ.1 2 4 = 0 ∧ σ.1 2 2 = 3) := by
  have el : ∀ S : yS, S.1 2 6 = σ.1 2 6 → yad (S.1 2 6) 1 = σ.1 2 6 + 1 := fun S h => by rw [h]; exact yad_e (by omega) (by omega)
  rcases H with HH | ⟨B, T⟩
  · have H0 := HH
    obtain ⟨⟨T, f7, f8, hap, hp0, hp1⟩, ⟨b, t, s0, t0, tz, tn, tv⟩⟩ := H0
    by_cases h3 : τ.1 0 20 = 3
    · have E1 : yE (yw σ 2 6 (σ.1 2 6 + 1)) τ := yE_w7 (Or.inl HH) (by omega)
      obtain ⟨σ', τ', g7, g8, E2, k7, k8, mo, z1, z2, -⟩ := p_next (N := N) hN E1
      refine ⟨σ', τ', ?_, ?_, E2, k7.1, fun i k q => ?_, k8, ?_, ?_, fun z => ⟨f7, by rw [t]; exact h3⟩⟩
      · unfold yTl7 f_X1_needStroke
        rw [t, h3, ycP_eq, decide_eq_true rfl, cond_true]
        show f_X1_readToken N (yw σ 2 6 (yad (σ.1 2 6) 1)) = _
        rw [el σ rfl]
        exact g7
      · unfold yTl8
        rw [f8, ybz2, h3, ycP_ne, decide_eq_false (by decide), cond_false]
        unfold f_X8_readLine_b197
        rw [x8_ngood]
        show f_X8_readLine_b201 N τ = _
        unfold f_X8_readLine_b201
        rw [g8]
      · rw [k7.2 i k (by omega), yw_n (by omega)]
      · rw [yw_n (by omega)] at mo; exact mo
      · rw [k7.2 2 6 (by omega), yw_p]
    · obtain ⟨p1, p2, p3⟩ := p_fail (N := N) HH (show (0 : Int) < 2 by decide)
      have E1 : yE (yw (yw (yw σ 2 4 2) 2 5 (σ.1 2 3)) 2 6 (σ.1 2 6 + 1)) (yw (yw τ 0 22 2) 0 23 (τ.1 0 19)) := yE_w7 p3 (by omega)
      obtain ⟨σ', τ', g7, g8, E2, k7, k8, mo, z1, z2, nb⟩ := p_next (N := N) hN E1
      obtain ⟨e1, e2⟩ := nb (by rw [yw_n (by omega), yw_n (by omega), yw_p]; decide)
      subst e1
      subst e2
      refine ⟨_, _, ?_, ?_, E1, rfl, fun i k q => ?_, yK8_w (yK8_w yK8_r (by omega)) (by omega), ?_, yw_p, fun z => ?_⟩
      · unfold yTl7 f_X1_needStroke
        rw [t, ycP_eq, decide_eq_false h3, cond_false, p1]
        show f_X1_readToken N (yw (yw (yw σ 2 4 2) 2 5 (σ.1 2 3)) 2 6 (yad ((yw (yw σ 2 4 2) 2 5 (σ.1 2 3)).1 2 6) 1)) = _
        rw [el _ (by rw [yw_n (by omega), yw_n (by omega)])]
        exact g7
      · unfold yTl8
        rw [f8, ybz2, ycP_ne, decide_eq_true h3, cond_true]
        unfold f_X8_readLine_b197
        rw [p2]
        show f_X8_readLine_b201 N _ = _
        unfold f_X8_readLine_b201
        rw [g8]
      · rw [yw_n (by omega), yw_n (by omega), yw_n (by omega)]
      · rw [yw_n (by omega), yw_n (by omega), yw_n (by omega)]; exact Int.le_refl _
      · rw [yw_n (by omega), yw_n (by omega), yw_p] at z
        exact absurd z (by decide)
  · have b1 := B.1
    have b2 := B.2.1
    have n7 : ¬ σ.1 2 4 = 0 := by omega
    have E1 : yE (yw σ 2 6 (σ.1 2 6 + 1)) τ := yE_w7 (Or.inr ⟨B, T⟩) (by omega)
    obtain ⟨σ', τ', g7, g8, E2, k7, k8, mo, z1, z2, nb⟩ := p_next (N := N) hN E1
    obtain ⟨e1, e2⟩ := nb (by rw [yw_n (by omega)]; exact n7)
    subst e1
    subst e2
    refine ⟨_, _, ?_, x8_tlbad b2, E1, rfl, fun i k q => yw_n (by omega), yK8_r, ?_, yw_p, fun z => ?_⟩
    · have ns : f_X1_needStroke N σ = some (0, σ) := by
        unfold f_X1_needStroke
        by_cases h3 : σ.1 2 2 = 3
        · rw [ycP_eq, decide_eq_true h3, cond_true]
          rfl
        · rw [ycP_eq, decide_eq_false h3, cond_false, x1_cbad n7]
          rfl
      unfold yTl7
      rw [ns]
      show f_X1_readToken N (yw σ 2 6 (yad (σ.1 2 6) 1)) = _
      rw [el σ rfl]
      exact g7
    · rw [yw_n (by omega)]; exact Int.le_refl _
    · rw [yw_n (by omega)] at z
      exact absurd z n7
/-- a line, up to its stroke -/
def yLL (N : Nat) (σ τ : yS) (f7 f8 : Option (Int × yS)) : Prop := ∃ (r : Int) (σ' τ' : yS), f7 = some (r, σ') ∧ f8 = yTl8 N τ' ∧ yE σ' τ' ∧ yZ7 σ σ' ∧ yZ8 τ τ' ∧ σ'.1 2 6 = σ.1 2 6 ∧ (σ'.1 2 4 = 0 → yRD σ' τ' ∧ σ.1 2 1 ≤ σ'.1 2 1 ∧ (σ'.1 2 2 = 3 → σ.1 2 1 < σ'.1 2 1)) ∧ (¬ σ'.1 2 4 = 0 → yQ7 σ')
theorem x8_b156 {N : Nat} {τ τ1 : yS} {k s0 : Int} (h0 : 0 ≤ s0 ∧ s0 ≤ 1) (hn : f_X8_next N (yw τ 0 10 s0) = some (0, τ1)) : (0 < τ1.1 0 22 → f_X8_readLine_b156 N τ k s0 = yTl8 N τ1) ∧ (τ1.1 0 22 = 0 → ∀ r5 : Int × yS, f_X8_readLineOf N τ1 k = some r5 → f_X8_readLine_b156 N τ k s0 = yTl8 N r5.2) := by
  refine ⟨fun h => ?_, fun h r5 g => ?_⟩
  · rw [x8_tlbad h]
    unfold f_X8_readLine_b156
    rw [yb1_d, decide_eq_true h0, cond_true, hn]
    show (bif ycP .le (τ1.1 0 22) 0 then _ else some ((0 : Int), τ1)) = _
    rw [ycP_le, decide_eq_false (show ¬ τ1.1 0 22 ≤ 0 by omega), cond_false]
  · unfold f_X8_readLine_b156
    rw [yb1_d, decide_eq_true h0, cond_true, hn]
    show (bif ycP .le (τ1.1 0 22) 0 then _ else some ((0 : Int), τ1)) = _
    rw [ycP_le, decide_eq_true (show τ1.1 0 22 ≤ 0 by omega), cond_true, g]
    rfl
/-- a line whose fault is told at its first word -/
theorem p_lbad {N : Nat} (hN : 400 ≤ N) {σ τ : yS} {k s0 : Int} {f7 : Option (Int × yS)} (h0 : 0 ≤ s0 ∧ s0 ≤ 1) (B : yBd σ τ) (T : yTp σ τ) (F : yRB N σ f7) : yLL N σ τ f7 (f_X8_readLine_b156 N τ k s0) := by
  obtain ⟨r, σ', g, Z, Q⟩ := F
  have b2 := B.2.1
  have hn : f_X8_next N (yw τ 0 10 s0) = some (0, yw τ 0 10 s0) := by
    unfold f_X8_next
    rw [yw_n (by omega), ycP_le, decide_eq_false (show ¬ τ.1 0 22 ≤ 0 by omega), cond_false]
  have E : yE σ' (yw τ 0 10 s0) := by
    obtain ⟨b1, -, b3, b4, b5, b6, b7⟩ := B
    have z : ∀ b : Nat, b ≤ 5 → σ'.1 2 b = σ.1 2 b := fun b hb => Z.2 2 b (by omega) (by omega)
    have z3 : σ'.1 3 0 = σ.1 3 0 := Z.2 3 0 (by omega) (by omega)
    refine yE_w8 (Or.inr ⟨⟨by rw [z _ (by omega)]; exact b1, b2, by rw [z _ (by omega)]; exact b3, b4, b5, by rw [z _ (by omega), z _ (by omega), z3]; exact b6, by rw [z3]; exact b7⟩, ?_⟩) (by omega)
    obtain ⟨a0, a1, a2, a3⟩ := T
    refine ⟨by rw [z3]; exact a0, by rw [z3]; exact a1, by rw [z3]; exact a2, fun j hj => ?_⟩
    rw [z3] at hj
    rw [Z.2 4 j (by omega) (by omega)]
    exact a3 j hj
  have n7 : ¬ σ'.1 2 4 = 0 := by
    have := (yE_f E).1
    rw [yw_n (by omega)] at this
    omega
  exact ⟨r, σ', yw τ 0 10 s0, g, (x8_b156 h0 hn).1 (by rw [yw_n (by omega)]; exact b2), E, yZ7_b Z, yZ8_w yZ8_r (by omega), Z.2 2 6 (by omega) (by omega), fun z => absurd z n7, fun _ => Q⟩
/-- rest of a line's proof: from the last states on both sides -/
theorem yE_Q {σ τ : yS} (H : yE σ τ) (z : ¬ σ.1 2 4 = 0) : yBd σ τ ∧ yTp σ τ := by
  rcases H with ⟨⟨-, f7, -⟩, -⟩ | h
  · exact absurd f7 z
  · exact h
theorem yE_ok {σ τ : yS} (H : yE σ τ) (z : σ.1 2 4 = 0) : yLx σ τ ∧ yTk σ τ := by
  rcases H with h | ⟨⟨b1, b2, -⟩, -⟩
  · exact h
  · omega
theorem yB7_e {σ τ : yS} (H : yE σ τ) (z : ¬ σ.1 2 4 = 0) : yB7 σ := by
  obtain ⟨⟨b1, b2, b3, b4, b5, b6, b7⟩, T⟩ := yE_Q H z
  exact ⟨z, by omega, by omega, by omega⟩
theorem yQ7_f {σ σ' : yS} (Q : yQ7 σ) (r : σ'.2 = σ.2) (h : σ'.1 38 2 = σ.1 38 2 ∧ σ'.1 46 0 = σ.1 46 0 ∧ σ'.1 51 0 = σ.1 51 0 ∧ σ'.1 56 0 = σ.1 56 0) : yQ7 σ' := by
  obtain ⟨q1, q2, q3, q4⟩ := Q
  have t := q1
  unfold yTr at t
  refine ⟨by unfold yTr; rw [r]; exact q1, by rw [h.1]; exact q2, ?_, by rw [h.2.2.2]; exact q4⟩
  rw [r]
  rcases t with ⟨t, -⟩ | ⟨t, -⟩
  · rw [t] at q3 ⊢
    rw [show (38 + 8 : Nat) = 46 from rfl, h.2.1]; exact q3
  · rw [t] at q3 ⊢
    rw [show (38 + 13 : Nat) = 51 from rfl, h.2.2.1]; exact q3
theorem yE_zb {σ σ' τ : yS} (H : yE σ τ) (z : ¬ σ.1 2 4 = 0) (Z : yZB σ σ') : yE σ' τ := by
  obtain ⟨⟨b1, b2, b3, b4, b5, b6, b7⟩, T⟩ := yE_Q H z
  have y : ∀ b : Nat, b ≤ 5 → σ'.1 2 b = σ.1 2 b := fun b hb => Z.2 2 b (by omega) (by omega)
  have z3 : σ'.1 3 0 = σ.1 3 0 := Z.2 3 0 (by omega) (by omega)
  refine Or.inr ⟨⟨by rw [y _ (by omega)]; exact b1, b2, by rw [y _ (by omega)]; exact b3, b4, b5, by rw [y _ (by omega), y _ (by omega), z3]; exact b6, by rw [z3]; exact b7⟩, ?_⟩
  obtain ⟨a0, a1, a2, a3⟩ := T
  refine ⟨by rw [z3]; exact a0, by rw [z3]; exact a1, by rw [z3]; exact a2, fun j hj => ?_⟩
  rw [z3] at hj
  rw [Z.2 4 j (by omega) (by omega)]
  exact a3 j hj
/-- a line whose fault is found at its second token -/
theorem p_lfirst {N : Nat} {σ τ σ1 τ1 : yS} {k s0 : Int} {f7 : Option (Int × yS)} (h0 : 0 ≤ s0 ∧ s0 ≤ 1) (g8 : f_X8_next N (yw τ 0 10 s0) = some (0, τ1)) (E1 : yE σ1 τ1) (f1 : ¬ τ1.1 0 22 = 0) (F : yRB N σ1 f7) (Z7 : yZ7 σ σ1) (k8 : yK8 (yw τ 0 10 s0) τ1) (l6 : σ1.1 2 6 = σ.1 2 6) : yLL N σ τ f7 (f_X8_readLine_b156 N τ k s0) := by
  obtain ⟨r, σ', g, Z, Q⟩ := F
  have e := yE_f E1
  have n1 : ¬ σ1.1 2 4 = 0 := by omega
  have n7 : ¬ σ'.1 2 4 = 0 := by rw [Z.2 2 4 (by omega) (by omega)]; exact n1
  exact ⟨r, σ', τ1, g, (x8_b156 h0 g8).1 (by omega), yE_zb E1 n1 Z, yZ7_t Z7 (yZ7_b Z), yZ8_t (yZ8_w yZ8_r (by omega)) (yZ8_k k8), by rw [Z.2 2 6 (by omega) (by omega)]; exact l6, fun z => absurd z n7, fun _ => Q⟩
theorem x1_hsame {N : Nat} {σ σ1 : yS} (h : f_X1_readToken N σ = some (0, σ1)) (B : yB7 σ1) : f_X1_needHouse N σ = f_X1_needHouse N σ1 := by
  simp only [f_X1_needHouse, h, x1_tbad B]
theorem x1_msame {N : Nat} {σ σ1 : yS} {lo hi : Int} (h : f_X1_readToken N σ = some (0, σ1)) (B : yB7 σ1) : f_X1_needNumber N σ lo hi = f_X1_needNumber N σ1 lo hi := by
  simp only [f_X1_needNumber, h, x1_tbad B]
theorem p_lshape {N : Nat} (hN : 400 ≤ N) {σ τ : yS} {x : Int} (HH : yLx σ τ ∧ yTk σ τ) (R : yRD σ τ) (hx : x = 0 ∨ x = 1) (h10 : τ.1 0 10 = 0) : yLL N σ τ (f_X1_readShape N σ 38 x) (f_X8_readLine_b156 N τ (3 + x) 1) := by
  have E0 : yE (yw σ 2 7 1) (yw τ 0 10 1) := yE_w8 (yE_w7 (Or.inl HH) (by omega)) (by omega)
  have s27 : σ.1 2 7 = 0 := by rw [R.2.2.2.2.2.1.1]; exact h10
  obtain ⟨σ1, τ1, g7, g8, E1, k7, k8, mo1, z1, st1, nb1⟩ := p_next (N := N) hN E0
  obtain ⟨a, b, σ2, τ2, n7, n8, E2, j7, j8, ha, hb, ok, mo2⟩ := p_needNumber (N := N) hN (lo := 2) (hi := 7) g7 (by omega) E1
  have E3 : yE (yw (yw σ2 38 0 a) 38 1 x) τ2 := yE_w7 (yE_w7 E2 (by omega)) (by omega)
  obtain ⟨σ3, τ3, t7, t8, E4, i7, i8, mo3, z3, st3, nb3⟩ := p_next (N := N) hN E3
  have c7 : f_X1_readShape N σ 38 x = some (0, σ3) := by
    unfold f_X1_readShape
    rw [s27, ybz]
    simp only [f_X1_readShape_b16, n7, yb1_d, decide_eq_true (show 0 ≤ x ∧ x ≤ 1 by omega), cond_true, t7]
  have Z7 : yZ7 σ σ3 := yZ7_t (yZ7_w yZ7_r (by omega)) (yZ7_t (yZ7_k k7) (yZ7_t (yZ7_k j7) (yZ7_t (yZ7_w (yZ7_w yZ7_r (by omega)) (by omega)) (yZ7_k i7))))
  have m1 : (yw σ 2 7 1).1 2 1 = σ.1 2 1 := yw_n (by omega)
  have m3 : (yw (yw σ2 38 0 a) 38 1 x).1 2 1 = σ2.1 2 1 := by rw [yw_n (by omega), yw_n (by omega)]
  have m4 : (yw (yw σ2 38 0 a) 38 1 x).1 2 4 = σ2.1 2 4 := by rw [yw_n (by omega), yw_n (by omega)]
  have l6 : σ3.1 2 6 = σ.1 2 6 := by rw [i7.2 _ _ (by omega), yw_n (by omega), yw_n (by omega), j7.2 _ _ (by omega), k7.2 _ _ (by omega), yw_n (by omega)]
  by_cases f1 : τ1.1 0 22 = 0
  · have r8 : f_X8_readLineOf N τ1 (3 + x) = some (0, yw (yw τ3 0 8 b) 0 9 x) := by
      have rn : f_X8_readNumber N τ1 2 7 = some (b, τ3) := by
        simp only [f_X8_readNumber, n8, t8]
      unfold f_X8_readLineOf
      rcases hx with rfl | rfl
      · rw [yeq_d, decide_eq_true (show (3 : Int) + 0 = 3 by decide), cond_true, rn]
        show (bif ycP .ne (3 + 0) 4 then f_X8_readLineOf_b58 N (yw τ3 0 8 b) 0 else f_X8_readLineOf_b58 N (yw τ3 0 8 b) 1) = _
        rw [ycP_ne, decide_eq_true (by decide), cond_true]
        rfl
      · rw [yeq_d, decide_eq_false (show ¬ (3 : Int) + 1 = 3 by decide), cond_false, yeq_d, decide_eq_true (show (3 : Int) + 1 = 4 by decide), cond_true, rn]
        show (bif ycP .ne (3 + 1) 4 then f_X8_readLineOf_b58 N (yw τ3 0 8 b) 0 else f_X8_readLineOf_b58 N (yw τ3 0 8 b) 1) = _
        rw [ycP_ne, decide_eq_false (by decide), cond_false]
        rfl
    have E5 : yE σ3 (yw (yw τ3 0 8 b) 0 9 x) := yE_w8 (yE_w8 E4 (by omega)) (by omega)
    refine ⟨0, σ3, yw (yw τ3 0 8 b) 0 9 x, c7, (x8_b156 (by omega) g8).2 f1 _ r8, E5, Z7, yZ8_t (yZ8_w yZ8_r (by omega)) (yZ8_t (yZ8_k k8) (yZ8_t (yZ8_k j8) (yZ8_t (yZ8_k i8) (yZ8_w (yZ8_w yZ8_r (by omega)) (by omega))))), l6, fun z => ⟨?_, by omega, fun q => ?_⟩, fun z => ?_⟩
    · have z2 : σ2.1 2 4 = 0 := by rw [← m4]; exact z3 z
      obtain ⟨e1, e2, e3⟩ := ok z2
      subst e2
      subst e3
      have R0 := R
      obtain ⟨⟨q1, q2, q3, q4, q5, q6, q7⟩, -⟩ := R
      have w7 : ∀ i k : Nat, ¬ (i = 2 ∧ 1 ≤ k ∧ k ≤ 5) → ¬ (i = 2 ∧ k = 7) → ¬ (i = 38 ∧ k ≤ 1) → σ3.1 i k = σ.1 i k := fun i k x1 x2 x3 => by rw [i7.2 _ _ x1, yw_n (by omega), yw_n (by omega), k7.2 _ _ x1, yw_n (by omega)]
      have w8 : ∀ i k : Nat, ¬ (i = 0 ∧ 18 ≤ k ∧ k ≤ 23) → ¬ (i = 0 ∧ 8 ≤ k ∧ k ≤ 10) → (yw (yw τ3 0 8 b) 0 9 x).1 i k = τ.1 i k := fun i k x1 x2 => by rw [yw_n (by omega), yw_n (by omega), i8 _ _ x1, k8 _ _ x1, yw_n (by omega)]
      refine yRD_mk (σ := σ) (τ := τ) R0 ⟨?_, ?_, ?_, ?_, ?_, ?_, fun d hd => ?_⟩ (fun k => by rw [Z7.1]) (fun i k h => w7 _ _ (by omega) (by omega) (by omega)) (fun j => w8 _ _ (by omega) (by omega)) ⟨w8 _ _ (by omega) (by omega), w8 _ _ (by omega) (by omega)⟩ ?_ (fun k h => w7 _ _ (by omega) (by omega) (by omega)) (fun k => w8 _ _ (by omega) (by omega))
      · rw [i7.2 _ _ (by omega), yw_n (by omega), yw_p, yw_n (by omega), yw_p]; exact e1
      · rw [i7.2 _ _ (by omega), yw_p, yw_p]
      · rw [w7 _ _ (by omega) (by omega) (by omega), w8 _ _ (by omega) (by omega)]; exact q3
      · rw [yw_n (by omega), yw_p]; omega
      · rw [yw_p]; omega
      · rw [w8 _ _ (by omega) (by omega)]; exact q6
      · rw [w8 _ _ (by omega) (by omega)] at hd
        rw [w7 _ _ (by omega) (by omega) (by omega), w8 _ _ (by omega) (by omega)]
        exact q7 d hd
      · rw [i7.2 _ _ (by omega), yw_n (by omega), yw_n (by omega), k7.2 _ _ (by omega), yw_p, yw_n (by omega), yw_n (by omega), i8 _ _ (by omega), k8 _ _ (by omega), yw_p]
        decide
    · have := st3 z (by omega)
      omega
    · refine yQ7_f (yRD_Q R) Z7.1 ⟨?_, ?_, ?_, ?_⟩
      · rw [i7.2 _ _ (by omega), yw_n (by omega), yw_n (by omega), j7.2 _ _ (by omega), k7.2 _ _ (by omega), yw_n (by omega)]
      · rw [i7.2 _ _ (by omega), yw_n (by omega), yw_n (by omega), j7.2 _ _ (by omega), k7.2 _ _ (by omega), yw_n (by omega)]
      · rw [i7.2 _ _ (by omega), yw_n (by omega), yw_n (by omega), j7.2 _ _ (by omega), k7.2 _ _ (by omega), yw_n (by omega)]
      · rw [i7.2 _ _ (by omega), yw_n (by omega), yw_n (by omega), j7.2 _ _ (by omega), k7.2 _ _ (by omega), yw_n (by omega)]
  · have fe := yE_f E1
    have B1 : yB7 σ1 := yB7_e E1 (by omega)
    have Q1 : yQ7 σ1 := yQ7_f (yRD_Q R) (by rw [k7.1]; rfl) ⟨by rw [k7.2 _ _ (by omega), yw_n (by omega)], by rw [k7.2 _ _ (by omega), yw_n (by omega)], by rw [k7.2 _ _ (by omega), yw_n (by omega)], by rw [k7.2 _ _ (by omega), yw_n (by omega)]⟩
    have B2 : yB7 (yw (yw σ1 38 0 2) 38 1 x) := yB7_z (yZB_w (yZB_w yZB_r (by omega)) (by omega)) B1
    refine p_lfirst (by omega) g8 E1 f1 ⟨0, yw (yw σ1 38 0 2) 38 1 x, ?_, yZB_w (yZB_w yZB_r (by omega)) (by omega), yQ7_w (yQ7_w Q1 (by omega)) (by omega)⟩ (yZ7_t (yZ7_w yZ7_r (by omega)) (yZ7_k k7)) k8 (by rw [k7.2 _ _ (by omega), yw_n (by omega)])
    unfold f_X1_readShape
    rw [s27, ybz]
    simp only [f_X1_readShape_b16, x1_msame g7 B1, x1_mbad hN B1, yb1_d, decide_eq_true (show 0 ≤ x ∧ x ≤ 1 by omega), cond_true, x1_tbad B2]
end
section
theorem yle4 {a b c d e : Int} (h1 : a ≤ b) (h2 : c = b) (h3 : d ≤ e) (h4 : d = c) : a ≤ e := by omega
theorem ylt4 {a b c d e : Int} (h1 : a ≤ b) (h2 : c = b) (h3 : d < e) (h4 : d = c) : a < e := by omega
theorem y7_1 {σ σ' : yS} {a b : Nat} {x : Int} (h : yK7 (yw σ a b x) σ') (i k : Nat) (h1 : ¬ (i = 2 ∧ 1 ≤ k ∧ k ≤ 5)) (h2 : ¬ (i = a ∧ k = b)) : σ'.1 i k = σ.1 i k := by
  rw [h.2 i k h1, yw_n (by omega)]
theorem y7_2 {σ σ' : yS} {a b c d : Nat} {x y : Int} (h : yK7 (yw (yw σ a b x) c d y) σ') (i k : Nat) (h1 : ¬ (i = 2 ∧ 1 ≤ k ∧ k ≤ 5)) (h2 : ¬ (i = a ∧ k = b)) (h3 : ¬ (i = c ∧ k = d)) : σ'.1 i k = σ.1 i k := by
  rw [h.2 i k h1, yw_n (by omega), yw_n (by omega)]
theorem y8_0 {τ τ' : yS} {s : Int} (h : yK8 (yw τ 0 10 s) τ') (hs : τ.1 0 10 = s) (i k : Nat) (h1 : ¬ (i = 0 ∧ 18 ≤ k ∧ k ≤ 23)) : τ'.1 i k = τ.1 i k := by
  rw [h i k h1]
  by_cases q : k = 10 ∧ i = 0
  · obtain ⟨rfl, rfl⟩ := q
    rw [yw_p, hs]
  · rw [yw_n q]
theorem yRD_deed {σ τ σ' τ' : yS} {d : Nat} {a : Int} (R : yRD σ τ) (hd : τ.1 0 11 = (d : Int)) (h5 : d < 5) (ha : 0 ≤ a ∧ a ≤ 9) (r : σ'.2 = σ.2) (w7 : ∀ i k : Nat, ¬ (i = 2 ∧ 1 ≤ k ∧ k ≤ 5) → ¬ (i = 39 ∧ k = d) → ¬ (i = 38 ∧ k = 2) → σ'.1 i k = σ.1 i k) (x1 : σ'.1 39 d = a) (x2 : σ'.1 38 2 = ((d + 1 : Nat) : Int)) (w8 : ∀ i k : Nat, ¬ (i = 0 ∧ 18 ≤ k ∧ k ≤ 23) → ¬ (i = 6 ∧ k = d) → ¬ (i = 0 ∧ k = 11) → τ'.1 i k = τ.1 i k) (y1 : τ'.1 6 d = a) (y2 : τ'.1 0 11 = ((d + 1 : Nat) : Int)) : yRD σ' τ' := by
  have R0 := R
  obtain ⟨⟨q1, q2, q3, q4, q5, q6, q7⟩, -, -, -, -, ⟨s1, s2, s3⟩, -⟩ := R
  refine yRD_mk (σ := σ) (τ := τ) R0 ⟨?_, ?_, ?_, ?_, ?_, ?_, fun e he => ?_⟩ (fun k => by rw [r]) (fun i k h => w7 _ _ (by omega) (by omega) (by omega)) (fun j => w8 _ _ (by omega) (by omega) (by omega)) ⟨w8 _ _ (by omega) (by omega) (by omega), w8 _ _ (by omega) (by omega) (by omega)⟩ ?_ (fun k h => w7 _ _ (by omega) (by omega) (by omega)) (fun k => w8 _ _ (by omega) (by omega) (by omega))
  · rw [w7 _ _ (by omega) (by omega) (by omega), w8 _ _ (by omega) (by omega) (by omega)]; exact q1
  · rw [w7 _ _ (by omega) (by omega) (by omega), w8 _ _ (by omega) (by omega) (by omega)]; exact q2
  · rw [x2, y2]
  · rw [w8 _ _ (by omega) (by omega) (by omega)]; exact q4
  · rw [w8 _ _ (by omega) (by omega) (by omega)]; exact q5
  · rw [y2]; omega
  · rw [y2] at he
    by_cases ed : e = d
    · subst ed
      rw [x1, y1]
      exact ⟨rfl, ha⟩
    · rw [w7 _ _ (by omega) (by omega) (by omega), w8 _ _ (by omega) (by omega) (by omega)]
      exact q7 e (by omega)
  · rw [w7 _ _ (by omega) (by omega) (by omega), w8 _ _ (by omega) (by omega) (by omega)]
    exact ⟨s1, s2, s3⟩
/-- bounds of the class's terrace, by what is left alone -/
theorem yQ7_d {σ σ' : yS} {v : Int} (Q : yQ7 σ) (r : σ'.2 = σ.2) (h : σ'.1 38 2 = v) (hv : 0 ≤ v ∧ v ≤ 5) (w : ∀ i : Nat, 46 ≤ i → σ'.1 i 0 = σ.1 i 0) : yQ7 σ' := by
  obtain ⟨q1, q2, q3, q4⟩ := Q
  have t := q1
  unfold yTr at t
  refine ⟨by unfold yTr; rw [r]; exact q1, by rw [h]; exact hv, ?_, by rw [w 56 (by omega)]; exact q4⟩
  rw [r, w _ (by omega)]
  exact q3
theorem p_ldeed {N : Nat} (hN : 400 ≤ N) {σ τ : yS} (HH : yLx σ τ ∧ yTk σ τ) (R : yRD σ τ) (h5 : ¬ τ.1 0 11 = 5) : yLL N σ τ (f_X1_readDeed N σ 38) (f_X8_readLine_b156 N τ 5 (τ.1 0 10)) := by
  have q3 := R.1.2.2.1
  have q6 := R.1.2.2.2.2.2.1
  have s23 := R.2.2.2.2.2.1.2
  obtain ⟨d, hd⟩ : ∃ d : Nat, τ.1 0 11 = (d : Int) := ⟨(τ.1 0 11).toNat, by omega⟩
  have d5 : d < 5 := by omega
  have dd : σ.1 38 2 = (d : Int) := q3.trans hd
  have i5 : yin (d : Int) 5 = true := by rw [yin_d]; exact decide_eq_true (by omega)
  have e1 : yad (d : Int) 1 = ((d + 1 : Nat) : Int) := by rw [yad_e (by omega) (by omega)]; omega
  have d6 : ¬ (5 : Int) ≤ (d : Int) := by omega
  have d7 : (d : Int) < 5 := by omega
  have dv : 0 ≤ ((d + 1 : Nat) : Int) ∧ ((d + 1 : Nat) : Int) ≤ 5 := by omega
  clear q3 q6 h5
  have E0 : yE σ (yw τ 0 10 (τ.1 0 10)) := yE_w8 (Or.inl HH) (by decide)
  obtain ⟨σ1, τ1, g7, g8, E1, k7, k8, mo1, z1, st1, nb1⟩ := p_next (N := N) hN E0
  have c0 : f_X1_readDeed N σ 38 = f_X1_readDeed_b17 N σ 38 := by
    unfold f_X1_readDeed
    rw [dd, ycP_lt, decide_eq_true d7, cond_true]
  by_cases f1 : τ1.1 0 22 = 0
  · obtain ⟨a, b, σ2, τ2, n7, n8, E2, j7, j8, ha, hb, ok, mo2⟩ := p_needNumber (N := N) hN (lo := 0) (hi := 9) g7 (by decide) E1
    have E3 : yE (yw (yw σ2 39 d a) 38 2 ((d + 1 : Nat) : Int)) τ2 := yE_w7 (yE_w7 E2 (by omega)) (by decide)
    obtain ⟨σ3, τ3, t7, t8, E4, i7, i8, mo3, z3, st3, nb3⟩ := p_next (N := N) hN E3
    have K7 := yK7_t k7 j7
    have K8 := yK8_t j8 i8
    have d2 : σ2.1 38 2 = (d : Int) := (K7.2 38 2 (by decide)).trans dd
    have c7 : f_X1_readDeed N σ 38 = some (0, σ3) := by
      rw [c0]
      simp only [f_X1_readDeed_b17, n7, f_X4_addDeed, f_X4_addDeed_b20, f_X4_addDeed_b28, ycP_ge, d2, decide_eq_false d6, cond_false, i5, cond_true, Int.toNat_natCast]
      rw [yw_n (a := 38) (b := 2) (by omega), d2, e1, t7]
    have t11 : τ1.1 0 11 = (d : Int) := (y8_0 k8 rfl 0 11 (by decide)).trans hd
    have t33 : τ3.1 0 11 = (d : Int) := (K8 0 11 (by decide)).trans t11
    have r8 : f_X8_readLineOf N τ1 5 = some (0, yw (yw τ3 6 d b) 0 11 ((d + 1 : Nat) : Int)) := by
      have rn : f_X8_readNumber N τ1 0 9 = some (b, τ3) := by
        simp only [f_X8_readNumber, n8, t8]
      unfold f_X8_readLineOf
      rw [yeq_d, decide_eq_false (by decide), cond_false, yeq_d, decide_eq_false (by decide), cond_false, yeq_d, decide_eq_true rfl, cond_true, rn]
      show (bif yin (τ1.1 0 11) 5 then f_X8_readLineOf_b82 N (yw τ3 6 (τ1.1 0 11).toNat b) else none) = _
      rw [t11, i5, cond_true, Int.toNat_natCast]
      unfold f_X8_readLineOf_b82
      rw [yw_n (a := 0) (b := 11) (by omega), t33, e1]
      rfl
    have E5 : yE σ3 (yw (yw τ3 6 d b) 0 11 ((d + 1 : Nat) : Int)) := yE_w8 (yE_w8 E4 (by omega)) (by decide)
    have w7 : ∀ i k : Nat, ¬ (i = 2 ∧ 1 ≤ k ∧ k ≤ 5) → ¬ (i = 39 ∧ k = d) → ¬ (i = 38 ∧ k = 2) → σ3.1 i k = σ.1 i k := fun i k h1 h2 h3 => (y7_2 i7 i k h1 h2 h3).trans (K7.2 i k h1)
    have w8 : ∀ i k : Nat, ¬ (i = 0 ∧ 18 ≤ k ∧ k ≤ 23) → ¬ (i = 6 ∧ k = d) → ¬ (i = 0 ∧ k = 11) → (yw (yw τ3 6 d b) 0 11 ((d + 1 : Nat) : Int)).1 i k = τ.1 i k := fun i k h1 h2 h3 => by
      rw [yw_n (fun q => h3 ⟨q.2, q.1⟩), yw_n (fun q => h2 ⟨q.2, q.1⟩)]
      exact (K8 i k h1).trans (y8_0 k8 rfl i k h1)
    have x2 : σ3.1 38 2 = ((d + 1 : Nat) : Int) := (i7.2 38 2 (by decide)).trans yw_p
    have rr : σ3.2 = σ.2 := i7.1.trans (K7.1)
    have m3 : (yw (yw σ2 39 d a) 38 2 ((d + 1 : Nat) : Int)).1 2 1 = σ2.1 2 1 := by rw [yw_n (by decide), yw_n (by omega)]
    have m4 : (yw (yw σ2 39 d a) 38 2 ((d + 1 : Nat) : Int)).1 2 4 = σ2.1 2 4 := by rw [yw_n (by decide), yw_n (by omega)]
    have l6 : σ3.1 2 6 = σ.1 2 6 := w7 2 6 (by decide) (fun q => absurd q.1 (by decide)) (by decide)
    have Z7 : yZ7 σ σ3 := ⟨rr, fun i k h1 h2 => w7 i k (fun q => h1 q.1) (fun q => h2 (by omega)) (fun q => h2 (by omega))⟩
    refine ⟨0, σ3, yw (yw τ3 6 d b) 0 11 ((d + 1 : Nat) : Int), c7, (x8_b156 s23 g8).2 f1 _ r8, E5, Z7, fun i k h1 h2 h3 h4 => w8 i k (fun q => h4 (by omega)) (fun q => h2 q.1) (fun q => h4 (by omega)), l6, fun z => ⟨?_, ?_, fun q => ?_⟩, fun z => ?_⟩
    · have z2 : σ2.1 2 4 = 0 := m4.symm.trans (z3 z)
      obtain ⟨x1, -, -⟩ := ok z2
      refine yRD_deed R hd d5 ha rr w7 ?_ x2 w8 ?_ yw_p
      · exact (i7.2 39 d (by omega)).trans ((yw_n (by omega)).trans yw_p)
      · rw [x1]
        exact (yw_n (by omega)).trans yw_p
    · exact yle4 mo1 mo2 mo3 m3
    · exact ylt4 mo1 mo2 (st3 z (by rw [q]; decide)) m3
    · exact yQ7_d (yRD_Q R) rr x2 dv (fun i hi => w7 i 0 (by omega) (by omega) (by omega))
  · have fe := yE_f E1
    have B1 : yB7 σ1 := yB7_e E1 (by omega)
    have Q1 : yQ7 σ1 := yQ7_f (yRD_Q R) k7.1 ⟨k7.2 _ _ (by decide), k7.2 _ _ (by decide), k7.2 _ _ (by decide), k7.2 _ _ (by decide)⟩
    have F := x1_bdeed hN B1 Q1
    have eq : f_X1_readDeed N σ 38 = f_X1_readDeed_b17 N σ1 38 := by
      rw [c0]
      simp only [f_X1_readDeed_b17, x1_msame g7 B1]
    rw [eq]
    exact p_lfirst s23 g8 E1 f1 F (yZ7_k k7) k8 (k7.2 _ _ (by decide))
end
section
theorem ybw7 : ∀ S : Fin 128, ∀ a : Fin 7, (0 ≤ yor ((S.val : Nat) : Int) (ysl 1 ((a.val : Nat) : Int)) ∧ yor ((S.val : Nat) : Int) (ysl 1 ((a.val : Nat) : Int)) < 128) ∧ ∀ i : Fin 7, yan (ysr (yor ((S.val : Nat) : Int) (ysl 1 ((a.val : Nat) : Int))) ((i.val : Nat) : Int)) 1 = if i.val = a.val then 1 else yan (ysr ((S.val : Nat) : Int) ((i.val : Nat) : Int)) 1 := by decide +kernel
/-- told once: the class's part -/
theorem x1_once {N : Nat} {σ : yS} {x i : Int} : (¬ yan (ysr x i) 1 = 1 → f_X1_tellOnce N σ x i = some (yor x (ysl 1 i), σ)) ∧ (yan (ysr x i) 1 = 1 → ∀ σ' : yS, f_X1_complain N σ 4 (σ.1 2 3) = some (0, σ') → f_X1_tellOnce N σ x i = some (yor x (ysl 1 i), σ')) := by
  have n1 : ¬ (1 : Int) = 0 := by decide
  refine ⟨fun h => ?_, fun h σ' g => ?_⟩
  · simp only [f_X1_tellOnce, f_X1_tellOnce_b18, f_X7_bit, x7_withBit, ycP_ne]
    rw [decide_eq_true h, cond_true, if_neg n1]
  · simp only [f_X1_tellOnce, f_X1_tellOnce_b18, f_X7_bit, x7_withBit, ycP_ne, g]
    rw [decide_eq_false (fun q => q h), cond_false, if_neg n1]
/-- a house told for the first time on such a line -/
theorem p_fresh {N : Nat} (hN : 400 ≤ N) {σ0 σ τ : yS} {j : Nat} (hj : 8 ≤ j ∧ j ≤ 10) (hr : f_X1_readToken N σ0 = some (0, σ)) (H : yE σ τ) (G : σ.1 2 4 = 0 → yGr (σ.1 2 11) (τ.1 0 14) 6) (X : σ.1 2 4 = 0 → σ.1 2 j = τ.1 7 (j - 8) ∧ 0 ≤ τ.1 7 (j - 8) ∧ τ.1 7 (j - 8) < 128) : ∃ (a b v : Int) (σ2 σ3 τ4 : yS), f_X1_needHouse N σ0 = some (a, σ2) ∧ f_X1_tellOnce N σ2 (σ2.1 2 j) a = some (v, σ3) ∧ f_X8_readFresh N τ ((j - 8 : Nat) : Int) = (match f_X8_next N τ4 with
    | none => none
    | some r2 => some (b, r2.2)) ∧ yE (yw σ3 2 j v) τ4 ∧ (0 ≤ a ∧ a ≤ 6) ∧ (0 ≤ b ∧ b ≤ 6) ∧ σ3.2 = σ.2 ∧ (∀ i k : Nat, ¬ (i = 2 ∧ (1 ≤ k ∧ k ≤ 5 ∨ k = 11)) → σ3.1 i k = σ.1 i k) ∧ (∀ i k : Nat, ¬ (i = 0 ∧ (18 ≤ k ∧ k ≤ 23 ∨ k = 14)) → ¬ (i = 7 ∧ k = j - 8) → τ4.1 i k = τ.1 i k) ∧ σ3.1 2 1 = σ.1 2 1 ∧ (σ3.1 2 4 = 0 → a = b ∧ σ.1 2 4 = 0 ∧ v = τ4.1 7 (j - 8) ∧ (0 ≤ v ∧ v < 128) ∧ v = yor (σ.1 2 j) (ysl 1 a) ∧ (σ3.1 2 11 = τ4.1 0 14 ∧ τ.1 0 14 ≤ τ4.1 0 14 ∧ a ≤ τ4.1 0 14 ∧ 0 ≤ τ4.1 0 14 ∧ τ4.1 0 14 ≤ 6)) := by
  obtain ⟨a, b, σ2, τ2, g7, g8, E2, ha, hb, s2, w7, w8, mo, ok⟩ := p_needHouse (N := N) hN hr H G
  have ij : yin ((j - 8 : Nat) : Int) 3 = true := by rw [yin_d]; exact decide_eq_true (by omega)
  have j2 : σ2.1 2 j = σ.1 2 j := w7 2 j (by omega)
  have t2 : τ2.1 7 (j - 8) = τ.1 7 (j - 8) := w8 7 _ (by omega)
  by_cases f0 : σ2.1 2 4 = 0
  · obtain ⟨e1, e2, e3⟩ := ok f0
    subst e1
    obtain ⟨x1, x2, x3⟩ := X e2
    have fe := yE_f E2
    have f22 : τ2.1 0 22 = 0 := by omega
    obtain ⟨L, hL⟩ : ∃ L : Nat, τ.1 7 (j - 8) = (L : Int) := ⟨(τ.1 7 (j - 8)).toNat, by omega⟩
    obtain ⟨A, hA⟩ : ∃ A : Nat, a = (A : Int) := ⟨a.toNat, by omega⟩
    have bs := (ybw7 ⟨L, by omega⟩ ⟨A, by omega⟩).1
    have bb := ybit7 ⟨L, by omega⟩ ⟨A, by omega⟩
    dsimp only at bs bb
    rw [← hA, ← hL] at bs bb
    have HH := yE_ok E2 f0
    have rf : ∀ (fl : Int) (τ3 : yS), (∀ q : Int, q = yan (ysr (τ.1 7 (j - 8)) a) 1 → ((¬ q = 0 ∧ fl = 0) ∨ (q = 0 ∧ fl = 1))) → f_X8_needs N τ2 fl 4 = some (0, τ3) → τ3.1 7 (j - 8) = τ.1 7 (j - 8) → f_X8_readFresh N τ ((j - 8 : Nat) : Int) = (match f_X8_next N (yw τ3 7 (j - 8) (yor (τ.1 7 (j - 8)) (ysl 1 a))) with
        | none => none
        | some r2 => some (a, r2.2)) := fun fl τ3 hq hn ht => by
      have q := hq _ rfl
      unfold f_X8_readFresh
      rw [g8]
      show (bif ycP .ne (τ2.1 0 22) 0 then f_X8_readFresh_b47 N τ2 a else bif yin ((j - 8 : Nat) : Int) 3 then bif ycP .ne (yan (ysr (τ2.1 7 ((j - 8 : Nat) : Int).toNat) a) 1) 0 then f_X8_readFresh_b31 N τ2 ((j - 8 : Nat) : Int) a 0 else f_X8_readFresh_b31 N τ2 ((j - 8 : Nat) : Int) a 1 else none) = _
      rw [f22, ybz2, ij, cond_true, Int.toNat_natCast, t2, ycP_ne]
      have fin : f_X8_readFresh_b31 N τ2 ((j - 8 : Nat) : Int) a fl = (match f_X8_next N (yw τ3 7 (j - 8) (yor (τ.1 7 (j - 8)) (ysl 1 a))) with
        | none => none
        | some r2 => some (a, r2.2)) := by
        unfold f_X8_readFresh_b31
        rw [hn]
        show (bif yin ((j - 8 : Nat) : Int) 3 then f_X8_readFresh_b47 N (yw τ3 7 ((j - 8 : Nat) : Int).toNat (yor (τ3.1 7 ((j - 8 : Nat) : Int).toNat) (ysl 1 a))) a else none) = _
        rw [ij, cond_true, Int.toNat_natCast, ht]
        rfl
      rcases q with ⟨q1, q2⟩ | ⟨q1, q2⟩
      · rw [decide_eq_true q1, cond_true]
        rw [q2] at fin
        exact fin
      · rw [decide_eq_false (fun r => r q1), cond_false]
        rw [q2] at fin
        exact fin
    by_cases hd : yan (ysr (τ.1 7 (j - 8)) a) 1 = 1
    · obtain ⟨p1, p2, p3⟩ := p_fail (N := N) HH (show (0 : Int) < 4 by decide)
      refine ⟨a, a, yor (σ2.1 2 j) (ysl 1 a), σ2, _, _, g7, x1_once.2 (by rw [j2, x1]; exact hd) _ p1, rf 0 _ (fun q hq => Or.inl ⟨by rw [hq, hd]; decide, rfl⟩) p2 (by rw [yw_n (by omega), yw_n (by omega)]; exact t2), yE_w8 (yE_w7 p3 (by omega)) (by omega), ha, hb, s2, fun i k q => ?_, fun i k q1 q2 => ?_, ?_, fun z => ?_⟩
      · rw [yw_n (by omega), yw_n (by omega)]; exact w7 i k q
      · rw [yw_n (by omega), yw_n (by omega), yw_n (by omega)]; exact w8 i k q1
      · rw [yw_n (by decide), yw_n (by decide)]; exact mo
      · rw [yw_n (by decide), yw_p] at z
        exact absurd z (by decide)
    · have hz : yan (ysr (τ.1 7 (j - 8)) a) 1 = 0 := by
        rcases bb with h | h
        · exact h
        · exact absurd h hd
      refine ⟨a, a, yor (σ2.1 2 j) (ysl 1 a), σ2, σ2, _, g7, x1_once.1 (by rw [j2, x1]; exact hd), rf 1 τ2 (fun q hq => Or.inr ⟨by rw [hq]; exact hz, rfl⟩) x8_ngood t2, yE_w8 (yE_w7 E2 (by omega)) (by omega), ha, hb, s2, w7, fun i k q1 q2 => ?_, mo, fun z => ⟨rfl, e2, ?_, ?_, ?_, ?_⟩⟩
      · rw [yw_n (by omega)]; exact w8 i k q1
      · rw [yw_p, j2, x1]
      · rw [j2, x1]; exact bs
      · rw [j2]
      · rw [yw_n (by omega)]; exact e3
  · have fe := yE_f E2
    have f22 : ¬ τ2.1 0 22 = 0 := by omega
    obtain ⟨v, hv⟩ := x1_obad (N := N) (x := σ2.1 2 j) (i := a) (yB7_e E2 f0)
    refine ⟨a, b, v, σ2, σ2, τ2, g7, hv, ?_, yE_w7 E2 (by omega), ha, hb, s2, w7, fun i k q1 q2 => w8 i k q1, mo, fun z => absurd z f0⟩
    unfold f_X8_readFresh
    rw [g8]
    show (bif ycP .ne (τ2.1 0 22) 0 then f_X8_readFresh_b47 N τ2 b else _) = _
    rw [ycP_ne, decide_eq_true f22, cond_true]
    rfl
end
section
theorem yRT_law {σ : yS} {t : Nat} {g : Nat → Int} {L : Int} {A : Nat} (hA : A < 7) (hb : ∀ i : Nat, i < 7 → yan (ysr L (i : Int)) 1 = if i = A then 1 else yan (ysr (σ.1 t 6) (i : Int)) 1) (H : yRT σ t g) : yRT (yw σ t 6 L) t (yup g (14 + A) 1) := by
  obtain ⟨t1, t2, ⟨t3, t4⟩, ⟨t5, t6⟩, ⟨d0, d1, d2, d3⟩, t7⟩ := H
  refine ⟨fun i hi => ?_, fun j hj => ?_, ⟨?_, fun i hi => ?_⟩, ⟨?_, fun i hi => ?_⟩, ⟨?_, ?_, ?_, ?_⟩, t7⟩
  · obtain ⟨q0, q1, q2, q3, q4, q5⟩ := t1 i hi
    refine ⟨?_, ?_, ?_, ?_, ?_, ?_⟩
    · rw [yw_n (by omega), yup_n (by omega)]; exact q0
    · rw [yw_n (by omega), yup_n (by omega)]; exact q1
    · rw [yw_p, hb i hi]
      by_cases e : i = A
      · subst e
        rw [if_pos rfl, yup_p]
      · rw [if_neg e, yup_n (by omega)]; exact q2
    · rw [yw_n (by omega), yup_n (by omega)]; exact q3
    · rw [yw_n (by omega), yup_n (by omega)]; exact q4
    · rw [yw_n (by omega), yup_n (by omega)]; exact q5
  · rw [yw_n (by omega), yup_n (by omega)]; exact t2 j hj
  · rw [yw_2, yw_n (by omega), yup_n (by omega)]; exact t3
  · rw [yup_n (by omega)] at hi
    rw [yw_2, yw_n (by omega), yw_n (by omega), yw_n (by omega), yw_n (by omega), yup_n (by omega), yup_n (by omega), yup_n (by omega), yup_n (by omega)]; exact t4 i hi
  · rw [yw_n (by omega), yup_n (by omega)]; exact t5
  · rw [yup_n (by omega)] at hi
    rw [yw_n (by omega), yw_n (by omega), yup_n (by omega), yup_n (by omega)]; exact t6 i hi
  · rw [yw_n (by omega), yup_n (by omega)]; exact d0
  · rw [yw_n (by omega), yup_n (by omega)]; exact d1
  · rw [yw_n (by omega), yup_n (by omega)]; exact d2
  · rw [yw_n (by omega), yup_n (by omega)]; exact d3
/-- a terrace against a row, by what both read -/
theorem yRT_g {σ σ' : yS} {t : Nat} {g g' : Nat → Int} (r : ∀ b : Nat, σ'.2 t b = σ.2 t b) (c : ∀ a b : Nat, (a = t ∧ 6 ≤ b) ∨ (t + 2 ≤ a ∧ a < t + 21) → σ'.1 a b = σ.1 a b) (e : ∀ j : Nat, g' j = g j) (H : yRT σ t g) : yRT σ' t g' := by
  have e : g' = g := funext e
  rw [e]
  obtain ⟨t1, t2, ⟨t3, t4⟩, ⟨t5, t6⟩, ⟨x0, x1, x2, x3⟩, x7⟩ := H
  refine ⟨fun i hi => ?_, fun j hj => ?_, ⟨?_, fun i hi => ?_⟩, ⟨?_, fun i hi => ?_⟩, ⟨?_, ?_, ?_, ?_⟩, ?_⟩
  · rw [c (t + 2) _ (by omega), c (t + 3) _ (by omega), c t _ (by omega), c (t + 4) _ (by omega), c (t + 5) _ (by omega), c (t + 6) _ (by omega)]
    exact t1 i hi
  · rw [c _ _ (by omega)]; exact t2 j hj
  · rw [r, c _ _ (by omega)]; exact t3
  · rw [r, c _ _ (by omega), c _ _ (by omega), c _ _ (by omega), c _ _ (by omega)]; exact t4 i hi
  · rw [c _ _ (by omega)]; exact t5
  · rw [c _ _ (by omega), c _ _ (by omega)]; exact t6 i hi
  · rw [c _ _ (by omega)]; exact x0
  · rw [c _ _ (by omega)]; exact x1
  · rw [c _ _ (by omega)]; exact x2
  · rw [c _ _ (by omega)]; exact x3
  · rw [r, r]; exact x7
theorem yRD_law {σ τ σ' τ' : yS} {A : Nat} {v : Int} (R : yRD σ τ) (hA : A < 7) (r : σ'.2 = σ.2) (w7 : ∀ i k : Nat, ¬ (i = 2 ∧ ((1 ≤ k ∧ k ≤ 5) ∨ k = 9 ∨ k = 11)) → ¬ (i = 38 ∧ k = 6) → σ'.1 i k = σ.1 i k) (w8 : ∀ i k : Nat, ¬ (i = 0 ∧ ((18 ≤ k ∧ k ≤ 23) ∨ k = 14)) → ¬ (i = 7 ∧ k = 1) → ¬ (i = 5 ∧ k = 14 + A) → τ'.1 i k = τ.1 i k) (x1 : σ'.1 2 9 = v) (x2 : σ'.1 38 6 = v) (y1 : τ'.1 7 1 = v) (y2 : τ'.1 5 (14 + A) = 1) (hv : v = yor (σ.1 2 9) (ysl 1 (A : Int))) (vb : 0 ≤ v ∧ v < 128) (gr : σ'.1 2 11 = τ'.1 0 14 ∧ τ.1 0 14 ≤ τ'.1 0 14 ∧ (A : Int) ≤ τ'.1 0 14 ∧ 0 ≤ τ'.1 0 14 ∧ τ'.1 0 14 ≤ 6) : yRD σ' τ' := by
  obtain ⟨⟨q1, q2, q3, q4, q5, q6, q7⟩, T, G, K, z, ⟨s1, s2, s3⟩, ⟨a1, a2, a3, a4⟩, b, g1, g2⟩ := R
  obtain ⟨L, hL⟩ : ∃ L : Nat, σ.1 2 9 = (L : Int) := ⟨(σ.1 2 9).toNat, by have := b 1 (by omega); omega⟩
  have bits : ∀ i : Nat, i < 7 → yan (ysr v (i : Int)) 1 = if i = A then 1 else yan (ysr (σ.1 38 6) (i : Int)) 1 := fun i hi => by
    have q := (ybw7 ⟨L, by have := b 1 (by omega); omega⟩ ⟨A, hA⟩).2 ⟨i, hi⟩
    dsimp only at q
    rw [hv, a4, hL]
    exact q
  have eu : (fun j => τ'.1 5 j) = yup (fun j => τ.1 5 j) (14 + A) 1 := by
    funext j
    by_cases e : j = 14 + A
    · subst e
      rw [y2, yup_p]
    · rw [yup_n e]; exact w8 5 j (by omega) (by omega) (by omega)
  refine ⟨⟨?_, ?_, ?_, ?_, ?_, ?_, fun d hd => ?_⟩, ?_, ?_, ?_, ?_, ?_, ⟨?_, ?_, ?_, ?_⟩, fun k hk => ?_, ?_, ?_⟩
  · rw [w7 _ _ (by omega) (by omega), w8 _ _ (by omega) (by omega) (by omega)]; exact q1
  · rw [w7 _ _ (by omega) (by omega), w8 _ _ (by omega) (by omega) (by omega)]; exact q2
  · rw [w7 _ _ (by omega) (by omega), w8 _ _ (by omega) (by omega) (by omega)]; exact q3
  · rw [w8 _ _ (by omega) (by omega) (by omega)]; exact q4
  · rw [w8 _ _ (by omega) (by omega) (by omega)]; exact q5
  · rw [w8 _ _ (by omega) (by omega) (by omega)]; exact q6
  · rw [w8 _ _ (by omega) (by omega) (by omega)] at hd
    rw [w7 _ _ (by omega) (by omega), w8 _ _ (by omega) (by omega) (by omega)]; exact q7 d hd
  · have T2 := yRT_law (L := v) hA bits T
    rw [← eu] at T2
    refine yRT_g (σ := yw σ 38 6 v) (fun k => by rw [r]; rfl) (fun i k h => ?_) (fun j => rfl) T2
    by_cases e : i = 38 ∧ k = 6
    · obtain ⟨rfl, rfl⟩ := e
      rw [x2, yw_p]
    · rw [yw_n (by omega)]; exact w7 i k (by omega) e
  · rw [eu, x2, w8 0 15 (by omega) (by omega) (by omega)]
    have G2 := yGe_m (hs' := τ'.1 0 14 + 1) (ds' := τ.1 0 15 + 1) (by omega) (Int.le_refl _) G
    obtain ⟨c0, c1, c2, c3, c4, c5⟩ := G2
    refine ⟨vb, fun i hi => ?_, by rw [yup_n (by omega)]; exact c2, fun i hi => ?_, by rw [yup_n (by omega)]; exact c4, fun i hi => ?_⟩
    · obtain ⟨p1, p2, p3, p4, p5⟩ := c1 i hi
      refine ⟨by rw [yup_n (by omega)]; exact p1, ?_, by rw [yup_n (by omega)]; exact p3, by rw [yup_n (by omega)]; exact p4, by rw [yup_n (by omega)]; exact p5⟩
      by_cases e : i = A
      · subst e
        rw [yup_p]; decide
      · rw [yup_n (by omega)]; exact p2
    · rw [yup_n (by omega)] at hi
      rw [yup_n (by omega), yup_n (by omega), yup_n (by omega), yup_n (by omega)]; exact c3 i hi
    · rw [yup_n (by omega)] at hi
      rw [yup_n (by omega), yup_n (by omega)]; exact c5 i hi
  · rw [eu, w8 0 15 (by omega) (by omega) (by omega)]
    have K2 := yGk_m (hs' := τ'.1 0 14 + 1) (ds' := τ.1 0 15 + 1) (by omega) (Int.le_refl _) K
    refine ⟨fun j hj => by rw [yup_n (by omega)]; exact K2.1 j hj, fun i hi => by rw [yup_n (by omega), yup_n (by omega)]; exact K2.2.1 i hi, fun i hi q => ?_⟩
    rw [yup_n (by omega)]
    exact K2.2.2 i hi q
  · rw [w8 _ _ (by omega) (by omega) (by omega)]; exact z
  · rw [w7 _ _ (by omega) (by omega), w8 _ _ (by omega) (by omega) (by omega)]; exact ⟨s1, s2, s3⟩
  · rw [w7 _ _ (by omega) (by omega), w8 _ _ (by omega) (by omega) (by omega)]; exact a1
  · rw [x1, y1]
  · rw [w7 _ _ (by omega) (by omega), w8 _ _ (by omega) (by omega) (by omega)]; exact a3
  · rw [x2, x1]
  · by_cases e : k = 1
    · subst e
      rw [y1]; exact vb
    · rw [w8 _ _ (by omega) (by omega) (by omega)]; exact b k hk
  · exact Or.inr ⟨gr.1, gr.2.2.2.1, gr.2.2.2.2⟩
  · rw [w7 _ _ (by omega) (by omega), w8 _ _ (by omega) (by omega) (by omega)]; exact g2
theorem p_llaw {N : Nat} (hN : 400 ≤ N) {σ τ : yS} (HH : yLx σ τ ∧ yTk σ τ) (R : yRD σ τ) : yLL N σ τ (f_X1_readLawyer N σ 38) (f_X8_readLine_b156 N τ 1 (τ.1 0 10)) := by
  have s23 := R.2.2.2.2.2.1.2
  have E0 : yE σ (yw τ 0 10 (τ.1 0 10)) := yE_w8 (Or.inl HH) (by decide)
  obtain ⟨σ1, τ1, g7, g8, E1, k7, k8, mo1, z1, st1, nb1⟩ := p_next (N := N) hN E0
  have u8 := y8_0 k8 rfl
  by_cases f1 : τ1.1 0 22 = 0
  · have told := R.2.2.2.2.2.2.1.2.1
    have tb := R.2.2.2.2.2.2.2.1 1 (by decide)
    have gr := R.2.2.2.2.2.2.2.2.1
    obtain ⟨a, b, v, σ2, σ3, τ4, h7, o7, r8, E4, ha, hb, s3, w7, w8, mo3, ok⟩ := p_fresh (N := N) hN (j := 9) (by decide) g7 E1 (fun _ => by rw [k7.2 2 11 (by decide), u8 0 14 (by decide)]; exact gr) (fun _ => by rw [k7.2 2 9 (by decide), u8 7 1 (by decide)]; exact ⟨told, tb⟩)
    obtain ⟨A, hA⟩ : ∃ A : Nat, a = (A : Int) := ⟨a.toNat, by omega⟩
    obtain ⟨B, hB⟩ : ∃ A : Nat, b = (A : Int) := ⟨b.toNat, by omega⟩
    have A7 : A < 7 := by omega
    have B7 : B < 7 := by omega
    have E5 : yE (yw (yw σ3 2 9 v) 38 6 v) τ4 := yE_w7 E4 (by decide)
    obtain ⟨σ5, τ5, t7, t8, E6, i7, i8, mo5, z5, st5, nb5⟩ := p_next (N := N) hN E5
    have c7 : f_X1_readLawyer N σ 38 = some (0, σ5) := by
      simp only [f_X1_readLawyer, f_X1_readLawyer_b20, h7, o7]
      rw [yw_p, t7]
    have rf : f_X8_readFresh N τ1 1 = some (b, τ5) := by
      have q : f_X8_readFresh N τ1 1 = _ := r8
      rw [q, t8]
    have V7 : ∀ i k : Nat, ¬ (i = 2 ∧ ((1 ≤ k ∧ k ≤ 5) ∨ k = 9 ∨ k = 11)) → ¬ (i = 38 ∧ k = 6) → σ5.1 i k = σ.1 i k := fun i k h1 h2 => ((y7_2 i7 i k (by omega) (by omega) (by omega)).trans (w7 i k (by omega))).trans (k7.2 i k (by omega))
    have rr : σ5.2 = σ.2 := i7.1.trans (s3.trans k7.1)
    have l6 : σ5.1 2 6 = σ.1 2 6 := V7 2 6 (by decide) (by decide)
    have Z7 : yZ7 σ σ5 := ⟨rr, fun i k h1 h2 => V7 i k (fun q => h1 q.1) (fun q => h2 (by omega))⟩
    have m3 : (yw (yw σ3 2 9 v) 38 6 v).1 2 1 = σ3.1 2 1 := by rw [yw_n (by decide), yw_n (by decide)]
    have m4 : (yw (yw σ3 2 9 v) 38 6 v).1 2 4 = σ3.1 2 4 := by rw [yw_n (by decide), yw_n (by decide)]
    have Q5 : yQ7 σ5 := yQ7_f (yRD_Q R) rr ⟨V7 _ _ (by decide) (by decide), V7 _ _ (by decide) (by decide), V7 _ _ (by decide) (by decide), V7 _ _ (by decide) (by decide)⟩
    have V8 : ∀ i k : Nat, ¬ (i = 0 ∧ ((18 ≤ k ∧ k ≤ 23) ∨ k = 14)) → ¬ (i = 7 ∧ k = 1) → τ5.1 i k = τ.1 i k := fun i k h1 h2 => ((i8 i k (by omega)).trans (w8 i k (by omega) h2)).trans (u8 i k (by omega))
    have fe := yE_f E6
    have ro : ∀ r : Int × yS, f_X8_readOfHouse N τ1 1 = some r → f_X8_readLineOf N τ1 1 = some (0, r.2) := fun r q => by
      unfold f_X8_readLineOf
      rw [yeq_d, decide_eq_false (by decide), cond_false, yeq_d, decide_eq_false (by decide), cond_false, yeq_d, decide_eq_false (by decide), cond_false, yeq_d, decide_eq_false (by decide), cond_false, yeq_d, decide_eq_false (by decide), cond_false, q]
      rfl
    by_cases f5 : τ5.1 0 22 = 0
    · have m14 : yad 14 b = ((14 + B : Nat) : Int) := by rw [hB, yad_e (by omega) (by omega)]; omega
      have i14 : yin ((14 + B : Nat) : Int) 131 = true := by rw [yin_d]; exact decide_eq_true (by omega)
      have rh : f_X8_readOfHouse N τ1 1 = some (0, yw τ5 5 (14 + B) 1) := by
        unfold f_X8_readOfHouse
        rw [rf]
        show (bif ycP .le (τ5.1 0 22) 0 then bif ycP .ne 1 1 then _ else bif yin (yad 14 b) 131 then f_X8_readOfHouse_b101 N (yw τ5 5 (yad 14 b).toNat 1) else none else some (0, τ5)) = _
        rw [f5, ycP_le, decide_eq_true (by decide), cond_true, ycP_ne, decide_eq_false (by decide), cond_false, m14, i14, cond_true, Int.toNat_natCast]
        rfl
      refine ⟨0, σ5, yw τ5 5 (14 + B) 1, c7, (x8_b156 s23 g8).2 f1 _ (ro _ rh), yE_w8 E6 (by omega), Z7, fun i k h1 h2 h3 h4 => ?_, l6, fun z => ⟨?_, yle4 mo1 mo3 mo5 m3, fun q => ylt4 mo1 mo3 (st5 z (by rw [q]; decide)) m3⟩, fun _ => Q5⟩
      · rw [yw_n (fun q => h1 q.2)]; exact V8 i k (by omega) (fun q => h3 q.1)
      · have z2 : σ3.1 2 4 = 0 := m4.symm.trans (z5 z)
        obtain ⟨y1, y2, y3, y4, y5, y6⟩ := ok z2
        have AB : A = B := by omega
        subst AB
        have p9 : σ1.1 2 9 = σ.1 2 9 := k7.2 2 9 (by decide)
        have p14 : τ1.1 0 14 = τ.1 0 14 := u8 0 14 (by decide)
        refine yRD_law R A7 rr V7 (fun i k h1 h2 h3 => by rw [yw_n (fun q => h3 ⟨q.2, q.1⟩)]; exact V8 i k h1 h2) ((i7.2 2 9 (by decide)).trans ((yw_n (by decide)).trans yw_p)) ((i7.2 38 6 (by decide)).trans yw_p) ?_ yw_p ?_ y4 ?_
        · rw [yw_n (by omega), i8 7 1 (by decide)]; exact y3.symm
        · rw [y5, p9, hA]
        · rw [yw_n (by omega), i8 0 14 (by decide), y7_2 i7 2 11 (by decide) (by decide) (by decide), ← hA, ← p14]
          exact y6
    · have rh : f_X8_readOfHouse N τ1 1 = some (0, τ5) := by
        unfold f_X8_readOfHouse
        rw [rf]
        show (bif ycP .le (τ5.1 0 22) 0 then _ else some ((0 : Int), τ5)) = _
        rw [ycP_le, decide_eq_false (show ¬ τ5.1 0 22 ≤ 0 by omega), cond_false]
      have n5 : ¬ σ5.1 2 4 = 0 := by omega
      exact ⟨0, σ5, τ5, c7, (x8_b156 s23 g8).2 f1 _ (ro _ rh), E6, Z7, fun i k h1 h2 h3 h4 => V8 i k (by omega) (fun q => h3 q.1), l6, fun z => absurd z n5, fun _ => Q5⟩
  · have fe := yE_f E1
    have B1 : yB7 σ1 := yB7_e E1 (by omega)
    have Q1 : yQ7 σ1 := yQ7_f (yRD_Q R) k7.1 ⟨k7.2 _ _ (by decide), k7.2 _ _ (by decide), k7.2 _ _ (by decide), k7.2 _ _ (by decide)⟩
    have F := x1_blawyer hN B1 Q1
    have eq : f_X1_readLawyer N σ 38 = f_X1_readLawyer N σ1 38 := by
      simp only [f_X1_readLawyer, x1_hsame g7 B1]
    rw [eq]
    exact p_lfirst s23 g8 E1 f1 F (yZ7_k k7) k8 (k7.2 _ _ (by decide))
end
section
theorem yRD_want {σ τ σ' τ' : yS} {m : Nat} {a d : Int} (R : yRD σ τ) (hm : τ.1 5 118 = (m : Int)) (m4 : m < 4) (ha : 0 ≤ a ∧ a ≤ 6) (hd : 0 ≤ d ∧ d ≤ 4) (r : σ'.2 = σ.2) (w7 : ∀ i k : Nat, ¬ (i = 2 ∧ ((1 ≤ k ∧ k ≤ 5) ∨ k = 11 ∨ k = 12)) → ¬ (i = 57 ∧ k = m) → ¬ (i = 58 ∧ k = m) → ¬ (i = 56 ∧ k = 0) → σ'.1 i k = σ.1 i k) (x1 : σ'.1 57 m = a) (x2 : σ'.1 58 m = d) (x3 : σ'.1 56 0 = (m : Int) + 1) (w8 : ∀ i k : Nat, ¬ (i = 0 ∧ ((18 ≤ k ∧ k ≤ 23) ∨ k = 14 ∨ k = 15)) → ¬ (i = 5 ∧ (k = 119 + 2 * m ∨ k = 120 + 2 * m ∨ k = 118)) → τ'.1 i k = τ.1 i k) (y1 : τ'.1 5 (119 + 2 * m) = a) (y2 : τ'.1 5 (120 + 2 * m) = d) (y3 : τ'.1 5 118 = (m : Int) + 1) (gh : σ'.1 2 11 = τ'.1 0 14 ∧ τ.1 0 14 ≤ τ'.1 0 14 ∧ a ≤ τ'.1 0 14 ∧ 0 ≤ τ'.1 0 14 ∧ τ'.1 0 14 ≤ 6) (gd : σ'.1 2 12 = τ'.1 0 15 ∧ τ.1 0 15 ≤ τ'.1 0 15 ∧ d ≤ τ'.1 0 15 ∧ 0 ≤ τ'.1 0 15 ∧ τ'.1 0 15 ≤ 4) : yRD σ' τ' := by
  obtain ⟨⟨q1, q2, q3, q4, q5, q6, q7⟩, T, G, K, z, ⟨s1, s2, s3⟩, ⟨a1, a2, a3, a4⟩, b, g1, g2⟩ := R
  have low : ∀ j : Nat, j < 118 ∨ 127 ≤ j → τ'.1 5 j = τ.1 5 j := fun j hj => w8 5 j (by omega) (by omega)
  have old : ∀ i : Nat, i < m → τ'.1 5 (119 + 2 * i) = τ.1 5 (119 + 2 * i) ∧ τ'.1 5 (120 + 2 * i) = τ.1 5 (120 + 2 * i) := fun i hi => ⟨w8 5 _ (by omega) (by omega), w8 5 _ (by omega) (by omega)⟩
  have G2 := yGe_m (hs' := τ'.1 0 14 + 1) (ds' := τ'.1 0 15 + 1) (by omega) (by omega) G
  have K2 := yGk_m (hs' := τ'.1 0 14 + 1) (ds' := τ'.1 0 15 + 1) (by omega) (by omega) K
  have c77 : 0 ≤ τ.1 5 77 ∧ τ.1 5 77 ≤ 10 := G.2.2.1
  refine ⟨⟨?_, ?_, ?_, ?_, ?_, ?_, fun e he => ?_⟩, ?_, ?_, ?_, ?_, ?_, ⟨?_, ?_, ?_, ?_⟩, fun k hk => ?_, ?_, ?_⟩
  · rw [w7 _ _ (by omega) (by omega) (by omega) (by omega), w8 _ _ (by omega) (by omega)]; exact q1
  · rw [w7 _ _ (by omega) (by omega) (by omega) (by omega), w8 _ _ (by omega) (by omega)]; exact q2
  · rw [w7 _ _ (by omega) (by omega) (by omega) (by omega), w8 _ _ (by omega) (by omega)]; exact q3
  · rw [w8 _ _ (by omega) (by omega)]; exact q4
  · rw [w8 _ _ (by omega) (by omega)]; exact q5
  · rw [w8 _ _ (by omega) (by omega)]; exact q6
  · rw [w8 _ _ (by omega) (by omega)] at he
    rw [w7 _ _ (by omega) (by omega) (by omega) (by omega), w8 _ _ (by omega) (by omega)]; exact q7 e he
  · obtain ⟨t1, t2, ⟨t3, t4⟩, ⟨t5, t6⟩, ⟨d0, d1, d2, d3⟩, t7⟩ := T
    refine ⟨fun i hi => ?_, fun j hj => ?_, ⟨?_, fun i hi => ?_⟩, ⟨?_, fun i hi => ?_⟩, ⟨?_, ?_, ?_, ?_⟩, ?_⟩
    all_goals try dsimp only
    · rw [w7 (38 + 2) _ (by omega) (by omega) (by omega) (by omega), w7 (38 + 3) _ (by omega) (by omega) (by omega) (by omega), w7 38 _ (by omega) (by omega) (by omega) (by omega), w7 (38 + 4) _ (by omega) (by omega) (by omega) (by omega), w7 (38 + 5) _ (by omega) (by omega) (by omega) (by omega), w7 (38 + 6) _ (by omega) (by omega) (by omega) (by omega), low i (by omega), low (7 + i) (by omega), low (14 + i) (by omega), low (21 + i) (by omega), low (28 + i) (by omega), low (35 + i) (by omega)]
      exact t1 i hi
    · rw [w7 _ _ (by omega) (by omega) (by omega) (by omega), low _ (by omega)]; exact t2 j hj
    · rw [r, w7 _ _ (by omega) (by omega) (by omega) (by omega), low _ (by omega)]; exact t3
    · dsimp only at hi
      rw [low _ (by omega)] at hi
      rw [r, w7 _ _ (by omega) (by omega) (by omega) (by omega), w7 _ _ (by omega) (by omega) (by omega) (by omega), w7 _ _ (by omega) (by omega) (by omega) (by omega), w7 _ _ (by omega) (by omega) (by omega) (by omega), low (78 + 4 * i) (by omega), low (79 + 4 * i) (by omega), low (80 + 4 * i) (by omega), low (81 + 4 * i) (by omega)]; exact t4 i hi
    · rw [y3]; exact x3
    · dsimp only at hi
      rw [y3] at hi
      by_cases e : i = m
      · subst e
        rw [y1, y2]; exact ⟨x1, x2⟩
      · rw [(old i (by omega)).1, (old i (by omega)).2, w7 (38 + 19) i (by omega) (by omega) (by omega) (by omega), w7 (38 + 20) i (by omega) (by omega) (by omega) (by omega)]
        exact t6 i (show (i : Int) < τ.1 5 118 by omega)
    · rw [w7 _ _ (by omega) (by omega) (by omega) (by omega), low _ (by omega)]; exact d0
    · rw [w7 _ _ (by omega) (by omega) (by omega) (by omega), low _ (by omega)]; exact d1
    · rw [w7 _ _ (by omega) (by omega) (by omega) (by omega), low _ (by omega)]; exact d2
    · rw [w7 _ _ (by omega) (by omega) (by omega) (by omega), low _ (by omega)]; exact d3
    · rw [r]; exact t7
  · obtain ⟨c0, c1, c2, c3, c4, c5⟩ := G2
    refine ⟨by rw [w7 _ _ (by omega) (by omega) (by omega) (by omega)]; exact c0, fun i hi => ?_, ?_, fun i hi => ?_, ?_, fun i hi => ?_⟩
    all_goals try dsimp only
    · rw [low (7 + i) (by omega), low (14 + i) (by omega), low (21 + i) (by omega), low (28 + i) (by omega), low (35 + i) (by omega)]; exact c1 i hi
    · rw [low _ (by omega)]; exact c2
    · dsimp only at hi
      rw [low _ (by omega)] at hi
      rw [low (78 + 4 * i) (by omega), low (79 + 4 * i) (by omega), low (80 + 4 * i) (by omega), low (81 + 4 * i) (by omega)]; exact c3 i hi
    · rw [y3]; omega
    · dsimp only at hi
      rw [y3] at hi
      by_cases e : i = m
      · subst e
        rw [y1, y2]; omega
      · rw [(old i (by omega)).1, (old i (by omega)).2]
        exact c5 i (show (i : Int) < τ.1 5 118 by omega)
  · exact yGk_cong (fun j hj => low j (by omega)) K2
  · rw [low _ (by omega)]; exact z
  · rw [w7 _ _ (by omega) (by omega) (by omega) (by omega), w8 _ _ (by omega) (by omega)]; exact ⟨s1, s2, s3⟩
  · rw [w7 _ _ (by omega) (by omega) (by omega) (by omega), w8 _ _ (by omega) (by omega)]; exact a1
  · rw [w7 _ _ (by omega) (by omega) (by omega) (by omega), w8 _ _ (by omega) (by omega)]; exact a2
  · rw [w7 _ _ (by omega) (by omega) (by omega) (by omega), w8 _ _ (by omega) (by omega)]; exact a3
  · rw [w7 38 6 (by omega) (by omega) (by omega) (by omega), w7 2 9 (by omega) (by omega) (by omega) (by omega)]; exact a4
  · rw [w8 _ _ (by omega) (by omega)]; exact b k hk
  · exact Or.inr ⟨gh.1, gh.2.2.2.1, gh.2.2.2.2⟩
  · exact Or.inr ⟨gd.1, gd.2.2.2.1, gd.2.2.2.2⟩
theorem x6_app {N : Nat} {σ : yS} {m : Nat} {h d : Int} (hm : σ.1 56 0 = (m : Int)) (m4 : m < 4) : f_X6_append N σ (38 + 18) h d = some (1, yw (yw (yw σ 57 m h) 58 m d) 56 0 ((m : Int) + 1)) := by
  have im : yin (m : Int) 4 = true := by rw [yin_d]; exact decide_eq_true (by omega)
  have e1 : yad (m : Int) 1 = (m : Int) + 1 := yad_e (by omega) (by omega)
  simp only [f_X6_append, f_X6_append_b25, f_X6_append_b32, ycP_lt, show 38 + 18 = 56 from rfl, cond_true, hm, im, Int.toNat_natCast, show 56 + 1 = 57 from rfl, show 56 + 2 = 58 from rfl]
  rw [yw_n (a := 56) (b := 0) (by omega), hm, im, cond_true, Int.toNat_natCast, yw_n (a := 56) (b := 0) (by omega), yw_n (a := 56) (b := 0) (by omega), hm, e1, decide_eq_true (show (m : Int) < 4 by omega), cond_true]
theorem p_lwant {N : Nat} (hN : 400 ≤ N) {σ τ : yS} (HH : yLx σ τ ∧ yTk σ τ) (R : yRD σ τ) (h4 : ¬ τ.1 5 118 = 4) : yLL N σ τ (f_X1_readWant N σ 38) (f_X8_readLine_b156 N τ 7 (τ.1 0 10)) := by
  have s23 := R.2.2.2.2.2.1.2
  have b118 : 0 ≤ τ.1 5 118 ∧ τ.1 5 118 ≤ 4 := R.2.2.1.2.2.2.2.1
  have s56 : σ.1 56 0 = τ.1 5 118 := R.2.1.2.2.2.1.1
  obtain ⟨m, hm⟩ : ∃ m : Nat, τ.1 5 118 = (m : Int) := ⟨(τ.1 5 118).toNat, by omega⟩
  have m4 : m < 4 := by omega
  have sm : σ.1 56 0 = (m : Int) := s56.trans hm
  have e118 : yad 119 (ymu 2 (m : Int)) = ((119 + 2 * m : Nat) : Int) := by rw [ymu_e (by omega) (by omega), yad_e (by omega) (by omega)]; omega
  have e120 : yad ((119 + 2 * m : Nat) : Int) 1 = ((120 + 2 * m : Nat) : Int) := by rw [yad_e (by omega) (by omega)]; omega
  have j1 : yin ((119 + 2 * m : Nat) : Int) 131 = true := by rw [yin_d]; exact decide_eq_true (by omega)
  have j2 : yin ((120 + 2 * m : Nat) : Int) 131 = true := by rw [yin_d]; exact decide_eq_true (by omega)
  have em : yad (m : Int) 1 = (m : Int) + 1 := yad_e (by omega) (by omega)
  have lt4 : σ.1 56 0 < 4 := by omega
  clear b118 s56 h4
  have E0 : yE σ (yw τ 0 10 (τ.1 0 10)) := yE_w8 (Or.inl HH) (by decide)
  obtain ⟨σ1, τ1, g7, g8, E1, k7, k8, mo1, z1, st1, nb1⟩ := p_next (N := N) hN E0
  have u8 := y8_0 k8 rfl
  have c0 : f_X1_readWant N σ 38 = f_X1_readWant_b20 N σ 38 := by
    unfold f_X1_readWant
    rw [show 38 + 18 = 56 from rfl, ycP_lt, decide_eq_true lt4, cond_true]
  by_cases f1 : τ1.1 0 22 = 0
  · have gr := R.2.2.2.2.2.2.2.2.1
    have gd := R.2.2.2.2.2.2.2.2.2
    obtain ⟨a, b, σ2, τ2, h7, h8, E2, ha, hb, s2, v7, v8, mo2, ok2⟩ := p_needHouse (N := N) hN g7 E1 (fun _ => by rw [k7.2 2 11 (by decide), u8 0 14 (by decide)]; exact gr)
    obtain ⟨σ3, τ3, t7, t8, E3, i7, i8, mo3, z3, st3, nb3⟩ := p_next (N := N) hN E2
    have E3w : yE σ3 (yw τ3 5 (119 + 2 * m) b) := yE_w8 E3 (by omega)
    obtain ⟨d, e, σ4, τ4, d7, d8, E4, hd, he, s4, x7, x8, mo4, ok4⟩ := p_needDeed (N := N) hN t7 E3w (fun _ => by
      rw [i7.2 2 12 (by decide), v7 2 12 (by decide), k7.2 2 12 (by decide), yw_n (by omega), i8 0 15 (by decide), v8 0 15 (by decide), u8 0 15 (by decide)]
      exact gd)
    have A7 : ∀ i k : Nat, ¬ (i = 2 ∧ ((1 ≤ k ∧ k ≤ 5) ∨ k = 11 ∨ k = 12)) → σ4.1 i k = σ.1 i k := fun i k q => (((x7 i k (by omega)).trans (i7.2 i k (by omega))).trans (v7 i k (by omega))).trans (k7.2 i k (by omega))
    have s40 : σ4.1 56 0 = (m : Int) := (A7 56 0 (by decide)).trans sm
    have ap := x6_app (N := N) (h := a) (d := d) s40 m4
    have E5 : yE (yw (yw (yw σ4 57 m a) 58 m d) 56 0 ((m : Int) + 1)) τ4 := yE_w7 (yE_w7 (yE_w7 E4 (by omega)) (by omega)) (by decide)
    obtain ⟨σ5, τ5, p7, p8, E6, o7, o8, mo5, z5, st5, nb5⟩ := p_next (N := N) hN E5
    have c7 : f_X1_readWant N σ 38 = some (0, σ5) := by
      rw [c0]
      simp only [f_X1_readWant_b20, h7, d7, ap, p7]
    have t118 : τ1.1 5 118 = (m : Int) := (u8 5 118 (by decide)).trans hm
    have B8 : ∀ i k : Nat, ¬ (i = 0 ∧ ((18 ≤ k ∧ k ≤ 23) ∨ k = 14 ∨ k = 15)) → ¬ (i = 5 ∧ k = 119 + 2 * m) → τ5.1 i k = τ.1 i k := fun i k q1 q2 => by
      rw [o8 i k (by omega), x8 i k (by omega), yw_n (by omega), i8 i k (by omega), v8 i k (by omega), u8 i k (by omega)]
    have r118 : τ5.1 5 118 = (m : Int) := (B8 5 118 (by decide) (by omega)).trans hm
    have r8 : f_X8_readLineOf N τ1 7 = some (0, yw (yw τ5 5 (120 + 2 * m) e) 5 118 ((m : Int) + 1)) := by
      unfold f_X8_readLineOf
      rw [yeq_d, decide_eq_false (by decide), cond_false, yeq_d, decide_eq_false (by decide), cond_false, yeq_d, decide_eq_false (by decide), cond_false, yeq_d, decide_eq_false (by decide), cond_false, yeq_d, decide_eq_true rfl, cond_true]
      simp only [f_X8_readAHouse, h8, t8, t118, e118, j1, cond_true, Int.toNat_natCast, f_X8_readADeed, d8, p8, e120, j2, f_X8_readLineOf_b208, f_X8_readLineOf_b220]
      rw [show yin 118 131 = true from by decide +kernel, cond_true, cond_true, show (118 : Int).toNat = 118 from rfl, yw_n (a := 5) (b := 118) (by omega), r118, em]
    have V7 : ∀ i k : Nat, ¬ (i = 2 ∧ ((1 ≤ k ∧ k ≤ 5) ∨ k = 11 ∨ k = 12)) → ¬ (i = 57 ∧ k = m) → ¬ (i = 58 ∧ k = m) → ¬ (i = 56 ∧ k = 0) → σ5.1 i k = σ.1 i k := fun i k q1 q2 q3 q4 => by
      rw [o7.2 i k (by omega), yw_n (by omega), yw_n (by omega), yw_n (by omega)]
      exact A7 i k q1
    have V8 : ∀ i k : Nat, ¬ (i = 0 ∧ ((18 ≤ k ∧ k ≤ 23) ∨ k = 14 ∨ k = 15)) → ¬ (i = 5 ∧ (k = 119 + 2 * m ∨ k = 120 + 2 * m ∨ k = 118)) → (yw (yw τ5 5 (120 + 2 * m) e) 5 118 ((m : Int) + 1)).1 i k = τ.1 i k := fun i k q1 q2 => by
      rw [yw_n (by omega), yw_n (by omega)]
      exact B8 i k q1 (by omega)
    have rr : σ5.2 = σ.2 := o7.1.trans (s4.trans (i7.1.trans (s2.trans k7.1)))
    have x3 : σ5.1 56 0 = (m : Int) + 1 := (o7.2 56 0 (by decide)).trans yw_p
    have l6 : σ5.1 2 6 = σ.1 2 6 := V7 2 6 (by decide) (by omega) (by omega) (by decide)
    have Z7 : yZ7 σ σ5 := ⟨rr, fun i k h1 h2 => V7 i k (fun q => h1 q.1) (fun q => h2 (by omega)) (fun q => h2 (by omega)) (fun q => h2 (by omega))⟩
    have n3 : (yw (yw (yw σ4 57 m a) 58 m d) 56 0 ((m : Int) + 1)).1 2 1 = σ4.1 2 1 := by rw [yw_n (by decide), yw_n (by omega), yw_n (by omega)]
    have n4 : (yw (yw (yw σ4 57 m a) 58 m d) 56 0 ((m : Int) + 1)).1 2 4 = σ4.1 2 4 := by rw [yw_n (by decide), yw_n (by omega), yw_n (by omega)]
    refine ⟨0, σ5, yw (yw τ5 5 (120 + 2 * m) e) 5 118 ((m : Int) + 1), c7, (x8_b156 s23 g8).2 f1 _ r8, yE_w8 (yE_w8 E6 (by omega)) (by decide), Z7, fun i k h1 h2 h3 h4 => V8 i k (by omega) (fun q => h1 q.1), l6, fun z => ⟨?_, ?_, fun q => ?_⟩, fun z => ?_⟩
    · have z4 : σ4.1 2 4 = 0 := n4.symm.trans (z5 z)
      obtain ⟨y1, y2, y3⟩ := ok4 z4
      have z2 : σ2.1 2 4 = 0 := z3 y2
      obtain ⟨y4, y5, y6⟩ := ok2 z2
      have p14 : τ1.1 0 14 = τ.1 0 14 := u8 0 14 (by decide)
      have p15 : (yw τ3 5 (119 + 2 * m) b).1 0 15 = τ.1 0 15 := by rw [yw_n (by omega), i8 0 15 (by decide), v8 0 15 (by decide), u8 0 15 (by decide)]
      have f14 : (yw (yw τ5 5 (120 + 2 * m) e) 5 118 ((m : Int) + 1)).1 0 14 = τ2.1 0 14 := by rw [yw_n (by decide), yw_n (by omega), o8 0 14 (by decide), x8 0 14 (by decide), yw_n (by omega), i8 0 14 (by decide)]
      have f15 : (yw (yw τ5 5 (120 + 2 * m) e) 5 118 ((m : Int) + 1)).1 0 15 = τ4.1 0 15 := by rw [yw_n (by decide), yw_n (by omega), o8 0 15 (by decide)]
      have f11 : σ5.1 2 11 = σ2.1 2 11 := by rw [o7.2 2 11 (by decide), yw_n (by decide), yw_n (by omega), yw_n (by omega), x7 2 11 (by decide), i7.2 2 11 (by decide)]
      have f12 : σ5.1 2 12 = σ4.1 2 12 := by rw [o7.2 2 12 (by decide), yw_n (by decide), yw_n (by omega), yw_n (by omega)]
      refine yRD_want R hm m4 ha hd rr V7 ?_ ?_ x3 V8 ?_ ?_ yw_p ?_ ?_
      · rw [o7.2 57 m (by omega), yw_n (by omega), yw_n (by omega), yw_p]
      · rw [o7.2 58 m (by omega), yw_n (by omega), yw_p]
      · rw [yw_n (by omega), yw_n (by omega), o8 5 _ (by omega), x8 5 _ (by omega), yw_p]; exact y4.symm
      · rw [yw_n (by omega), yw_p]; exact y1.symm
      · rw [f14, f11, ← p14]; exact y6
      · rw [f15, f12, ← p15]; exact y3
    · exact yle4 (Int.le_trans mo1 (by rw [← mo2]; exact mo3)) mo4 mo5 n3
    · exact ylt4 (Int.le_trans mo1 (by rw [← mo2]; exact mo3)) mo4 (st5 z (by rw [q]; decide)) n3
    · obtain ⟨y1, y2, y3, y4⟩ := yRD_Q R
      have y1' := y1
      unfold yTr at y1'
      refine ⟨by unfold yTr; rw [rr]; exact y1, by rw [V7 38 2 (by decide) (by omega) (by omega) (by decide)]; exact y2, ?_, by rw [x3]; omega⟩
      rw [rr, V7 _ 0 (by omega) (by omega) (by omega) (by omega)]; exact y3
  · have fe := yE_f E1
    have B1 : yB7 σ1 := yB7_e E1 (by omega)
    have Q1 : yQ7 σ1 := yQ7_f (yRD_Q R) k7.1 ⟨k7.2 _ _ (by decide), k7.2 _ _ (by decide), k7.2 _ _ (by decide), k7.2 _ _ (by decide)⟩
    have F := x1_bwant hN B1 Q1
    have eq : f_X1_readWant N σ 38 = f_X1_readWant_b20 N σ1 38 := by
      rw [c0]
      simp only [f_X1_readWant_b20, x1_hsame g7 B1]
    rw [eq]
    exact p_lfirst s23 g8 E1 f1 F (yZ7_k k7) k8 (k7.2 _ _ (by decide))
end
section
theorem yRD_vow {σ τ σ' τ' : yS} {m v : Nat} {a k p d : Int} (R : yRD σ τ) (hv : σ.2 38 11 = v) (hm : τ.1 5 77 = (m : Int)) (m10 : m < 10) (ha : 0 ≤ a ∧ a ≤ 6) (hk : 0 ≤ k ∧ k ≤ 4) (hp : 0 ≤ p ∧ p ≤ 9) (hd : 0 ≤ d ∧ d ≤ 4) (r : σ'.2 = σ.2) (w7 : ∀ i n : Nat, ¬ (i = 2 ∧ ((1 ≤ n ∧ n ≤ 5) ∨ n = 11 ∨ n = 12)) → ¬ (v + 1 ≤ i ∧ i ≤ v + 4 ∧ n = m) → ¬ (i = v ∧ n = 0) → σ'.1 i n = σ.1 i n) (x1 : σ'.1 (v + 1) m = a) (x2 : σ'.1 (v + 2) m = k) (x3 : σ'.1 (v + 3) m = p) (x4 : σ'.1 (v + 4) m = d) (x5 : σ'.1 v 0 = (m : Int) + 1) (w8 : ∀ i n : Nat, ¬ (i = 0 ∧ ((18 ≤ n ∧ n ≤ 23) ∨ n = 14 ∨ n = 15)) → ¬ (i = 5 ∧ ((78 + 4 * m ≤ n ∧ n ≤ 81 + 4 * m) ∨ n = 77)) → τ'.1 i n = τ.1 i n) (y1 : τ'.1 5 (78 + 4 * m) = a) (y2 : τ'.1 5 (79 + 4 * m) = k) (y3 : τ'.1 5 (80 + 4 * m) = p) (y4 : τ'.1 5 (81 + 4 * m) = d) (y5 : τ'.1 5 77 = (m : Int) + 1) (gh : σ'.1 2 11 = τ'.1 0 14 ∧ τ.1 0 14 ≤ τ'.1 0 14 ∧ a ≤ τ'.1 0 14 ∧ 0 ≤ τ'.1 0 14 ∧ τ'.1 0 14 ≤ 6) (gd : σ'.1 2 12 = τ'.1 0 15 ∧ τ.1 0 15 ≤ τ'.1 0 15 ∧ d ≤ τ'.1 0 15 ∧ 0 ≤ τ'.1 0 15 ∧ τ'.1 0 15 ≤ 4) : yRD σ' τ' := by
  obtain ⟨⟨q1, q2, q3, q4, q5, q6, q7⟩, T, G, K, z, ⟨s1, s2, s3⟩, ⟨a1, a2, a3, a4⟩, b, g1, g2⟩ := R
  have hv2 : v = 46 ∨ v = 51 := by
    have := T.2.2.2.2.2
    omega
  have low : ∀ j : Nat, j < 77 ∨ 118 ≤ j → τ'.1 5 j = τ.1 5 j := fun j hj => w8 5 j (by omega) (by omega)
  have old : ∀ i : Nat, i < m → τ'.1 5 (78 + 4 * i) = τ.1 5 (78 + 4 * i) ∧ τ'.1 5 (79 + 4 * i) = τ.1 5 (79 + 4 * i) ∧ τ'.1 5 (80 + 4 * i) = τ.1 5 (80 + 4 * i) ∧ τ'.1 5 (81 + 4 * i) = τ.1 5 (81 + 4 * i) := fun i hi => ⟨w8 5 _ (by omega) (by omega), w8 5 _ (by omega) (by omega), w8 5 _ (by omega) (by omega), w8 5 _ (by omega) (by omega)⟩
  have G2 := yGe_m (hs' := τ'.1 0 14 + 1) (ds' := τ'.1 0 15 + 1) (by omega) (by omega) G
  have K2 := yGk_m (hs' := τ'.1 0 14 + 1) (ds' := τ'.1 0 15 + 1) (by omega) (by omega) K
  have c118 : 0 ≤ τ.1 5 118 ∧ τ.1 5 118 ≤ 4 := G.2.2.2.2.1
  refine ⟨⟨?_, ?_, ?_, ?_, ?_, ?_, fun e he => ?_⟩, ?_, ?_, ?_, ?_, ?_, ⟨?_, ?_, ?_, ?_⟩, fun n hn => ?_, ?_, ?_⟩
  · rw [w7 _ _ (by omega) (by omega) (by omega), w8 _ _ (by omega) (by omega)]; exact q1
  · rw [w7 _ _ (by omega) (by omega) (by omega), w8 _ _ (by omega) (by omega)]; exact q2
  · rw [w7 _ _ (by omega) (by omega) (by omega), w8 _ _ (by omega) (by omega)]; exact q3
  · rw [w8 _ _ (by omega) (by omega)]; exact q4
  · rw [w8 _ _ (by omega) (by omega)]; exact q5
  · rw [w8 _ _ (by omega) (by omega)]; exact q6
  · rw [w8 _ _ (by omega) (by omega)] at he
    rw [w7 _ _ (by omega) (by omega) (by omega), w8 _ _ (by omega) (by omega)]; exact q7 e he
  · obtain ⟨t1, t2, ⟨t3, t4⟩, ⟨t5, t6⟩, ⟨d0, d1, d2, d3⟩, t7⟩ := T
    rw [hv] at t3
    refine ⟨fun i hi => ?_, fun j hj => ?_, ⟨?_, fun i hi => ?_⟩, ⟨?_, fun i hi => ?_⟩, ⟨?_, ?_, ?_, ?_⟩, ?_⟩
    all_goals try dsimp only
    · rw [w7 (38 + 2) _ (by omega) (by omega) (by omega), w7 (38 + 3) _ (by omega) (by omega) (by omega), w7 38 _ (by omega) (by omega) (by omega), w7 (38 + 4) _ (by omega) (by omega) (by omega), w7 (38 + 5) _ (by omega) (by omega) (by omega), w7 (38 + 6) _ (by omega) (by omega) (by omega), low i (by omega), low (7 + i) (by omega), low (14 + i) (by omega), low (21 + i) (by omega), low (28 + i) (by omega), low (35 + i) (by omega)]
      exact t1 i hi
    · rw [w7 _ _ (by omega) (by omega) (by omega), low _ (by omega)]; exact t2 j hj
    · rw [r, hv, y5]; exact x5
    · dsimp only at hi
      rw [y5] at hi
      rw [r, hv]
      by_cases e : i = m
      · subst e
        rw [y1, y2, y3, y4]; exact ⟨x1, x2, x3, x4⟩
      · have q := t4 i (show (i : Int) < τ.1 5 77 by omega)
        rw [hv] at q
        obtain ⟨o1, o2, o3, o4⟩ := old i (by omega)
        rw [o1, o2, o3, o4, w7 (v + 1) i (by omega) (by omega) (by omega), w7 (v + 2) i (by omega) (by omega) (by omega), w7 (v + 3) i (by omega) (by omega) (by omega), w7 (v + 4) i (by omega) (by omega) (by omega)]
        exact q
    · rw [w7 _ _ (by omega) (by omega) (by omega), low _ (by omega)]; exact t5
    · dsimp only at hi
      rw [low _ (by omega)] at hi
      rw [w7 _ _ (by omega) (by omega) (by omega), w7 _ _ (by omega) (by omega) (by omega), low _ (by omega), low _ (by omega)]; exact t6 i hi
    · rw [w7 _ _ (by omega) (by omega) (by omega), low _ (by omega)]; exact d0
    · rw [w7 _ _ (by omega) (by omega) (by omega), low _ (by omega)]; exact d1
    · rw [w7 _ _ (by omega) (by omega) (by omega), low _ (by omega)]; exact d2
    · rw [w7 _ _ (by omega) (by omega) (by omega), low _ (by omega)]; exact d3
    · rw [r]; exact t7
  · obtain ⟨c0, c1, c2, c3, c4, c5⟩ := G2
    refine ⟨by rw [w7 _ _ (by omega) (by omega) (by omega)]; exact c0, fun i hi => ?_, ?_, fun i hi => ?_, ?_, fun i hi => ?_⟩
    all_goals try dsimp only
    · rw [low (7 + i) (by omega), low (14 + i) (by omega), low (21 + i) (by omega), low (28 + i) (by omega), low (35 + i) (by omega)]; exact c1 i hi
    · rw [y5]; omega
    · dsimp only at hi
      rw [y5] at hi
      by_cases e : i = m
      · subst e
        rw [y1, y2, y3, y4]; omega
      · obtain ⟨o1, o2, o3, o4⟩ := old i (by omega)
        rw [o1, o2, o3, o4]
        exact c3 i (show (i : Int) < τ.1 5 77 by omega)
    · rw [low _ (by omega)]; exact c4
    · dsimp only at hi
      rw [low _ (by omega)] at hi
      rw [low _ (by omega), low _ (by omega)]; exact c5 i hi
  · exact yGk_cong (fun j hj => low j (by omega)) K2
  · rw [low _ (by omega)]; exact z
  · rw [w7 _ _ (by omega) (by omega) (by omega), w8 _ _ (by omega) (by omega)]; exact ⟨s1, s2, s3⟩
  · rw [w7 _ _ (by omega) (by omega) (by omega), w8 _ _ (by omega) (by omega)]; exact a1
  · rw [w7 _ _ (by omega) (by omega) (by omega), w8 _ _ (by omega) (by omega)]; exact a2
  · rw [w7 _ _ (by omega) (by omega) (by omega), w8 _ _ (by omega) (by omega)]; exact a3
  · rw [w7 38 6 (by omega) (by omega) (by omega), w7 2 9 (by omega) (by omega) (by omega)]; exact a4
  · rw [w8 _ _ (by omega) (by omega)]; exact b n hn
  · exact Or.inr ⟨gh.1, gh.2.2.2.1, gh.2.2.2.2⟩
  · exact Or.inr ⟨gd.1, gd.2.2.2.1, gd.2.2.2.2⟩
theorem x5_app {N : Nat} {σ : yS} {m v : Nat} {h k p d : Int} (hm : σ.1 v 0 = (m : Int)) (m10 : m < 10) : f_X5_append N σ v h k p d = some (1, yw (yw (yw (yw (yw σ (v + 1) m h) (v + 2) m k) (v + 3) m p) (v + 4) m d) v 0 ((m : Int) + 1)) := by
  have im : yin (m : Int) 10 = true := by rw [yin_d]; exact decide_eq_true (by omega)
  have e1 : yad (m : Int) 1 = (m : Int) + 1 := yad_e (by omega) (by omega)
  simp only [f_X5_append, f_X5_append_b26, f_X5_append_b36, f_X5_append_b46, f_X5_append_b54, ycP_lt, cond_true, hm, im, Int.toNat_natCast]
  rw [yw_n (a := v) (b := 0) (by omega), hm, im, cond_true, Int.toNat_natCast, yw_n (a := v) (b := 0) (by omega), yw_n (a := v) (b := 0) (by omega), hm, im, cond_true, Int.toNat_natCast, yw_n (a := v) (b := 0) (by omega), yw_n (a := v) (b := 0) (by omega), yw_n (a := v) (b := 0) (by omega), hm, im, cond_true, Int.toNat_natCast, yw_n (a := v) (b := 0) (by omega), yw_n (a := v) (b := 0) (by omega), yw_n (a := v) (b := 0) (by omega), yw_n (a := v) (b := 0) (by omega), hm, e1, decide_eq_true (show (m : Int) < 10 by omega), cond_true]
/-- how deep: a fault for what is no depth -/
theorem p_depth {N : Nat} {σ τ0 τ : yS} {p b : Int} (hp0 : 0 ≤ p) (g : f_X8_looked N τ0 0 9 = some (b, τ)) (E : yE σ τ) (ok : σ.1 2 4 = 0 → p = b) : ∃ (σ' τ' : yS), (∀ K : yS → Option (Int × yS), (match f_X7_isDepth N σ p with
      | none => none
      | some r4 => bif ycP .ne r4.1 0 then K r4.2 else match f_X1_complain N r4.2 3 (r4.2.1 2 3) with
        | none => none
        | some r8 => K r8.2) = K σ') ∧ f_X8_readDeep N τ0 = (match f_X8_next N τ' with
      | none => none
      | some r2 => some (b, r2.2)) ∧ yE σ' τ' ∧ yK7 σ σ' ∧ yK8 τ τ' ∧ σ'.1 2 1 = σ.1 2 1 ∧ (σ'.1 2 4 = 0 → σ' = σ ∧ τ' = τ) := by
  by_cases f0 : σ.1 2 4 = 0
  · have HH := yE_ok E f0
    have e := ok f0
    subst e
    have fe := yE_f E
    have f22 : τ.1 0 22 = 0 := by omega
    by_cases hd : (0 ≤ p ∧ p ≤ 3) ∨ p = 9
    · refine ⟨σ, τ, fun K => ?_, ?_, E, yK7_r, yK8_r, rfl, fun _ => ⟨rfl, rfl⟩⟩
      · rw [x7_isDepth, if_pos hd]
        show (bif ycP .ne 1 0 then K σ else _) = _
        rw [ybo2]
      · unfold f_X8_readDeep
        rw [g]
        show (bif ycP .ne (τ.1 0 22) 0 then f_X8_readDeep_b36 N τ p else bif ycP .le p 3 then f_X8_readDeep_b27 N τ p else bif ycP .ne p 9 then f_X8_readDeep_b32 N τ p 0 else f_X8_readDeep_b27 N τ p) = _
        have f27 : f_X8_readDeep_b27 N τ p = (match f_X8_next N τ with
          | none => none
          | some r2 => some (p, r2.2)) := by
          unfold f_X8_readDeep_b27 f_X8_readDeep_b32
          rw [x8_ngood]
          rfl
        rw [f22, ybz2]
        by_cases h3 : p ≤ 3
        · rw [ycP_le, decide_eq_true h3, cond_true]
          exact f27
        · rw [ycP_le, decide_eq_false h3, cond_false, ycP_ne, decide_eq_false (show ¬ ¬ p = 9 by omega), cond_false]
          exact f27
    · obtain ⟨p1, p2, p3⟩ := p_fail (N := N) HH (show (0 : Int) < 3 by decide)
      by_cases h3 : p ≤ 3
      · refine ⟨_, _, fun K => ?_, ?_, p3, yK7_w (yK7_w yK7_r (by decide)) (by decide), yK8_w (yK8_w yK8_r (by decide)) (by decide), ?_, fun z => ?_⟩
        · rw [x7_isDepth, if_neg hd]
          show (bif ycP .ne 0 0 then _ else match f_X1_complain N σ 3 (σ.1 2 3) with
            | none => none
            | some r8 => K r8.2) = _
          rw [ybz2, p1]
        · exfalso
          omega
        · rw [yw_n (by decide), yw_n (by decide)]
        · rw [yw_n (by decide), yw_p] at z
          exact absurd z (by decide)
      · refine ⟨_, _, fun K => ?_, ?_, p3, yK7_w (yK7_w yK7_r (by decide)) (by decide), yK8_w (yK8_w yK8_r (by decide)) (by decide), ?_, fun z => ?_⟩
        · rw [x7_isDepth, if_neg hd]
          show (bif ycP .ne 0 0 then _ else match f_X1_complain N σ 3 (σ.1 2 3) with
            | none => none
            | some r8 => K r8.2) = _
          rw [ybz2, p1]
        · unfold f_X8_readDeep
          rw [g]
          show (bif ycP .ne (τ.1 0 22) 0 then f_X8_readDeep_b36 N τ p else bif ycP .le p 3 then f_X8_readDeep_b27 N τ p else bif ycP .ne p 9 then f_X8_readDeep_b32 N τ p 0 else f_X8_readDeep_b27 N τ p) = _
          rw [f22, ybz2, ycP_le, decide_eq_false h3, cond_false, ycP_ne, decide_eq_true (show ¬ p = 9 by omega), cond_true]
          unfold f_X8_readDeep_b32
          rw [p2]
          rfl
        · rw [yw_n (by decide), yw_n (by decide)]
        · rw [yw_n (by decide), yw_p] at z
          exact absurd z (by decide)
  · have fe := yE_f E
    have f22 : ¬ τ.1 0 22 = 0 := by omega
    refine ⟨σ, τ, fun K => ?_, ?_, E, yK7_r, yK8_r, rfl, fun z => absurd z f0⟩
    · rw [x7_isDepth]
      by_cases hd : (0 ≤ p ∧ p ≤ 3) ∨ p = 9
      · rw [if_pos hd]
        show (bif ycP .ne 1 0 then K σ else _) = _
        rw [ybo2]
      · rw [if_neg hd]
        show (bif ycP .ne 0 0 then _ else match f_X1_complain N σ 3 (σ.1 2 3) with
            | none => none
            | some r8 => K r8.2) = _
        rw [ybz2, x1_cbad f0]
    · unfold f_X8_readDeep
      rw [g]
      show (bif ycP .ne (τ.1 0 22) 0 then f_X8_readDeep_b36 N τ b else _) = _
      rw [ycP_ne, decide_eq_true f22, cond_true]
      rfl
end
section
theorem yle_t {a b c d : Int} (h1 : a ≤ b) (h2 : c = b) (h3 : c ≤ d) : a ≤ d := by omega
theorem yE_5 {σ τ : yS} {v m : Nat} {a k p d x : Int} (hv : v = 46 ∨ v = 51) (E : yE σ τ) : yE (yw (yw (yw (yw (yw σ (v + 1) m a) (v + 2) m k) (v + 3) m p) (v + 4) m d) v 0 x) τ := yE_w7 (yE_w7 (yE_w7 (yE_w7 (yE_w7 E (by omega)) (by omega)) (by omega)) (by omega)) (by omega)
theorem yv7 {σ σ2 σ8 σ9 σa : yS} {v m : Nat} {a k p d x : Int} (hv : v = 46 ∨ v = 51) (r2 : σ2.2 = σ.2) (k2 : ∀ i n : Nat, ¬ (i = 2 ∧ (1 ≤ n ∧ n ≤ 5 ∨ n = 11)) → σ2.1 i n = σ.1 i n) (k8 : yK7 σ2 σ8) (r9 : σ9.2 = σ8.2) (k9 : ∀ i n : Nat, ¬ (i = 2 ∧ (1 ≤ n ∧ n ≤ 5 ∨ n = 12)) → σ9.1 i n = σ8.1 i n) (ka : yK7 (yw (yw (yw (yw (yw σ9 (v + 1) m a) (v + 2) m k) (v + 3) m p) (v + 4) m d) v 0 x) σa) : σa.2 = σ.2 ∧ (∀ i n : Nat, ¬ (i = 2 ∧ ((1 ≤ n ∧ n ≤ 5) ∨ n = 11 ∨ n = 12)) → ¬ (v + 1 ≤ i ∧ i ≤ v + 4 ∧ n = m) → ¬ (i = v ∧ n = 0) → σa.1 i n = σ.1 i n) ∧ (σa.1 (v + 1) m = a ∧ σa.1 (v + 2) m = k ∧ σa.1 (v + 3) m = p ∧ σa.1 (v + 4) m = d ∧ σa.1 v 0 = x) ∧ σa.1 2 11 = σ2.1 2 11 ∧ σa.1 2 12 = σ9.1 2 12 ∧ (yw (yw (yw (yw (yw σ9 (v + 1) m a) (v + 2) m k) (v + 3) m p) (v + 4) m d) v 0 x).1 2 1 = σ9.1 2 1 ∧ (yw (yw (yw (yw (yw σ9 (v + 1) m a) (v + 2) m k) (v + 3) m p) (v + 4) m d) v 0 x).1 2 4 = σ9.1 2 4 := by
  have s2 : ∀ n : Nat, (yw (yw (yw (yw (yw σ9 (v + 1) m a) (v + 2) m k) (v + 3) m p) (v + 4) m d) v 0 x).1 2 n = σ9.1 2 n := fun n => by rw [yw_n (by omega), yw_n (by omega), yw_n (by omega), yw_n (by omega), yw_n (by omega)]
  refine ⟨ka.1.trans (r9.trans (k8.1.trans r2)), fun i n h1 h2 h3 => ?_, ⟨?_, ?_, ?_, ?_, ?_⟩, ?_, ?_, s2 1, s2 4⟩
  · rw [ka.2 i n (by omega), yw_n (by omega), yw_n (by omega), yw_n (by omega), yw_n (by omega), yw_n (by omega), k9 i n (by omega), k8.2 i n (by omega), k2 i n (by omega)]
  · rw [ka.2 _ _ (by omega), yw_n (by omega), yw_n (by omega), yw_n (by omega), yw_n (by omega), yw_p]
  · rw [ka.2 _ _ (by omega), yw_n (by omega), yw_n (by omega), yw_n (by omega), yw_p]
  · rw [ka.2 _ _ (by omega), yw_n (by omega), yw_n (by omega), yw_p]
  · rw [ka.2 _ _ (by omega), yw_n (by omega), yw_p]
  · rw [ka.2 _ _ (by omega), yw_p]
  · rw [ka.2 _ _ (by omega), s2, k9 _ _ (by omega), k8.2 _ _ (by omega)]
  · rw [ka.2 _ _ (by omega), s2]
theorem yv8 {τ τ2 τ3 τ5 τ8 τ9 τa : yS} {m : Nat} {b kb pb e x : Int} (m10 : m < 10) (k2 : ∀ i n : Nat, ¬ (i = 0 ∧ (18 ≤ n ∧ n ≤ 23 ∨ n = 14)) → τ2.1 i n = τ.1 i n) (k3 : yK8 τ2 τ3) (k5 : yK8 (yw τ3 5 (78 + 4 * m) b) τ5) (k8 : yK8 (yw τ5 5 (79 + 4 * m) kb) τ8) (k9 : ∀ i n : Nat, ¬ (i = 0 ∧ (18 ≤ n ∧ n ≤ 23 ∨ n = 15)) → τ9.1 i n = (yw τ8 5 (80 + 4 * m) pb).1 i n) (ka : yK8 τ9 τa) : (∀ i n : Nat, ¬ (i = 0 ∧ ((18 ≤ n ∧ n ≤ 23) ∨ n = 14 ∨ n = 15)) → ¬ (i = 5 ∧ ((78 + 4 * m ≤ n ∧ n ≤ 81 + 4 * m) ∨ n = 77)) → (yw (yw τa 5 (81 + 4 * m) e) 5 77 x).1 i n = τ.1 i n) ∧ ((yw (yw τa 5 (81 + 4 * m) e) 5 77 x).1 5 (78 + 4 * m) = b ∧ (yw (yw τa 5 (81 + 4 * m) e) 5 77 x).1 5 (79 + 4 * m) = kb ∧ (yw (yw τa 5 (81 + 4 * m) e) 5 77 x).1 5 (80 + 4 * m) = pb ∧ (yw (yw τa 5 (81 + 4 * m) e) 5 77 x).1 5 (81 + 4 * m) = e) ∧ (yw (yw τa 5 (81 + 4 * m) e) 5 77 x).1 0 14 = τ2.1 0 14 ∧ (yw (yw τa 5 (81 + 4 * m) e) 5 77 x).1 0 15 = τ9.1 0 15 ∧ (yw τa 5 (81 + 4 * m) e).1 5 77 = τ.1 5 77 := by
  refine ⟨fun i n h1 h2 => ?_, ⟨?_, ?_, ?_, ?_⟩, ?_, ?_, ?_⟩
  · rw [yw_n (by omega), yw_n (by omega), ka i n (by omega), k9 i n (by omega), yw_n (by omega), k8 i n (by omega), yw_n (by omega), k5 i n (by omega), yw_n (by omega), k3 i n (by omega), k2 i n (by omega)]
  · rw [yw_n (by omega), yw_n (by omega), ka _ _ (by omega), k9 _ _ (by omega), yw_n (by omega), k8 _ _ (by omega), yw_n (by omega), k5 _ _ (by omega), yw_p]
  · rw [yw_n (by omega), yw_n (by omega), ka _ _ (by omega), k9 _ _ (by omega), yw_n (by omega), k8 _ _ (by omega), yw_p]
  · rw [yw_n (by omega), yw_n (by omega), ka _ _ (by omega), k9 _ _ (by omega), yw_p]
  · rw [yw_n (by omega), yw_p]
  · rw [yw_n (by omega), yw_n (by omega), ka _ _ (by omega), k9 _ _ (by omega), yw_n (by omega), k8 _ _ (by omega), yw_n (by omega), k5 _ _ (by omega), yw_n (by omega), k3 _ _ (by omega)]
  · rw [yw_n (by omega), yw_n (by omega), ka _ _ (by omega)]
  · rw [yw_n (by omega), ka _ _ (by omega), k9 _ _ (by omega), yw_n (by omega), k8 _ _ (by omega), yw_n (by omega), k5 _ _ (by omega), yw_n (by omega), k3 _ _ (by omega), k2 _ _ (by omega)]
/-- a vow's line behind its first word -/
theorem p_vow2 {N : Nat} (hN : 400 ≤ N) {σ0 σ τ : yS} {v m : Nat} (hv : v = 46 ∨ v = 51) (m10 : m < 10) (hr : f_X1_readToken N σ0 = some (0, σ)) (E : yE σ τ) (G1 : yGr (σ.1 2 11) (τ.1 0 14) 6) (G2 : yGr (σ.1 2 12) (τ.1 0 15) 4) : ∃ (a k p d b kb pb e : Int) (σ2 σ4 σ6 σ7 σ9 σa τ3 τ5 τ8 τa : yS), f_X1_needHouse N σ0 = some (a, σ2) ∧ f_X1_needKind N σ2 = some (k, σ4) ∧ f_X1_needNumber N σ4 0 9 = some (p, σ6) ∧ (∀ K : yS → Option (Int × yS), (match f_X7_isDepth N σ6 p with
      | none => none
      | some r4 => bif ycP .ne r4.1 0 then K r4.2 else match f_X1_complain N r4.2 3 (r4.2.1 2 3) with
        | none => none
        | some r8 => K r8.2) = K σ7) ∧ f_X1_needDeed N σ7 = some (d, σ9) ∧ f_X1_readToken N (yw (yw (yw (yw (yw σ9 (v + 1) m a) (v + 2) m k) (v + 3) m p) (v + 4) m d) v 0 ((m : Int) + 1)) = some (0, σa) ∧ f_X8_readAHouse N τ = some (b, τ3) ∧ f_X8_readKind N (yw τ3 5 (78 + 4 * m) b) = some (kb, τ5) ∧ f_X8_readDeep N (yw τ5 5 (79 + 4 * m) kb) = some (pb, τ8) ∧ f_X8_readADeed N (yw τ8 5 (80 + 4 * m) pb) = some (e, τa) ∧ yE σa τa ∧ σa.2 = σ.2 ∧ σ7.2 = σ.2 ∧ σ9.1 v 0 = σ.1 v 0 ∧ (∀ i n : Nat, ¬ (i = 2 ∧ ((1 ≤ n ∧ n ≤ 5) ∨ n = 11 ∨ n = 12)) → ¬ (v + 1 ≤ i ∧ i ≤ v + 4 ∧ n = m) → ¬ (i = v ∧ n = 0) → σa.1 i n = σ.1 i n) ∧ (σa.1 (v + 1) m = a ∧ σa.1 (v + 2) m = k ∧ σa.1 (v + 3) m = p ∧ σa.1 (v + 4) m = d ∧ σa.1 v 0 = (m : Int) + 1) ∧ (∀ i n : Nat, ¬ (i = 0 ∧ ((18 ≤ n ∧ n ≤ 23) ∨ n = 14 ∨ n = 15)) → ¬ (i = 5 ∧ ((78 + 4 * m ≤ n ∧ n ≤ 81 + 4 * m) ∨ n = 77)) → (yw (yw τa 5 (81 + 4 * m) e) 5 77 ((m : Int) + 1)).1 i n = τ.1 i n) ∧ ((yw (yw τa 5 (81 + 4 * m) e) 5 77 ((m : Int) + 1)).1 5 (78 + 4 * m) = b ∧ (yw (yw τa 5 (81 + 4 * m) e) 5 77 ((m : Int) + 1)).1 5 (79 + 4 * m) = kb ∧ (yw (yw τa 5 (81 + 4 * m) e) 5 77 ((m : Int) + 1)).1 5 (80 + 4 * m) = pb ∧ (yw (yw τa 5 (81 + 4 * m) e) 5 77 ((m : Int) + 1)).1 5 (81 + 4 * m) = e) ∧ (yw τa 5 (81 + 4 * m) e).1 5 77 = τ.1 5 77 ∧ ((0 ≤ a ∧ a ≤ 6) ∧ (0 ≤ k ∧ k ≤ 4) ∧ (0 ≤ p ∧ p ≤ 9) ∧ (0 ≤ d ∧ d ≤ 4)) ∧ σ.1 2 1 ≤ σa.1 2 1 ∧ (σa.1 2 4 = 0 → ¬ σa.1 2 2 = 0 → σ.1 2 1 < σa.1 2 1) ∧ (σa.1 2 4 = 0 → (a = b ∧ k = kb ∧ p = pb ∧ d = e) ∧ (σa.1 2 11 = (yw (yw τa 5 (81 + 4 * m) e) 5 77 ((m : Int) + 1)).1 0 14 ∧ τ.1 0 14 ≤ (yw (yw τa 5 (81 + 4 * m) e) 5 77 ((m : Int) + 1)).1 0 14 ∧ a ≤ (yw (yw τa 5 (81 + 4 * m) e) 5 77 ((m : Int) + 1)).1 0 14 ∧ 0 ≤ (yw (yw τa 5 (81 + 4 * m) e) 5 77 ((m : Int) + 1)).1 0 14 ∧ (yw (yw τa 5 (81 + 4 * m) e) 5 77 ((m : Int) + 1)).1 0 14 ≤ 6) ∧ (σa.1 2 12 = (yw (yw τa 5 (81 + 4 * m) e) 5 77 ((m : Int) + 1)).1 0 15 ∧ τ.1 0 15 ≤ (yw (yw τa 5 (81 + 4 * m) e) 5 77 ((m : Int) + 1)).1 0 15 ∧ d ≤ (yw (yw τa 5 (81 + 4 * m) e) 5 77 ((m : Int) + 1)).1 0 15 ∧ 0 ≤ (yw (yw τa 5 (81 + 4 * m) e) 5 77 ((m : Int) + 1)).1 0 15 ∧ (yw (yw τa 5 (81 + 4 * m) e) 5 77 ((m : Int) + 1)).1 0 15 ≤ 4)) := by
  have nv : ¬ v = 2 := by omega
  have ne5 : ∀ j : Nat, ¬ ((5 : Nat) = 0 ∧ 17 ≤ j ∧ j ≤ 23) ∧ ¬ (5 : Nat) = 8 := fun j => ⟨fun q => absurd q.1 (by decide), by decide⟩
  have yn5 : ∀ (S : yS) (c n : Nat) (z : Int), (yw S 5 c z).1 0 n = S.1 0 n := fun S c n z => yw_n (fun q => absurd q.2 (by decide))
  obtain ⟨a, b, σ2, τ2, h7, h8, E2, ha, hb, s2, v7, v8, mo2, ok2⟩ := p_needHouse (N := N) hN hr E (fun _ => G1)
  obtain ⟨σ3, τ3, t7, t8, E3, i7, i8, mo3, z3, st3, nb3⟩ := p_next (N := N) hN E2
  obtain ⟨k, kb, σ4, τ4, kd7, kd8, E4, kk7, kk8, hk, hkb, okk, mo4, -⟩ := p_kind (N := N) t7 (yE_w8 (i := 5) (k := 78 + 4 * m) (z := b) E3 (ne5 _))
  obtain ⟨σ5, τ5, p7, p8, E5, o7, o8, mo5, z5, st5, nb5⟩ := p_next (N := N) hN E4
  obtain ⟨p, pb, σ6, τ6, n7, n8, E6, l7, l8, hp, hpb, okn, mo6⟩ := p_needNumber (N := N) hN (lo := 0) (hi := 9) p7 (by decide) (yE_w8 (i := 5) (k := 79 + 4 * m) (z := kb) E5 (ne5 _))
  obtain ⟨σ7, τ7, dp7, dp8, E7, q7, q8, mo7, okd⟩ := p_depth (N := N) hp.1 n8 E6 (fun z => (okn z).1)
  obtain ⟨σ8, τ8, r7, r8, E8, y7, y8, mo8, z8, st8, nb8⟩ := p_next (N := N) hN E7
  have K7 : yK7 σ2 σ8 := yK7_t (yK7_t (yK7_t (yK7_t (yK7_t i7 kk7) o7) l7) q7) y7
  have K5 := yK8_t kk8 o8
  have K8 := yK8_t (yK8_t l8 q8) y8
  have p12 : σ8.1 2 12 = σ.1 2 12 := (K7.2 2 12 (by decide)).trans (v7 2 12 (by decide))
  have p15 : (yw τ8 5 (80 + 4 * m) pb).1 0 15 = τ.1 0 15 := (yn5 _ _ _ _).trans ((K8 0 15 (by decide)).trans ((yn5 _ _ _ _).trans ((K5 0 15 (by decide)).trans ((yn5 _ _ _ _).trans ((i8 0 15 (by decide)).trans (v8 0 15 (by decide)))))))
  obtain ⟨d, e, σ9, τ9, d7, d8, E9, hd, he, s9, x7, x8, mo9, ok9⟩ := p_needDeed (N := N) hN r7 (yE_w8 (i := 5) (k := 80 + 4 * m) (z := pb) E8 (ne5 _)) (fun _ => by rw [p12, p15]; exact G2)
  obtain ⟨σa, τa, pa7, pa8, Ea, oa7, oa8, moa, za, sta, nba⟩ := p_next (N := N) hN (yE_5 (m := m) (a := a) (k := k) (p := p) (d := d) (x := (m : Int) + 1) hv E9)
  obtain ⟨F1, F2, F3, F4, F5, F6, F7⟩ := yv7 hv s2 v7 K7 s9 x7 oa7
  obtain ⟨H1, H2, H3, H4, H5⟩ := yv8 (e := e) (x := (m : Int) + 1) m10 v8 i8 K5 K8 x8 oa8
  have s7 : σ7.2 = σ.2 := q7.1.trans (l7.1.trans (o7.1.trans (kk7.1.trans (i7.1.trans s2))))
  have s9v : σ9.1 v 0 = σ.1 v 0 := by
    exact (x7 v 0 (fun q => nv q.1)).trans ((K7.2 v 0 (fun q => nv q.1)).trans (v7 v 0 (fun q => nv q.1)))
  have mm : σ.1 2 1 ≤ σ8.1 2 1 := yle_t (yle_t (yle_t (Int.le_refl _) mo2 mo3) mo4 mo5) (mo7.trans mo6) mo8
  refine ⟨a, k, p, d, b, kb, pb, e, σ2, σ4, σ6, σ7, σ9, σa, τ3, τ5, τ8, τa, h7, kd7, n7, dp7, d7, pa7, ?_, ?_, ?_, ?_, Ea, F1, s7, s9v, F2, F3, H1, H2, H5, ⟨ha, hk, hp, hd⟩, yle4 mm mo9 moa F6, fun z q => ylt4 mm mo9 (sta z q) F6, fun z => ?_⟩
  · unfold f_X8_readAHouse
    rw [h8]
    show (match f_X8_next N τ2 with
      | none => none
      | some r2 => some (b, r2.2)) = _
    rw [t8]
  · rw [kd8, p8]
  · rw [dp8, r8]
  · unfold f_X8_readADeed
    rw [d8]
    show (match f_X8_next N τ9 with
      | none => none
      | some r2 => some (e, r2.2)) = _
    rw [pa8]
  · have z9 : σ9.1 2 4 = 0 := F7.symm.trans (za z)
    obtain ⟨y1, y2, y3⟩ := ok9 z9
    have z7 : σ7.1 2 4 = 0 := z8 y2
    obtain ⟨w1, w2⟩ := okd z7
    have z6 : σ6.1 2 4 = 0 := w1 ▸ z7
    obtain ⟨w3, w4, w5⟩ := okn z6
    have z5' : σ5.1 2 4 = 0 := w4 ▸ z6
    have z4 : σ4.1 2 4 = 0 := z5 z5'
    obtain ⟨w6, w7, w8⟩ := okk z4
    have z3' : σ3.1 2 4 = 0 := w7 ▸ z4
    obtain ⟨w9, -, w10⟩ := ok2 (z3 z3')
    rw [F4, F5, H3, H4, ← p15]
    exact ⟨⟨w9, w6, w3, y1⟩, w10, y3⟩
theorem p_lvow {N : Nat} (hN : 400 ≤ N) {σ τ : yS} (HH : yLx σ τ ∧ yTk σ τ) (R : yRD σ τ) (h10 : ¬ τ.1 5 77 = 10) : yLL N σ τ (f_X1_readVow N σ 38) (f_X8_readLine_b156 N τ 6 (τ.1 0 10)) := by
  have s23 := R.2.2.2.2.2.1.2
  have b77 : 0 ≤ τ.1 5 77 ∧ τ.1 5 77 ≤ 10 := R.2.2.1.2.2.1
  have s77 : σ.1 (σ.2 38 11) 0 = τ.1 5 77 := R.2.1.2.2.1.1
  have t7' := R.2.1.2.2.2.2.2
  obtain ⟨v, hv⟩ : ∃ v : Nat, σ.2 38 11 = v := ⟨_, rfl⟩
  rw [hv] at s77 t7'
  have hv2 : v = 46 ∨ v = 51 := by omega
  obtain ⟨m, hm⟩ : ∃ m : Nat, τ.1 5 77 = (m : Int) := ⟨(τ.1 5 77).toNat, by omega⟩
  have m10 : m < 10 := by omega
  have sm : σ.1 v 0 = (m : Int) := s77.trans hm
  have e0 : yad 78 (ymu 4 (m : Int)) = ((78 + 4 * m : Nat) : Int) := by rw [ymu_e (by omega) (by omega), yad_e (by omega) (by omega)]; omega
  have e1 : yad ((78 + 4 * m : Nat) : Int) 1 = ((79 + 4 * m : Nat) : Int) := by rw [yad_e (by omega) (by omega)]; omega
  have e2 : yad ((78 + 4 * m : Nat) : Int) 2 = ((80 + 4 * m : Nat) : Int) := by rw [yad_e (by omega) (by omega)]; omega
  have e3 : yad ((78 + 4 * m : Nat) : Int) 3 = ((81 + 4 * m : Nat) : Int) := by rw [yad_e (by omega) (by omega)]; omega
  have j0 : yin ((78 + 4 * m : Nat) : Int) 131 = true := by rw [yin_d]; exact decide_eq_true (by omega)
  have j1 : yin ((79 + 4 * m : Nat) : Int) 131 = true := by rw [yin_d]; exact decide_eq_true (by omega)
  have j2 : yin ((80 + 4 * m : Nat) : Int) 131 = true := by rw [yin_d]; exact decide_eq_true (by omega)
  have j3 : yin ((81 + 4 * m : Nat) : Int) 131 = true := by rw [yin_d]; exact decide_eq_true (by omega)
  have em : yad (m : Int) 1 = (m : Int) + 1 := yad_e (by omega) (by omega)
  have lt10 : σ.1 v 0 < 10 := by omega
  have nv : ¬ v = 2 := by omega
  have v38 : ¬ v + 1 ≤ 38 ∧ ¬ v + 1 ≤ 2 ∧ ¬ (56 ≤ v + 4) ∧ ¬ (2 = v) ∧ ¬ (38 = v) ∧ ¬ (56 = v) ∧ 38 ≤ v ∧ v + 4 < 59 := by omega
  have vr : ∀ i : Nat, v + 1 ≤ i ∧ i ≤ v + 4 → 38 ≤ i ∧ i < 59 := fun i hi => by omega
  have mb : 0 ≤ (m : Int) + 1 ∧ (m : Int) + 1 ≤ 10 := by omega
  have n5 : ¬ (5 : Nat) = 0 := by decide
  clear b77 s77 h10 t7'
  have E0 : yE σ (yw τ 0 10 (τ.1 0 10)) := yE_w8 (Or.inl HH) (by decide)
  obtain ⟨σ1, τ1, g7, g8, E1, k7, k8, mo1, z1, st1, nb1⟩ := p_next (N := N) hN E0
  have u8 := y8_0 k8 rfl
  have c0 : f_X1_readVow N σ 38 = f_X1_readVow_b21 N σ 38 := by
    unfold f_X1_readVow
    rw [hv, ycP_lt, decide_eq_true lt10, cond_true]
  by_cases f1 : τ1.1 0 22 = 0
  · have gr := R.2.2.2.2.2.2.2.2.1
    have gd := R.2.2.2.2.2.2.2.2.2
    have G1 : yGr (σ1.1 2 11) (τ1.1 0 14) 6 := by rw [k7.2 2 11 (by decide), u8 0 14 (by decide)]; exact gr
    have G2 : yGr (σ1.1 2 12) (τ1.1 0 15) 4 := by rw [k7.2 2 12 (by decide), u8 0 15 (by decide)]; exact gd
    obtain ⟨a, k, p, d, b, kb, pb, e, σ2, σ4, σ6, σ7, σ9, σa, τ3, τ5, τ8, τa, h7, kd7, n7, dp7, d7, pa7, h8, kd8, dp8, d8, Ea, F1, s7, s9, F2, F3, H1, H2, H5, ⟨ha, hk, hp, hd⟩, mo, st, ok⟩ := p_vow2 (N := N) hN hv2 m10 g7 E1 G1 G2
    have s90 : σ9.1 v 0 = (m : Int) := s9.trans ((k7.2 v 0 (fun q => nv q.1)).trans sm)
    have ap := x5_app (N := N) (h := a) (k := k) (p := p) (d := d) s90 m10
    have rv : σ7.2 = σ.2 := s7.trans k7.1
    have c7 : f_X1_readVow N σ 38 = some (0, σa) := by
      rw [c0]
      unfold f_X1_readVow_b21
      rw [h7]
      show (match f_X1_needKind N σ2 with
        | none => none
        | some r2 => _) = _
      rw [kd7]
      show (match f_X1_needNumber N σ4 0 9 with
        | none => none
        | some r3 => _) = _
      rw [n7]
      refine (dp7 (fun s => f_X1_readVow_b57 N s 38 a k p)).trans ?_
      unfold f_X1_readVow_b57
      rw [d7, rv, hv]
      show (match f_X5_append N σ9 v a k p d with
        | none => none
        | some r6 => _) = _
      rw [ap]
      simp only [pa7]
    have t77 : τ1.1 5 77 = (m : Int) := (u8 5 77 (by decide)).trans hm
    have r77 : (yw τa 5 (81 + 4 * m) e).1 5 77 = (m : Int) := H5.trans t77
    have rL : f_X8_readLineOf N τ1 6 = some (0, yw (yw τa 5 (81 + 4 * m) e) 5 77 ((m : Int) + 1)) := by
      unfold f_X8_readLineOf
      rw [yeq_d, decide_eq_false (by decide), cond_false, yeq_d, decide_eq_false (by decide), cond_false, yeq_d, decide_eq_false (by decide), cond_false, yeq_d, decide_eq_true rfl, cond_true]
      simp only [h8, t77, e0, j0, cond_true, Int.toNat_natCast, kd8, e1, j1, dp8, e2, j2, d8, e3, j3, f_X8_readLineOf_b159, f_X8_readLineOf_b220]
      rw [show yin 77 131 = true from by decide +kernel, cond_true, cond_true, show (77 : Int).toNat = 77 from rfl, r77, em]
    have V7 : ∀ i n : Nat, ¬ (i = 2 ∧ ((1 ≤ n ∧ n ≤ 5) ∨ n = 11 ∨ n = 12)) → ¬ (v + 1 ≤ i ∧ i ≤ v + 4 ∧ n = m) → ¬ (i = v ∧ n = 0) → σa.1 i n = σ.1 i n := fun i n q1 q2 q3 => (F2 i n q1 q2 q3).trans (k7.2 i n (fun q => q1 ⟨q.1, Or.inl q.2⟩))
    have V8 : ∀ i n : Nat, ¬ (i = 0 ∧ ((18 ≤ n ∧ n ≤ 23) ∨ n = 14 ∨ n = 15)) → ¬ (i = 5 ∧ ((78 + 4 * m ≤ n ∧ n ≤ 81 + 4 * m) ∨ n = 77)) → (yw (yw τa 5 (81 + 4 * m) e) 5 77 ((m : Int) + 1)).1 i n = τ.1 i n := fun i n q1 q2 => (H1 i n q1 q2).trans (u8 i n (fun q => q1 ⟨q.1, Or.inl q.2⟩))
    have rr : σa.2 = σ.2 := F1.trans k7.1
    have l6 : σa.1 2 6 = σ.1 2 6 := V7 2 6 (by decide) (fun q => v38.2.1 q.1) (fun q => v38.2.2.2.1 q.1)
    have Z7 : yZ7 σ σa := ⟨rr, fun i n h1 h2 => V7 i n (fun q => h1 q.1) (fun q => h2 (vr i ⟨q.1, q.2.1⟩)) (fun q => h2 ⟨q.1.symm ▸ v38.2.2.2.2.2.2.1, Nat.lt_of_le_of_lt (Nat.le_trans (Nat.le_of_eq q.1) (Nat.le_add_right v 4)) v38.2.2.2.2.2.2.2⟩)⟩
    refine ⟨0, σa, yw (yw τa 5 (81 + 4 * m) e) 5 77 ((m : Int) + 1), c7, (x8_b156 s23 g8).2 f1 _ rL, yE_w8 (yE_w8 Ea ⟨fun q => n5 q.1, by decide⟩) (by decide), Z7, fun i n h1 h2 h3 h4 => V8 i n (fun q => h4 ⟨q.1, q.2.elim (fun w => Or.inr (Or.inr (Or.inr w))) (fun w => w.elim (fun w => Or.inr (Or.inl w)) (fun w => Or.inr (Or.inr (Or.inl w))))⟩) (fun q => h1 q.1), l6, fun z => ⟨?_, Int.le_trans mo1 mo, fun q => Int.lt_of_le_of_lt mo1 (st z (by rw [q]; decide))⟩, fun z => ?_⟩
    · obtain ⟨⟨w1, w2, w3, w4⟩, w5, w6⟩ := ok z
      rw [u8 0 14 (by decide)] at w5
      rw [u8 0 15 (by decide)] at w6
      exact yRD_vow R hv hm m10 ha hk hp hd rr V7 F3.1 F3.2.1 F3.2.2.1 F3.2.2.2.1 F3.2.2.2.2 V8 (H2.1.trans w1.symm) (H2.2.1.trans w2.symm) (H2.2.2.1.trans w3.symm) (H2.2.2.2.trans w4.symm) yw_p w5 w6
    · obtain ⟨y1, y2, y3, y4⟩ := yRD_Q R
      refine ⟨by unfold yTr at y1 ⊢; rw [rr]; exact y1, by rw [V7 38 2 (by decide) (fun q => v38.1 q.1) (fun q => v38.2.2.2.2.1 q.1)]; exact y2, ?_, by rw [V7 56 0 (by decide) (fun q => v38.2.2.1 q.2.1) (fun q => v38.2.2.2.2.2.1 q.1)]; exact y4⟩
      rw [rr, hv, F3.2.2.2.2]; exact mb
  · have fe := yE_f E1
    have B1 : yB7 σ1 := yB7_e E1 (by omega)
    have Q1 : yQ7 σ1 := yQ7_f (yRD_Q R) k7.1 ⟨k7.2 _ _ (by decide), k7.2 _ _ (by decide), k7.2 _ _ (by decide), k7.2 _ _ (by decide)⟩
    have F := x1_bvow hN B1 Q1
    have eq : f_X1_readVow N σ 38 = f_X1_readVow_b21 N σ1 38 := by
      rw [c0]
      simp only [f_X1_readVow_b21, x1_hsame g7 B1]
    rw [eq]
    exact p_lfirst s23 g8 E1 f1 F (yZ7_k k7) k8 (k7.2 _ _ (by decide))
end
section
theorem yRD_hab {σ τ σ' τ' : yS} {A : Nat} {v k d n : Int} (R : yRD σ τ) (hA : A < 7) (r : σ'.2 = σ.2) (w7 : ∀ i b : Nat, ¬ (i = 2 ∧ ((1 ≤ b ∧ b ≤ 5) ∨ (10 ≤ b ∧ b ≤ 12))) → ¬ (42 ≤ i ∧ i ≤ 44 ∧ b = A) → σ'.1 i b = σ.1 i b) (w8 : ∀ i b : Nat, ¬ (i = 0 ∧ ((18 ≤ b ∧ b ≤ 23) ∨ b = 14 ∨ b = 15)) → ¬ (i = 7 ∧ b = 2) → ¬ (i = 5 ∧ (b = 21 + A ∨ b = 28 + A ∨ b = 35 + A)) → τ'.1 i b = τ.1 i b) (x0 : σ'.1 2 10 = v) (x1 : σ'.1 42 A = k) (x2 : σ'.1 43 A = d) (x3 : σ'.1 44 A = n) (y0 : τ'.1 7 2 = v) (y1 : τ'.1 5 (21 + A) = k) (y2 : τ'.1 5 (28 + A) = d) (y3 : τ'.1 5 (35 + A) = n) (vb : 0 ≤ v ∧ v < 128) (hk : 0 ≤ k ∧ k ≤ 4) (hd : 0 ≤ d ∧ d ≤ 4) (hn : 0 ≤ n ∧ n ≤ 10) (gr : σ'.1 2 11 = τ'.1 0 14 ∧ τ.1 0 14 ≤ τ'.1 0 14 ∧ 0 ≤ τ'.1 0 14 ∧ τ'.1 0 14 ≤ 6) (gd : σ'.1 2 12 = τ'.1 0 15 ∧ τ.1 0 15 ≤ τ'.1 0 15 ∧ d ≤ τ'.1 0 15 ∧ 0 ≤ τ'.1 0 15 ∧ τ'.1 0 15 ≤ 4) : yRD σ' τ' := by
  obtain ⟨⟨q1, q2, q3, q4, q5, q6, q7⟩, T, G, K, z, ⟨s1, s2, s3⟩, ⟨a1, a2, a3, a4⟩, b, g1, g2⟩ := R
  have low : ∀ j : Nat, j < 21 ∨ 42 ≤ j → τ'.1 5 j = τ.1 5 j := fun j hj => w8 5 j (by omega) (by omega) (by omega)
  have mid : ∀ i : Nat, i < 7 → ¬ i = A → τ'.1 5 (21 + i) = τ.1 5 (21 + i) ∧ τ'.1 5 (28 + i) = τ.1 5 (28 + i) ∧ τ'.1 5 (35 + i) = τ.1 5 (35 + i) := fun i hi e => ⟨w8 5 _ (by omega) (by omega) (by omega), w8 5 _ (by omega) (by omega) (by omega), w8 5 _ (by omega) (by omega) (by omega)⟩
  have G2 := yGe_m (hs' := τ'.1 0 14 + 1) (ds' := τ'.1 0 15 + 1) (by omega) (by omega) G
  have K2 := yGk_m (hs' := τ'.1 0 14 + 1) (ds' := τ'.1 0 15 + 1) (by omega) (by omega) K
  have c77 : 0 ≤ τ.1 5 77 ∧ τ.1 5 77 ≤ 10 := G.2.2.1
  have c118 : 0 ≤ τ.1 5 118 ∧ τ.1 5 118 ≤ 4 := G.2.2.2.2.1
  refine ⟨⟨?_, ?_, ?_, ?_, ?_, ?_, fun e he => ?_⟩, ?_, ?_, ?_, ?_, ?_, ⟨?_, ?_, ?_, ?_⟩, fun j hj => ?_, ?_, ?_⟩
  · rw [w7 _ _ (by decide) (by omega), w8 _ _ (by decide) (by decide) (by omega)]; exact q1
  · rw [w7 _ _ (by decide) (by omega), w8 _ _ (by decide) (by decide) (by omega)]; exact q2
  · rw [w7 _ _ (by decide) (by omega), w8 _ _ (by decide) (by decide) (by omega)]; exact q3
  · rw [w8 _ _ (by decide) (by decide) (by omega)]; exact q4
  · rw [w8 _ _ (by decide) (by decide) (by omega)]; exact q5
  · rw [w8 _ _ (by decide) (by decide) (by omega)]; exact q6
  · rw [w8 _ _ (by decide) (by decide) (by omega)] at he
    rw [w7 _ _ (by omega) (by omega), w8 _ _ (by omega) (by omega) (by omega)]; exact q7 e he
  · obtain ⟨t1, t2, ⟨t3, t4⟩, ⟨t5, t6⟩, ⟨d0, d1, d2, d3⟩, t7⟩ := T
    refine ⟨fun i hi => ?_, fun j hj => ?_, ⟨?_, fun i hi => ?_⟩, ⟨?_, fun i hi => ?_⟩, ⟨?_, ?_, ?_, ?_⟩, ?_⟩
    all_goals try dsimp only
    · rw [w7 (38 + 2) _ (by omega) (by omega), w7 (38 + 3) _ (by omega) (by omega), w7 38 _ (by omega) (by omega), low i (by omega), low (7 + i) (by omega), low (14 + i) (by omega)]
      obtain ⟨u0, u1, u2, u3, u4, u5⟩ := t1 i hi
      by_cases e : i = A
      · subst e
        exact ⟨u0, u1, u2, x1.trans y1.symm, x2.trans y2.symm, x3.trans y3.symm⟩
      · obtain ⟨m1, m2, m3⟩ := mid i hi e
        rw [m1, m2, m3, w7 (38 + 4) _ (by omega) (by omega), w7 (38 + 5) _ (by omega) (by omega), w7 (38 + 6) _ (by omega) (by omega)]
        exact ⟨u0, u1, u2, u3, u4, u5⟩
    · rw [w7 _ _ (by omega) (by omega), low _ (by omega)]; exact t2 j hj
    · rw [r, w7 _ _ (by omega) (by omega), low _ (by omega)]; exact t3
    · dsimp only at hi
      rw [low _ (by omega)] at hi
      rw [r, w7 _ _ (by omega) (by omega), w7 _ _ (by omega) (by omega), w7 _ _ (by omega) (by omega), w7 _ _ (by omega) (by omega), low (78 + 4 * i) (by omega), low (79 + 4 * i) (by omega), low (80 + 4 * i) (by omega), low (81 + 4 * i) (by omega)]; exact t4 i hi
    · rw [w7 _ _ (by omega) (by omega), low _ (by omega)]; exact t5
    · dsimp only at hi
      rw [low _ (by omega)] at hi
      rw [w7 _ _ (by omega) (by omega), w7 _ _ (by omega) (by omega), low _ (by omega), low _ (by omega)]; exact t6 i hi
    · rw [w7 _ _ (by omega) (by omega), low _ (by omega)]; exact d0
    · rw [w7 _ _ (by omega) (by omega), low _ (by omega)]; exact d1
    · rw [w7 _ _ (by omega) (by omega), low _ (by omega)]; exact d2
    · rw [w7 _ _ (by omega) (by omega), low _ (by omega)]; exact d3
    · rw [r]; exact t7
  · obtain ⟨c0, c1, c2, c3, c4, c5⟩ := G2
    refine ⟨by rw [w7 _ _ (by omega) (by omega)]; exact c0, fun i hi => ?_, ?_, fun i hi => ?_, ?_, fun i hi => ?_⟩
    all_goals try dsimp only
    · rw [low (7 + i) (by omega), low (14 + i) (by omega)]
      obtain ⟨u0, u1, u2, u3, u4⟩ := c1 i hi
      by_cases e : i = A
      · subst e
        rw [y1, y2, y3]
        exact ⟨u0, u1, hk, hd, hn⟩
      · obtain ⟨m1, m2, m3⟩ := mid i hi e
        rw [m1, m2, m3]
        exact ⟨u0, u1, u2, u3, u4⟩
    · rw [low _ (by omega)]; exact c2
    · dsimp only at hi
      rw [low _ (by omega)] at hi
      rw [low _ (by omega), low _ (by omega), low _ (by omega), low _ (by omega)]; exact c3 i hi
    · rw [low _ (by omega)]; exact c4
    · dsimp only at hi
      rw [low _ (by omega)] at hi
      rw [low _ (by omega), low _ (by omega)]; exact c5 i hi
  · obtain ⟨k1, k2, k3⟩ := K2
    refine ⟨fun j hj => ?_, fun i hi q => ?_, fun i hi q => ?_⟩
    · dsimp only
      rw [low _ (by omega)]; exact k1 j hj
    · dsimp only at q ⊢
      by_cases e : i = A
      · subst e
        rw [y2]; omega
      · obtain ⟨m1, m2, m3⟩ := mid i hi e
        rw [m3] at q
        rw [m2]; exact k2 i hi q
    · dsimp only
      rw [low _ (by omega)]; exact k3 i hi q
  · rw [low _ (by omega)]; exact z
  · rw [w7 _ _ (by decide) (by omega), w8 _ _ (by decide) (by decide) (by omega)]; exact ⟨s1, s2, s3⟩
  · rw [w7 _ _ (by decide) (by omega), w8 _ _ (by decide) (by decide) (by omega)]; exact a1
  · rw [w7 _ _ (by decide) (by omega), w8 _ _ (by decide) (by decide) (by omega)]; exact a2
  · rw [x0, y0]
  · rw [w7 38 6 (by decide) (by omega), w7 2 9 (by decide) (by omega)]; exact a4
  · by_cases e : j = 2
    · subst e
      rw [y0]; exact vb
    · rw [w8 _ _ (by omega) (by omega) (by omega)]; exact b j hj
  · exact Or.inr ⟨gr.1, gr.2.2.1, gr.2.2.2⟩
  · exact Or.inr ⟨gd.1, gd.2.2.2.1, gd.2.2.2.2⟩
theorem yh8 {τ τ6 τ7 τ8 τ9 τ10 τ11 : yS} {B : Nat} {x y z : Int} (hB : B < 7) (k6 : yK8 τ τ6) (k7 : yK8 τ6 τ7) (k8 : ∀ i k : Nat, ¬ (i = 0 ∧ (18 ≤ k ∧ k ≤ 23 ∨ k = 15)) → τ8.1 i k = (yw τ7 5 (21 + B) x).1 i k) (k9 : yK8 τ8 τ9) (k10 : yK8 (yw τ9 5 (28 + B) y) τ10) (k11 : yK8 τ10 τ11) : (∀ i k : Nat, ¬ (i = 0 ∧ ((18 ≤ k ∧ k ≤ 23) ∨ k = 15)) → ¬ (i = 5 ∧ (k = 21 + B ∨ k = 28 + B ∨ k = 35 + B)) → (yw τ11 5 (35 + B) z).1 i k = τ.1 i k) ∧ (yw τ11 5 (35 + B) z).1 5 (21 + B) = x ∧ (yw τ11 5 (35 + B) z).1 5 (28 + B) = y ∧ (yw τ11 5 (35 + B) z).1 5 (35 + B) = z ∧ (yw τ11 5 (35 + B) z).1 0 15 = τ8.1 0 15 ∧ (yw τ7 5 (21 + B) x).1 0 15 = τ.1 0 15 := by
  refine ⟨fun i k h1 h2 => ?_, ?_, ?_, yw_p, ?_, ?_⟩
  · rw [yw_n (by omega), k11 i k (by omega), k10 i k (by omega), yw_n (by omega), k9 i k (by omega), k8 i k (by omega), yw_n (by omega), k7 i k (by omega), k6 i k (by omega)]
  · rw [yw_n (by omega), k11 _ _ (by omega), k10 _ _ (by omega), yw_n (by omega), k9 _ _ (by omega), k8 _ _ (by omega), yw_p]
  · rw [yw_n (by omega), k11 _ _ (by omega), k10 _ _ (by omega), yw_p]
  · rw [yw_n (by omega), k11 _ _ (by omega), k10 _ _ (by omega), yw_n (by omega), k9 _ _ (by omega)]
  · rw [yw_n (by omega), k7 _ _ (by omega), k6 _ _ (by omega)]
theorem yh7 {σ σ6 σ7 σ8 σ9 σ10 σ11 : yS} {A : Nat} {k d n : Int} (hA : A < 7) (k6 : yK7 σ σ6) (k7 : yK7 σ6 σ7) (r8 : σ8.2 = σ7.2) (k8 : ∀ i b : Nat, ¬ (i = 2 ∧ (1 ≤ b ∧ b ≤ 5 ∨ b = 12)) → σ8.1 i b = σ7.1 i b) (k9 : yK7 σ8 σ9) (k10 : yK7 σ9 σ10) (k11 : yK7 (yw (yw (yw σ10 42 A k) 43 A d) 44 A n) σ11) : σ11.2 = σ.2 ∧ (∀ i b : Nat, ¬ (i = 2 ∧ ((1 ≤ b ∧ b ≤ 5) ∨ b = 12)) → ¬ (42 ≤ i ∧ i ≤ 44 ∧ b = A) → σ11.1 i b = σ.1 i b) ∧ σ11.1 42 A = k ∧ σ11.1 43 A = d ∧ σ11.1 44 A = n ∧ σ11.1 2 12 = σ8.1 2 12 ∧ σ7.1 2 12 = σ.1 2 12 ∧ (yw (yw (yw σ10 42 A k) 43 A d) 44 A n).1 2 1 = σ10.1 2 1 ∧ (yw (yw (yw σ10 42 A k) 43 A d) 44 A n).1 2 4 = σ10.1 2 4 := by
  refine ⟨k11.1.trans (k10.1.trans (k9.1.trans (r8.trans (k7.1.trans k6.1)))), fun i b h1 h2 => ?_, ?_, ?_, ?_, ?_, ?_, ?_, ?_⟩
  · rw [k11.2 i b (by omega), yw_n (by omega), yw_n (by omega), yw_n (by omega), k10.2 i b (by omega), k9.2 i b (by omega), k8 i b (by omega), k7.2 i b (by omega), k6.2 i b (by omega)]
  · rw [k11.2 _ _ (by omega), yw_n (by omega), yw_n (by omega), yw_p]
  · rw [k11.2 _ _ (by omega), yw_n (by omega), yw_p]
  · rw [k11.2 _ _ (by omega), yw_p]
  · rw [k11.2 _ _ (by omega), yw_n (by omega), yw_n (by omega), yw_n (by omega), k10.2 _ _ (by omega), k9.2 _ _ (by omega)]
  · rw [k7.2 _ _ (by omega), k6.2 _ _ (by omega)]
  · rw [yw_n (by omega), yw_n (by omega), yw_n (by omega)]
  · rw [yw_n (by omega), yw_n (by omega), yw_n (by omega)]
theorem yle6 {a b c d e f : Int} (h1 : b = a) (h2 : b ≤ c) (h3 : d = c) (h4 : d ≤ e) (h5 : f = e) : a ≤ f := by omega
/-- a habit's line behind its house -/
theorem p_hab2 {N : Nat} (hN : 400 ≤ N) {σ0 σ τ : yS} {A B : Nat} (hA : A < 7) (hB : B < 7) (hr : f_X1_readToken N σ0 = some (0, σ)) (E : yE σ τ) (G : σ.1 2 4 = 0 → yGr (σ.1 2 12) (τ.1 0 15) 4) : ∃ (k d n x y z : Int) (σ6 σ8 σ10 σ' τ7 τ9 τ11 : yS), f_X1_needKind N σ0 = some (k, σ6) ∧ f_X1_needDeed N σ6 = some (d, σ8) ∧ f_X1_needNumber N σ8 0 10 = some (n, σ10) ∧ f_X1_readToken N (yw (yw (yw σ10 42 A k) 43 A d) 44 A n) = some (0, σ') ∧ f_X8_readKind N τ = some (x, τ7) ∧ f_X8_readADeed N (yw τ7 5 (21 + B) x) = some (y, τ9) ∧ f_X8_readNumber N (yw τ9 5 (28 + B) y) 0 10 = some (z, τ11) ∧ yE σ' (yw τ11 5 (35 + B) z) ∧ σ'.2 = σ.2 ∧ (∀ i b : Nat, ¬ (i = 2 ∧ ((1 ≤ b ∧ b ≤ 5) ∨ b = 12)) → ¬ (42 ≤ i ∧ i ≤ 44 ∧ b = A) → σ'.1 i b = σ.1 i b) ∧ (∀ i k : Nat, ¬ (i = 0 ∧ ((18 ≤ k ∧ k ≤ 23) ∨ k = 15)) → ¬ (i = 5 ∧ (k = 21 + B ∨ k = 28 + B ∨ k = 35 + B)) → (yw τ11 5 (35 + B) z).1 i k = τ.1 i k) ∧ (σ'.1 42 A = k ∧ σ'.1 43 A = d ∧ σ'.1 44 A = n) ∧ ((yw τ11 5 (35 + B) z).1 5 (21 + B) = x ∧ (yw τ11 5 (35 + B) z).1 5 (28 + B) = y ∧ (yw τ11 5 (35 + B) z).1 5 (35 + B) = z) ∧ ((0 ≤ k ∧ k ≤ 4) ∧ (0 ≤ d ∧ d ≤ 4) ∧ (0 ≤ n ∧ n ≤ 10)) ∧ (σ'.1 2 4 = 0 → k = x ∧ d = y ∧ n = z ∧ σ.1 2 4 = 0 ∧ (σ'.1 2 12 = (yw τ11 5 (35 + B) z).1 0 15 ∧ τ.1 0 15 ≤ (yw τ11 5 (35 + B) z).1 0 15 ∧ d ≤ (yw τ11 5 (35 + B) z).1 0 15 ∧ 0 ≤ (yw τ11 5 (35 + B) z).1 0 15 ∧ (yw τ11 5 (35 + B) z).1 0 15 ≤ 4)) ∧ σ.1 2 1 ≤ σ'.1 2 1 ∧ (σ'.1 2 4 = 0 → ¬ σ'.1 2 2 = 0 → σ.1 2 1 < σ'.1 2 1) := by
  obtain ⟨k, x, σ6, τ6, kd7, kd8, E6, kk7, kk8, hk, hkb, okk, mo6, -⟩ := p_kind (N := N) hr E
  obtain ⟨σ7, τ7, p7, p8, E7, o7, o8, mo7, z7, st7, nb7⟩ := p_next (N := N) hN E6
  have E7w : yE σ7 (yw τ7 5 (21 + B) x) := yE_w8 E7 (by omega)
  have e12 : σ7.1 2 12 = σ.1 2 12 := (o7.2 2 12 (by decide)).trans (kk7.2 2 12 (by decide))
  have e15 : (yw τ7 5 (21 + B) x).1 0 15 = τ.1 0 15 := (yw_n (by omega)).trans ((o8 0 15 (by decide)).trans (kk8 0 15 (by decide)))
  obtain ⟨d, y, σ8, τ8, d7, d8, E8, hd, he, s8, x7, x8, mo8, ok8⟩ := p_needDeed (N := N) hN p7 E7w (fun z => by rw [e12, e15]; exact G ((okk (z7 z)).2.1 ▸ z7 z))
  obtain ⟨σ9, τ9, t7, t8, E9, i7, i8, mo9, z9, st9, nb9⟩ := p_next (N := N) hN E8
  have E9w : yE σ9 (yw τ9 5 (28 + B) y) := yE_w8 E9 (by omega)
  obtain ⟨n, z, σ10, τ10, n7, n8, E10, l7, l8, hn, hnb, okn, mo10⟩ := p_needNumber (N := N) hN (lo := 0) (hi := 10) t7 (by decide) E9w
  have E10w : yE (yw (yw (yw σ10 42 A k) 43 A d) 44 A n) τ10 := yE_w7 (yE_w7 (yE_w7 E10 (by omega)) (by omega)) (by omega)
  obtain ⟨σ11, τ11, r7, r8, E11, j7, j8, mo11, z11, st11, nb11⟩ := p_next (N := N) hN E10w
  obtain ⟨F1, F2, F3, F4, F5, F6, -, F8, F9⟩ := yh7 hA kk7 o7 s8 x7 i7 l7 j7
  obtain ⟨H1, H2, H3, H4, H5, H6⟩ := yh8 (z := z) hB kk8 o8 x8 i8 l8 j8
  have mm : σ.1 2 1 ≤ (yw (yw (yw σ10 42 A k) 43 A d) 44 A n).1 2 1 := by
    rw [F8]
    exact yle6 mo6 mo7 mo8 mo9 mo10
  refine ⟨k, d, n, x, y, z, σ6, σ8, σ10, σ11, τ7, τ9, τ11, kd7, d7, n7, r7, ?_, ?_, ?_, yE_w8 E11 (by omega), F1, F2, H1, ⟨F3, F4, F5⟩, ⟨H2, H3, H4⟩, ⟨hk, hd, hn⟩, fun zz => ?_, Int.le_trans mm mo11, fun zz q => Int.lt_of_le_of_lt mm (st11 zz q)⟩
  · rw [kd8, p8]
  · unfold f_X8_readADeed
    rw [d8]
    show (match f_X8_next N τ8 with
      | none => none
      | some r2 => some (y, r2.2)) = _
    rw [t8]
  · unfold f_X8_readNumber
    rw [n8]
    show (match f_X8_next N τ10 with
      | none => none
      | some r2 => some (z, r2.2)) = _
    rw [r8]
  · have z10 : σ10.1 2 4 = 0 := F9.symm.trans (z11 zz)
    obtain ⟨w1, w2, w3⟩ := okn z10
    have z8' : σ8.1 2 4 = 0 := z9 (w2 ▸ z10)
    obtain ⟨w4, w5, w6⟩ := ok8 z8'
    have z6 : σ6.1 2 4 = 0 := z7 w5
    obtain ⟨w7, w8, w9⟩ := okk z6
    refine ⟨w7, w4, w1, w8 ▸ z6, ?_⟩
    rw [F6, H5, ← H6]
    exact w6
end
