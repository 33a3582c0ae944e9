theorem x4_new22 {N : Nat} : ∀ (c m i : Nat) (σ : yS), i + c = 7 → ∃ σ' : yS, f_X4_makeNew_b22 N (m + c + 1) σ 38 (i : Int) = f_X4_makeNew_b58 N N σ' 38 0 ∧ σ'.2 = σ.2 ∧ (∀ a b : Nat, ¬ (40 ≤ a ∧ a ≤ 44 ∧ i ≤ b ∧ b < 7) → σ'.1 a b = σ.1 a b) ∧ (∀ a b : Nat, 40 ≤ a → a ≤ 44 → i ≤ b → b < 7 → σ'.1 a b = 0)
  | 0, m, i, σ, hi => ⟨σ, by rw [q_X4_makeNew_b22, ycP_ge, decide_eq_true (by omega), cond_true], rfl, fun _ _ _ => rfl, fun a b _ _ h3 h4 => by omega⟩
  | c + 1, m, i, σ, hi => by
    obtain ⟨σ', g, r, w, z⟩ := x4_new22 c m (i + 1) (yw (yw (yw (yw (yw σ (38 + 2) i 0) (38 + 3) i 0) (38 + 4) i 0) (38 + 5) i 0) (38 + 6) i 0) (by omega)
    have ei : yad (i : Int) 1 = ((i + 1 : Nat) : Int) := by rw [yad_e (by omega) (by omega)]; omega
    have ii : yin (i : Int) 7 = true := by rw [yin_d]; exact decide_eq_true (by omega)
    refine ⟨σ', ?_, r, fun a b h => ?_, fun a b h1 h2 h3 h4 => ?_⟩
    · rw [show m + (c + 1) + 1 = (m + c + 1) + 1 from rfl, q_X4_makeNew_b22, ycP_ge, decide_eq_false (by omega), cond_false, ii, cond_true]
      simp only [f_X4_setHabit, ii, cond_true, Int.toNat_natCast, ei]
      exact g
    · rw [w a b (by omega), yw_n (by omega), yw_n (by omega), yw_n (by omega), yw_n (by omega), yw_n (by omega)]
    · by_cases e : b = i
      · subst e
        rw [w a b (by omega)]
        have : a = 40 ∨ a = 41 ∨ a = 42 ∨ a = 43 ∨ a = 44 := by omega
        rcases this with rfl | rfl | rfl | rfl | rfl
        · rw [yw_n (by omega), yw_n (by omega), yw_n (by omega), yw_n (by omega)]; exact yw_p
        · rw [yw_n (by omega), yw_n (by omega), yw_n (by omega)]; exact yw_p
        · rw [yw_n (by omega), yw_n (by omega)]; exact yw_p
        · rw [yw_n (by omega)]; exact yw_p
        · exact yw_p
      · exact z a b h1 h2 (by omega) h4
theorem x4_new58 {N : Nat} : ∀ (c m i : Nat) (σ : yS), i + c = 35 → ∃ σ' : yS, f_X4_makeNew_b58 N (m + c + 1) σ 38 (i : Int) = some (0, yw (yw (yw (yw (yw (yw σ' (σ'.2 38 11) 0 0) (38 + 18) 0 0) 38 14 0) 38 15 0) 38 16 0) 38 17 0) ∧ σ'.2 = σ.2 ∧ (∀ a b : Nat, ¬ (a = 45 ∧ i ≤ b ∧ b < 35) → σ'.1 a b = σ.1 a b) ∧ (∀ b : Nat, i ≤ b → b < 35 → σ'.1 45 b = 0)
  | 0, m, i, σ, hi => ⟨σ, by rw [q_X4_makeNew_b58, ycP_ge, decide_eq_true (by omega), cond_true], rfl, fun _ _ _ => rfl, fun b h3 h4 => by omega⟩
  | c + 1, m, i, σ, hi => by
    obtain ⟨σ', g, r, w, z⟩ := x4_new58 c m (i + 1) (yw σ (38 + 7) i 0) (by omega)
    have ei : yad (i : Int) 1 = ((i + 1 : Nat) : Int) := by rw [yad_e (by omega) (by omega)]; omega
    have ii : yin (i : Int) 35 = true := by rw [yin_d]; exact decide_eq_true (by omega)
    refine ⟨σ', ?_, r, fun a b h => ?_, fun b h3 h4 => ?_⟩
    · rw [show m + (c + 1) + 1 = (m + c + 1) + 1 from rfl, q_X4_makeNew_b58, ycP_ge, decide_eq_false (by omega), cond_false, ii, cond_true, Int.toNat_natCast, ei]
      exact g
    · rw [w a b (by omega), yw_n (by omega)]
    · by_cases e : b = i
      · subst e
        rw [w 45 b (by omega)]; exact yw_p
      · exact z b (by omega) h4
/-- a new terrace -/
theorem x4_new {N : Nat} (hN : 400 ≤ N) {σ : yS} {v : Nat} (hv : σ.2 38 11 = v) (hv2 : v = 46 ∨ v = 51) : ∃ σ' : yS, f_X4_makeNew N σ 38 = some (0, σ') ∧ σ'.2 = σ.2 ∧ (∀ a b : Nat, a < 38 ∨ 59 ≤ a → σ'.1 a b = σ.1 a b) ∧ (σ'.1 38 0 = 3 ∧ σ'.1 38 1 = 0 ∧ σ'.1 38 2 = 0 ∧ σ'.1 38 6 = 0) ∧ (σ'.1 v 0 = 0 ∧ σ'.1 56 0 = 0 ∧ σ'.1 38 14 = 0 ∧ σ'.1 38 15 = 0 ∧ σ'.1 38 16 = 0 ∧ σ'.1 38 17 = 0) ∧ (∀ a b : Nat, 40 ≤ a → a ≤ 44 → b < 7 → σ'.1 a b = 0) ∧ (∀ b : Nat, b < 35 → σ'.1 45 b = 0) := by
  obtain ⟨σ1, g1, r1, w1, z1⟩ := x4_new22 (N := N) 7 (N - 8) 0 (yw (yw (yw (yw σ 38 0 3) 38 1 0) 38 2 0) 38 6 0) rfl
  obtain ⟨σ2, g2, r2, w2, z2⟩ := x4_new58 (N := N) 35 (N - 36) 0 σ1 rfl
  rw [show N - 8 + 7 + 1 = N by omega] at g1
  rw [show N - 36 + 35 + 1 = N by omega] at g2
  have rr : σ2.2 = σ.2 := r2.trans r1
  rw [rr, hv] at g2
  refine ⟨yw (yw (yw (yw (yw (yw σ2 v 0 0) (38 + 18) 0 0) 38 14 0) 38 15 0) 38 16 0) 38 17 0, g1.trans g2, rr, fun a b h => ?_, ⟨?_, ?_, ?_, ?_⟩, ⟨?_, ?_, ?_, ?_, ?_, ?_⟩, fun a b h1 h2 h3 => ?_, fun b h => ?_⟩
  · rw [yw_n (by omega), yw_n (by omega), yw_n (by omega), yw_n (by omega), yw_n (by omega), yw_n (by omega), w2 a b (by omega), w1 a b (by omega), yw_n (by omega), yw_n (by omega), yw_n (by omega), yw_n (by omega)]
  · rw [yw_n (by omega), yw_n (by omega), yw_n (by omega), yw_n (by omega), yw_n (by omega), yw_n (by omega), w2 _ _ (by omega), w1 _ _ (by omega), yw_n (by omega), yw_n (by omega), yw_n (by omega), yw_p]
  · rw [yw_n (by omega), yw_n (by omega), yw_n (by omega), yw_n (by omega), yw_n (by omega), yw_n (by omega), w2 _ _ (by omega), w1 _ _ (by omega), yw_n (by omega), yw_n (by omega), yw_p]
  · rw [yw_n (by omega), yw_n (by omega), yw_n (by omega), yw_n (by omega), yw_n (by omega), yw_n (by omega), w2 _ _ (by omega), w1 _ _ (by omega), yw_n (by omega), yw_p]
  · rw [yw_n (by omega), yw_n (by omega), yw_n (by omega), yw_n (by omega), yw_n (by omega), yw_n (by omega), w2 _ _ (by omega), w1 _ _ (by omega), yw_p]
  · rw [yw_n (by omega), yw_n (by omega), yw_n (by omega), yw_n (by omega), yw_n (by omega), yw_p]
  · rw [yw_n (by omega), yw_n (by omega), yw_n (by omega), yw_n (by omega)]; exact yw_p
  · rw [yw_n (by omega), yw_n (by omega), yw_n (by omega), yw_p]
  · rw [yw_n (by omega), yw_n (by omega), yw_p]
  · rw [yw_n (by omega), yw_p]
  · exact yw_p
  · rw [yw_n (by omega), yw_n (by omega), yw_n (by omega), yw_n (by omega), yw_n (by omega), yw_n (by omega), w2 a b (by omega)]
    exact z1 a b h1 h2 (by omega) h3
  · rw [yw_n (by omega), yw_n (by omega), yw_n (by omega), yw_n (by omega), yw_n (by omega), yw_n (by omega)]
    exact z2 b (by omega) h
theorem x8_first2 {N : Nat} : ∀ (c m i : Nat) (τ : yS), i + c = 131 → ∃ τ' : yS, f_X8_firstDraft_b2 N (m + c + 1) τ (i : Int) = f_X8_firstDraft_b24 N N τ' 0 ∧ (∀ a b : Nat, ¬ (a = 5 ∧ i ≤ b ∧ b < 131) → τ'.1 a b = τ.1 a b) ∧ (∀ b : Nat, i ≤ b → b < 131 → τ'.1 5 b = 0)
  | 0, m, i, τ, hi => ⟨τ, by rw [q_X8_firstDraft_b2, ycP_ge, decide_eq_true (by omega), cond_true], fun _ _ _ => rfl, fun b h3 h4 => by omega⟩
  | c + 1, m, i, τ, hi => by
    obtain ⟨τ', g, w, z⟩ := x8_first2 c m (i + 1) (yw τ 5 i 0) (by omega)
    have ei : yad (i : Int) 1 = ((i + 1 : Nat) : Int) := by rw [yad_e (by omega) (by omega)]; omega
    have ii : yin (i : Int) 131 = true := by rw [yin_d]; exact decide_eq_true (by omega)
    refine ⟨τ', ?_, fun a b h => ?_, fun b h3 h4 => ?_⟩
    · rw [show m + (c + 1) + 1 = (m + c + 1) + 1 from rfl, q_X8_firstDraft_b2, ycP_ge, decide_eq_false (by omega), cond_false, ii, cond_true, Int.toNat_natCast, ei]
      exact g
    · rw [w a b (by omega), yw_n (by omega)]
    · by_cases e : b = i
      · subst e
        rw [w 5 b (by omega)]; exact yw_p
      · exact z b (by omega) h4
theorem x8_first24 {N : Nat} : ∀ (c m i : Nat) (τ : yS), i + c = 3 → ∃ τ' : yS, f_X8_firstDraft_b24 N (m + c + 1) τ (i : Int) = some (0, yw (yw (yw (yw (yw (yw τ' 0 8 3) 0 9 0) 0 10 0) 0 11 0) 0 14 (-4)) 0 15 (-4)) ∧ (∀ a b : Nat, ¬ (a = 7 ∧ i ≤ b ∧ b < 3) → τ'.1 a b = τ.1 a b) ∧ (∀ b : Nat, i ≤ b → b < 3 → τ'.1 7 b = 0)
  | 0, m, i, τ, hi => ⟨τ, by rw [q_X8_firstDraft_b24, ycP_ge, decide_eq_true (by omega), cond_true], fun _ _ _ => rfl, fun b h3 h4 => by omega⟩
  | c + 1, m, i, τ, hi => by
    obtain ⟨τ', g, w, z⟩ := x8_first24 c m (i + 1) (yw τ 7 i 0) (by omega)
    have ei : yad (i : Int) 1 = ((i + 1 : Nat) : Int) := by rw [yad_e (by omega) (by omega)]; omega
    have ii : yin (i : Int) 3 = true := by rw [yin_d]; exact decide_eq_true (by omega)
    refine ⟨τ', ?_, fun a b h => ?_, fun b h3 h4 => ?_⟩
    · rw [show m + (c + 1) + 1 = (m + c + 1) + 1 from rfl, q_X8_firstDraft_b24, ycP_ge, decide_eq_false (by omega), cond_false, ii, cond_true, Int.toNat_natCast, ei]
      exact g
    · rw [w a b (by omega), yw_n (by omega)]
    · by_cases e : b = i
      · subst e
        rw [w 7 b (by omega)]; exact yw_p
      · exact z b (by omega) h4
/-- a new draft -/
theorem x8_first {N : Nat} (hN : 400 ≤ N) {τ : yS} : ∃ τ' : yS, f_X8_firstDraft N τ = some (0, τ') ∧ (∀ a b : Nat, ¬ (a = 5 ∧ b < 131) → ¬ (a = 7 ∧ b < 3) → ¬ (a = 0 ∧ ((8 ≤ b ∧ b ≤ 11) ∨ b = 14 ∨ b = 15)) → τ'.1 a b = τ.1 a b) ∧ (∀ b : Nat, b < 131 → τ'.1 5 b = 0) ∧ (∀ b : Nat, b < 3 → τ'.1 7 b = 0) ∧ τ'.1 0 8 = 3 ∧ τ'.1 0 9 = 0 ∧ τ'.1 0 10 = 0 ∧ τ'.1 0 11 = 0 ∧ τ'.1 0 14 = -4 ∧ τ'.1 0 15 = -4 := by
  obtain ⟨τ1, g1, w1, z1⟩ := x8_first2 (N := N) 131 (N - 132) 0 τ rfl
  obtain ⟨τ2, g2, w2, z2⟩ := x8_first24 (N := N) 3 (N - 4) 0 τ1 rfl
  rw [show N - 132 + 131 + 1 = N by omega] at g1
  rw [show N - 4 + 3 + 1 = N by omega] at g2
  refine ⟨_, g1.trans g2, fun a b h1 h2 h3 => ?_, fun b h => ?_, fun b h => ?_, ?_, ?_, ?_, ?_, ?_, yw_p⟩
  · rw [yw_n (by omega), yw_n (by omega), yw_n (by omega), yw_n (by omega), yw_n (by omega), yw_n (by omega), w2 a b (by omega), w1 a b (by omega)]
  · rw [yw_n (by omega), yw_n (by omega), yw_n (by omega), yw_n (by omega), yw_n (by omega), yw_n (by omega), w2 5 b (by omega)]; exact z1 b (by omega) h
  · rw [yw_n (by omega), yw_n (by omega), yw_n (by omega), yw_n (by omega), yw_n (by omega), yw_n (by omega)]; exact z2 b (by omega) h
  · rw [yw_n (by omega), yw_n (by omega), yw_n (by omega), yw_n (by omega), yw_n (by omega), yw_p]
  · rw [yw_n (by omega), yw_n (by omega), yw_n (by omega), yw_n (by omega), yw_p]
  · rw [yw_n (by omega), yw_n (by omega), yw_n (by omega), yw_p]
  · rw [yw_n (by omega), yw_n (by omega), yw_p]
  · rw [yw_n (by omega), yw_p]
theorem ybit0 : ∀ h : Nat, h < 7 → yan (ysr 0 (h : Int)) 1 = 0 := fun h hh => by
  have q : ∀ i : Fin 7, yan (ysr 0 ((i.val : Nat) : Int)) 1 = 0 := by decide +kernel
  exact q ⟨h, hh⟩
/-- both begin alike -/
theorem yRD_0 {σ τ : yS} {v : Nat} (hv : σ.2 38 11 = v) (ht : yTr σ) (a0 : σ.1 38 0 = 3 ∧ σ.1 38 1 = 0 ∧ σ.1 38 2 = 0 ∧ σ.1 38 6 = 0) (a1 : σ.1 v 0 = 0 ∧ σ.1 56 0 = 0 ∧ σ.1 38 14 = 0 ∧ σ.1 38 15 = 0 ∧ σ.1 38 16 = 0 ∧ σ.1 38 17 = 0) (a2 : ∀ a b : Nat, 40 ≤ a → a ≤ 44 → b < 7 → σ.1 a b = 0) (a3 : ∀ b : Nat, b < 35 → σ.1 45 b = 0) (a4 : ∀ b : Nat, 7 ≤ b → b ≤ 10 → σ.1 2 b = 0) (a5 : σ.1 2 11 = -1 ∧ σ.1 2 12 = -1) (b0 : ∀ b : Nat, b < 131 → τ.1 5 b = 0) (b1 : ∀ b : Nat, b < 3 → τ.1 7 b = 0) (b2 : τ.1 0 8 = 3 ∧ τ.1 0 9 = 0 ∧ τ.1 0 10 = 0 ∧ τ.1 0 11 = 0 ∧ τ.1 0 14 = -4 ∧ τ.1 0 15 = -4) : yRD σ τ := by
  obtain ⟨c0, c1, c2, c3, c4, c5⟩ := b2
  refine ⟨⟨?_, ?_, ?_, ?_, ?_, ?_, fun d hd => ?_⟩, ⟨fun i hi => ⟨?_, ?_, ?_, ?_, ?_, ?_⟩, fun j hj => ?_, ⟨?_, fun i hi => ?_⟩, ⟨?_, fun i hi => ?_⟩, ⟨?_, ?_, ?_, ?_⟩, ht⟩, ⟨?_, fun i hi => ?_, ?_, fun i hi => ?_, ?_, fun i hi => ?_⟩, ⟨fun j hj => ?_, fun i hi q => ?_, fun i hi q => ?_⟩, b0 127 (by decide), ⟨?_, ?_⟩, ⟨?_, ?_, ?_, ?_⟩, fun k hk => ?_, Or.inl ⟨a5.1, c4⟩, Or.inl ⟨a5.2, c5⟩⟩
  all_goals try dsimp only
  · rw [a0.1, c0]
  · rw [a0.2.1, c1]
  · rw [a0.2.2.1, c3]
  · rw [c0]; decide
  · rw [c1]; decide
  · rw [c3]; decide
  · rw [c3] at hd; omega
  · rw [a2 (38 + 2) i (by decide) (by decide) hi, b0 i (by omega)]
  · rw [a2 (38 + 3) i (by decide) (by decide) hi, b0 _ (by omega)]
  · rw [a0.2.2.2, ybit0 i hi, b0 _ (by omega)]
  · rw [a2 (38 + 4) i (by decide) (by decide) hi, b0 _ (by omega)]
  · rw [a2 (38 + 5) i (by decide) (by decide) hi, b0 _ (by omega)]
  · rw [a2 (38 + 6) i (by decide) (by decide) hi, b0 _ (by omega)]
  · rw [a3 j hj, b0 _ (by omega)]
  · rw [hv, a1.1, b0 77 (by decide)]
  · dsimp only at hi
    rw [b0 77 (by decide)] at hi; omega
  · rw [a1.2.1, b0 118 (by decide)]
  · dsimp only at hi
    rw [b0 118 (by decide)] at hi; omega
  · rw [a1.2.2.1, b0 127 (by decide)]
  · rw [a1.2.2.2.1, b0 128 (by decide)]
  · rw [a1.2.2.2.2.1, b0 129 (by decide)]
  · rw [a1.2.2.2.2.2, b0 130 (by decide)]
  · rw [a0.2.2.2]; decide
  · rw [b0 (7 + i) (by omega), b0 (14 + i) (by omega), b0 (21 + i) (by omega), b0 (28 + i) (by omega), b0 (35 + i) (by omega)]; decide
  · rw [b0 77 (by decide)]; decide
  · dsimp only at hi
    rw [b0 77 (by decide)] at hi; omega
  · rw [b0 118 (by decide)]; decide
  · dsimp only at hi
    rw [b0 118 (by decide)] at hi; omega
  · rw [b0 _ (by omega)]; decide
  · dsimp only at q
    exact absurd (b0 _ (by omega)) q
  · rw [b0 _ (by omega)]
  · rw [a4 7 (by decide) (by decide), c2]
  · rw [c2]; decide
  · rw [a4 8 (by decide) (by decide), b1 0 (by decide)]
  · rw [a4 9 (by decide) (by decide), b1 1 (by decide)]
  · rw [a4 10 (by decide) (by decide), b1 2 (by decide)]
  · rw [a0.2.2.2, a4 9 (by decide) (by decide)]
  · rw [b1 k hk]; decide
