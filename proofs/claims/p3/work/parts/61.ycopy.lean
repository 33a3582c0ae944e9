theorem ycp_s {τ : yS} {i0 i1 b a i : Nat} (h : i0 ≠ i1 ∨ a + 131 ≤ b ∨ b + 131 ≤ a) (hi : i < 131) : yw (ycp τ i0 i1 b a i) i1 (a + i) ((ycp τ i0 i1 b a i).1 i0 (b + i)) = ycp τ i0 i1 b a (i + 1) := by
  refine Prod.ext ?_ rfl
  funext x y
  rw [yw_1, ycp_1, ycp_1, ycp_1]
  have hs : ¬ (i0 = i1 ∧ a ≤ b + i ∧ b + i < a + i) := by omega
  rw [if_neg hs]
  by_cases h1 : y = a + i ∧ x = i1
  · have h2 : x = i1 ∧ a ≤ y ∧ y < a + (i + 1) := by omega
    rw [if_pos h1, if_pos h2, show b + (y - a) = b + i by omega]
  · rw [if_neg h1]
    by_cases h3 : x = i1 ∧ a ≤ y ∧ y < a + i
    · have h2 : x = i1 ∧ a ≤ y ∧ y < a + (i + 1) := by omega
      rw [if_pos h3, if_pos h2]
    · have h2 : ¬ (x = i1 ∧ a ≤ y ∧ y < a + (i + 1)) := by omega
      rw [if_neg h3, if_neg h2]
theorem ycp_0 {τ : yS} {i0 i1 b a : Nat} : ycp τ i0 i1 b a 0 = τ := by
  refine Prod.ext ?_ rfl
  funext x y
  rw [ycp_1]
  have h : ¬ (x = i1 ∧ a ≤ y ∧ y < a + 0) := by omega
  rw [if_neg h]
theorem x8_copies_l {N n : Nat} {τ : yS} {a b : Nat} (ha : a + 131 ≤ 393) (hb : b + 131 ≤ 393) (hab : a + 131 ≤ b ∨ b + 131 ≤ a) : ∀ j i : Nat, i + j = 131 → f_X8_copies_b2 N (n + j + 1) (ycp τ 1 1 b a i) (a : Int) (b : Int) (i : Int) = some (0, ycp τ 1 1 b a 131)
  | 0, i, h => by
    have : i = 131 := by omega
    subst this
    rw [q_X8_copies_b2]
    simp [ycP_ge]
  | j + 1, i, h => by
    have e1 : yad (b : Int) (i : Int) = (b : Int) + (i : Int) := yad_e (by omega) (by omega)
    have e2 : yad (a : Int) (i : Int) = (a : Int) + (i : Int) := yad_e (by omega) (by omega)
    have e3 : yad (i : Int) 1 = ((i + 1 : Nat) : Int) := by rw [yad_e (by omega) (by omega)]; omega
    have c1 : ((b : Int) + (i : Int)).toNat = b + i := by omega
    have c2 : ((a : Int) + (i : Int)).toNat = a + i := by omega
    rw [q_X8_copies_b2, e1, e2, e3, c1, c2, ycp_s (Or.inr hab) (show i < 131 by omega)]
    simp only [ycP_ge, yin_d]
    rw [decide_eq_false (show ¬ (131 : Int) ≤ (i : Int) by omega)]
    rw [decide_eq_true (show 0 ≤ (b : Int) + (i : Int) ∧ (b : Int) + (i : Int) < ((393 : Nat) : Int) by omega), decide_eq_true (show 0 ≤ (a : Int) + (i : Int) ∧ (a : Int) + (i : Int) < ((393 : Nat) : Int) by omega)]
    simp only [cond_false, cond_true]
    exact x8_copies_l (N := N) (n := n) ha hb hab j (i + 1) (by omega)
theorem x8_copies {N : Nat} (hN : 132 ≤ N) {τ : yS} {a b : Nat} (ha : a + 131 ≤ 393) (hb : b + 131 ≤ 393) (hab : a + 131 ≤ b ∨ b + 131 ≤ a) : f_X8_copies N τ (a : Int) (b : Int) = some (0, ycp τ 1 1 b a 131) := by
  have q := x8_copies_l (N := N) (n := N - 132) (τ := τ) ha hb hab 131 0 (by omega)
  rw [ycp_0, show N - 132 + 131 + 1 = N by omega] at q
  exact q
theorem x8_starts_l {N n : Nat} {τ : yS} : ∀ j i : Nat, i + j = 131 → f_X8_starts_b2 N (n + j + 1) (ycp τ 1 2 0 0 i) (i : Int) = some (0, ycp τ 1 2 0 0 131)
  | 0, i, h => by
    have : i = 131 := by omega
    subst this
    rw [q_X8_starts_b2]
    simp [ycP_ge]
  | j + 1, i, h => by
    have e3 : yad (i : Int) 1 = ((i + 1 : Nat) : Int) := by rw [yad_e (by omega) (by omega)]; omega
    have c1 : (i : Int).toNat = i := by omega
    have s := ycp_s (τ := τ) (i0 := 1) (i1 := 2) (b := 0) (a := 0) (Or.inl (by omega)) (show i < 131 by omega)
    rw [Nat.zero_add] at s
    rw [q_X8_starts_b2, e3, c1, s]
    simp only [ycP_ge, yin_d]
    rw [decide_eq_false (show ¬ (131 : Int) ≤ (i : Int) by omega)]
    rw [decide_eq_true (show 0 ≤ (i : Int) ∧ (i : Int) < ((393 : Nat) : Int) by omega), decide_eq_true (show 0 ≤ (i : Int) ∧ (i : Int) < ((131 : Nat) : Int) by omega)]
    simp only [cond_false, cond_true]
    exact x8_starts_l (N := N) (n := n) j (i + 1) (by omega)
theorem x8_starts {N : Nat} (hN : 132 ≤ N) {τ : yS} : f_X8_starts N τ = some (0, ycp τ 1 2 0 0 131) := by
  have q := x8_starts_l (N := N) (n := N - 132) (τ := τ) 131 0 (by omega)
  rw [ycp_0, show N - 132 + 131 + 1 = N by omega] at q
  exact q
