section
theorem yrmL_e {a b : Int} (h1 : 0 ≤ a) (h2 : a ≤ 9223372036854775807) (h3 : 0 < b) (h4 : b ≤ 9223372036854775807) : yrmL a b = a % b := by
  unfold yrmL
  have e1 := zq_ofL (z := a) (by omega) (by omega)
  have e2 := zq_ofL (z := b) (by omega) (by omega)
  rw [zrem_bL _ _ (by omega) (by omega), e1, e2]
theorem ydvL_e {a b : Int} (h1 : 0 ≤ a) (h2 : a ≤ 9223372036854775807) (h3 : 0 < b) (h4 : b ≤ 9223372036854775807) : ydvL a b = a / b := by
  unfold ydvL
  have e1 := zq_ofL (z := a) (by omega) (by omega)
  have e2 := zq_ofL (z := b) (by omega) (by omega)
  rw [zdiv_bL _ _ (by omega) (by omega), e1, e2]
theorem ymuL_e {a b : Int} (h1 : -9223372036854775808 ≤ a * b) (h2 : a * b ≤ 9223372036854775807) : ymuL a b = a * b := by
  unfold ymuL
  rw [← Int64.ofInt_mul, zq_ofL h1 h2]
theorem ygs (a b : Nat) : Nat.gcd a b = Nat.gcd b (a % b) := by
  rw [Nat.gcd_comm a b, Nat.gcd_rec b a, Nat.gcd_comm]
theorem yhalf {b r : Nat} (h0 : 0 < r) (h1 : r < b) : 2 * (b % r) < b := by
  have l := Nat.mod_lt b h0
  have d := Nat.div_add_mod b r
  have q : 1 ≤ b / r := (Nat.one_le_div_iff h0).2 (by omega)
  have m : r * 1 ≤ r * (b / r) := Nat.mul_le_mul_left r q
  omega
theorem yrmN {a b : Nat} (ha : a < 1000000000) (hb : b < 1000000000) (h : ¬ b = 0) : yrmL (a : Int) (b : Int) = ((a % b : Nat) : Int) := by
  rw [yrmL_e (by omega) (by omega) (by omega) (by omega)]
  omega
theorem x8_common_l {N : Nat} {τ : yS} : ∀ (n m a b : Nat), b < 2 ^ n → a < 1000000000 → b < 1000000000 → f_X8_common_b6 N (m + 2 * n + 1) τ a b = some (((Nat.gcd a b : Nat) : Int), τ)
  | 0, m, a, b, hb, _, _ => by
    have e : b = 0 := by omega
    subst e
    rw [q_X8_common_b6]
    simp [ycP_eq]
  | n + 1, m, a, b, hb, la, lb => by
    have stop : ∀ (k c : Nat), f_X8_common_b6 N (k + 1) τ c ((0 : Nat) : Int) = some ((c : Int), τ) := fun k c => by
      rw [q_X8_common_b6]
      simp [ycP_eq]
    by_cases h0 : b = 0
    · subst h0
      rw [stop, Nat.gcd_zero_right]
    · have z1 : ynz (b : Int) = true := by rw [ynz_d]; exact decide_eq_true (by omega)
      rw [show m + 2 * (n + 1) + 1 = (m + 2 * n + 1 + 1) + 1 by omega, q_X8_common_b6]
      simp only [ycP_eq, decide_eq_false (show ¬ (b : Int) = 0 by omega), cond_false, z1, cond_true, yrmN la lb h0]
      have l1 := Nat.mod_lt a (show 0 < b by omega)
      by_cases h1 : a % b = 0
      · rw [h1, stop, ygs, h1, Nat.gcd_zero_right]
      · have z2 : ynz ((a % b : Nat) : Int) = true := by rw [ynz_d]; exact decide_eq_true (by omega)
        rw [q_X8_common_b6]
        simp only [ycP_eq, decide_eq_false (show ¬ ((a % b : Nat) : Int) = 0 by omega), cond_false, z2, cond_true, yrmN lb (show a % b < 1000000000 by omega) h1]
        have hh := yhalf (show 0 < a % b by omega) l1
        have hp : (2 : Nat) ^ (n + 1) = 2 * 2 ^ n := by rw [Nat.pow_succ]; omega
        rw [x8_common_l n m (a % b) (b % (a % b)) (by omega) (by omega) (by omega), ygs a b, ygs b (a % b)]
theorem x7_part_l {N : Nat} {σ : yS} {x0 x2 x4 : Int} : ∀ (n m a b i : Nat), b < 2 ^ n → i + 2 * n ≤ 99 → a < 1000000000 → b < 1000000000 → f_X7_partOfFraction_b9 N (m + 2 * n + 1) σ x0 x2 x4 a b i = f_X7_partOfFraction_b44 N σ x0 x2 x4 ((Nat.gcd a b : Nat) : Int)
  | 0, m, a, b, i, hb, hi, _, _ => by
    have e : b = 0 := by omega
    subst e
    rw [q_X7_partOfFraction_b9]
    simp [ycP_eq, ycP_ge, show ¬ (100 : Int) ≤ (i : Int) by omega]
  | n + 1, m, a, b, i, hb, hi, la, lb => by
    have stop : ∀ (k c j : Nat), f_X7_partOfFraction_b9 N (k + 1) σ x0 x2 x4 c ((0 : Nat) : Int) j = f_X7_partOfFraction_b44 N σ x0 x2 x4 (c : Int) := fun k c j => by
      rw [q_X7_partOfFraction_b9]
      by_cases q : (100 : Int) ≤ (j : Int)
      · simp [ycP_ge, q]
      · simp [ycP_eq, ycP_ge, q]
    have e1 : yad (i : Int) 1 = ((i + 1 : Nat) : Int) := by rw [yad_e (by omega) (by omega)]; omega
    have e2 : yad ((i + 1 : Nat) : Int) 1 = ((i + 2 : Nat) : Int) := by rw [yad_e (by omega) (by omega)]; omega
    by_cases h0 : b = 0
    · subst h0
      rw [stop, Nat.gcd_zero_right]
    · have z1 : ynz (b : Int) = true := by rw [ynz_d]; exact decide_eq_true (by omega)
      rw [show m + 2 * (n + 1) + 1 = (m + 2 * n + 1 + 1) + 1 by omega, q_X7_partOfFraction_b9]
      simp only [ycP_eq, ycP_ge, decide_eq_false (show ¬ (100 : Int) ≤ (i : Int) by omega), decide_eq_false (show ¬ (b : Int) = 0 by omega), cond_false, z1, cond_true, yrmN la lb h0, e1]
      have l1 := Nat.mod_lt a (show 0 < b by omega)
      by_cases h1 : a % b = 0
      · rw [h1, stop, ygs, h1, Nat.gcd_zero_right]
      · have z2 : ynz ((a % b : Nat) : Int) = true := by rw [ynz_d]; exact decide_eq_true (by omega)
        rw [q_X7_partOfFraction_b9]
        simp only [ycP_eq, ycP_ge, decide_eq_false (show ¬ (100 : Int) ≤ ((i + 1 : Nat) : Int) by omega), decide_eq_false (show ¬ ((a % b : Nat) : Int) = 0 by omega), cond_false, z2, cond_true, yrmN lb (show a % b < 1000000000 by omega) h1, e2]
        have hh := yhalf (show 0 < a % b by omega) l1
        have hp : (2 : Nat) ^ (n + 1) = 2 * 2 ^ n := by rw [Nat.pow_succ]; omega
        rw [x7_part_l n m (a % b) (b % (a % b)) (i + 2) (by omega) (by omega) (by omega) (by omega), ygs a b, ygs b (a % b)]
theorem p_frac {N : Nat} (hN : 1000 ≤ N) {σ τ : yS} {p w : Nat} {x : Int} (h0 : 0 < w) (hw : w < 2 ^ 25) (hp : p < 2 ^ 25) : ∃ a : Int, f_X7_partOfFraction N σ p w x = some (a, σ) ∧ f_X8_told N τ p w x = some (a, τ) := by
  have c7 := x7_part_l (N := N) (σ := σ) (x0 := (p : Int)) (x2 := (w : Int)) (x4 := x) 25 (N - 51) p w 0 hw (by omega) (by omega) (by omega)
  have c8 := x8_common_l (N := N) (τ := τ) 25 (N - 51) w p hp (by omega) (by omega)
  rw [show N - 51 + 2 * 25 + 1 = N by omega] at c7 c8
  rw [show ((0 : Nat) : Int) = 0 from rfl] at c7
  have gp : 0 < Nat.gcd p w := Nat.gcd_pos_of_pos_right p h0
  have gl : Nat.gcd p w ≤ w := Nat.gcd_le_right p h0
  have gc : Nat.gcd w p = Nat.gcd p w := Nat.gcd_comm w p
  rw [gc] at c8
  generalize Nat.gcd p w = g at c7 c8 gp gl
  have z : ynz (g : Int) = true := by rw [ynz_d]; exact decide_eq_true (by omega)
  have d7 : f_X7_partOfFraction N σ p w x = f_X7_partOfFraction_b44 N σ p w x (g : Int) := c7
  have d8 : f_X8_common N τ w p = some ((g : Int), τ) := c8
  by_cases hx : x = 0
  · refine ⟨ydvL (p : Int) (g : Int), ?_, ?_⟩
    · rw [d7]
      simp [f_X7_partOfFraction_b44, f_X7_partOfFraction_b54, f_X7_partOfFraction_b73, ycP_ne, ycP_le, hx, z, show ¬ g = 0 by omega]
    · simp [f_X8_told, f_X8_told_b23, d8, ycP_ne, hx, z]
  · refine ⟨ydvL (w : Int) (g : Int), ?_, ?_⟩
    · rw [d7]
      simp [f_X7_partOfFraction_b44, f_X7_partOfFraction_b54, f_X7_partOfFraction_b73, ycP_ne, ycP_le, hx, z, show ¬ g = 0 by omega]
    · simp [f_X8_told, f_X8_told_b23, d8, ycP_ne, hx, z]
/-- one fall of a habit -/
theorem p_times_t {N : Nat} {σ τ : yS} {x h : Nat} {k : Int} (HR : yRR σ τ) (hx : (x : Int) < τ.1 0 3) (hk1 : σ.1 21 x = k) (hk2 : τ.1 1 (21 + x) = k) (i n : Nat) (hi : i < 2) (hn : n ≤ 2) (hf : (i : Int) < (if k = 3 then 2 else 1)) : ∃ e : Nat, e ≤ 1 ∧ (∀ m : Nat, f_X4_habitFalls_b38 N (m + 1) σ 17 x h n i = f_X4_habitFalls_b38 N m σ 17 x h ((n + e : Nat) : Int) ((i + 1 : Nat) : Int)) ∧ (∀ m : Nat, f_X8_timesOf_b5 N (m + 1) τ x h n i = f_X8_timesOf_b5 N m τ x h ((n + e : Nat) : Int) ((i + 1 : Nat) : Int)) := by
  have R := HR.1.2.2.1
  have b0 := HR.1.2.2.1.2.2.2.1
  obtain ⟨s, s7, s8, hs⟩ := p_step (N := N) (σ := σ) (τ := τ) (k := k) (i := (i : Int))
  obtain ⟨a, b, a7, a8, hab⟩ := p_where (N := N) R (h := (x : Int)) (by omega) hs
  have i1 : yin (x : Int) 7 = true := by rw [yin_d]; exact decide_eq_true (by omega)
  have m1 : yad 21 (x : Int) = ((21 + x : Nat) : Int) := by rw [yad_e (by omega) (by omega)]; omega
  have i2 : yin ((21 + x : Nat) : Int) 393 = true := by rw [yin_d]; exact decide_eq_true (by omega)
  have ei : yad (i : Int) 1 = ((i + 1 : Nat) : Int) := by rw [yad_e (by omega) (by omega)]; omega
  have hg : decide ((if k = 3 then 2 else 1) ≤ (i : Int)) = false := decide_eq_false (by omega)
  have hab2 : (a = (h : Int)) ↔ (b = (h : Int)) := by omega
  by_cases e : a = (h : Int)
  · have e2 := hab2.1 e
    have en : yad (n : Int) 1 = ((n + 1 : Nat) : Int) := by rw [yad_e (by omega) (by omega)]; omega
    refine ⟨1, by omega, fun m => ?_, fun m => ?_⟩
    · rw [q_X4_habitFalls_b38]
      simp only [i1, cond_true, Int.toNat_natCast, hk1, x4_fallsOf, ycP_ge, ycP_ne, hg, cond_false, s7, a7, e, not_true_eq_false, decide_false, f_X4_habitFalls_b78, en, ei]
    · rw [q_X8_timesOf_b5]
      simp only [m1, i2, cond_true, Int.toNat_natCast, hk2, x8_fallsOf, ycP_ge, ycP_ne, hg, cond_false, s8, a8, e2, not_true_eq_false, decide_false, f_X8_timesOf_b51, x8_flag (show (0 : Int) ≤ 1 ∧ (1 : Int) ≤ 1 by omega), en, ei]
  · have e2 : ¬ b = (h : Int) := fun q => e (hab2.2 q)
    have en : yad (n : Int) 0 = ((n + 0 : Nat) : Int) := by rw [yad_e (by omega) (by omega)]; omega
    refine ⟨0, by omega, fun m => ?_, fun m => ?_⟩
    · rw [q_X4_habitFalls_b38]
      simp only [i1, cond_true, Int.toNat_natCast, hk1, x4_fallsOf, ycP_ge, ycP_ne, hg, cond_false, s7, a7, e, not_false_eq_true, decide_true, f_X4_habitFalls_b78, en, ei]
    · rw [q_X8_timesOf_b5]
      simp only [m1, i2, cond_true, Int.toNat_natCast, hk2, x8_fallsOf, ycP_ge, ycP_ne, hg, cond_false, s8, a8, e2, not_false_eq_true, decide_true, f_X8_timesOf_b51, x8_flag (show (0 : Int) ≤ 0 ∧ (0 : Int) ≤ 1 by omega), en, ei]
/-- how often a vow by habit is to be done in a house -/
theorem p_times {N : Nat} (hN : 10 ≤ N) {σ τ : yS} {x h : Nat} (HR : yRR σ τ) (hx : (x : Int) < τ.1 0 3) (hh : (h : Int) < τ.1 0 3) : ∃ n : Nat, n ≤ 2 ∧ (¬ n = 0 → ¬ τ.1 1 (35 + x) = 0) ∧ f_X4_habitFalls N σ 17 x h = some ((n : Int), σ) ∧ f_X8_timesOf N τ x h = some ((n : Int), τ) := by
  obtain ⟨e0, e1, e2, b0, b1, b2, hc⟩ := HR.1.2.2.1
  obtain ⟨M, hM⟩ : ∃ M, N = M + 3 := ⟨N - 3, by omega⟩
  obtain ⟨-, -, -, q3, q4, q5⟩ := HR.1.2.2.2.1.1 x (by omega)
  have q3 : σ.1 21 x = τ.1 1 (21 + x) := q3
  have q5 : σ.1 23 x = τ.1 1 (35 + x) := q5
  have ql : yan (ysr (σ.1 17 6) (h : Int)) 1 = τ.1 1 (14 + h) := (HR.1.2.2.2.1.1 h (by omega)).2.2.1
  obtain ⟨k, hk⟩ : ∃ k : Int, τ.1 1 (21 + x) = k := ⟨_, rfl⟩
  rw [hk] at q3
  have i1 : yin (x : Int) 7 = true := by rw [yin_d]; exact decide_eq_true (by omega)
  have m1 : yad 21 (x : Int) = ((21 + x : Nat) : Int) := by rw [yad_e (by omega) (by omega)]; omega
  have m2 : yad 14 (h : Int) = ((14 + h : Nat) : Int) := by rw [yad_e (by omega) (by omega)]; omega
  have m3 : yad 35 (x : Int) = ((35 + x : Nat) : Int) := by rw [yad_e (by omega) (by omega)]; omega
  have i2 : yin ((21 + x : Nat) : Int) 393 = true := by rw [yin_d]; exact decide_eq_true (by omega)
  have i3 : yin ((14 + h : Nat) : Int) 393 = true := by rw [yin_d]; exact decide_eq_true (by omega)
  have i4 : yin ((35 + x : Nat) : Int) 393 = true := by rw [yin_d]; exact decide_eq_true (by omega)
  have run : ∃ n : Nat, n ≤ 2 ∧ f_X4_habitFalls_b38 N N σ 17 x h 0 0 = some ((n : Int), σ) ∧ f_X8_timesOf N τ x h = some (if k = 4 ∨ τ.1 1 (14 + h) = 1 ∨ τ.1 1 (35 + x) = 0 then 0 else (n : Int), τ) := by
    have fin7 : ∀ (m n i : Nat), (if k = 3 then 2 else 1) ≤ (i : Int) → f_X4_habitFalls_b38 N (m + 1) σ 17 x h n i = some ((n : Int), σ) := fun m n i q => by
      rw [q_X4_habitFalls_b38]
      simp only [i1, cond_true, Int.toNat_natCast, q3, x4_fallsOf, ycP_ge, decide_eq_true q]
    have fin8 : ∀ (m n i : Nat), (if k = 3 then 2 else 1) ≤ (i : Int) → f_X8_timesOf_b5 N (m + 1) τ x h n i = some (if k = 4 ∨ τ.1 1 (14 + h) = 1 ∨ τ.1 1 (35 + x) = 0 then 0 else (n : Int), τ) := fun m n i q => by
      rw [q_X8_timesOf_b5]
      simp only [m1, m2, m3, i2, i3, i4, cond_true, Int.toNat_natCast, hk, x8_fallsOf, ycP_ge, ycP_eq, ycP_ne, decide_eq_true q, f_X8_timesOf_b100, f_X8_timesOf_b105]
      by_cases z1 : k = 4
      · simp [z1]
      · by_cases z2 : τ.1 1 (14 + h) = 1
        · simp [z1, z2]
        · by_cases z3 : τ.1 1 (35 + x) = 0
          · simp [z1, z2, z3]
          · simp [z1, z2, z3]
    obtain ⟨a, ha, a7, a8⟩ := p_times_t (N := N) (h := h) HR hx q3 hk 0 0 (by omega) (by omega) (by split <;> simp)
    by_cases h3 : k = 3
    · obtain ⟨b, hb, c7, c8⟩ := p_times_t (N := N) (h := h) HR hx q3 hk 1 (0 + a) (by omega) (by omega) (by rw [if_pos h3]; simp)
      refine ⟨0 + a + b, by omega, ?_, ?_⟩
      · have q := a7 (M + 2)
        rw [show M + 2 + 1 = N by omega] at q
        exact q.trans ((c7 (M + 1)).trans (fin7 M _ _ (by rw [if_pos h3]; simp)))
      · have q := a8 (M + 2)
        rw [show M + 2 + 1 = N by omega] at q
        exact q.trans ((c8 (M + 1)).trans (fin8 M _ _ (by rw [if_pos h3]; simp)))
    · refine ⟨0 + a, by omega, ?_, ?_⟩
      · have q := a7 (M + 2)
        rw [show M + 2 + 1 = N by omega] at q
        exact q.trans (fin7 (M + 1) _ _ (by rw [if_neg h3]; simp))
      · have q := a8 (M + 2)
        rw [show M + 2 + 1 = N by omega] at q
        exact q.trans (fin8 (M + 1) _ _ (by rw [if_neg h3]; simp))
  obtain ⟨n, hn, r7, r8⟩ := run
  by_cases z3 : τ.1 1 (35 + x) = 0
  · refine ⟨0, by omega, fun q => absurd rfl q, ?_, ?_⟩
    · simp [f_X4_habitFalls, f_X4_habitFalls_b31, i1, ycP_eq, q5, z3]
    · rw [r8, if_pos (Or.inr (Or.inr z3))]
      rfl
  · by_cases z1 : k = 4
    · refine ⟨0, by omega, fun q => absurd rfl q, ?_, ?_⟩
      · simp [f_X4_habitFalls, f_X4_habitFalls_b31, i1, ycP_eq, q5, q3, z1, z3]
      · rw [r8, if_pos (Or.inl z1)]
        rfl
    · by_cases z2 : τ.1 1 (14 + h) = 1
      · refine ⟨0, by omega, fun q => absurd rfl q, ?_, ?_⟩
        · simp [f_X4_habitFalls, f_X4_habitFalls_b31, i1, ycP_eq, ycP_ne, f_X7_bit, ql, q5, q3, z1, z2, z3]
        · rw [r8, if_pos (Or.inr (Or.inl z2))]
          rfl
      · refine ⟨n, hn, fun _ => z3, ?_, ?_⟩
        · simp [f_X4_habitFalls, i1, ycP_eq, ycP_ne, f_X7_bit, ql, q5, q3, z1, z2, z3, r7]
        · rw [r8, if_neg (by intro q; rcases q with q | q | q; exact z1 q; exact z2 q; exact z3 q)]
end
section
theorem ymuN {a b : Nat} (h : a * b ≤ 2147483647) : ymu (a : Int) (b : Int) = ((a * b : Nat) : Int) := by
  have e : ((a * b : Nat) : Int) = (a : Int) * (b : Int) := by simp
  rw [ymu_e (by omega) (by omega), e]
theorem ymuLN {a b : Nat} (h : a * b ≤ 2147483647) : ymuL (a : Int) (b : Int) = ((a * b : Nat) : Int) := by
  have e : ((a * b : Nat) : Int) = (a : Int) * (b : Int) := by simp
  rw [ymuL_e (by omega) (by omega), e]
theorem yadLN {a b : Nat} (h : a + b ≤ 2147483647) : yadL (a : Int) (b : Int) = ((a + b : Nat) : Int) := by
  rw [yadL_e (by omega) (by omega)]
  omega
noncomputable def ytm (N : Nat) (τ : yS) (h x : Nat) : Nat := (((f_X8_timesOf N τ x h).getD (0, τ)).1).toNat
noncomputable def yco (τ : yS) (x : Nat) : Nat := (τ.1 4 (τ.1 1 (28 + x)).toNat).toNat
noncomputable def yod (τ : yS) (x : Nat) : Nat := (τ.1 1 (35 + x)).toNat
theorem p_tm {N : Nat} (hN : 10 ≤ N) {σ τ : yS} {x h : Nat} (HR : yRR σ τ) (hx : (x : Int) < τ.1 0 3) (hh : (h : Int) < τ.1 0 3) : ytm N τ h x ≤ 2 ∧ f_X4_habitFalls N σ 17 x h = some ((ytm N τ h x : Int), σ) ∧ f_X8_timesOf N τ x h = some ((ytm N τ h x : Int), τ) ∧ (¬ ytm N τ h x = 0 → (σ.1 18 (τ.1 1 (28 + x)).toNat = (yco τ x : Int) ∧ τ.1 4 (τ.1 1 (28 + x)).toNat = (yco τ x : Int) ∧ yco τ x ≤ 9)) := by
  have b0 := HR.1.2.2.1.2.2.2.1
  obtain ⟨n, hn, ho, g7, g8⟩ := p_times (N := N) hN HR hx hh
  have e : ytm N τ h x = n := by
    unfold ytm
    rw [g8]
    show ((n : Int)).toNat = n
    omega
  rw [e]
  refine ⟨hn, g7, g8, fun z => ?_⟩
  have lt : τ.1 1 (28 + x) < τ.1 0 5 := HR.2.1.2.1 x (by omega) (ho z)
  have w4 : 0 ≤ τ.1 1 (28 + x) ∧ τ.1 1 (28 + x) ≤ 4 := (HR.1.2.2.2.2.2.1 x (by omega)).2.2.2.1
  have c := HR.1.2.2.1.2.2.2.2.2.2 (τ.1 1 (28 + x)).toNat (by omega)
  unfold yco
  have c1 : σ.1 18 (τ.1 1 (28 + x)).toNat = τ.1 4 (τ.1 1 (28 + x)).toNat := c.1
  refine ⟨?_, ?_, ?_⟩
  · rw [c1]; omega
  · omega
  · omega
theorem p_mean_l {N : Nat} (hN : 1000 ≤ N) {σ τ : yS} {H h : Nat} {w : Int} (HR : yRR σ τ) (hH : τ.1 0 3 = (H : Int)) (hh : h < H) : ∀ (c m q x A : Nat), x + c = H → A ≤ 180 * x → ∃ a : Int, f_X7_mean_b29 N (m + c + 1) σ h w A x = some (a, σ) ∧ f_X8_mean_b27 N (q + c + 1) τ h w A x = some (a, τ)
  | 0, m, q, x, A, hx, hA => by
    have b0 := HR.1.2.2.1.2.2.2.1
    have e0 := HR.1.2.2.1.1
    obtain ⟨a, g7, g8⟩ := p_frac (N := N) hN (σ := σ) (τ := τ) (p := A) (w := 10) (x := w) (by omega) (by omega) (by omega)
    have g7 : f_X7_partOfFraction N σ A 10 w = some (a, σ) := g7
    have g8 : f_X8_told N τ A 10 w = some (a, τ) := g8
    refine ⟨a, ?_, ?_⟩
    · rw [q_X7_mean_b29, e0, hH]
      simp only [ycP_ge, decide_eq_true (show (H : Int) ≤ (x : Int) by omega), cond_true, g7]
    · rw [q_X8_mean_b27, hH]
      simp only [ycP_ge, decide_eq_true (show (H : Int) ≤ (x : Int) by omega), cond_true, g8]
  | c + 1, m, q, x, A, hx, hA => by
    have b0 := HR.1.2.2.1.2.2.2.1
    have e0 := HR.1.2.2.1.1
    have ex : yad (x : Int) 1 = ((x + 1 : Nat) : Int) := by rw [yad_e (by omega) (by omega)]; omega
    obtain ⟨tn, t7, t8, tc⟩ := p_tm (N := N) (by omega) (x := x) (h := h) HR (by omega) (by omega)
    obtain ⟨-, -, -, -, q4, q5⟩ := HR.1.2.2.2.1.1 x (by omega)
    have q4 : σ.1 (17 + 5) x = τ.1 1 (28 + x) := q4
    have q5 : σ.1 23 x = τ.1 1 (35 + x) := q5
    have w4 : 0 ≤ τ.1 1 (28 + x) ∧ τ.1 1 (28 + x) ≤ 4 := (HR.1.2.2.2.2.2.1 x (by omega)).2.2.2.1
    have w5 : 0 ≤ τ.1 1 (35 + x) ∧ τ.1 1 (35 + x) ≤ 10 := (HR.1.2.2.2.2.2.1 x (by omega)).2.2.2.2
    obtain ⟨o, ho⟩ : ∃ o : Nat, τ.1 1 (35 + x) = (o : Int) := ⟨(τ.1 1 (35 + x)).toNat, by omega⟩
    have i1 : yin (x : Int) 7 = true := by rw [yin_d]; exact decide_eq_true (by omega)
    have i2 : yin (τ.1 1 (28 + x)) 5 = true := by rw [yin_d]; exact decide_eq_true (by omega)
    have m1 : yad 28 (x : Int) = ((28 + x : Nat) : Int) := by rw [yad_e (by omega) (by omega)]; omega
    have m2 : yad 35 (x : Int) = ((35 + x : Nat) : Int) := by rw [yad_e (by omega) (by omega)]; omega
    have i3 : yin ((28 + x : Nat) : Int) 393 = true := by rw [yin_d]; exact decide_eq_true (by omega)
    have i4 : yin ((35 + x : Nat) : Int) 393 = true := by rw [yin_d]; exact decide_eq_true (by omega)
    have fx : decide ((H : Int) ≤ (x : Int)) = false := decide_eq_false (by omega)
    generalize ytm N τ h x = n at tn t7 t8 tc
    by_cases hn : n = 0
    · subst hn
      have z1 : ymu ((0 : Nat) : Int) (σ.1 (17 + 1) (τ.1 1 (28 + x)).toNat) = ((0 : Nat) : Int) := by
        show ymu 0 _ = 0
        rw [ymu_e (by omega) (by omega), Int.zero_mul]
      have z2 : ymu (o : Int) ((0 : Nat) : Int) = ((0 : Nat) : Int) := by rw [ymuN (by omega), Nat.mul_zero]
      have z3 : yadL (A : Int) ((0 : Nat) : Int) = (A : Int) := by rw [yadLN (by omega), Nat.add_zero]
      obtain ⟨a, i7, i8⟩ := p_mean_l hN (w := w) HR hH hh c m q (x + 1) A (by omega) (by omega)
      refine ⟨a, ?_, ?_⟩
      · rw [show m + (c + 1) + 1 = (m + c + 1) + 1 by omega, q_X7_mean_b29, e0, hH]
        simp only [ycP_ge, fx, cond_false, i1, cond_true, f_X4_habitCost, t7, Int.toNat_natCast, q4, i2, z1, q5, ho, z2, z3, ex, i7]
      · rw [show q + (c + 1) + 1 = (q + c + 1) + 1 by omega, q_X8_mean_b27, hH]
        have z3 : yadL (A : Int) 0 = (A : Int) := z3
        simp only [ycP_ge, ycP_ne, fx, cond_false, t8, show decide (¬ ((0 : Nat) : Int) = 0) = false from rfl, f_X8_mean_b87, z3, ex, i8]
    · obtain ⟨c7, c8, c9⟩ := tc hn
      generalize yco τ x = cc at c7 c8 c9
      have c7 : σ.1 (17 + 1) (τ.1 1 (28 + x)).toNat = (cc : Int) := c7
      have l1 : n * cc ≤ 2 * 9 := Nat.mul_le_mul tn c9
      have l2 : o * (n * cc) ≤ 10 * 18 := Nat.mul_le_mul (by omega) l1
      have l3 : n * o ≤ 2 * 10 := Nat.mul_le_mul tn (by omega)
      have e4 : n * o * cc = o * (n * cc) := by rw [Nat.mul_comm n o, Nat.mul_assoc]
      have z1 := ymuN (a := n) (b := cc) (by omega)
      have z2 := ymuN (a := o) (b := n * cc) (by omega)
      have z3 := ymuLN (a := n) (b := o) (by omega)
      have z4 := ymuLN (a := n * o) (b := cc) (by omega)
      have z5 := yadLN (a := A) (b := o * (n * cc)) (by omega)
      rw [e4] at z4
      obtain ⟨a, i7, i8⟩ := p_mean_l hN (w := w) HR hH hh c m q (x + 1) (A + o * (n * cc)) (by omega) (by omega)
      refine ⟨a, ?_, ?_⟩
      · rw [show m + (c + 1) + 1 = (m + c + 1) + 1 by omega, q_X7_mean_b29, e0, hH]
        simp only [ycP_ge, fx, cond_false, i1, cond_true, f_X4_habitCost, t7, Int.toNat_natCast, q4, i2, c7, z1, q5, ho, z2, z5, ex, i7]
      · rw [show q + (c + 1) + 1 = (q + c + 1) + 1 by omega, q_X8_mean_b27, hH]
        simp only [ycP_ge, ycP_ne, fx, cond_false, cond_true, t8, decide_eq_true (show ¬ (n : Int) = 0 by omega), m1, m2, i3, i4, Int.toNat_natCast, i2, ho, c8, z3, z4, f_X8_mean_b87, z5, ex, i8]
theorem P_mean {N : Nat} (hN : 1000 ≤ N) {σ τ : yS} {h w : Int} (HR : yRR σ τ) : ∃ (a : Int) (σ' τ' : yS), f_X7_mean N σ h w = some (a, σ') ∧ f_X8_mean N τ h w = some (a, τ') ∧ yRR σ' τ' := by
  obtain ⟨e0, e1, e2, b0, b1, b2, hc⟩ := HR.1.2.2.1
  simp only [f_X7_mean, f_X7_mean_b20, f_X8_mean, f_X8_mean_b18, x4_isHouse (show 2 ≤ σ.1 17 0 ∧ σ.1 17 0 ≤ 7 by rw [e0]; exact b0), x8_isHouse b0, x7_within, x8_in, ycP_ne, ycP_eq, e0]
  by_cases hh : 0 ≤ h ∧ h < τ.1 0 3
  · by_cases hw : 0 ≤ w ∧ w ≤ 1
    · obtain ⟨H, hH⟩ : ∃ m : Nat, τ.1 0 3 = (m : Int) := ⟨(τ.1 0 3).toNat, by omega⟩
      obtain ⟨h, rfl⟩ : ∃ m : Nat, h = (m : Int) := ⟨h.toNat, by omega⟩
      obtain ⟨a, g7, g8⟩ := p_mean_l (N := N) hN (h := h) (w := w) HR hH (by omega) H (N - H - 1) (N - H - 1) 0 0 (by omega) (by omega)
      rw [show N - H - 1 + H + 1 = N by omega, show ((0 : Nat) : Int) = 0 from rfl] at g7 g8
      exact ⟨a, σ, τ, by simp [hh, hw, g7], by simp [hh, hw, g8], HR⟩
    · exact ⟨-1, σ, τ, by simp [hh, hw], by simp [hh, hw], HR⟩
  · exact ⟨-1, σ, τ, by simp [hh], by simp [hh], HR⟩
end
section
theorem ytb : ∀ s : Fin 128, ∀ x : Fin 7, yan (ysr ((s.val : Nat) : Int) ((x.val : Nat) : Int)) 1 = if s.val.testBit x.val then 1 else 0 := by decide +kernel
noncomputable def yWt (τ : yS) (s : Nat) : Nat → Nat
  | 0 => 1
  | x + 1 => yWt τ s x * (if s.testBit x then yod τ x else 10 - yod τ x)
noncomputable def yDr (N : Nat) (τ : yS) (h s : Nat) : Nat → Nat
  | 0 => 0
  | x + 1 => yDr N τ h s x + (if s.testBit x then (if ytm N τ h x = 0 then 0 else ytm N τ h x * yco τ x) else 0)
def yIs (N : Nat) (τ : yS) (h s : Nat) : Nat → Prop
  | 0 => True
  | x + 1 => yIs N τ h s x ∧ (s.testBit x = true → ¬ ytm N τ h x = 0 → yan (ysr (τ.1 1 (7 + h)) (τ.1 1 (28 + x))) 1 = 1)
theorem yIs_m {N : Nat} {τ : yS} {h s : Nat} (x : Nat) (q : ¬ yIs N τ h s x) : ∀ c : Nat, ¬ yIs N τ h s (x + c)
  | 0 => q
  | c + 1 => fun z => yIs_m x q c z.1
theorem yWt_b {τ : yS} {s : Nat} (ho : ∀ x : Nat, x < 7 → yod τ x ≤ 10) : ∀ x : Nat, x ≤ 7 → yWt τ s x ≤ 10 ^ x
  | 0, _ => by simp [yWt]
  | x + 1, hx => by
    have h1 := yWt_b (s := s) ho x (by omega)
    have h2 := ho x (by omega)
    rw [yWt, Nat.pow_succ]
    refine Nat.mul_le_mul h1 ?_
    split <;> omega
noncomputable def ySm (f : Nat → Nat) : Nat → Nat
  | 0 => 0
  | n + 1 => ySm f n + f n
theorem ySm_add (f : Nat → Nat) (a : Nat) : ∀ b : Nat, ySm f (a + b) = ySm f a + ySm (fun i => f (a + i)) b
  | 0 => by simp [ySm]
  | b + 1 => by
    rw [show a + (b + 1) = (a + b) + 1 by omega, ySm, ySm, ySm_add f a b]
    omega
theorem ySm_mul (f : Nat → Nat) (c : Nat) : ∀ n : Nat, ySm (fun i => f i * c) n = ySm f n * c
  | 0 => by simp [ySm]
  | n + 1 => by rw [ySm, ySm, ySm_mul f c n, Nat.add_mul]
theorem ySm_congr {f g : Nat → Nat} : ∀ n : Nat, (∀ i : Nat, i < n → f i = g i) → ySm f n = ySm g n
  | 0, _ => rfl
  | n + 1, h => by rw [ySm, ySm, ySm_congr n (fun i hi => h i (by omega)), h n (by omega)]
theorem yWt_low {τ : yS} {x s : Nat} : ∀ y : Nat, y ≤ x → yWt τ (2 ^ x + s) y = yWt τ s y
  | 0, _ => rfl
  | y + 1, h => by rw [yWt, yWt, yWt_low y (by omega), Nat.testBit_two_pow_add_gt (by omega)]
/-- all weights together -/
theorem yWt_all {τ : yS} (ho : ∀ x : Nat, x < 7 → yod τ x ≤ 10) : ∀ x : Nat, x ≤ 7 → ySm (fun s => yWt τ s x) (2 ^ x) = 10 ^ x
  | 0, _ => rfl
  | x + 1, hx => by
    have ih := yWt_all ho x (by omega)
    have o := ho x (by omega)
    rw [show (2 : Nat) ^ (x + 1) = 2 ^ x + 2 ^ x by rw [Nat.pow_succ]; omega, ySm_add]
    have a : ySm (fun s => yWt τ s (x + 1)) (2 ^ x) = ySm (fun s => yWt τ s x * (10 - yod τ x)) (2 ^ x) := ySm_congr _ (fun i hi => by
      try dsimp only
      rw [yWt, Nat.testBit_lt_two_pow hi]
      rfl)
    have b : ySm (fun i => (fun s => yWt τ s (x + 1)) (2 ^ x + i)) (2 ^ x) = ySm (fun s => yWt τ s x * yod τ x) (2 ^ x) := ySm_congr _ (fun i hi => by
      try dsimp only
      rw [yWt, Nat.testBit_two_pow_add_eq, Nat.testBit_lt_two_pow hi, yWt_low x (Nat.le_refl x)]
      rfl)
    rw [a, b, ySm_mul, ySm_mul, ih, ← Nat.mul_add, Nat.pow_succ]
    congr 1
    omega
theorem x4_wt_l {N : Nat} {σ τ : yS} {H s : Nat} (HR : yRR σ τ) (hH : τ.1 0 3 = (H : Int)) (hs : s < 128) (ho : ∀ x : Nat, x < 7 → yod τ x ≤ 10) : ∀ (c m x : Nat), x + c = H → f_X4_habitWeight_b5 N (m + c + 1) σ 17 s (yWt τ s x) x = some ((yWt τ s H : Int), σ)
  | 0, m, x, hx => by
    have e0 := HR.1.2.2.1.1
    have e : x = H := by omega
    subst e
    rw [q_X4_habitWeight_b5, e0, hH]
    simp [ycP_ge]
  | c + 1, m, x, hx => by
    have b0 := HR.1.2.2.1.2.2.2.1
    have e0 := HR.1.2.2.1.1
    have ex : yad (x : Int) 1 = ((x + 1 : Nat) : Int) := by rw [yad_e (by omega) (by omega)]; omega
    have q5 : σ.1 (17 + 6) x = τ.1 1 (35 + x) := (HR.1.2.2.2.1.1 x (by omega)).2.2.2.2.2
    have w5 : 0 ≤ τ.1 1 (35 + x) ∧ τ.1 1 (35 + x) ≤ 10 := (HR.1.2.2.2.2.2.1 x (by omega)).2.2.2.2
    have eo : τ.1 1 (35 + x) = (yod τ x : Int) := by unfold yod; omega
    have o := ho x (by omega)
    have i1 : yin (x : Int) 7 = true := by rw [yin_d]; exact decide_eq_true (by omega)
    have tb := ytb ⟨s, hs⟩ ⟨x, by omega⟩
    dsimp only at tb
    have wb := yWt_b (s := s) ho x (by omega)
    have p7 : (10 : Nat) ^ x ≤ 10 ^ 7 := Nat.pow_le_pow_right (by omega) (by omega)
    have es : ysu 10 (yod τ x : Int) = ((10 - yod τ x : Nat) : Int) := by rw [ysu_e (by omega) (by omega)]; omega
    have ih := x4_wt_l (N := N) HR hH hs ho c m (x + 1) (by omega)
    have p1 : yWt τ s x * yod τ x ≤ 10 ^ 7 * 10 := Nat.mul_le_mul (by omega) o
    have p2 : yWt τ s x * (10 - yod τ x) ≤ 10 ^ 7 * 10 := Nat.mul_le_mul (by omega) (by omega)
    have z1 := ymuLN (a := yWt τ s x) (b := yod τ x) (by omega)
    have z2 := ymuLN (a := yWt τ s x) (b := 10 - yod τ x) (by omega)
    rw [yWt] at ih
    rw [show m + (c + 1) + 1 = (m + c + 1) + 1 by omega, q_X4_habitWeight_b5, e0, hH]
    simp only [ycP_ge, ycP_ne, decide_eq_false (show ¬ (H : Int) ≤ (x : Int) by omega), cond_false, f_X7_bit, tb, i1, cond_true, Int.toNat_natCast, q5, eo, es, f_X4_habitWeight_b47, z1, z2, ex]
    by_cases hb : s.testBit x = true
    · simp only [hb, if_true] at ih ⊢
      exact ih
    · simp only [hb] at ih ⊢
      exact ih
theorem yDr_b {N : Nat} (hN : 10 ≤ N) {σ τ : yS} {H h s : Nat} (HR : yRR σ τ) (hH : τ.1 0 3 = (H : Int)) (hh : h < H) : ∀ x : Nat, x ≤ H → yDr N τ h s x ≤ 18 * x
  | 0, _ => by simp [yDr]
  | x + 1, hx => by
    have ih := yDr_b hN HR hH hh x (by omega) (s := s)
    obtain ⟨tn, -, -, tc⟩ := p_tm (N := N) hN (x := x) (h := h) HR (by omega) (by omega)
    rw [yDr]
    split
    · split
      · omega
      · rename_i hz
        have c9 := (tc hz).2.2
        have : ytm N τ h x * yco τ x ≤ 2 * 9 := Nat.mul_le_mul tn c9
        omega
    · omega
theorem x4_pay_l {N : Nat} (hN : 10 ≤ N) {σ τ : yS} {H h s : Nat} (HR : yRR σ τ) (hH : τ.1 0 3 = (H : Int)) (hh : h < H) (hs : s < 128) : ∀ (c m x : Nat), x + c = H → yIs N τ h s x → ∃ e : Int, f_X4_canPayHabits_b5 N (m + c + 1) σ 17 s h (yDr N τ h s x) x = some (e, σ) ∧ ((yIs N τ h s H ∧ (yDr N τ h s H : Int) ≤ τ.1 1 h → e = 1) ∧ (¬ (yIs N τ h s H ∧ (yDr N τ h s H : Int) ≤ τ.1 1 h) → e = 0))
  | 0, m, x, hx, hI => by
    have b0 := HR.1.2.2.1.2.2.2.1
    have e0 := HR.1.2.2.1.1
    have e : x = H := by omega
    subst e
    have i1 : yin (h : Int) 7 = true := by rw [yin_d]; exact decide_eq_true (by omega)
    have q0 : σ.1 (17 + 2) h = τ.1 1 h := (HR.1.2.2.2.1.1 h (by omega)).1
    by_cases hp : (yDr N τ h s x : Int) ≤ τ.1 1 h
    · refine ⟨1, ?_, fun _ => rfl, fun q => absurd ⟨hI, hp⟩ q⟩
      rw [q_X4_canPayHabits_b5, e0, hH]
      simp only [ycP_ge, ycP_gt, decide_eq_true (Int.le_refl (x : Int)), cond_true, i1, Int.toNat_natCast, q0, decide_eq_false (show ¬ τ.1 1 h < (yDr N τ h s x : Int) by omega), cond_false, f_X4_canPayHabits_b86]
      rfl
    · refine ⟨0, ?_, fun q => absurd q.2 hp, fun _ => rfl⟩
      rw [q_X4_canPayHabits_b5, e0, hH]
      simp only [ycP_ge, ycP_gt, decide_eq_true (Int.le_refl (x : Int)), cond_true, i1, Int.toNat_natCast, q0, decide_eq_true (show τ.1 1 h < (yDr N τ h s x : Int) by omega), f_X4_canPayHabits_b86]
      rfl
  | c + 1, m, x, hx, hI => by
    have b0 := HR.1.2.2.1.2.2.2.1
    have e0 := HR.1.2.2.1.1
    have ex : yad (x : Int) 1 = ((x + 1 : Nat) : Int) := by rw [yad_e (by omega) (by omega)]; omega
    have fx : decide ((H : Int) ≤ (x : Int)) = false := decide_eq_false (by omega)
    have i1 : yin (h : Int) 7 = true := by rw [yin_d]; exact decide_eq_true (by omega)
    have i2 : yin (x : Int) 7 = true := by rw [yin_d]; exact decide_eq_true (by omega)
    have q1 : σ.1 (17 + 3) h = τ.1 1 (7 + h) := (HR.1.2.2.2.1.1 h (by omega)).2.1
    have q4 : σ.1 (17 + 5) x = τ.1 1 (28 + x) := (HR.1.2.2.2.1.1 x (by omega)).2.2.2.2.1
    have w4 : 0 ≤ τ.1 1 (28 + x) ∧ τ.1 1 (28 + x) ≤ 4 := (HR.1.2.2.2.2.2.1 x (by omega)).2.2.2.1
    have i3 : yin (τ.1 1 (28 + x)) 5 = true := by rw [yin_d]; exact decide_eq_true (by omega)
    have sk : 0 ≤ τ.1 1 (7 + h) ∧ τ.1 1 (7 + h) < 32 := (HR.1.2.2.2.2.2.1 h (by omega)).1
    have bb := ybit5 ⟨(τ.1 1 (7 + h)).toNat, by omega⟩ ⟨(τ.1 1 (28 + x)).toNat, by omega⟩
    simp only [show (((τ.1 1 (7 + h)).toNat : Nat) : Int) = τ.1 1 (7 + h) by omega, show (((τ.1 1 (28 + x)).toNat : Nat) : Int) = τ.1 1 (28 + x) by omega] at bb
    obtain ⟨tn, t7, t8, tc⟩ := p_tm (N := N) hN (x := x) (h := h) HR (by omega) (by omega)
    have tb := ytb ⟨s, hs⟩ ⟨x, by omega⟩
    dsimp only at tb
    have db := yDr_b hN HR hH hh x (by omega) (s := s)
    rw [show m + (c + 1) + 1 = (m + c + 1) + 1 by omega, q_X4_canPayHabits_b5, e0, hH]
    simp only [ycP_ge, ycP_ne, ycP_le, fx, cond_false, f_X7_bit, tb, f_X4_canPayHabits_b65, ex, t7, i1, i2, cond_true, Int.toNat_natCast, q1, q4]
    by_cases hb : s.testBit x = true
    · simp only [hb, if_true, not_true_eq_false, decide_false, cond_false]
      by_cases hz : ytm N τ h x = 0
      · have I2 : yIs N τ h s (x + 1) := ⟨hI, fun _ q => absurd hz q⟩
        have D2 : yDr N τ h s (x + 1) = yDr N τ h s x := by rw [yDr, if_pos hb, if_pos hz, Nat.add_zero]
        obtain ⟨e, g, h1⟩ := x4_pay_l hN HR hH hh hs c m (x + 1) (by omega) I2
        rw [D2] at g
        refine ⟨e, ?_, h1⟩
        simp only [hz, show decide (((0 : Nat) : Int) ≤ 0) = true from rfl, cond_true]
        exact g
      · simp only [decide_eq_false (show ¬ (ytm N τ h x : Int) ≤ 0 by omega), cond_false]
        by_cases hsk : yan (ysr (τ.1 1 (7 + h)) (τ.1 1 (28 + x))) 1 = 0
        · have nI : ¬ yIs N τ h s (x + 1) := fun q => by
            have := q.2 hb hz
            omega
          have nH := yIs_m (x + 1) nI c
          rw [show x + 1 + c = H by omega] at nH
          refine ⟨0, ?_, fun q => absurd q.1 nH, fun _ => rfl⟩
          simp only [hsk, not_true_eq_false, decide_false, cond_false]
        · obtain ⟨c7, c8, c9⟩ := tc hz
          have c7 : σ.1 (17 + 1) (τ.1 1 (28 + x)).toNat = (yco τ x : Int) := c7
          have I2 : yIs N τ h s (x + 1) := ⟨hI, fun _ _ => by omega⟩
          have D2 : yDr N τ h s (x + 1) = yDr N τ h s x + ytm N τ h x * yco τ x := by rw [yDr, if_pos hb, if_neg hz]
          have l1 : ytm N τ h x * yco τ x ≤ 2 * 9 := Nat.mul_le_mul tn c9
          have z1 := ymuN (a := ytm N τ h x) (b := yco τ x) (by omega)
          have z2 : yad (yDr N τ h s x : Int) ((ytm N τ h x * yco τ x : Nat) : Int) = ((yDr N τ h s x + ytm N τ h x * yco τ x : Nat) : Int) := by rw [yad_e (by omega) (by omega)]; omega
          obtain ⟨e, g, h1⟩ := x4_pay_l hN HR hH hh hs c m (x + 1) (by omega) I2
          rw [D2] at g
          refine ⟨e, ?_, h1⟩
          simp only [hsk, not_false_eq_true, decide_true, cond_true, f_X4_habitCost, t7, i2, Int.toNat_natCast, q4, i3, c7, z1, z2]
          exact g
    · have I2 : yIs N τ h s (x + 1) := ⟨hI, fun q => absurd q hb⟩
      have D2 : yDr N τ h s (x + 1) = yDr N τ h s x := by rw [yDr, if_neg hb, Nat.add_zero]
      obtain ⟨e, g, h1⟩ := x4_pay_l hN HR hH hh hs c m (x + 1) (by omega) I2
      rw [D2] at g
      refine ⟨e, ?_, h1⟩
      simp only [hb, if_false, decide_eq_true (show ¬ (0 : Int) = 1 by omega), cond_true]
      exact g
end
section
theorem x8_lk191 {N : Nat} {τ : yS} {h x : Nat} {w G A s W J n z D K : Int} (k56 : yS → Int → Int → Int → Int → Int → Option (Int × yS)) (k79 : yS → Int → Int → Int → Int → Int → Int → Int → Int → Int → Option (Int × yS)) (hh : h < 7) (hx : x < 7) (hK : yan (ysr (τ.1 1 (7 + h)) (τ.1 1 (28 + x))) 1 = K) : f_X8_luck_b191 N k56 k79 τ h w G A s W J x n z D = k79 τ h w G A s W (yad D z) (if J = 0 then 0 else if n = 0 then 1 else if K = 1 then 1 else 0) ((x + 1 : Nat) : Int) := by
  have ex : yad (x : Int) 1 = ((x + 1 : Nat) : Int) := by rw [yad_e (by omega) (by omega)]; omega
  have m1 : yad 28 (x : Int) = ((28 + x : Nat) : Int) := by rw [yad_e (by omega) (by omega)]; omega
  have m3 : yad 7 (h : Int) = ((7 + h : Nat) : Int) := by rw [yad_e (by omega) (by omega)]; omega
  have i4 : yin ((28 + x : Nat) : Int) 393 = true := by rw [yin_d]; exact decide_eq_true (by omega)
  have i6 : yin ((7 + h : Nat) : Int) 393 = true := by rw [yin_d]; exact decide_eq_true (by omega)
  unfold f_X8_luck_b191 f_X8_luck_b234 f_X8_luck_b230 f_X8_luck_b235
  rw [ex, m1, m3, i4, i6, Int.toNat_natCast, Int.toNat_natCast, hK]
  by_cases h1 : J = 0
  · simp only [ycP_eq, h1, decide_true, cond_true, if_true]
  · by_cases h2 : n = 0
    · simp only [ycP_eq, h1, h2, decide_true, decide_false, cond_true, cond_false, if_true, if_false]
    · by_cases h3 : K = 1
      · simp only [ycP_eq, ycP_ne, h1, h2, h3, decide_true, decide_false, cond_true, cond_false, if_true, if_false, not_true_eq_false]
      · simp only [ycP_eq, ycP_ne, h1, h2, h3, decide_true, decide_false, cond_true, cond_false, if_false, not_false_eq_true]
theorem x8_lk104 {N : Nat} {τ : yS} {h x o : Nat} {w G A s W J D b : Int} (k56 : yS → Int → Int → Int → Int → Int → Option (Int × yS)) (k79 : yS → Int → Int → Int → Int → Int → Int → Int → Int → Int → Option (Int × yS)) (hx : x < 7) (ho : τ.1 1 (35 + x) = (o : Int)) : f_X8_luck_b104 N k56 k79 τ h w G A s W D J x b = f_X8_luck_b141 N k56 k79 τ h w G A s D J x b (if b = 0 then ysu 10 (o : Int) else (o : Int)) W := by
  have m2 : yad 35 (x : Int) = ((35 + x : Nat) : Int) := by rw [yad_e (by omega) (by omega)]; omega
  have i5 : yin ((35 + x : Nat) : Int) 393 = true := by rw [yin_d]; exact decide_eq_true (by omega)
  unfold f_X8_luck_b104
  rw [m2, i5, Int.toNat_natCast, ho]
  by_cases h1 : b = 0
  · simp only [ycP_eq, h1, decide_true, cond_true, if_true]
  · simp only [ycP_eq, h1, decide_false, cond_true, cond_false, if_false]
theorem x8_lk160 {N : Nat} {τ : yS} {h x n cc : Nat} {w G A s W J D : Int} (k56 : yS → Int → Int → Int → Int → Int → Option (Int × yS)) (k79 : yS → Int → Int → Int → Int → Int → Int → Int → Int → Int → Option (Int × yS)) (hx : x < 7) (w4 : 0 ≤ τ.1 1 (28 + x) ∧ τ.1 1 (28 + x) ≤ 4) (hc : ¬ n = 0 → τ.1 4 (τ.1 1 (28 + x)).toNat = (cc : Int)) (hm : n * cc ≤ 2147483647) : f_X8_luck_b160 N k56 k79 τ h w G A s W D J x n = f_X8_luck_b191 N k56 k79 τ h w G A s W J x n ((if n = 0 then 0 else n * cc : Nat) : Int) D := by
  have m1 : yad 28 (x : Int) = ((28 + x : Nat) : Int) := by rw [yad_e (by omega) (by omega)]; omega
  have i4 : yin ((28 + x : Nat) : Int) 393 = true := by rw [yin_d]; exact decide_eq_true (by omega)
  have i3 : yin (τ.1 1 (28 + x)) 5 = true := by rw [yin_d]; exact decide_eq_true (by omega)
  unfold f_X8_luck_b160
  rw [m1, i4, Int.toNat_natCast, i3]
  by_cases h1 : n = 0
  · subst h1
    rfl
  · rw [hc h1, ymuN hm, if_neg h1]
    simp only [ycP_ne, decide_eq_true (show ¬ (n : Int) = 0 by omega), cond_true]
theorem x8_lk160z {N : Nat} {τ : yS} {h x : Int} {w G A s W J D : Int} (k56 : yS → Int → Int → Int → Int → Int → Option (Int × yS)) (k79 : yS → Int → Int → Int → Int → Int → Int → Int → Int → Int → Option (Int × yS)) : f_X8_luck_b160 N k56 k79 τ h w G A s W D J x 0 = f_X8_luck_b191 N k56 k79 τ h w G A s W J x 0 0 D := by
  unfold f_X8_luck_b160
  rw [ycP_ne, decide_eq_false (show ¬ ¬ (0 : Int) = 0 by omega)]
  rfl
/-- one house of the reference's luck -/
theorem x8_lk_s {N : Nat} (hN : 10 ≤ N) {σ τ : yS} {H h s x : Nat} {w G A J : Int} (HR : yRR σ τ) (hH : τ.1 0 3 = (H : Int)) (hh : h < H) (hs : s < 128) (hx : x < H) (ho : ∀ x : Nat, x < 7 → yod τ x ≤ 10) (k56 : yS → Int → Int → Int → Int → Int → Option (Int × yS)) (m : Nat) : f_X8_luck_b79 N k56 (m + 1) τ h w G A s (yWt τ s x) (yDr N τ h s x) J x = f_X8_luck_b79 N k56 m τ h w G A s (yWt τ s (x + 1)) (yDr N τ h s (x + 1)) (if J = 0 then 0 else if s.testBit x = true ∧ ¬ ytm N τ h x = 0 ∧ ¬ yan (ysr (τ.1 1 (7 + h)) (τ.1 1 (28 + x))) 1 = 1 then 0 else 1) ((x + 1 : Nat) : Int) := by
  have b0 := HR.1.2.2.1.2.2.2.1
  have w4 : 0 ≤ τ.1 1 (28 + x) ∧ τ.1 1 (28 + x) ≤ 4 := (HR.1.2.2.2.2.2.1 x (by omega)).2.2.2.1
  have w5 : 0 ≤ τ.1 1 (35 + x) ∧ τ.1 1 (35 + x) ≤ 10 := (HR.1.2.2.2.2.2.1 x (by omega)).2.2.2.2
  have eo : τ.1 1 (35 + x) = (yod τ x : Int) := by unfold yod; omega
  have o := ho x (by omega)
  obtain ⟨tn, t7, t8, tc⟩ := p_tm (N := N) hN (x := x) (h := h) HR (by omega) (by omega)
  have hx7 : x < 7 := by omega
  have hh7 : h < 7 := by omega
  have nz : ∀ n : Nat, ¬ n = 0 → ¬ (n : Int) = 0 := fun n q => by omega
  have l9 : ∀ n : Nat, n * 0 ≤ 2147483647 := fun n => by omega
  have l8 : ∀ n c : Nat, n ≤ 2 → c ≤ 9 → n * c ≤ 2147483647 := fun n c q1 q2 => Nat.le_trans (Nat.mul_le_mul q1 q2) (by decide)
  have l7 : ∀ n c D : Nat, n ≤ 2 → c ≤ 9 → D ≤ 1000 → yad (D : Int) ((n * c : Nat) : Int) = ((D + n * c : Nat) : Int) := fun n c D q1 q2 q3 => by
    have := Nat.mul_le_mul q1 q2
    rw [yad_e (by omega) (by omega)]
    omega
  have db := yDr_b hN HR hH hh x (by omega) (s := s)
  have wb := yWt_b (s := s) ho x (by omega)
  have p7 : (10 : Nat) ^ x ≤ 10 ^ 7 := Nat.pow_le_pow_right (by omega) (by omega)
  have es : ysu 10 (yod τ x : Int) = ((10 - yod τ x : Nat) : Int) := by rw [ysu_e (by omega) (by omega)]; omega
  have p1 : yWt τ s x * yod τ x ≤ 10 ^ 7 * 10 := Nat.mul_le_mul (by omega) o
  have p2 : yWt τ s x * (10 - yod τ x) ≤ 10 ^ 7 * 10 := Nat.mul_le_mul (by omega) (by omega)
  have z1 := ymuLN (a := yWt τ s x) (b := yod τ x) (by omega)
  have z2 := ymuLN (a := yWt τ s x) (b := 10 - yod τ x) (by omega)
  have z0 : yad (yDr N τ h s x : Int) ((0 : Nat) : Int) = (yDr N τ h s x : Int) := by rw [yad_e (by omega) (by omega)]; omega
  have z9 : yad (yDr N τ h s x : Int) 0 = (yDr N τ h s x : Int) := by rw [yad_e (by omega) (by omega)]; omega
  have fx : decide ((H : Int) ≤ (x : Int)) = false := decide_eq_false (by omega)
  have db9 : yDr N τ h s x ≤ 1000 := by omega
  have tb := ytb ⟨s, hs⟩ ⟨x, hx7⟩
  dsimp only at tb
  rw [q_X8_luck_b79, hH, tb]
  clear tb
  generalize hK : yan (ysr (τ.1 1 (7 + h)) (τ.1 1 (28 + x))) 1 = K
  by_cases hb : s.testBit x = true
  · have W2 : yWt τ s (x + 1) = yWt τ s x * yod τ x := by rw [yWt, if_pos hb]
    rw [if_pos hb, W2]
    simp only [ycP_ge, ycP_ne, fx, cond_false, not_true_eq_false, decide_false]
    rw [x8_lk104 k56 _ hx7 eo, if_neg (show ¬ (1 : Int) = 0 by decide)]
    unfold f_X8_luck_b141
    simp only [ycP_eq, decide_eq_false (show ¬ (1 : Int) = 0 by decide), cond_false, t8]
    by_cases hz : ytm N τ h x = 0
    · have D2 : yDr N τ h s (x + 1) = yDr N τ h s x := by rw [yDr, if_pos hb, if_pos hz, Nat.add_zero]
      rw [x8_lk160 (cc := 0) k56 _ hx7 w4 (fun q => absurd hz q) (l9 _), x8_lk191 k56 _ hh7 hx7 hK, z1, if_pos hz, z0, D2]
      by_cases hJ : J = 0
      · rw [if_pos hJ, if_pos hJ]
      · rw [if_neg hJ, if_neg hJ, if_pos (show (ytm N τ h x : Int) = 0 by rw [hz]; rfl), if_neg (show ¬ (s.testBit x = true ∧ ¬ ytm N τ h x = 0 ∧ ¬ K = 1) from fun q => q.2.1 hz)]
    · obtain ⟨c7, c8, c9⟩ := tc hz
      have y2 := l7 _ _ _ tn c9 db9
      have D2 : yDr N τ h s (x + 1) = yDr N τ h s x + ytm N τ h x * yco τ x := by rw [yDr, if_pos hb, if_neg hz]
      rw [x8_lk160 (cc := yco τ x) k56 _ hx7 w4 (fun _ => c8) (l8 _ _ tn c9), x8_lk191 k56 _ hh7 hx7 hK, z1, if_neg hz, y2, D2]
      by_cases hJ : J = 0
      · rw [if_pos hJ, if_pos hJ]
      · rw [if_neg hJ, if_neg hJ, if_neg (nz _ hz)]
        by_cases h1 : K = 1
        · rw [if_pos h1, if_neg (show ¬ (s.testBit x = true ∧ ¬ ytm N τ h x = 0 ∧ ¬ K = 1) from fun q => q.2.2 h1)]
        · rw [if_neg h1, if_pos (show s.testBit x = true ∧ ¬ ytm N τ h x = 0 ∧ ¬ K = 1 from ⟨hb, hz, h1⟩)]
  · have W2 : yWt τ s (x + 1) = yWt τ s x * (10 - yod τ x) := by rw [yWt, if_neg hb]
    have D2 : yDr N τ h s (x + 1) = yDr N τ h s x := by rw [yDr, if_neg hb, Nat.add_zero]
    rw [if_neg hb, W2, D2]
    rw [ycP_ge, fx, cond_false, ycP_ne, decide_eq_true (show ¬ (0 : Int) = 1 by decide), cond_true]
    rw [x8_lk104 k56 _ hx7 eo, if_pos rfl, es]
    unfold f_X8_luck_b141
    simp only [ycP_eq, decide_true, cond_true]
    rw [x8_lk160z k56 _, x8_lk191 k56 _ hh7 hx7 hK, z2, z9]
    by_cases hJ : J = 0
    · rw [if_pos hJ, if_pos hJ]
    · rw [if_neg hJ, if_neg hJ, if_pos rfl, if_neg (show ¬ (s.testBit x = true ∧ ¬ ytm N τ h x = 0 ∧ ¬ K = 1) from fun q => hb q.1)]
theorem x8_luck_l {N : Nat} (hN : 10 ≤ N) {σ τ : yS} {H h s : Nat} {w G A : Int} (HR : yRR σ τ) (hH : τ.1 0 3 = (H : Int)) (hh : h < H) (hs : s < 128) (ho : ∀ x : Nat, x < 7 → yod τ x ≤ 10) (k56 : yS → Int → Int → Int → Int → Int → Option (Int × yS)) : ∀ (c m x : Nat) (J : Int), x + c = H → (yIs N τ h s x → J = 1) → (¬ yIs N τ h s x → J = 0) → ∃ V : Nat, ((yIs N τ h s H ∧ (yDr N τ h s H : Int) ≤ τ.1 1 h → V = yWt τ s H) ∧ (¬ (yIs N τ h s H ∧ (yDr N τ h s H : Int) ≤ τ.1 1 h) → V = 0)) ∧ f_X8_luck_b79 N k56 (m + c + 1) τ h w G A s (yWt τ s x) (yDr N τ h s x) J x = k56 τ h w (yadL G (V : Int)) A ((s + 1 : Nat) : Int)
  | 0, m, x, J, hx, j1, j0 => by
    have b0 := HR.1.2.2.1.2.2.2.1
    have e : x = H := by omega
    subst e
    have es : yad (s : Int) 1 = ((s + 1 : Nat) : Int) := by rw [yad_e (by omega) (by omega)]; omega
    have m0 : yad 0 (h : Int) = (h : Int) := by rw [yad_e (by omega) (by omega)]; omega
    have i0 : yin (h : Int) 393 = true := by rw [yin_d]; exact decide_eq_true (by omega)
    by_cases hI : yIs N τ h s x
    · have J1 := j1 hI
      by_cases hp : (yDr N τ h s x : Int) ≤ τ.1 1 h
      · refine ⟨yWt τ s x, ⟨fun _ => rfl, fun q => absurd ⟨hI, hp⟩ q⟩, ?_⟩
        rw [q_X8_luck_b79, hH, J1]
        simp only [ycP_ge, ycP_eq, ycP_gt, decide_eq_true (Int.le_refl (x : Int)), cond_true, decide_eq_false (show ¬ (1 : Int) = 0 by decide), cond_false, m0, i0, Int.toNat_natCast, decide_eq_false (show ¬ τ.1 1 h < (yDr N τ h s x : Int) by omega), f_X8_luck_b268, es]
      · refine ⟨0, ⟨fun q => absurd q.2 hp, fun _ => rfl⟩, ?_⟩
        rw [q_X8_luck_b79, hH, J1]
        simp only [ycP_ge, ycP_eq, ycP_gt, decide_eq_true (Int.le_refl (x : Int)), cond_true, decide_eq_false (show ¬ (1 : Int) = 0 by decide), cond_false, m0, i0, Int.toNat_natCast, decide_eq_true (show τ.1 1 h < (yDr N τ h s x : Int) by omega), f_X8_luck_b267, f_X8_luck_b268, es]
        rfl
    · have J0 := j0 hI
      refine ⟨0, ⟨fun q => absurd q.1 hI, fun _ => rfl⟩, ?_⟩
      rw [q_X8_luck_b79, hH, J0]
      simp only [ycP_ge, ycP_eq, decide_eq_true (Int.le_refl (x : Int)), cond_true, decide_true, f_X8_luck_b267, f_X8_luck_b268, es]
      rfl
  | c + 1, m, x, J, hx, j1, j0 => by
    have st := x8_lk_s (N := N) hN (w := w) (G := G) (A := A) (J := J) HR hH hh hs (show x < H by omega) ho k56 (m + c + 1)
    rw [show m + (c + 1) + 1 = (m + c + 1) + 1 by omega, st]
    refine x8_luck_l hN HR hH hh hs ho k56 c m (x + 1) _ (by omega) (fun q => ?_) (fun q => ?_)
    · have J1 := j1 q.1
      rw [if_neg (by omega), if_neg (fun r => r.2.2 (q.2 r.1 r.2.1))]
    · by_cases hI : yIs N τ h s x
      · have J1 := j1 hI
        rw [if_neg (by omega), if_pos]
        by_cases hb : s.testBit x = true
        · by_cases hz : ytm N τ h x = 0
          · exact absurd ⟨hI, fun _ r => absurd hz r⟩ q
          · by_cases hK : yan (ysr (τ.1 1 (7 + h)) (τ.1 1 (28 + x))) 1 = 1
            · exact absurd ⟨hI, fun _ _ => hK⟩ q
            · exact ⟨hb, hz, hK⟩
        · exact absurd ⟨hI, fun r => absurd r hb⟩ q
      · rw [if_pos (j0 hI)]
theorem p_luck_l {N : Nat} (hN : 1000 ≤ N) {σ τ : yS} {H h : Nat} {w : Int} (HR : yRR σ τ) (hH : τ.1 0 3 = (H : Int)) (h7 : H ≤ 7) (hh : h < H) (ho : ∀ x : Nat, x < 7 → yod τ x ≤ 10) : ∀ (c m q s G : Nat), s + c = 2 ^ H → G ≤ ySm (fun i => yWt τ i H) s → ∃ a : Int, f_X7_luck_b32 N (m + c + 1) σ h w G (ySm (fun i => yWt τ i H) s) s = some (a, σ) ∧ f_X8_luck_b56 N (q + c + 1) τ h w G ((10 ^ H : Nat) : Int) s = some (a, τ)
  | 0, m, q, s, G, hs, hG => by
    have e0 := HR.1.2.2.1.1
    have y := yslN ⟨H, by omega⟩
    dsimp only at y
    have e : s = 2 ^ H := by omega
    subst e
    rw [yWt_all ho H h7] at hG ⊢
    have p7 : (10 : Nat) ^ H ≤ 10 ^ 7 := Nat.pow_le_pow_right (by omega) h7
    have pp : 0 < (10 : Nat) ^ H := Nat.pow_pos (by omega)
    obtain ⟨a, g7, g8⟩ := p_frac (N := N) hN (σ := σ) (τ := τ) (p := G) (w := 10 ^ H) (x := w) pp (by omega) (by omega)
    refine ⟨a, ?_, ?_⟩
    · rw [q_X7_luck_b32, e0, hH, y]
      simp only [ycP_ge, decide_eq_true (Int.le_refl ((2 ^ H : Nat) : Int)), cond_true, g7]
    · rw [q_X8_luck_b56, hH, y]
      simp only [ycP_ge, decide_eq_true (Int.le_refl ((2 ^ H : Nat) : Int)), cond_true, g8]
  | c + 1, m, q, s, G, hs, hG => by
    have b0 := HR.1.2.2.1.2.2.2.1
    have e0 := HR.1.2.2.1.1
    have y := yslN ⟨H, by omega⟩
    dsimp only at y
    have pw : (2 : Nat) ^ H ≤ 128 := Nat.pow_le_pow_right (n := 2) (by omega) h7
    have s128 : s < 128 := by omega
    have fx : decide (((2 ^ H : Nat) : Int) ≤ (s : Int)) = false := decide_eq_false (by omega)
    have es : yad (s : Int) 1 = ((s + 1 : Nat) : Int) := by rw [yad_e (by omega) (by omega)]; omega
    have all := yWt_all ho H h7
    have p7 : (10 : Nat) ^ H ≤ 10 ^ 7 := Nat.pow_le_pow_right (by omega) h7
    have sp : ySm (fun i => yWt τ i H) (2 ^ H) = ySm (fun i => yWt τ i H) (s + 1) + ySm (fun i => (fun i => yWt τ i H) (s + 1 + i)) c := by
      rw [← ySm_add]
      congr 1
      omega
    have s1 : ySm (fun i => yWt τ i H) (s + 1) = ySm (fun i => yWt τ i H) s + yWt τ s H := rfl
    have wt := x4_wt_l (N := N) HR hH s128 ho H (N - H - 1) 0 (by omega)
    rw [show N - H - 1 + H + 1 = N by omega] at wt
    have wt : f_X4_habitWeight N σ 17 s = some ((yWt τ s H : Int), σ) := wt
    obtain ⟨e, pay, pe1, pe0⟩ := x4_pay_l (N := N) (by omega) HR hH hh s128 H (N - H - 1) 0 (by omega) trivial
    rw [show N - H - 1 + H + 1 = N by omega] at pay
    have pay : f_X4_canPayHabits N σ 17 s h = some (e, σ) := pay
    obtain ⟨V, ⟨v1, v0⟩, g8⟩ := x8_luck_l (N := N) (by omega) (s := s) (w := w) (G := (G : Int)) (A := ((10 ^ H : Nat) : Int)) HR hH hh s128 ho (f_X8_luck_b56 N (q + c + 1)) H (N - H - 1) 0 1 (by omega) (fun _ => rfl) (fun q => absurd trivial q)
    rw [show N - H - 1 + H + 1 = N by omega] at g8
    have a1 := yadLN (a := ySm (fun i => yWt τ i H) s) (b := yWt τ s H) (by omega)
    by_cases ok : yIs N τ h s H ∧ (yDr N τ h s H : Int) ≤ τ.1 1 h
    · have e1 := pe1 ok
      have V1 := v1 ok
      have a2 := yadLN (a := G) (b := yWt τ s H) (by omega)
      obtain ⟨a, i7, i8⟩ := p_luck_l hN (w := w) HR hH h7 hh ho c m q (s + 1) (G + yWt τ s H) (by omega) (by rw [s1]; omega)
      refine ⟨a, ?_, ?_⟩
      · rw [show m + (c + 1) + 1 = (m + c + 1) + 1 by omega, q_X7_luck_b32, e0, hH, y]
        simp only [ycP_ge, ycP_eq, fx, cond_false, wt, pay, e1, decide_eq_false (show ¬ (1 : Int) = 0 by decide), f_X7_luck_b82, a1, a2, es]
        exact i7
      · rw [show q + (c + 1) + 1 = (q + c + 1) + 1 by omega, q_X8_luck_b56, hH, y]
        simp only [ycP_ge, fx, cond_false]
        refine g8.trans ?_
        rw [V1, a2]
        exact i8
    · have e1 := pe0 ok
      have V1 := v0 ok
      have a2 := yadLN (a := G) (b := 0) (by omega)
      rw [Nat.add_zero] at a2
      obtain ⟨a, i7, i8⟩ := p_luck_l hN (w := w) HR hH h7 hh ho c m q (s + 1) G (by omega) (by rw [s1]; omega)
      refine ⟨a, ?_, ?_⟩
      · rw [show m + (c + 1) + 1 = (m + c + 1) + 1 by omega, q_X7_luck_b32, e0, hH, y]
        simp only [ycP_ge, ycP_eq, fx, cond_false, wt, pay, e1, decide_true, cond_true, f_X7_luck_b82, a1, es]
        exact i7
      · rw [show q + (c + 1) + 1 = (q + c + 1) + 1 by omega, q_X8_luck_b56, hH, y]
        simp only [ycP_ge, fx, cond_false]
        refine g8.trans ?_
        rw [V1, a2]
        exact i8
theorem x8_ten_l {N : Nat} {τ : yS} {H : Nat} {h w : Int} (h7 : H ≤ 7) (hH : τ.1 0 3 = (H : Int)) : ∀ (c m x : Nat), x + c = H → f_X8_luck_b30 N (m + c + 1) τ h w 0 ((10 ^ x : Nat) : Int) x = f_X8_luck_b56 N N τ h w 0 ((10 ^ H : Nat) : Int) 0
  | 0, m, x, hx => by
    have e : x = H := by omega
    subst e
    rw [q_X8_luck_b30, hH]
    simp [ycP_ge]
  | c + 1, m, x, hx => by
    have ex : yad (x : Int) 1 = ((x + 1 : Nat) : Int) := by rw [yad_e (by omega) (by omega)]; omega
    have p7 : (10 : Nat) ^ x ≤ 10 ^ 7 := Nat.pow_le_pow_right (by omega) (by omega)
    have z := ymuLN (a := 10 ^ x) (b := 10) (by omega)
    rw [← Nat.pow_succ] at z
    have z : ymuL ((10 ^ x : Nat) : Int) 10 = ((10 ^ (x + 1) : Nat) : Int) := z
    rw [show m + (c + 1) + 1 = (m + c + 1) + 1 by omega, q_X8_luck_b30, hH]
    simp only [ycP_ge, decide_eq_false (show ¬ (H : Int) ≤ (x : Int) by omega), cond_false, z, ex]
    exact x8_ten_l h7 hH c m (x + 1) (by omega)
theorem P_luck {N : Nat} (hN : 1000 ≤ N) {σ τ : yS} {h w : Int} (HR : yRR σ τ) : ∃ (a : Int) (σ' τ' : yS), f_X7_luck N σ h w = some (a, σ') ∧ f_X8_luck N τ h w = some (a, τ') ∧ yRR σ' τ' := by
  obtain ⟨e0, e1, e2, b0, b1, b2, hc⟩ := HR.1.2.2.1
  have ho : ∀ x : Nat, x < 7 → yod τ x ≤ 10 := fun x hx => by
    have w5 : 0 ≤ τ.1 1 (35 + x) ∧ τ.1 1 (35 + x) ≤ 10 := (HR.1.2.2.2.2.2.1 x hx).2.2.2.2
    unfold yod
    omega
  simp only [f_X7_luck, f_X7_luck_b20, f_X8_luck, f_X8_luck_b18, x4_isHouse (show 2 ≤ σ.1 17 0 ∧ σ.1 17 0 ≤ 7 by rw [e0]; exact b0), x8_isHouse b0, x7_within, x8_in, ycP_ne, ycP_eq, e0]
  by_cases hh : 0 ≤ h ∧ h < τ.1 0 3
  · by_cases hw : 0 ≤ w ∧ w ≤ 1
    · obtain ⟨H, hH⟩ : ∃ m : Nat, τ.1 0 3 = (m : Int) := ⟨(τ.1 0 3).toNat, by omega⟩
      obtain ⟨h, rfl⟩ : ∃ m : Nat, h = (m : Int) := ⟨h.toNat, by omega⟩
      have pw : (2 : Nat) ^ H ≤ 128 := Nat.pow_le_pow_right (n := 2) (by omega) (show H ≤ 7 by omega)
      obtain ⟨a, g7, g8⟩ := p_luck_l (N := N) hN (h := h) (w := w) HR hH (by omega) (by omega) ho (2 ^ H) (N - 2 ^ H - 1) (N - 2 ^ H - 1) 0 0 (by omega) (by omega)
      rw [show N - 2 ^ H - 1 + 2 ^ H + 1 = N by omega] at g7 g8
      have t8 := x8_ten_l (N := N) (h := (h : Int)) (w := w) (show H ≤ 7 by omega) hH H (N - H - 1) 0 (by omega)
      rw [show N - H - 1 + H + 1 = N by omega] at t8
      have g7 : f_X7_luck_b32 N N σ h w 0 0 0 = some (a, σ) := g7
      have t8 : f_X8_luck_b30 N N τ h w 0 1 0 = some (a, τ) := t8.trans g8
      exact ⟨a, σ, τ, by simp [hh, hw, g7], by simp [hh, hw, t8], HR⟩
    · exact ⟨-1, σ, τ, by simp [hh, hw], by simp [hh, hw], HR⟩
  · exact ⟨-1, σ, τ, by simp [hh], by simp [hh], HR⟩
end
section
theorem x1_sortOf {N : Nat} {σ : yS} {c : Int} : f_X1_sortOf N σ c = some (if 97 ≤ c ∧ c ≤ 122 then 1 else if 48 ≤ c ∧ c ≤ 57 then 2 else if c = 59 then 3 else 4, σ) := by
  simp only [f_X1_sortOf, f_X1_sortOf_b14, f_X1_sortOf_b28, f_X1_sortOf_b39, ycP_gt, ycP_ne]
  by_cases h1 : 97 ≤ c ∧ c ≤ 122
  · simp [h1, show ¬ c < 97 by omega, show ¬ 122 < c by omega]
  · by_cases h2 : 48 ≤ c ∧ c ≤ 57
    · have a : c < 97 := by omega
      simp [h2, a, show ¬ c < 48 by omega, show ¬ 57 < c by omega, show ¬ (97 : Int) ≤ c by omega]
    · by_cases h3 : c = 59
      · simp [h3]
      · by_cases a : c < 97
        · by_cases b : c < 48
          · simp [a, b, h1, h2, h3]
          · simp [a, b, h1, h2, h3, show 57 < c by omega]
        · have d : 122 < c := by omega
          by_cases b : c < 48
          · omega
          · simp [a, b, d, h1, h2, h3, show 57 < c by omega]
/-- where both readers are -/
def yLx (σ τ : yS) : Prop := yTp σ τ ∧ σ.1 2 4 = 0 ∧ τ.1 0 22 = 0 ∧ σ.1 2 1 = τ.1 0 18 ∧ (0 ≤ τ.1 0 18 ∧ τ.1 0 18 ≤ τ.1 0 17)
/-- the token that both have read -/
def yTk (σ τ : yS) : Prop := σ.1 2 3 = τ.1 0 19 ∧ σ.1 2 2 = τ.1 0 20 ∧ (0 ≤ τ.1 0 19 ∧ τ.1 0 19 ≤ τ.1 0 18) ∧ (0 ≤ τ.1 0 20 ∧ τ.1 0 20 ≤ 3) ∧ (τ.1 0 20 = 0 → τ.1 0 19 = τ.1 0 17) ∧ (¬ τ.1 0 20 = 0 → τ.1 0 19 < τ.1 0 18) ∧ (τ.1 0 20 = 2 → ∃ s : Nat, τ.1 0 19 = (s : Int) ∧ (48 ≤ τ.1 8 s ∧ τ.1 8 s ≤ 57) ∧ ((τ.1 0 18 = (s : Int) + 1 ∧ τ.1 0 21 = τ.1 8 s - 48) ∨ (τ.1 0 18 = (s : Int) + 2 ∧ (48 ≤ τ.1 8 (s + 1) ∧ τ.1 8 (s + 1) ≤ 57) ∧ τ.1 0 21 = 10 * (τ.1 8 s - 48) + (τ.1 8 (s + 1) - 48))))
/-- a fault is found -/
def yBd (σ τ : yS) : Prop := σ.1 2 4 = τ.1 0 22 ∧ 0 < τ.1 0 22 ∧ σ.1 2 5 = τ.1 0 23 ∧ 0 ≤ τ.1 0 23 ∧ τ.1 0 23 ≤ 160 ∧ (0 ≤ σ.1 2 3 ∧ σ.1 2 3 ≤ σ.1 2 1 ∧ σ.1 2 1 ≤ σ.1 3 0) ∧ (0 ≤ σ.1 3 0 ∧ σ.1 3 0 ≤ 160)
/-- what reading a token leaves alone -/
def yK7 (σ σ' : yS) : Prop := σ'.2 = σ.2 ∧ ∀ a b : Nat, ¬ (a = 2 ∧ 1 ≤ b ∧ b ≤ 5) → σ'.1 a b = σ.1 a b
def yK8 (τ τ' : yS) : Prop := ∀ a b : Nat, ¬ (a = 0 ∧ 18 ≤ b ∧ b ≤ 23) → τ'.1 a b = τ.1 a b
theorem yK7_r {σ : yS} : yK7 σ σ := ⟨rfl, fun _ _ _ => rfl⟩
theorem yK7_t {σ1 σ2 σ3 : yS} (h : yK7 σ1 σ2) (k : yK7 σ2 σ3) : yK7 σ1 σ3 := ⟨k.1.trans h.1, fun a b z => by rw [k.2 a b z, h.2 a b z]⟩
theorem yK7_w {σ1 σ2 : yS} {k : Nat} {z : Int} (h : yK7 σ1 σ2) (hk : 1 ≤ k ∧ k ≤ 5) : yK7 σ1 (yw σ2 2 k z) := ⟨h.1, fun a b q => by rw [yw_n (by omega), h.2 a b q]⟩
theorem yK8_r {τ : yS} : yK8 τ τ := fun _ _ _ => rfl
theorem yK8_t {τ1 τ2 τ3 : yS} (h : yK8 τ1 τ2) (k : yK8 τ2 τ3) : yK8 τ1 τ3 := fun a b z => by rw [k a b z, h a b z]
theorem yK8_w {τ1 τ2 : yS} {k : Nat} {z : Int} (h : yK8 τ1 τ2) (hk : 18 ≤ k ∧ k ≤ 23) : yK8 τ1 (yw τ2 0 k z) := fun a b q => by rw [yw_n (by omega), h a b q]
theorem yTp_k {σ τ σ' τ' : yS} (h : yK7 σ σ') (k : yK8 τ τ') (T : yTp σ τ) : yTp σ' τ' := by
  obtain ⟨a0, a1, a2, a3⟩ := T
  refine ⟨by rw [h.2 _ _ (by omega)]; exact a0, by rw [h.2 _ _ (by omega)]; exact a1, by rw [h.2 _ _ (by omega), k _ _ (by omega)]; exact a2, fun j hj => ?_⟩
  rw [h.2 _ _ (by omega)] at hj
  rw [h.2 _ _ (by omega), k _ _ (by omega)]
  exact a3 j hj
/-- letters and numbers: the same run on both sides -/
theorem p_run1 {N : Nat} {S : Nat} : ∀ (c m q p : Nat) (σ τ : yS), p + c = S → yTp σ τ → τ.1 0 17 = (S : Int) → σ.1 2 1 = (p : Int) → τ.1 0 18 = (p : Int) → σ.1 2 2 = 1 → ∃ (e : Nat) (σ' τ' : yS), p ≤ e ∧ e ≤ S ∧ f_X1_readToken_b109 N (m + c + 1) σ = f_X1_readToken_b166 N σ' ∧ f_X8_next_b82 N (q + c + 1) τ = some (0, τ') ∧ yK7 σ σ' ∧ yK8 τ τ' ∧ σ'.1 2 1 = (e : Int) ∧ τ'.1 0 18 = (e : Int) ∧ σ'.1 2 2 = 1 ∧ σ'.1 2 3 = σ.1 2 3 ∧ σ'.1 2 4 = σ.1 2 4 ∧ τ'.1 0 19 = τ.1 0 19 ∧ τ'.1 0 20 = τ.1 0 20 ∧ τ'.1 0 22 = τ.1 0 22
  | 0, m, q, p, σ, τ, hp, T, hS, ha, hb, ht => by
    have s0 : σ.1 3 0 = (S : Int) := T.2.2.1.trans hS
    have lk := x8_look N τ (τ.1 0 18) (by omega) (by have := T.2.1; omega)
    rw [if_neg (by omega)] at lk
    refine ⟨p, σ, τ, Nat.le_refl p, by omega, ?_, ?_, yK7_r, yK8_r, ha, hb, ht, rfl, rfl, rfl, rfl, rfl⟩
    · rw [q_X1_readToken_b109]
      simp only [ycP_eq, ycP_ge, ht, decide_eq_false (show ¬ (1 : Int) = 3 by decide), cond_false, ha, s0, decide_eq_true (show (S : Int) ≤ (p : Int) by omega), cond_true]
    · rw [q_X8_next_b82]
      simp only [lk, x8_in, ycP_eq, if_neg (show ¬ ((97 : Int) ≤ -1 ∧ (-1 : Int) ≤ 122) by decide), decide_true, cond_true, f_X8_next_b274]
  | c + 1, m, q, p, σ, τ, hp, T, hS, ha, hb, ht => by
    have s0 : σ.1 3 0 = (S : Int) := T.2.2.1.trans hS
    have l160 := T.2.1
    have lk := x8_look N τ (τ.1 0 18) (by omega) (by omega)
    rw [if_pos (by omega), hb, Int.toNat_natCast] at lk
    obtain ⟨by1, by2⟩ := T.2.2.2 p (by omega)
    have ip : yin (p : Int) 160 = true := by rw [yin_d]; exact decide_eq_true (by omega)
    have e1 : yad (p : Int) 1 = ((p + 1 : Nat) : Int) := by rw [yad_e (by omega) (by omega)]; omega
    have hlt : ¬ (S : Int) ≤ (p : Int) := by omega
    obtain ⟨x, hx⟩ : ∃ x : Int, τ.1 8 p = x := ⟨_, rfl⟩
    rw [hx] at lk by1 by2
    by_cases hc : 97 ≤ x ∧ x ≤ 122
    · obtain ⟨e, σ', τ', h1, h2, g7, g8, k7, k8, r1, r2, r3, r4, r5, r6, r7, r8⟩ := p_run1 (N := N) (S := S) c m q (p + 1) (yw σ 2 1 ((p + 1 : Nat) : Int)) (yw τ 0 18 ((p + 1 : Nat) : Int)) (by omega) (yTp_k (yK7_w yK7_r (by omega)) (yK8_w yK8_r (by omega)) T) (by rw [yw_n (by omega)]; exact hS) yw_p yw_p (by rw [yw_n (by omega)]; exact ht)
      refine ⟨e, σ', τ', by omega, h2, ?_, ?_, yK7_t (yK7_w yK7_r (by omega)) k7, yK8_t (yK8_w yK8_r (by omega)) k8, r1, r2, r3, by rw [r4, yw_n (by omega)], by rw [r5, yw_n (by omega)], by rw [r6, yw_n (by omega)], by rw [r7, yw_n (by omega)], by rw [r8, yw_n (by omega)]⟩
      · rw [show m + (c + 1) + 1 = (m + c + 1) + 1 by omega, q_X1_readToken_b109]
        simp only [ycP_eq, ycP_ge, ycP_ne, ht, decide_eq_false (show ¬ (1 : Int) = 3 by decide), cond_false, ha, s0, decide_eq_false hlt, ip, cond_true, Int.toNat_natCast, by1, x1_sortOf, if_pos hc, e1, g7]
        rfl
      · rw [show q + (c + 1) + 1 = (q + c + 1) + 1 by omega, q_X8_next_b82, hb]
        simp only [lk, x8_in, ycP_eq, if_pos hc, decide_eq_false (show ¬ (1 : Int) = 0 by decide), cond_false, hb, e1, g8]
    · refine ⟨p, σ, τ, Nat.le_refl p, by omega, ?_, ?_, yK7_r, yK8_r, ha, hb, ht, rfl, rfl, rfl, rfl, rfl⟩
      · have sn : decide (¬ (if 97 ≤ x ∧ x ≤ 122 then (1 : Int) else if 48 ≤ x ∧ x ≤ 57 then 2 else if x = 59 then 3 else 4) = 1) = true := decide_eq_true (by
          rw [if_neg hc]
          split
          · decide
          · split <;> decide)
        rw [show m + (c + 1) + 1 = (m + c + 1) + 1 by omega, q_X1_readToken_b109]
        simp only [ycP_eq, ycP_ge, ycP_ne, ht, decide_eq_false (show ¬ (1 : Int) = 3 by decide), cond_false, ha, s0, decide_eq_false hlt, ip, cond_true, Int.toNat_natCast, by1, x1_sortOf, sn]
      · rw [show q + (c + 1) + 1 = (q + c + 1) + 1 by omega, q_X8_next_b82, hb]
        simp only [lk, x8_in, ycP_eq, if_neg hc, decide_true, cond_true, f_X8_next_b274]
/-- the value of a number so far -/
def yVl (τ : yS) (s p : Nat) : Prop := (48 ≤ τ.1 8 s ∧ τ.1 8 s ≤ 57) ∧ ((p = s + 1 ∧ τ.1 0 21 = τ.1 8 s - 48) ∨ (s + 2 ≤ p ∧ (48 ≤ τ.1 8 (s + 1) ∧ τ.1 8 (s + 1) ≤ 57) ∧ τ.1 0 21 = 10 * (τ.1 8 s - 48) + (τ.1 8 (s + 1) - 48)))
theorem p_run2 {N : Nat} {S s : Nat} : ∀ (c m q p : Nat) (σ τ : yS), p + c = S → yTp σ τ → τ.1 0 17 = (S : Int) → σ.1 2 1 = (p : Int) → τ.1 0 18 = (p : Int) → σ.1 2 2 = 2 → τ.1 0 19 = (s : Int) → s < p → yVl τ s p → ∃ (e : Nat) (σ' τ' : yS), p ≤ e ∧ e ≤ S ∧ f_X1_readToken_b109 N (m + c + 1) σ = f_X1_readToken_b166 N σ' ∧ f_X8_next_b140 N (q + c + 1) τ = f_X8_next_b236 N τ' (if e ≤ s + 2 then 1 else 0) ∧ yK7 σ σ' ∧ yK8 τ τ' ∧ σ'.1 2 1 = (e : Int) ∧ τ'.1 0 18 = (e : Int) ∧ σ'.1 2 2 = 2 ∧ σ'.1 2 3 = σ.1 2 3 ∧ σ'.1 2 4 = σ.1 2 4 ∧ τ'.1 0 19 = τ.1 0 19 ∧ τ'.1 0 20 = τ.1 0 20 ∧ τ'.1 0 22 = τ.1 0 22 ∧ yVl τ' s e
  | 0, m, q, p, σ, τ, hp, T, hS, ha, hb, ht, hs, hsp, hv => by
    have s0 : σ.1 3 0 = (S : Int) := T.2.2.1.trans hS
    have l160 := T.2.1
    have lk := x8_look N τ (τ.1 0 18) (by omega) (by omega)
    rw [if_neg (by omega)] at lk
    have es : ysu (τ.1 0 18) (τ.1 0 19) = (p : Int) - s := by rw [hb, hs, ysu_e (by omega) (by omega)]
    refine ⟨p, σ, τ, Nat.le_refl p, by omega, ?_, ?_, yK7_r, yK8_r, ha, hb, ht, rfl, rfl, rfl, rfl, rfl, hv⟩
    · rw [q_X1_readToken_b109]
      simp only [ycP_eq, ycP_ge, ht, decide_eq_false (show ¬ (2 : Int) = 3 by decide), cond_false, ha, s0, decide_eq_true (show (S : Int) ≤ (p : Int) by omega), cond_true]
    · rw [q_X8_next_b140]
      simp only [lk, x8_in, ycP_eq, ycP_gt, if_neg (show ¬ ((48 : Int) ≤ -1 ∧ (-1 : Int) ≤ 57) by decide), decide_true, cond_true, es]
      by_cases h : p ≤ s + 2
      · rw [decide_eq_false (show ¬ (2 : Int) < (p : Int) - s by omega), if_pos h]
        rfl
      · rw [decide_eq_true (show (2 : Int) < (p : Int) - s by omega), if_neg h]
        rfl
  | c + 1, m, q, p, σ, τ, hp, T, hS, ha, hb, ht, hs, hsp, hv => by
    have s0 : σ.1 3 0 = (S : Int) := T.2.2.1.trans hS
    have l160 := T.2.1
    have lk := x8_look N τ (τ.1 0 18) (by omega) (by omega)
    rw [if_pos (by omega), hb, Int.toNat_natCast] at lk
    obtain ⟨by1, by2⟩ := T.2.2.2 p (by omega)
    have ip : yin (p : Int) 160 = true := by rw [yin_d]; exact decide_eq_true (by omega)
    have e1 : yad (p : Int) 1 = ((p + 1 : Nat) : Int) := by rw [yad_e (by omega) (by omega)]; omega
    have es : ysu (p : Int) (s : Int) = (p : Int) - s := by rw [ysu_e (by omega) (by omega)]
    have hlt : ¬ (S : Int) ≤ (p : Int) := by omega
    obtain ⟨x, hx⟩ : ∃ x : Int, τ.1 8 p = x := ⟨_, rfl⟩
    rw [hx] at lk by1 by2
    by_cases hc : 48 ≤ x ∧ x ≤ 57
    · have step : ∀ v : Int, yVl (yw (yw τ 0 21 v) 0 18 ((p + 1 : Nat) : Int)) s (p + 1) → f_X8_next_b140 N (q + c + 1 + 1) τ = f_X8_next_b140 N (q + c + 1) (yw (yw τ 0 21 v) 0 18 ((p + 1 : Nat) : Int)) → ∃ (e : Nat) (σ' τ' : yS), p ≤ e ∧ e ≤ S ∧ f_X1_readToken_b109 N (m + (c + 1) + 1) σ = f_X1_readToken_b166 N σ' ∧ f_X8_next_b140 N (q + (c + 1) + 1) τ = f_X8_next_b236 N τ' (if e ≤ s + 2 then 1 else 0) ∧ yK7 σ σ' ∧ yK8 τ τ' ∧ σ'.1 2 1 = (e : Int) ∧ τ'.1 0 18 = (e : Int) ∧ σ'.1 2 2 = 2 ∧ σ'.1 2 3 = σ.1 2 3 ∧ σ'.1 2 4 = σ.1 2 4 ∧ τ'.1 0 19 = τ.1 0 19 ∧ τ'.1 0 20 = τ.1 0 20 ∧ τ'.1 0 22 = τ.1 0 22 ∧ yVl τ' s e := fun v hv2 st => by
        obtain ⟨e, σ', τ', h1, h2, g7, g8, k7, k8, r1, r2, r3, r4, r5, r6, r7, r8, r9⟩ := p_run2 (N := N) (S := S) (s := s) c m q (p + 1) (yw σ 2 1 ((p + 1 : Nat) : Int)) (yw (yw τ 0 21 v) 0 18 ((p + 1 : Nat) : Int)) (by omega) (yTp_k (yK7_w yK7_r (by omega)) (yK8_w (yK8_w yK8_r (by omega)) (by omega)) T) (by rw [yw_n (by omega), yw_n (by omega)]; exact hS) yw_p yw_p (by rw [yw_n (by omega)]; exact ht) (by rw [yw_n (by omega), yw_n (by omega)]; exact hs) (by omega) hv2
        refine ⟨e, σ', τ', by omega, h2, ?_, ?_, yK7_t (yK7_w yK7_r (by omega)) k7, yK8_t (yK8_w (yK8_w yK8_r (by omega)) (by omega)) k8, r1, r2, r3, by rw [r4, yw_n (by omega)], by rw [r5, yw_n (by omega)], by rw [r6, yw_n (by omega), yw_n (by omega)], by rw [r7, yw_n (by omega), yw_n (by omega)], by rw [r8, yw_n (by omega), yw_n (by omega)], r9⟩
        · rw [show m + (c + 1) + 1 = (m + c + 1) + 1 by omega, q_X1_readToken_b109]
          simp only [ycP_eq, ycP_ge, ycP_ne, ht, decide_eq_false (show ¬ (2 : Int) = 3 by decide), cond_false, ha, s0, decide_eq_false hlt, ip, cond_true, Int.toNat_natCast, by1, x1_sortOf, if_neg (show ¬ (97 ≤ x ∧ x ≤ 122) by omega), if_pos hc, e1, g7]
          rfl
        · rw [show q + (c + 1) + 1 = q + c + 1 + 1 by omega, st]
          exact g8
      by_cases h2 : p = s + 1
      · have v0 : τ.1 0 21 = τ.1 8 s - 48 := by
          rcases hv.2 with ⟨-, h⟩ | ⟨h, -⟩
          · exact h
          · omega
        have d0 := hv.1
        have ev : ysu (yad (ymu 10 (τ.1 0 21)) x) 48 = 10 * (τ.1 8 s - 48) + (x - 48) := by
          rw [v0, ymu_e (by omega) (by omega), yad_e (by omega) (by omega), ysu_e (by omega) (by omega)]
          omega
        refine step (10 * (τ.1 8 s - 48) + (x - 48)) ⟨by rw [yw_n (by omega), yw_n (by omega)]; exact hv.1, Or.inr ⟨by omega, ?_, ?_⟩⟩ ?_
        · rw [yw_n (by omega), yw_n (by omega), ← h2, hx]; exact hc
        · rw [yw_n (by omega), yw_p, yw_n (by omega), yw_n (by omega), yw_n (by omega), yw_n (by omega), ← h2, hx]
        · rw [q_X8_next_b140, hb]
          simp only [lk, x8_in, ycP_eq, ycP_ge, if_pos hc, decide_eq_false (show ¬ (1 : Int) = 0 by decide), cond_false, hb, hs, es, decide_eq_false (show ¬ (2 : Int) ≤ (p : Int) - s by omega), ev, f_X8_next_b201, f_X8_next_b206]
          rw [yw_n (a := 0) (b := 18) (by omega), hb, e1]
      · have v0 : (48 ≤ τ.1 8 (s + 1) ∧ τ.1 8 (s + 1) ≤ 57) ∧ τ.1 0 21 = 10 * (τ.1 8 s - 48) + (τ.1 8 (s + 1) - 48) := by
          rcases hv.2 with ⟨h, -⟩ | ⟨-, h⟩
          · omega
          · exact h
        refine step (τ.1 0 21) ⟨by rw [yw_n (by omega), yw_n (by omega)]; exact hv.1, Or.inr ⟨by omega, ?_, ?_⟩⟩ ?_
        · rw [yw_n (by omega), yw_n (by omega)]; exact v0.1
        · rw [yw_n (by omega), yw_p, yw_n (by omega), yw_n (by omega), yw_n (by omega), yw_n (by omega)]; exact v0.2
        · rw [q_X8_next_b140, hb]
          simp only [lk, x8_in, ycP_eq, ycP_ge, if_pos hc, decide_eq_false (show ¬ (1 : Int) = 0 by decide), cond_false, hb, hs, es, decide_eq_true (show (2 : Int) ≤ (p : Int) - s by omega), cond_true, f_X8_next_b201, f_X8_next_b206]
          rw [yw_n (a := 0) (b := 18) (by omega), hb, e1]
    · refine ⟨p, σ, τ, Nat.le_refl p, by omega, ?_, ?_, yK7_r, yK8_r, ha, hb, ht, rfl, rfl, rfl, rfl, rfl, hv⟩
      · have sn : decide (¬ (if 97 ≤ x ∧ x ≤ 122 then (1 : Int) else if 48 ≤ x ∧ x ≤ 57 then 2 else if x = 59 then 3 else 4) = 2) = true := decide_eq_true (by
          rw [if_neg hc]
          split
          · decide
          · split <;> decide)
        rw [show m + (c + 1) + 1 = (m + c + 1) + 1 by omega, q_X1_readToken_b109]
        simp only [ycP_eq, ycP_ge, ycP_ne, ht, decide_eq_false (show ¬ (2 : Int) = 3 by decide), cond_false, ha, s0, decide_eq_false hlt, ip, cond_true, Int.toNat_natCast, by1, x1_sortOf, sn]
      · rw [show q + (c + 1) + 1 = (q + c + 1) + 1 by omega, q_X8_next_b140, hb]
        simp only [lk, x8_in, ycP_eq, ycP_gt, if_neg hc, decide_true, cond_true, hb, hs, es]
        by_cases h : p ≤ s + 2
        · rw [decide_eq_false (show ¬ (2 : Int) < (p : Int) - s by omega), if_pos h]
          rfl
        · rw [decide_eq_true (show (2 : Int) < (p : Int) - s by omega), if_neg h]
          rfl
end
section
/-- a run of bytes that no token has: the class alone goes on -/
theorem x1_run4 {N : Nat} {S : Nat} (h160 : S ≤ 160) : ∀ (c m p : Nat) (σ : yS), p + c = S → σ.1 3 0 = (S : Int) → σ.1 2 1 = (p : Int) → σ.1 2 2 = 4 → ∃ (e : Nat) (σ' : yS), p ≤ e ∧ e ≤ S ∧ f_X1_readToken_b109 N (m + c + 1) σ = f_X1_readToken_b166 N σ' ∧ yK7 σ σ' ∧ σ'.1 2 1 = (e : Int) ∧ σ'.1 2 2 = 4 ∧ σ'.1 2 3 = σ.1 2 3 ∧ σ'.1 2 4 = σ.1 2 4
  | 0, m, p, σ, hp, s0, ha, ht => by
    refine ⟨p, σ, Nat.le_refl p, by omega, ?_, yK7_r, ha, ht, rfl, rfl⟩
    rw [q_X1_readToken_b109]
    simp only [ycP_eq, ycP_ge, ht, decide_eq_false (show ¬ (4 : Int) = 3 by decide), cond_false, ha, s0, decide_eq_true (show (S : Int) ≤ (p : Int) by omega), cond_true]
  | c + 1, m, p, σ, hp, s0, ha, ht => by
    have ip : yin (p : Int) 160 = true := by rw [yin_d]; exact decide_eq_true (by omega)
    have e1 : yad (p : Int) 1 = ((p + 1 : Nat) : Int) := by rw [yad_e (by omega) (by omega)]; omega
    have hlt : ¬ (S : Int) ≤ (p : Int) := by omega
    obtain ⟨x, hx⟩ : ∃ x : Int, (if 97 ≤ σ.1 4 p ∧ σ.1 4 p ≤ 122 then (1 : Int) else if 48 ≤ σ.1 4 p ∧ σ.1 4 p ≤ 57 then 2 else if σ.1 4 p = 59 then 3 else 4) = x := ⟨_, rfl⟩
    by_cases hc : x = 4
    · obtain ⟨e, σ', h1, h2, g7, k7, r1, r2, r3, r4⟩ := x1_run4 (N := N) (S := S) h160 c m (p + 1) (yw σ 2 1 ((p + 1 : Nat) : Int)) (by omega) (by rw [yw_n (by omega)]; exact s0) yw_p (by rw [yw_n (by omega)]; exact ht)
      refine ⟨e, σ', by omega, h2, ?_, yK7_t (yK7_w yK7_r (by omega)) k7, r1, r2, by rw [r3, yw_n (by omega)], by rw [r4, yw_n (by omega)]⟩
      rw [show m + (c + 1) + 1 = (m + c + 1) + 1 by omega, q_X1_readToken_b109]
      simp only [ycP_eq, ycP_ge, ycP_ne, ht, decide_eq_false (show ¬ (4 : Int) = 3 by decide), cond_false, ha, s0, decide_eq_false hlt, ip, cond_true, Int.toNat_natCast, x1_sortOf, hx, hc, e1, g7]
      rfl
    · refine ⟨p, σ, Nat.le_refl p, by omega, ?_, yK7_r, ha, ht, rfl, rfl⟩
      rw [show m + (c + 1) + 1 = (m + c + 1) + 1 by omega, q_X1_readToken_b109]
      simp only [ycP_eq, ycP_ge, ycP_ne, ht, decide_eq_false (show ¬ (4 : Int) = 3 by decide), cond_false, ha, s0, decide_eq_false hlt, ip, cond_true, Int.toNat_natCast, x1_sortOf, hx, decide_eq_true hc]
theorem p_blank {N : Nat} {S : Nat} : ∀ (c m q p : Nat) (σ τ : yS), p + c = S → yTp σ τ → τ.1 0 17 = (S : Int) → σ.1 2 1 = (p : Int) → τ.1 0 18 = (p : Int) → ∃ (e : Nat) (σ' τ' : yS), p ≤ e ∧ e ≤ S ∧ f_X1_readToken_b8 N (m + c + 1) σ = f_X1_readToken_b52 N σ' ∧ f_X8_next_b8 N (q + c + 1) τ = f_X8_next_b44 N (yw τ' 0 19 (e : Int)) ∧ yK7 σ σ' ∧ yK8 τ τ' ∧ σ'.1 2 1 = (e : Int) ∧ τ'.1 0 18 = (e : Int) ∧ σ'.1 2 4 = σ.1 2 4 ∧ τ'.1 0 22 = τ.1 0 22
  | 0, m, q, p, σ, τ, hp, T, hS, ha, hb => by
    have s0 : σ.1 3 0 = (S : Int) := T.2.2.1.trans hS
    have l160 := T.2.1
    have lk := x8_look N τ (τ.1 0 18) (by omega) (by omega)
    rw [if_neg (by omega), hb] at lk
    refine ⟨p, σ, τ, Nat.le_refl p, by omega, ?_, ?_, yK7_r, yK8_r, ha, hb, rfl, rfl⟩
    · rw [q_X1_readToken_b8]
      simp only [ycP_ge, ha, s0, decide_eq_true (show (S : Int) ≤ (p : Int) by omega), cond_true]
    · rw [q_X8_next_b8]
      simp only [lk, ycP_ne, decide_eq_true (show ¬ (-1 : Int) = 32 by decide), cond_true, hb]
  | c + 1, m, q, p, σ, τ, hp, T, hS, ha, hb => by
    have s0 : σ.1 3 0 = (S : Int) := T.2.2.1.trans hS
    have l160 := T.2.1
    have lk := x8_look N τ (τ.1 0 18) (by omega) (by omega)
    rw [if_pos (by omega), hb, Int.toNat_natCast] at lk
    obtain ⟨by1, by2⟩ := T.2.2.2 p (by omega)
    have ip : yin (p : Int) 160 = true := by rw [yin_d]; exact decide_eq_true (by omega)
    have e1 : yad (p : Int) 1 = ((p + 1 : Nat) : Int) := by rw [yad_e (by omega) (by omega)]; omega
    have hlt : ¬ (S : Int) ≤ (p : Int) := by omega
    obtain ⟨x, hx⟩ : ∃ x : Int, τ.1 8 p = x := ⟨_, rfl⟩
    rw [hx] at lk by1 by2
    by_cases hc : x = 32
    · obtain ⟨e, σ', τ', h1, h2, g7, g8, k7, k8, r1, r2, r3, r4⟩ := p_blank (N := N) (S := S) c m q (p + 1) (yw σ 2 1 ((p + 1 : Nat) : Int)) (yw τ 0 18 ((p + 1 : Nat) : Int)) (by omega) (yTp_k (yK7_w yK7_r (by omega)) (yK8_w yK8_r (by omega)) T) (by rw [yw_n (by omega)]; exact hS) yw_p yw_p
      refine ⟨e, σ', τ', by omega, h2, ?_, ?_, yK7_t (yK7_w yK7_r (by omega)) k7, yK8_t (yK8_w yK8_r (by omega)) k8, r1, r2, by rw [r3, yw_n (by omega)], by rw [r4, yw_n (by omega)]⟩
      · rw [show m + (c + 1) + 1 = (m + c + 1) + 1 by omega, q_X1_readToken_b8]
        simp only [ycP_ge, ycP_ne, ha, s0, decide_eq_false hlt, cond_false, ip, cond_true, Int.toNat_natCast, by1, hc, e1, g7]
        rfl
      · rw [show q + (c + 1) + 1 = (q + c + 1) + 1 by omega, q_X8_next_b8, hb]
        simp only [lk, ycP_ne, hc, hb, e1, g8]
        rfl
    · refine ⟨p, σ, τ, Nat.le_refl p, by omega, ?_, ?_, yK7_r, yK8_r, ha, hb, rfl, rfl⟩
      · rw [show m + (c + 1) + 1 = (m + c + 1) + 1 by omega, q_X1_readToken_b8]
        simp only [ycP_ge, ycP_ne, ha, s0, decide_eq_false hlt, cond_false, ip, cond_true, Int.toNat_natCast, by1, decide_eq_true hc]
      · rw [show q + (c + 1) + 1 = (q + c + 1) + 1 by omega, q_X8_next_b8, hb]
        simp only [lk, ycP_ne, decide_eq_true hc, cond_true, hb]
/-- what a token read gives -/
def yTR (σ τ σ' τ' : yS) : Prop := yK7 σ σ' ∧ yK8 τ τ' ∧ σ.1 2 1 ≤ σ'.1 2 1 ∧ ((yLx σ' τ' ∧ yTk σ' τ' ∧ (¬ σ'.1 2 2 = 0 → σ.1 2 1 < σ'.1 2 1)) ∨ yBd σ' τ')
theorem yTR_ok {σ τ σ' τ' : yS} {S p e n k : Nat} (T : yTp σ τ) (hS : τ.1 0 17 = (S : Int)) (hp : σ.1 2 1 = (p : Int)) (K7 : yK7 σ σ') (K8 : yK8 τ τ') (pe : p ≤ e) (en : e < n) (nS : n ≤ S) (a7 : σ'.1 2 1 = (n : Int)) (a8 : τ'.1 0 18 = (n : Int)) (b7 : σ'.1 2 3 = (e : Int)) (b8 : τ'.1 0 19 = (e : Int)) (t7 : σ'.1 2 2 = (k : Int)) (t8 : τ'.1 0 20 = (k : Int)) (f7 : σ'.1 2 4 = 0) (f8 : τ'.1 0 22 = 0) (hk : 1 ≤ k ∧ k ≤ 3) (hv : k = 2 → yVl τ' e n ∧ n ≤ e + 2) : yTR σ τ σ' τ' := by
  have S' : τ'.1 0 17 = (S : Int) := by rw [K8 _ _ (by omega)]; exact hS
  refine ⟨K7, K8, by omega, Or.inl ⟨⟨yTp_k K7 K8 T, f7, f8, by rw [a7, a8], by omega, by omega⟩, ⟨by rw [b7, b8], by rw [t7, t8], by omega, by omega, fun q => by omega, fun _ => by omega, fun q => ?_⟩, fun _ => by omega⟩⟩
  obtain ⟨⟨v1, v2⟩, v3⟩ := hv (by omega)
  refine ⟨e, b8, v1, ?_⟩
  rcases v2 with ⟨v4, v5⟩ | ⟨v4, v5, v6⟩
  · exact Or.inl ⟨by rw [a8, v4]; rfl, v5⟩
  · exact Or.inr ⟨by rw [a8]; omega, v5, v6⟩
theorem yTR_bad {σ τ σ' τ' : yS} {S p e n : Nat} (T : yTp σ τ) (hS : τ.1 0 17 = (S : Int)) (hp : σ.1 2 1 = (p : Int)) (K7 : yK7 σ σ') (K8 : yK8 τ τ') (pe : p ≤ e) (en : e < n) (nS : n ≤ S) (a7 : σ'.1 2 1 = (n : Int)) (b7 : σ'.1 2 3 = (e : Int)) (f7 : σ'.1 2 4 = 1) (f8 : τ'.1 0 22 = 1) (w7 : σ'.1 2 5 = (e : Int)) (w8 : τ'.1 0 23 = (e : Int)) : yTR σ τ σ' τ' := by
  have l160 := T.2.1
  have t17 := T.2.2.1
  have s3 : σ'.1 3 0 = (S : Int) := by rw [K7.2 _ _ (by omega)]; omega
  exact ⟨K7, K8, by omega, Or.inr ⟨by rw [f7, f8], by omega, by rw [w7, w8], by omega, by omega, by omega, by omega⟩⟩
theorem p_token {N : Nat} (hN : 400 ≤ N) {σ τ : yS} (H : yLx σ τ) : ∃ (σ' τ' : yS), f_X1_readToken N σ = some (0, σ') ∧ f_X8_next N τ = some (0, τ') ∧ yTR σ τ σ' τ' := by
  obtain ⟨T, f7, f8, hap, hp0, hp1⟩ := H
  have l160 := T.2.1
  have t17 := T.2.2.1
  obtain ⟨S, hS⟩ : ∃ S : Nat, τ.1 0 17 = (S : Int) := ⟨(τ.1 0 17).toNat, by omega⟩
  obtain ⟨p, hp⟩ : ∃ p : Nat, τ.1 0 18 = (p : Int) := ⟨(τ.1 0 18).toNat, by omega⟩
  have s0 : σ.1 3 0 = (S : Int) := t17.trans hS
  obtain ⟨e, σ1, τ1, h1, h2, g7, g8, k7, k8, r1, r2, r3, r4⟩ := p_blank (N := N) (S := S) (S - p) (N - (S - p) - 1) (N - (S - p) - 1) p σ τ (by omega) T hS (hap.trans hp) hp
  rw [show N - (S - p) - 1 + (S - p) + 1 = N by omega] at g7 g8
  have c7 : f_X1_readToken N σ = f_X1_readToken_b61 N (yw σ1 2 3 (e : Int)) := by
    simp only [f_X1_readToken, ycP_eq, f7, decide_true, cond_true, g7, f_X1_readToken_b52, r1]
  have c8 : f_X8_next N τ = f_X8_next_b44 N (yw τ1 0 19 (e : Int)) := by
    simp only [f_X8_next, ycP_le, f8, show decide ((0 : Int) ≤ 0) = true from rfl, cond_true, g8]
  have T1 : yTp σ1 τ1 := yTp_k k7 k8 T
  have s1 : σ1.1 3 0 = (S : Int) := by rw [k7.2 _ _ (by omega)]; exact s0
  have S1 : τ1.1 0 17 = (S : Int) := by rw [k8 _ _ (by omega)]; exact hS
  have lk := x8_look N (yw τ1 0 19 (e : Int)) (e : Int) (by omega) (by rw [yw_n (by omega), S1]; omega)
  rw [yw_n (a := 0) (b := 17) (by omega), S1, yw_n (a := 8) (by omega), Int.toNat_natCast] at lk
  by_cases hend : e = S
  · rw [if_neg (by omega)] at lk
    refine ⟨yw (yw σ1 2 3 (e : Int)) 2 2 0, yw (yw τ1 0 19 (e : Int)) 0 20 0, ?_, ?_, yK7_t k7 (yK7_w (yK7_w yK7_r (by omega)) (by omega)), yK8_t k8 (yK8_w (yK8_w yK8_r (by omega)) (by omega)), ?_, Or.inl ⟨⟨yTp_k (yK7_w (yK7_w yK7_r (by omega)) (by omega)) (yK8_w (yK8_w yK8_r (by omega)) (by omega)) T1, ?_, ?_, ?_, ?_⟩, ⟨?_, ?_, ?_, ?_, ?_, ?_, ?_⟩, ?_⟩⟩
    · rw [c7]
      unfold f_X1_readToken_b61
      rw [yw_n (by omega), r1, yw_n (by omega), s1, ycP_lt, decide_eq_false (by omega)]
      rfl
    · rw [c8]
      unfold f_X8_next_b44
      rw [yw_n (a := 0) (b := 18) (by omega), r2, lk]
      rfl
    · rw [yw_n (by omega), yw_n (by omega), r1]; omega
    · rw [yw_n (by omega), yw_n (by omega), r3]; exact f7
    · rw [yw_n (by omega), yw_n (by omega), r4]; exact f8
    · rw [yw_n (by omega), yw_n (by omega), yw_n (by omega), yw_n (by omega), r1, r2]
    · rw [yw_n (by omega), yw_n (by omega), yw_n (by omega), yw_n (by omega), r2, S1]; omega
    · rw [yw_n (by omega), yw_p, yw_n (by omega), yw_p]
    · rw [yw_p, yw_p]
    · rw [yw_n (by omega), yw_p, yw_n (by omega), yw_n (by omega), r2]; omega
    · rw [yw_p]; omega
    · intro _; rw [yw_n (by omega), yw_p, yw_n (by omega), yw_n (by omega), S1, hend]
    · intro q; rw [yw_p] at q; exact absurd rfl q
    · intro q; rw [yw_p] at q; omega
    · intro q; rw [yw_p] at q; exact absurd rfl q
  · have e160 : e < 160 := by omega
    rw [if_pos (by omega)] at lk
    have ie : yin (e : Int) 160 = true := by rw [yin_d]; exact decide_eq_true (by omega)
    have e1 : yad (e : Int) 1 = ((e + 1 : Nat) : Int) := by rw [yad_e (by omega) (by omega)]; omega
    obtain ⟨by1, by2⟩ := T1.2.2.2 e (by omega)
    obtain ⟨x, hx⟩ : ∃ x : Int, τ1.1 8 e = x := ⟨_, rfl⟩
    rw [hx] at lk by1 by2
    have d7 : ∀ k : Int, (if 97 ≤ x ∧ x ≤ 122 then (1 : Int) else if 48 ≤ x ∧ x ≤ 57 then 2 else if x = 59 then 3 else 4) = k → f_X1_readToken N σ = f_X1_readToken_b109 N N (yw (yw (yw σ1 2 3 (e : Int)) 2 2 k) 2 1 ((e + 1 : Nat) : Int)) := fun k hk => by
      rw [c7]
      unfold f_X1_readToken_b61
      rw [yw_n (a := 2) (b := 1) (by omega), r1, yw_n (a := 3) (by omega), s1, ycP_lt, decide_eq_true (show (e : Int) < (S : Int) by omega), ie, Int.toNat_natCast, yw_n (a := 4) (by omega), by1, x1_sortOf, hk]
      show f_X1_readToken_b101 N (yw (yw σ1 2 3 (e : Int)) 2 2 k) = _
      unfold f_X1_readToken_b101
      rw [yw_n (a := 2) (b := 1) (by omega), yw_n (a := 2) (b := 1) (by omega), r1, e1]
    have d8 : f_X8_next N τ = (bif decide (0 ≤ x) then (match f_X8_in N (yw τ1 0 19 (e : Int)) x 97 122 with
      | none => none
      | some r3 => bif ycP .eq r3.1 0 then
          (match f_X8_in N r3.2 x 48 57 with
          | none => none
          | some r4 => bif ycP .eq r4.1 0 then
              bif ycP .ne x 59 then
                f_X8_next_b260 N (yw r4.2 0 20 3) 0
              else
                f_X8_next_b260 N (yw r4.2 0 20 3) 1
            else
              f_X8_next_b140 N N (yw (yw r4.2 0 20 2) 0 21 0))
        else
          f_X8_next_b82 N N (yw r3.2 0 20 1)) else f_X8_next_b274 N (yw (yw τ1 0 19 (e : Int)) 0 20 0)) := by
      rw [c8]
      unfold f_X8_next_b44
      rw [yw_n (a := 0) (b := 18) (by omega), r2, lk]
      rfl
    have hp7 : σ.1 2 1 = (p : Int) := hap.trans hp
    obtain ⟨M, hM⟩ : ∃ M, N = M + 1 := ⟨N - 1, by omega⟩
    by_cases hc : 97 ≤ x ∧ x ≤ 122
    · have q7 := d7 1 (if_pos hc)
      have q8 : f_X8_next N τ = f_X8_next_b82 N N (yw (yw τ1 0 19 (e : Int)) 0 20 1) := by
        rw [d8, decide_eq_true by2, x8_in, if_pos hc]
        rfl
      have lk2 := x8_look N (yw (yw τ1 0 19 (e : Int)) 0 20 1) (e : Int) (by omega) (by rw [yw_n (by omega), yw_n (by omega), S1]; omega)
      rw [yw_n (a := 0) (b := 17) (by omega), yw_n (a := 0) (b := 17) (by omega), S1, if_pos (by omega), Int.toNat_natCast, yw_n (a := 8) (by omega), yw_n (a := 8) (by omega), hx] at lk2
      have st : f_X8_next_b82 N N (yw (yw τ1 0 19 (e : Int)) 0 20 1) = f_X8_next_b82 N M (yw (yw (yw τ1 0 19 (e : Int)) 0 20 1) 0 18 ((e + 1 : Nat) : Int)) := by
        have q := q_X8_next_b82 N M (yw (yw τ1 0 19 (e : Int)) 0 20 1)
        rw [show M + 1 = N by omega, yw_n (a := 0) (b := 18) (by omega), yw_n (a := 0) (b := 18) (by omega), r2, lk2] at q
        rw [q]
        simp only [x8_in, if_pos hc]
        rw [yw_n (a := 0) (b := 18) (by omega), yw_n (a := 0) (b := 18) (by omega), r2, e1]
        rfl
      have K7a : yK7 σ1 (yw (yw (yw σ1 2 3 (e : Int)) 2 2 1) 2 1 ((e + 1 : Nat) : Int)) := yK7_w (yK7_w (yK7_w yK7_r (by omega)) (by omega)) (by omega)
      have K8a : yK8 τ1 (yw (yw (yw τ1 0 19 (e : Int)) 0 20 1) 0 18 ((e + 1 : Nat) : Int)) := yK8_w (yK8_w (yK8_w yK8_r (by omega)) (by omega)) (by omega)
      obtain ⟨n, σ', τ', n1, n2, u7, u8, v7, v8, w1, w2, w3, w4, w5, w6, w7, w8⟩ := p_run1 (N := N) (S := S) (S - (e + 1)) (N - (S - (e + 1)) - 1) (M - (S - (e + 1)) - 1) (e + 1) _ _ (by omega) (yTp_k K7a K8a T1) (by rw [yw_n (by omega), yw_n (by omega), yw_n (by omega)]; exact S1) yw_p yw_p (by rw [yw_n (by omega), yw_p])
      rw [show N - (S - (e + 1)) - 1 + (S - (e + 1)) + 1 = N by omega] at u7
      rw [show M - (S - (e + 1)) - 1 + (S - (e + 1)) + 1 = M by omega] at u8
      refine ⟨σ', τ', ?_, ?_, yTR_ok (e := e) (n := n) (k := 1) T hS hp7 (yK7_t k7 (yK7_t K7a v7)) (yK8_t k8 (yK8_t K8a v8)) h1 (by omega) n2 w1 w2 ?_ ?_ w3 ?_ ?_ ?_ (by omega) (fun q => by omega)⟩
      · rw [q7, u7]
        unfold f_X1_readToken_b166
        rw [w3]
        rfl
      · rw [q8, st, u8]
      · rw [w4, yw_n (by omega), yw_n (by omega), yw_p]
      · rw [w6, yw_n (by omega), yw_n (by omega), yw_p]
      · rw [w7, yw_n (by omega), yw_p]; rfl
      · rw [w5, yw_n (by omega), yw_n (by omega), yw_n (by omega), r3]; exact f7
      · rw [w8, yw_n (by omega), yw_n (by omega), yw_n (by omega), r4]; exact f8
    · by_cases hd : 48 ≤ x ∧ x ≤ 57
      · have q7 := d7 2 (by rw [if_neg hc, if_pos hd])
        have q8 : f_X8_next N τ = f_X8_next_b140 N N (yw (yw (yw τ1 0 19 (e : Int)) 0 20 2) 0 21 0) := by
          rw [d8, decide_eq_true by2]
          simp only [x8_in, if_neg hc, if_pos hd, cond_true, ycP_eq, decide_true]
          rfl
        have lk2 := x8_look N (yw (yw (yw τ1 0 19 (e : Int)) 0 20 2) 0 21 0) (e : Int) (by omega) (by rw [yw_n (by omega), yw_n (by omega), yw_n (by omega), S1]; omega)
        rw [yw_n (a := 0) (b := 17) (by omega), yw_n (a := 0) (b := 17) (by omega), yw_n (a := 0) (b := 17) (by omega), S1, if_pos (by omega), Int.toNat_natCast, yw_n (a := 8) (by omega), yw_n (a := 8) (by omega), yw_n (a := 8) (by omega), hx] at lk2
        have ev : ysu (yad (ymu 10 0) x) 48 = x - 48 := by
          rw [ymu_e (by omega) (by omega), yad_e (by omega) (by omega), ysu_e (by omega) (by omega)]
          omega
        have ez : ysu (e : Int) (e : Int) = 0 := by rw [ysu_e (by omega) (by omega)]; omega
        have st : f_X8_next_b140 N N (yw (yw (yw τ1 0 19 (e : Int)) 0 20 2) 0 21 0) = f_X8_next_b140 N M (yw (yw (yw (yw (yw τ1 0 19 (e : Int)) 0 20 2) 0 21 0) 0 21 (x - 48)) 0 18 ((e + 1 : Nat) : Int)) := by
          have q := q_X8_next_b140 N M (yw (yw (yw τ1 0 19 (e : Int)) 0 20 2) 0 21 0)
          rw [show M + 1 = N by omega, yw_n (a := 0) (b := 18) (by omega), yw_n (a := 0) (b := 18) (by omega), yw_n (a := 0) (b := 18) (by omega), r2, lk2] at q
          rw [q]
          simp only [x8_in, if_pos hd]
          rw [yw_n (a := 0) (b := 18) (by omega), yw_n (a := 0) (b := 18) (by omega), yw_n (a := 0) (b := 18) (by omega), r2, yw_n (a := 0) (b := 19) (by omega), yw_n (a := 0) (b := 19) (by omega), yw_p, ez, lk2, yw_p]
          simp only [ev]
          show f_X8_next_b201 N (f_X8_next_b140 N M) _ (x - 48) = _
          unfold f_X8_next_b201 f_X8_next_b206
          rw [yw_n (a := 0) (b := 18) (by omega), yw_n (a := 0) (b := 18) (by omega), yw_n (a := 0) (b := 18) (by omega), yw_n (a := 0) (b := 18) (by omega), r2, e1]
        have K7a : yK7 σ1 (yw (yw (yw σ1 2 3 (e : Int)) 2 2 2) 2 1 ((e + 1 : Nat) : Int)) := yK7_w (yK7_w (yK7_w yK7_r (by omega)) (by omega)) (by omega)
        have K8a : yK8 τ1 (yw (yw (yw (yw (yw τ1 0 19 (e : Int)) 0 20 2) 0 21 0) 0 21 (x - 48)) 0 18 ((e + 1 : Nat) : Int)) := yK8_w (yK8_w (yK8_w (yK8_w (yK8_w yK8_r (by omega)) (by omega)) (by omega)) (by omega)) (by omega)
        obtain ⟨n, σ', τ', n1, n2, u7, u8, v7, v8, w1, w2, w3, w4, w5, w6, w7, w8, w9⟩ := p_run2 (N := N) (S := S) (s := e) (S - (e + 1)) (N - (S - (e + 1)) - 1) (M - (S - (e + 1)) - 1) (e + 1) _ _ (by omega) (yTp_k K7a K8a T1) (by rw [K8a _ _ (by omega)]; exact S1) yw_p yw_p (by rw [yw_n (by omega), yw_p]) (by rw [yw_n (by omega), yw_n (by omega), yw_n (by omega), yw_n (by omega), yw_p]) (by omega) ⟨by rw [K8a _ _ (by omega), hx]; exact hd, Or.inl ⟨rfl, by rw [yw_n (by omega), yw_p, K8a 8 e (by omega), hx]⟩⟩
        rw [show N - (S - (e + 1)) - 1 + (S - (e + 1)) + 1 = N by omega] at u7
        rw [show M - (S - (e + 1)) - 1 + (S - (e + 1)) + 1 = M by omega] at u8
        have K7b := yK7_t k7 (yK7_t K7a v7)
        have K8b := yK8_t k8 (yK8_t K8a v8)
        have b7 : σ'.1 2 3 = (e : Int) := by rw [w4, yw_n (by omega), yw_n (by omega), yw_p]
        have b8 : τ'.1 0 19 = (e : Int) := by rw [w6, yw_n (by omega), yw_n (by omega), yw_n (by omega), yw_n (by omega), yw_p]
        have t8 : τ'.1 0 20 = 2 := by rw [w7, yw_n (by omega), yw_n (by omega), yw_n (by omega), yw_p]
        have f7b : σ'.1 2 4 = 0 := by rw [w5, yw_n (by omega), yw_n (by omega), yw_n (by omega), r3]; exact f7
        have f8b : τ'.1 0 22 = 0 := by rw [w8, yw_n (by omega), yw_n (by omega), yw_n (by omega), yw_n (by omega), yw_n (by omega), r4]; exact f8
        have es : ysu (σ'.1 2 1) (σ'.1 2 3) = (n : Int) - e := by rw [w1, b7, ysu_e (by omega) (by omega)]
        by_cases h2 : n ≤ e + 2
        · refine ⟨σ', τ', ?_, ?_, yTR_ok (e := e) (n := n) (k := 2) T hS hp7 K7b K8b h1 (by omega) n2 w1 w2 b7 b8 w3 t8 f7b f8b (by omega) (fun _ => ⟨w9, h2⟩)⟩
          · rw [q7, u7]
            unfold f_X1_readToken_b166
            rw [w3, es, ycP_le, decide_eq_true (show (n : Int) - e ≤ 2 by omega)]
            rfl
          · rw [q8, st, u8, if_pos h2]
            rfl
        · refine ⟨yw (yw σ' 2 4 1) 2 5 (e : Int), yw (yw τ' 0 22 1) 0 23 (e : Int), ?_, ?_, yTR_bad (e := e) (n := n) T hS hp7 (yK7_w (yK7_w K7b (by omega)) (by omega)) (yK8_w (yK8_w K8b (by omega)) (by omega)) h1 (by omega) n2 ?_ ?_ ?_ ?_ yw_p yw_p⟩
          · rw [q7, u7]
            unfold f_X1_readToken_b166
            rw [w3, es, ycP_le, decide_eq_false (show ¬ (n : Int) - e ≤ 2 by omega)]
            show f_X1_readToken_b195 N σ' = _
            unfold f_X1_readToken_b195 f_X1_complain
            rw [f7b, b7]
            rfl
          · rw [q8, st, u8, if_neg h2]
            unfold f_X8_next_b236 f_X8_needs
            rw [f8b]
            show some ((0 : Int), yw (yw τ' 0 22 1) 0 23 ((yw τ' 0 22 1).1 0 19)) = _
            rw [yw_n (by omega), b8]
          · rw [yw_n (by omega), yw_n (by omega), w1]
          · rw [yw_n (by omega), yw_n (by omega), b7]
          · rw [yw_n (by omega), yw_p]
          · rw [yw_n (by omega), yw_p]
      · by_cases h59 : x = 59
        · have q7 := d7 3 (by rw [if_neg hc, if_neg hd, if_pos h59])
          have q8 : f_X8_next N τ = f_X8_next_b260 N (yw (yw τ1 0 19 (e : Int)) 0 20 3) 1 := by
            rw [d8, decide_eq_true by2]
            simp only [x8_in, if_neg hc, if_neg hd, cond_true, ycP_eq, ycP_ne, decide_true, h59]
            rfl
          refine ⟨yw (yw (yw σ1 2 3 (e : Int)) 2 2 3) 2 1 ((e + 1 : Nat) : Int), yw (yw (yw τ1 0 19 (e : Int)) 0 20 3) 0 18 ((e + 1 : Nat) : Int), ?_, ?_, yTR_ok (e := e) (n := e + 1) (k := 3) T hS hp7 (yK7_w (yK7_w (yK7_w k7 (by omega)) (by omega)) (by omega)) (yK8_w (yK8_w (yK8_w k8 (by omega)) (by omega)) (by omega)) h1 (by omega) (by omega) yw_p yw_p ?_ ?_ ?_ ?_ ?_ ?_ (by omega) (fun q => by omega)⟩
          · have q := q_X1_readToken_b109 N M (yw (yw (yw σ1 2 3 (e : Int)) 2 2 3) 2 1 ((e + 1 : Nat) : Int))
            rw [show M + 1 = N by omega, yw_n (a := 2) (b := 2) (by omega), yw_p] at q
            rw [q7, q, ycP_eq, decide_eq_true rfl, cond_true]
            unfold f_X1_readToken_b166
            rw [yw_n (a := 2) (b := 2) (by omega), yw_p]
            rfl
          · rw [q8]
            show some ((0 : Int), yw (yw (yw τ1 0 19 (e : Int)) 0 20 3) 0 18 (yad ((yw (yw τ1 0 19 (e : Int)) 0 20 3).1 0 18) 1)) = _
            rw [yw_n (a := 0) (b := 18) (by omega), yw_n (a := 0) (b := 18) (by omega), r2, e1]
          · rw [yw_n (by omega), yw_n (by omega), yw_p]
          · rw [yw_n (by omega), yw_n (by omega), yw_p]
          · rw [yw_n (by omega), yw_p]; rfl
          · rw [yw_n (by omega), yw_p]; rfl
          · rw [yw_n (by omega), yw_n (by omega), yw_n (by omega), r3]; exact f7
          · rw [yw_n (by omega), yw_n (by omega), yw_n (by omega), r4]; exact f8
        · have q7 := d7 4 (by rw [if_neg hc, if_neg hd, if_neg h59])
          have q8 : f_X8_next N τ = f_X8_next_b260 N (yw (yw τ1 0 19 (e : Int)) 0 20 3) 0 := by
            rw [d8, decide_eq_true by2]
            simp only [x8_in, if_neg hc, if_neg hd, ycP_eq, ycP_ne, decide_true, cond_true, decide_eq_true h59]
          have K7a : yK7 σ1 (yw (yw (yw σ1 2 3 (e : Int)) 2 2 4) 2 1 ((e + 1 : Nat) : Int)) := yK7_w (yK7_w (yK7_w yK7_r (by omega)) (by omega)) (by omega)
          obtain ⟨n, σ', n1, n2, u7, v7, w1, w3, w4, w5⟩ := x1_run4 (N := N) (S := S) (by omega) (S - (e + 1)) (N - (S - (e + 1)) - 1) (e + 1) (yw (yw (yw σ1 2 3 (e : Int)) 2 2 4) 2 1 ((e + 1 : Nat) : Int)) (by omega) (by rw [yw_n (by omega), yw_n (by omega), yw_n (by omega)]; exact s1) yw_p (by rw [yw_n (by omega), yw_p])
          rw [show N - (S - (e + 1)) - 1 + (S - (e + 1)) + 1 = N by omega] at u7
          have b7 : σ'.1 2 3 = (e : Int) := by rw [w4, yw_n (by omega), yw_n (by omega), yw_p]
          have f7b : σ'.1 2 4 = 0 := by rw [w5, yw_n (by omega), yw_n (by omega), yw_n (by omega), r3]; exact f7
          refine ⟨yw (yw σ' 2 4 1) 2 5 (e : Int), yw (yw (yw (yw (yw τ1 0 19 (e : Int)) 0 20 3) 0 22 1) 0 23 (e : Int)) 0 18 ((e + 1 : Nat) : Int), ?_, ?_, yTR_bad (e := e) (n := n) T hS hp7 (yK7_w (yK7_w (yK7_t k7 (yK7_t K7a v7)) (by omega)) (by omega)) (yK8_w (yK8_w (yK8_w (yK8_w (yK8_w k8 (by omega)) (by omega)) (by omega)) (by omega)) (by omega)) h1 (by omega) n2 ?_ ?_ ?_ ?_ yw_p ?_⟩
          · rw [q7, u7]
            unfold f_X1_readToken_b166
            rw [w3]
            show f_X1_readToken_b195 N σ' = _
            unfold f_X1_readToken_b195 f_X1_complain
            rw [f7b, b7]
            rfl
          · rw [q8]
            unfold f_X8_next_b260 f_X8_needs
            rw [yw_n (a := 0) (b := 22) (by omega), yw_n (a := 0) (b := 22) (by omega), r4, f8]
            show some ((0 : Int), yw (yw (yw (yw (yw τ1 0 19 (e : Int)) 0 20 3) 0 22 1) 0 23 ((yw (yw (yw τ1 0 19 (e : Int)) 0 20 3) 0 22 1).1 0 19)) 0 18 (yad ((yw (yw (yw (yw τ1 0 19 (e : Int)) 0 20 3) 0 22 1) 0 23 ((yw (yw (yw τ1 0 19 (e : Int)) 0 20 3) 0 22 1).1 0 19)).1 0 18) 1)) = _
            rw [yw_n (a := 0) (b := 19) (by omega), yw_n (a := 0) (b := 19) (by omega), yw_p, yw_n (a := 0) (b := 18) (by omega), yw_n (a := 0) (b := 18) (by omega), yw_n (a := 0) (b := 18) (by omega), yw_n (a := 0) (b := 18) (by omega), r2, e1]
          · rw [yw_n (by omega), yw_n (by omega), w1]
          · rw [yw_n (by omega), yw_n (by omega), b7]
          · rw [yw_n (by omega), yw_p]
          · rw [yw_n (by omega), yw_n (by omega), yw_p]
          · rw [yw_n (by omega), yw_p]
end
section
/-- a token is read and good, or a fault is found -/
def yE (σ τ : yS) : Prop := (yLx σ τ ∧ yTk σ τ) ∨ (yBd σ τ ∧ yTp σ τ)
/-- a fault told on both sides -/
theorem p_fail {N : Nat} {σ τ : yS} {k : Int} (H : yLx σ τ ∧ yTk σ τ) (hk : 0 < k) : f_X1_complain N σ k (σ.1 2 3) = some (0, yw (yw σ 2 4 k) 2 5 (σ.1 2 3)) ∧ f_X8_needs N τ 0 k = some (0, yw (yw τ 0 22 k) 0 23 (τ.1 0 19)) ∧ yE (yw (yw σ 2 4 k) 2 5 (σ.1 2 3)) (yw (yw τ 0 22 k) 0 23 (τ.1 0 19)) := by
  obtain ⟨⟨T, f7, f8, hap, hp0, hp1⟩, ⟨b, t, s0, -⟩⟩ := H
  have l160 := T.2.1
  have t17 := T.2.2.1
  refine ⟨?_, ?_, Or.inr ⟨⟨?_, ?_, ?_, ?_, ?_, ?_, ?_⟩, yTp_k (yK7_w (yK7_w yK7_r (by omega)) (by omega)) (yK8_w (yK8_w yK8_r (by omega)) (by omega)) T⟩⟩
  · simp only [f_X1_complain, f_X1_complain_b17, ycP_ne, f7, not_true_eq_false, decide_false, cond_false]
  · simp only [f_X8_needs, f_X8_needs_b18, f_X8_needs_b24, ycP_ne, f8, not_true_eq_false, decide_false, cond_false]
    rw [yw_n (a := 0) (b := 19) (by omega)]
  · rw [yw_n (by omega), yw_p, yw_n (by omega), yw_p]
  · rw [yw_n (by omega), yw_p]; exact hk
  · rw [yw_p, yw_p]; exact b
  · rw [yw_p]; omega
  · rw [yw_p]; omega
  · rw [yw_n (by omega), yw_n (by omega), yw_n (by omega), yw_n (by omega), yw_n (by omega), yw_n (by omega)]; omega
  · rw [yw_n (by omega), yw_n (by omega)]; omega
theorem x1_cbad {N : Nat} {σ : yS} {k p : Int} (h : ¬ σ.1 2 4 = 0) : f_X1_complain N σ k p = some (0, σ) := by
  simp only [f_X1_complain, f_X1_complain_b17, ycP_ne, decide_eq_true h, cond_true]
theorem x8_nbad {N : Nat} {τ : yS} {g k : Int} (h : ¬ τ.1 0 22 = 0) : f_X8_needs N τ g k = some (0, τ) := by
  simp only [f_X8_needs, f_X8_needs_b24, ycP_ne]
  by_cases q : g = 0
  · simp only [q, not_true_eq_false, decide_false, cond_false, decide_eq_true h, cond_true]
  · simp only [decide_eq_true q, cond_true]
theorem x8_ngood {N : Nat} {τ : yS} {k : Int} : f_X8_needs N τ 1 k = some (0, τ) := by
  unfold f_X8_needs
  rw [ycP_ne, decide_eq_true (show ¬ (1 : Int) = 0 by decide), cond_true]
  rfl
/-- a token more -/
theorem p_next {N : Nat} (hN : 400 ≤ N) {σ τ : yS} (H : yE σ τ) : ∃ (σ' τ' : yS), f_X1_readToken N σ = some (0, σ') ∧ f_X8_next N τ = some (0, τ') ∧ yE σ' τ' ∧ yK7 σ σ' ∧ yK8 τ τ' ∧ σ.1 2 1 ≤ σ'.1 2 1 ∧ (σ'.1 2 4 = 0 → σ.1 2 4 = 0) ∧ (σ'.1 2 4 = 0 → ¬ σ'.1 2 2 = 0 → σ.1 2 1 < σ'.1 2 1) ∧ (¬ σ.1 2 4 = 0 → σ' = σ ∧ τ' = τ) := by
  rcases H with ⟨L, K⟩ | ⟨B, T⟩
  · obtain ⟨σ', τ', g7, g8, k7, k8, mo, h⟩ := p_token (N := N) hN L
    refine ⟨σ', τ', g7, g8, ?_, k7, k8, mo, fun _ => L.2.1, fun z => ?_, fun z => absurd L.2.1 z⟩
    · rcases h with ⟨h1, h2, -⟩ | h1
      · exact Or.inl ⟨h1, h2⟩
      · exact Or.inr ⟨h1, yTp_k k7 k8 L.1⟩
    · rcases h with ⟨-, -, h3⟩ | h1
      · exact h3
      · exfalso
        have := h1.1
        have := h1.2.1
        omega
  · have b1 := B.1
    have b2 := B.2.1
    refine ⟨σ, τ, ?_, ?_, Or.inr ⟨B, T⟩, yK7_r, yK8_r, Int.le_refl _, fun z => z, fun z => by omega, fun _ => ⟨rfl, rfl⟩⟩
    · simp only [f_X1_readToken, ycP_eq, decide_eq_false (show ¬ σ.1 2 4 = 0 by omega), cond_false]
    · simp only [f_X8_next, ycP_le, decide_eq_false (show ¬ τ.1 0 22 ≤ 0 by omega), cond_false]
/-- the class's loop over figures, whatever they are -/
theorem x1_num_l {N : Nat} {σ : yS} {lo hi : Int} {A : Nat} (hA : σ.1 2 1 = (A : Int)) (h160 : A ≤ 160) : ∀ (c m i : Nat) (v : Int), i + c = A → ∃ v' : Int, f_X1_numberHere_b27 N (m + c + 1) σ lo hi v i = (match f_X7_within N σ v' lo hi with
      | none => none
      | some r1 => bif ycP .ne r1.1 0 then
          f_X1_numberHere_b79 N r1.2 lo v'
        else
          match f_X1_complain N r1.2 3 (r1.2.1 2 3) with
          | none => none
          | some r2 => f_X1_numberHere_b79 N r2.2 lo v')
  | 0, m, i, v, he => by
    refine ⟨v, ?_⟩
    rw [q_X1_numberHere_b27, hA, ycP_ge, decide_eq_true (show (A : Int) ≤ (i : Int) by omega)]
    rfl
  | c + 1, m, i, v, he => by
    have e1 : yad (i : Int) 1 = ((i + 1 : Nat) : Int) := by rw [yad_e (by omega) (by omega)]; omega
    have ii : yin (i : Int) 160 = true := by rw [yin_d]; exact decide_eq_true (by omega)
    obtain ⟨v', g⟩ := x1_num_l (N := N) (lo := lo) (hi := hi) hA h160 c m (i + 1) (ysu (yad (ymu 10 v) (σ.1 4 i)) 48) (by omega)
    refine ⟨v', ?_⟩
    rw [show m + (c + 1) + 1 = (m + c + 1) + 1 by omega, q_X1_numberHere_b27, hA, ycP_ge, decide_eq_false (show ¬ (A : Int) ≤ (i : Int) by omega), cond_false, ii, cond_true, Int.toNat_natCast, e1]
    exact g
/-- the number told, or a fault -/
theorem p_num {N : Nat} (hN : 400 ≤ N) {σ τ : yS} {lo hi : Int} (hl : 0 ≤ lo ∧ lo ≤ hi) (H : yE σ τ) : ∃ (a b : Int) (σ' τ' : yS), f_X1_numberHere N σ lo hi = some (a, σ') ∧ f_X8_looked N τ lo hi = some (b, τ') ∧ yE σ' τ' ∧ yK7 σ σ' ∧ yK8 τ τ' ∧ (lo ≤ a ∧ a ≤ hi) ∧ (b = 0 ∨ (lo ≤ b ∧ b ≤ hi)) ∧ (σ'.1 2 4 = 0 → a = b ∧ σ' = σ ∧ τ' = τ) ∧ σ'.1 2 1 = σ.1 2 1 ∧ (τ'.1 0 22 = σ'.1 2 4) ∧ (¬ σ.1 2 4 = 0 → σ' = σ ∧ τ' = τ) := by
  rcases H with ⟨L, K⟩ | ⟨B, T⟩
  · have HH : yLx σ τ ∧ yTk σ τ := ⟨L, K⟩
    obtain ⟨T, f7, f8, hap, hp0, hp1⟩ := L
    obtain ⟨b, t, s0, t0, tz, tn, tv⟩ := K
    have l160 := T.2.1
    have t17 := T.2.2.1
    have bad : ∀ k : Int, 0 < k → f_X1_numberHere N σ lo hi = some (lo, yw (yw σ 2 4 k) 2 5 (σ.1 2 3)) → f_X8_looked N τ lo hi = some (0, yw (yw τ 0 22 k) 0 23 (τ.1 0 19)) → ∃ (a b : Int) (σ' τ' : yS), f_X1_numberHere N σ lo hi = some (a, σ') ∧ f_X8_looked N τ lo hi = some (b, τ') ∧ yE σ' τ' ∧ yK7 σ σ' ∧ yK8 τ τ' ∧ (lo ≤ a ∧ a ≤ hi) ∧ (b = 0 ∨ (lo ≤ b ∧ b ≤ hi)) ∧ (σ'.1 2 4 = 0 → a = b ∧ σ' = σ ∧ τ' = τ) ∧ σ'.1 2 1 = σ.1 2 1 ∧ (τ'.1 0 22 = σ'.1 2 4) ∧ (¬ σ.1 2 4 = 0 → σ' = σ ∧ τ' = τ) := fun k hk g7 g8 => by
      refine ⟨lo, 0, _, _, g7, g8, (p_fail (N := N) HH hk).2.2, yK7_w (yK7_w yK7_r (by omega)) (by omega), yK8_w (yK8_w yK8_r (by omega)) (by omega), by omega, Or.inl rfl, fun z => ?_, ?_, ?_, ?_⟩
      · rw [yw_n (by omega), yw_p] at z
        omega
      · rw [yw_n (by omega), yw_n (by omega)]
      · rw [yw_n (by omega), yw_p, yw_n (by omega), yw_p]
      · exact fun z => absurd f7 z
    have lbad : ∀ k : Int, 0 < k → f_X8_looked_b49 N (yw (yw τ 0 22 k) 0 23 (τ.1 0 19)) = some (0, yw (yw τ 0 22 k) 0 23 (τ.1 0 19)) := fun k hk => by
      unfold f_X8_looked_b49
      rw [yw_n (by omega), yw_p, ycP_ne, decide_eq_true (show ¬ k = 0 by omega)]
      rfl
    by_cases h2 : τ.1 0 20 = 2
    · obtain ⟨s, hs, d0, hv⟩ := tv h2
      have q0 := T.2.2.2 s (by omega)
      have vv : ∃ v : Int, 0 ≤ v ∧ v ≤ 99 ∧ τ.1 0 21 = v ∧ f_X1_numberHere N σ lo hi = (match f_X7_within N σ v lo hi with
          | none => none
          | some r1 => bif ycP .ne r1.1 0 then
              f_X1_numberHere_b79 N r1.2 lo v
            else
              match f_X1_complain N r1.2 3 (r1.2.1 2 3) with
              | none => none
              | some r2 => f_X1_numberHere_b79 N r2.2 lo v) := by
        have z10 : ∀ x : Int, 48 ≤ x ∧ x ≤ 57 → ysu (yad (ymu 10 0) x) 48 = x - 48 := fun x hx => by
          rw [ymu_e (by omega) (by omega), yad_e (by omega) (by omega), ysu_e (by omega) (by omega)]
          omega
        obtain ⟨M, hM⟩ : ∃ M, N = M + 3 := ⟨N - 3, by omega⟩
        have is0 : yin (s : Int) 160 = true := by rw [yin_d]; exact decide_eq_true (by omega)
        have e1 : yad (s : Int) 1 = (s : Int) + 1 := yad_e (by omega) (by omega)
        have st : f_X1_numberHere N σ lo hi = f_X1_numberHere_b27 N (M + 2) σ lo hi (τ.1 8 s - 48) ((s : Int) + 1) := by
          unfold f_X1_numberHere
          rw [t, h2, ycP_eq, decide_eq_true rfl, cond_true, b, hs]
          have q := q_X1_numberHere_b27 N (M + 2) σ lo hi 0 (s : Int)
          rw [show M + 2 + 1 = N by omega, hap, ycP_ge, decide_eq_false (show ¬ τ.1 0 18 ≤ (s : Int) by omega), cond_false, is0, cond_true, Int.toNat_natCast, q0.1, z10 _ d0, e1] at q
          exact q
        rcases hv with ⟨h1, h3⟩ | ⟨h1, h4, h3⟩
        · refine ⟨τ.1 8 s - 48, by omega, by omega, h3, ?_⟩
          rw [st, show M + 2 = (M + 1) + 1 by omega, q_X1_numberHere_b27, hap, h1, ycP_ge, decide_eq_true (Int.le_refl _)]
          rfl
        · have q1 := T.2.2.2 (s + 1) (by omega)
          have is1 : yin ((s : Int) + 1) 160 = true := by rw [yin_d]; exact decide_eq_true (by omega)
          have ev : ysu (yad (ymu 10 (τ.1 8 s - 48)) (τ.1 8 (s + 1))) 48 = 10 * (τ.1 8 s - 48) + (τ.1 8 (s + 1) - 48) := by
            rw [ymu_e (by omega) (by omega), yad_e (by omega) (by omega), ysu_e (by omega) (by omega)]
            omega
          have e2 : yad ((s : Int) + 1) 1 = (s : Int) + 2 := by rw [yad_e (by omega) (by omega)]; omega
          refine ⟨10 * (τ.1 8 s - 48) + (τ.1 8 (s + 1) - 48), by omega, by omega, h3, ?_⟩
          rw [st, show M + 2 = (M + 1) + 1 by omega, q_X1_numberHere_b27, hap, h1, ycP_ge, decide_eq_false (show ¬ (s : Int) + 2 ≤ (s : Int) + 1 by omega), cond_false, is1, cond_true, show ((s : Int) + 1).toNat = s + 1 by omega, q1.1, ev, e2, q_X1_numberHere_b27, hap, h1, ycP_ge, decide_eq_true (Int.le_refl _)]
          rfl
      obtain ⟨v, v0, v9, hv1, g7⟩ := vv
      have g8 : f_X8_looked N τ lo hi = f_X8_looked_b25 N τ lo hi := by
        unfold f_X8_looked
        rw [f8, h2, ycP_ne, decide_eq_false (show ¬ ¬ (0 : Int) = 0 by decide), cond_false, ycP_ne, decide_eq_false (show ¬ ¬ (2 : Int) = 2 by decide), cond_false]
        unfold f_X8_looked_b21
        rw [x8_ngood]
      by_cases hr : lo ≤ v ∧ v ≤ hi
      · refine ⟨v, v, σ, τ, ?_, ?_, Or.inl HH, yK7_r, yK8_r, hr, Or.inr hr, fun _ => ⟨rfl, rfl, rfl⟩, rfl, by rw [f7, f8], fun _ => ⟨rfl, rfl⟩⟩
        · rw [g7, x7_within, if_pos hr]
          show f_X1_numberHere_b79 N σ lo v = _
          unfold f_X1_numberHere_b79
          rw [f7]
          rfl
        · rw [g8]
          unfold f_X8_looked_b25
          rw [f8, hv1, x8_in, if_pos hr]
          show (match f_X8_needs N τ 1 3 with
            | none => none
            | some r2 => f_X8_looked_b49 N r2.2) = _
          rw [x8_ngood]
          show f_X8_looked_b49 N τ = _
          unfold f_X8_looked_b49
          rw [f8, hv1]
          rfl
      · refine bad 3 (by decide) ?_ ?_
        · rw [g7, x7_within, if_neg hr]
          show (match f_X1_complain N σ 3 (σ.1 2 3) with
              | none => none
              | some r2 => f_X1_numberHere_b79 N r2.2 lo v) = _
          rw [(p_fail (N := N) HH (show (0 : Int) < 3 by decide)).1]
          show f_X1_numberHere_b79 N _ lo v = _
          unfold f_X1_numberHere_b79
          rw [yw_n (by omega), yw_p]
          rfl
        · rw [g8]
          unfold f_X8_looked_b25
          rw [f8, hv1, x8_in, if_neg hr]
          show (match f_X8_needs N τ 0 3 with
            | none => none
            | some r2 => f_X8_looked_b49 N r2.2) = _
          rw [(p_fail (N := N) HH (show (0 : Int) < 3 by decide)).2.1]
          exact lbad 3 (by decide)
    · refine bad 2 (by decide) ?_ ?_
      · unfold f_X1_numberHere
        rw [t, ycP_eq, decide_eq_false h2, cond_false, (p_fail (N := N) HH (show (0 : Int) < 2 by decide)).1]
      · unfold f_X8_looked
        rw [f8, ycP_ne, decide_eq_false (show ¬ ¬ (0 : Int) = 0 by decide), cond_false, ycP_ne, decide_eq_true h2, cond_true]
        unfold f_X8_looked_b21
        rw [(p_fail (N := N) HH (show (0 : Int) < 2 by decide)).2.1]
        show f_X8_looked_b25 N _ lo hi = _
        unfold f_X8_looked_b25
        rw [yw_n (a := 0) (b := 22) (by omega), yw_p, ycP_ne, decide_eq_true (show ¬ (2 : Int) = 0 by decide), cond_true]
        exact lbad 2 (by decide)
  · have b1 := B.1
    have b2 := B.2.1
    have b6 := B.2.2.2.2.2.1
    have n7 : ¬ σ.1 2 4 = 0 := by omega
    have n8 : ¬ τ.1 0 22 = 0 := by omega
    have l160 := T.2.1
    have e79 : ∀ v : Int, f_X1_numberHere_b79 N σ lo v = some (lo, σ) := fun v => by
      unfold f_X1_numberHere_b79
      rw [ycP_ne, decide_eq_true n7]
      rfl
    refine ⟨lo, 0, σ, τ, ?_, ?_, Or.inr ⟨B, T⟩, yK7_r, yK8_r, by omega, Or.inl rfl, fun z => absurd z n7, rfl, b1.symm, fun _ => ⟨rfl, rfl⟩⟩
    · unfold f_X1_numberHere
      by_cases h2 : σ.1 2 2 = 2
      · rw [ycP_eq, decide_eq_true h2, cond_true]
        obtain ⟨A, hA⟩ : ∃ A : Nat, σ.1 2 1 = (A : Int) := ⟨(σ.1 2 1).toNat, by omega⟩
        obtain ⟨s, hs⟩ : ∃ A : Nat, σ.1 2 3 = (A : Int) := ⟨(σ.1 2 3).toNat, by omega⟩
        obtain ⟨v', g⟩ := x1_num_l (N := N) (σ := σ) (lo := lo) (hi := hi) hA (by omega) (A - s) (N - (A - s) - 1) s 0 (by omega)
        rw [show N - (A - s) - 1 + (A - s) + 1 = N by omega] at g
        rw [hs, g, x7_within]
        by_cases hr : lo ≤ v' ∧ v' ≤ hi
        · rw [if_pos hr]
          exact e79 v'
        · rw [if_neg hr]
          show (match f_X1_complain N σ 3 (σ.1 2 3) with
              | none => none
              | some r2 => f_X1_numberHere_b79 N r2.2 lo v') = _
          rw [x1_cbad n7]
          exact e79 v'
      · rw [ycP_eq, decide_eq_false h2, cond_false, x1_cbad n7]
    · unfold f_X8_looked
      rw [ycP_ne, decide_eq_true n8, cond_true]
      unfold f_X8_looked_b25
      rw [ycP_ne, decide_eq_true n8, cond_true]
      unfold f_X8_looked_b49
      rw [ycP_ne, decide_eq_true n8]
      rfl
end
section
/-- the letters from a place on -/
def yMt (g : Nat → Int) : List Int → Nat → Prop
  | [], _ => True
  | c :: cs, j => g j = c ∧ yMt g cs (j + 1)
theorem x1_isName_l {σ : yS} : ∀ (w : List Int) (j : Nat), j + w.length ≤ 160 → ∃ e : Int, f_X1_isName_l σ w j = some (e, σ) ∧ (e = 0 ∨ e = 1) ∧ (e = 1 ↔ yMt (fun i => σ.1 4 i) w j)
  | [], j, _ => ⟨1, rfl, Or.inr rfl, ⟨fun _ => trivial, fun _ => rfl⟩⟩
  | c :: cs, j, h => by
    have h : j + (cs.length + 1) ≤ 160 := h
    have ij : yin (j : Int) 160 = true := by rw [yin_d]; exact decide_eq_true (by omega)
    by_cases hc : σ.1 4 j = c
    · obtain ⟨e, g, e01, ei⟩ := x1_isName_l (σ := σ) cs (j + 1) (by omega)
      refine ⟨e, ?_, e01, ei.trans ⟨fun q => ⟨hc, q⟩, fun q => q.2⟩⟩
      unfold f_X1_isName_l
      rw [ij, cond_true, Int.toNat_natCast, ycP_eq, decide_eq_true hc, cond_true]
      exact g
    · refine ⟨0, ?_, Or.inl rfl, ⟨fun q => by omega, fun q => absurd q.1 hc⟩⟩
      unfold f_X1_isName_l
      rw [ij, cond_true, Int.toNat_natCast, ycP_eq, decide_eq_false hc, cond_false]
theorem x1_isName {σ : yS} {s P : Nat} (w : List Int) (hs : σ.1 2 3 = (s : Int)) (hP : σ.1 2 1 = (P : Int)) (h1 : s ≤ P) (h2 : P ≤ 160) : ∃ e : Int, f_X1_isName w σ 2 = some (e, σ) ∧ (e = 0 ∨ e = 1) ∧ (e = 1 ↔ (σ.1 2 2 = 1 ∧ P = s + w.length ∧ yMt (fun i => σ.1 4 i) w s)) := by
  have es : ysu (P : Int) (s : Int) = (P : Int) - s := ysu_e (by omega) (by omega)
  unfold f_X1_isName
  rw [show Nat.beq 2 2 = true from rfl, cond_true, hs, hP, es]
  by_cases ht : σ.1 2 2 = 1
  · rw [ycP_ne, decide_eq_false (show ¬ ¬ σ.1 2 2 = 1 from fun q => q ht), cond_false]
    by_cases hl : P = s + w.length
    · rw [ycP_ne, decide_eq_false (show ¬ ¬ (P : Int) - s = (w.length : Int) by omega), cond_false]
      obtain ⟨e, g, e01, ei⟩ := x1_isName_l (σ := σ) w s (by omega)
      exact ⟨e, g, e01, ei.trans ⟨fun q => ⟨ht, hl, q⟩, fun q => q.2.2⟩⟩
    · rw [ycP_ne, decide_eq_true (show ¬ (P : Int) - s = (w.length : Int) by omega), cond_true]
      exact ⟨0, rfl, Or.inl rfl, ⟨fun q => by omega, fun q => absurd q.2.1 hl⟩⟩
  · rw [ycP_ne, decide_eq_true ht, cond_true]
    exact ⟨0, rfl, Or.inl rfl, ⟨fun q => by omega, fun q => absurd q.1 ht⟩⟩
theorem x8_look_e {N : Nat} {τ : yS} {p : Nat} (h1 : (p : Int) < τ.1 0 17) (h2 : τ.1 0 17 ≤ 160) : f_X8_look N τ (p : Int) = some (τ.1 8 p, τ) := by
  rw [x8_look N τ (p : Int) (by omega) h2, if_pos h1, Int.toNat_natCast]
theorem x8_is {N : Nat} {τ : yS} {s P n : Nat} {a b c : Int} (hs : τ.1 0 19 = (s : Int)) (hP : τ.1 0 18 = (P : Int)) (h1 : s ≤ P) (h2 : (P : Int) ≤ τ.1 0 17) (h3 : τ.1 0 17 ≤ 160) (hn : 3 ≤ n) : f_X8_is N τ (n : Int) a b c = some (if P = s + n ∧ τ.1 8 s = a ∧ τ.1 8 (s + 1) = b ∧ τ.1 8 (s + 2) = c then 1 else 0, τ) := by
  have es : ysu (P : Int) (s : Int) = (P : Int) - s := ysu_e (by omega) (by omega)
  unfold f_X8_is f_X8_is_b58 f_X8_is_b59
  rw [hs, hP, es, ycP_ne]
  by_cases h : P = s + n
  · rw [decide_eq_false (show ¬ ¬ (P : Int) - s = (n : Int) by omega), cond_false, x8_look_e (p := s) (by omega) h3]
    simp only [ycP_ne, hs]
    by_cases ha : τ.1 8 s = a
    · have e1 : yad (s : Int) 1 = ((s + 1 : Nat) : Int) := by rw [yad_e (by omega) (by omega)]; omega
      have e2 : yad (s : Int) 2 = ((s + 2 : Nat) : Int) := by rw [yad_e (by omega) (by omega)]; omega
      rw [decide_eq_false (show ¬ ¬ τ.1 8 s = a from fun q => q ha), cond_false, e1, x8_look_e (p := s + 1) (by omega) h3]
      simp only [hs]
      by_cases hb : τ.1 8 (s + 1) = b
      · rw [decide_eq_false (show ¬ ¬ τ.1 8 (s + 1) = b from fun q => q hb), cond_false, e2, x8_look_e (p := s + 2) (by omega) h3]
        dsimp only
        by_cases hc : τ.1 8 (s + 2) = c
        · rw [decide_eq_false (show ¬ ¬ τ.1 8 (s + 2) = c from fun q => q hc), cond_false, if_pos ⟨h, ha, hb, hc⟩]
          rfl
        · rw [decide_eq_true hc, cond_true, if_neg (fun q => hc q.2.2.2)]
          rfl
      · rw [decide_eq_true hb, cond_true, if_neg (fun q => hb q.2.2.1)]
        rfl
    · rw [decide_eq_true ha, cond_true, if_neg (fun q => ha q.2.1)]
      rfl
  · rw [decide_eq_true (show ¬ (P : Int) - s = (n : Int) by omega), cond_true, if_neg (fun q => h q.1)]
    rfl
theorem x8_ends4 {N : Nat} {τ : yS} {s : Nat} {d : Int} (hs : τ.1 0 19 = (s : Int)) (h2 : (s : Int) + 3 < τ.1 0 17) (h3 : τ.1 0 17 ≤ 160) : f_X8_ends N τ d 0 0 = some (if τ.1 8 (s + 3) = d then 1 else 0, τ) := by
  have e1 : yad (s : Int) 3 = ((s + 3 : Nat) : Int) := by rw [yad_e (by omega) (by omega)]; omega
  unfold f_X8_ends
  rw [hs, e1, x8_look_e (p := s + 3) (by omega) h3]
  dsimp only
  by_cases ha : τ.1 8 (s + 3) = d
  · rw [ycP_ne, decide_eq_false (show ¬ ¬ τ.1 8 (s + 3) = d from fun q => q ha), cond_false, if_pos ha]
    rfl
  · rw [ycP_ne, decide_eq_true ha, cond_true, if_neg ha]
    rfl
theorem x8_ends5 {N : Nat} {τ : yS} {s : Nat} {d e : Int} (hs : τ.1 0 19 = (s : Int)) (h2 : (s : Int) + 4 < τ.1 0 17) (h3 : τ.1 0 17 ≤ 160) (he : ¬ e = 0) : f_X8_ends N τ d e 0 = some (if τ.1 8 (s + 3) = d ∧ τ.1 8 (s + 4) = e then 1 else 0, τ) := by
  have e1 : yad (s : Int) 3 = ((s + 3 : Nat) : Int) := by rw [yad_e (by omega) (by omega)]; omega
  have e2 : yad (s : Int) 4 = ((s + 4 : Nat) : Int) := by rw [yad_e (by omega) (by omega)]; omega
  unfold f_X8_ends
  rw [hs, e1, x8_look_e (p := s + 3) (by omega) h3]
  dsimp only
  by_cases ha : τ.1 8 (s + 3) = d
  · rw [ycP_ne, decide_eq_false (show ¬ ¬ τ.1 8 (s + 3) = d from fun q => q ha), cond_false, ycP_eq, decide_eq_false he, cond_false, hs, e2, x8_look_e (p := s + 4) (by omega) h3]
    dsimp only
    by_cases hb : τ.1 8 (s + 4) = e
    · rw [ycP_ne, decide_eq_false (show ¬ ¬ τ.1 8 (s + 4) = e from fun q => q hb), cond_false, if_pos ⟨ha, hb⟩]
      rfl
    · rw [ycP_ne, decide_eq_true hb, cond_true, if_neg (fun q => hb q.2)]
      rfl
  · rw [ycP_ne, decide_eq_true ha, cond_true, if_neg (fun q => ha q.1)]
    rfl
theorem x8_ends6 {N : Nat} {τ : yS} {s : Nat} {d e f : Int} (hs : τ.1 0 19 = (s : Int)) (h2 : (s : Int) + 5 < τ.1 0 17) (h3 : τ.1 0 17 ≤ 160) (he : ¬ e = 0) (hf : ¬ f = 0) : f_X8_ends N τ d e f = some (if τ.1 8 (s + 3) = d ∧ τ.1 8 (s + 4) = e ∧ τ.1 8 (s + 5) = f then 1 else 0, τ) := by
  have e1 : yad (s : Int) 3 = ((s + 3 : Nat) : Int) := by rw [yad_e (by omega) (by omega)]; omega
  have e2 : yad (s : Int) 4 = ((s + 4 : Nat) : Int) := by rw [yad_e (by omega) (by omega)]; omega
  have e5 : yad (s : Int) 5 = ((s + 5 : Nat) : Int) := by rw [yad_e (by omega) (by omega)]; omega
  unfold f_X8_ends
  rw [hs, e1, x8_look_e (p := s + 3) (by omega) h3]
  dsimp only
  by_cases ha : τ.1 8 (s + 3) = d
  · rw [ycP_ne, decide_eq_false (show ¬ ¬ τ.1 8 (s + 3) = d from fun q => q ha), cond_false, ycP_eq, decide_eq_false he, cond_false, hs, e2, x8_look_e (p := s + 4) (by omega) h3]
    dsimp only
    by_cases hb : τ.1 8 (s + 4) = e
    · rw [ycP_ne, decide_eq_false (show ¬ ¬ τ.1 8 (s + 4) = e from fun q => q hb), cond_false]
      unfold f_X8_ends_b32
      rw [ycP_eq, decide_eq_false hf, cond_false, hs, e5, x8_look_e (p := s + 5) (by omega) h3]
      dsimp only
      by_cases hc : τ.1 8 (s + 5) = f
      · rw [ycP_ne, decide_eq_false (show ¬ ¬ τ.1 8 (s + 5) = f from fun q => q hc), cond_false, if_pos ⟨ha, hb, hc⟩]
        rfl
      · rw [ycP_ne, decide_eq_true hc, cond_true, if_neg (fun q => hc q.2.2)]
        rfl
    · rw [ycP_ne, decide_eq_true hb, cond_true, if_neg (fun q => hb q.2.1)]
      rfl
  · rw [ycP_ne, decide_eq_true ha, cond_true, if_neg (fun q => ha q.1)]
    rfl
/-- the token is this word -/
def yWd (τ : yS) (w : List Int) (s P : Nat) : Prop := P = s + w.length ∧ yMt (fun i => τ.1 8 i) w s
theorem x8_w3 {N : Nat} {τ : yS} {s P : Nat} {a b c : Int} (hs : τ.1 0 19 = (s : Int)) (hP : τ.1 0 18 = (P : Int)) (h1 : s ≤ P) (h2 : (P : Int) ≤ τ.1 0 17) (h3 : τ.1 0 17 ≤ 160) (K Y : yS → Option (Int × yS)) : (yWd τ [a, b, c] s P → (match f_X8_is N τ 3 a b c with
  | none => none
  | some r => bif ycP .eq r.1 0 then K r.2 else Y r.2) = Y τ) ∧ (¬ yWd τ [a, b, c] s P → (match f_X8_is N τ 3 a b c with
  | none => none
  | some r => bif ycP .eq r.1 0 then K r.2 else Y r.2) = K τ) := by
  have q := x8_is (N := N) (n := 3) (a := a) (b := b) (c := c) hs hP h1 h2 h3 (by omega)
  have q : f_X8_is N τ 3 a b c = _ := q
  rw [q]
  refine ⟨fun ⟨z1, z2, z3, z4, _⟩ => ?_, fun z => ?_⟩
  · rw [if_pos ⟨z1, z2, z3, z4⟩]
    rfl
  · rw [if_neg (fun ⟨y1, y2, y3, y4⟩ => z ⟨y1, y2, y3, y4, trivial⟩)]
    rfl
theorem x8_w4 {N : Nat} {τ : yS} {s P : Nat} {a b c d : Int} (hs : τ.1 0 19 = (s : Int)) (hP : τ.1 0 18 = (P : Int)) (h1 : s ≤ P) (h2 : (P : Int) ≤ τ.1 0 17) (h3 : τ.1 0 17 ≤ 160) (K Y : yS → Option (Int × yS)) : (yWd τ [a, b, c, d] s P → (match f_X8_is N τ 4 a b c with
  | none => none
  | some r => bif ycP .eq r.1 0 then K r.2 else match f_X8_ends N r.2 d 0 0 with
    | none => none
    | some r' => bif ycP .eq r'.1 0 then K r'.2 else Y r'.2) = Y τ) ∧ (¬ yWd τ [a, b, c, d] s P → (match f_X8_is N τ 4 a b c with
  | none => none
  | some r => bif ycP .eq r.1 0 then K r.2 else match f_X8_ends N r.2 d 0 0 with
    | none => none
    | some r' => bif ycP .eq r'.1 0 then K r'.2 else Y r'.2) = K τ) := by
  have q := x8_is (N := N) (n := 4) (a := a) (b := b) (c := c) hs hP h1 h2 h3 (by omega)
  have q : f_X8_is N τ 4 a b c = _ := q
  rw [q]
  refine ⟨fun ⟨z1, z2, z3, z4, z5, _⟩ => ?_, fun z => ?_⟩
  · have z1 : P = s + 4 := z1
    rw [if_pos ⟨z1, z2, z3, z4⟩]
    show (match f_X8_ends N τ d 0 0 with
    | none => none
    | some r' => bif ycP .eq r'.1 0 then K r'.2 else Y r'.2) = _
    rw [x8_ends4 hs (by omega) h3, if_pos z5]
    rfl
  · by_cases y : P = s + 4 ∧ τ.1 8 s = a ∧ τ.1 8 (s + 1) = b ∧ τ.1 8 (s + 2) = c
    · rw [if_pos y]
      show (match f_X8_ends N τ d 0 0 with
      | none => none
      | some r' => bif ycP .eq r'.1 0 then K r'.2 else Y r'.2) = _
      rw [x8_ends4 hs (by omega) h3, if_neg (fun y5 => z ⟨y.1, y.2.1, y.2.2.1, y.2.2.2, y5, trivial⟩)]
      rfl
    · rw [if_neg y]
      rfl
theorem x8_w5 {N : Nat} {τ : yS} {s P : Nat} {a b c d e : Int} (hs : τ.1 0 19 = (s : Int)) (hP : τ.1 0 18 = (P : Int)) (h1 : s ≤ P) (h2 : (P : Int) ≤ τ.1 0 17) (h3 : τ.1 0 17 ≤ 160) (he : ¬ e = 0) (K Y : yS → Option (Int × yS)) : (yWd τ [a, b, c, d, e] s P → (match f_X8_is N τ 5 a b c with
  | none => none
  | some r => bif ycP .eq r.1 0 then K r.2 else match f_X8_ends N r.2 d e 0 with
    | none => none
    | some r' => bif ycP .eq r'.1 0 then K r'.2 else Y r'.2) = Y τ) ∧ (¬ yWd τ [a, b, c, d, e] s P → (match f_X8_is N τ 5 a b c with
  | none => none
  | some r => bif ycP .eq r.1 0 then K r.2 else match f_X8_ends N r.2 d e 0 with
    | none => none
    | some r' => bif ycP .eq r'.1 0 then K r'.2 else Y r'.2) = K τ) := by
  have q := x8_is (N := N) (n := 5) (a := a) (b := b) (c := c) hs hP h1 h2 h3 (by omega)
  have q : f_X8_is N τ 5 a b c = _ := q
  rw [q]
  refine ⟨fun ⟨z1, z2, z3, z4, z5, z6, _⟩ => ?_, fun z => ?_⟩
  · have z1 : P = s + 5 := z1
    rw [if_pos ⟨z1, z2, z3, z4⟩]
    show (match f_X8_ends N τ d e 0 with
    | none => none
    | some r' => bif ycP .eq r'.1 0 then K r'.2 else Y r'.2) = _
    rw [x8_ends5 hs (by omega) h3 he, if_pos ⟨z5, z6⟩]
    rfl
  · by_cases y : P = s + 5 ∧ τ.1 8 s = a ∧ τ.1 8 (s + 1) = b ∧ τ.1 8 (s + 2) = c
    · rw [if_pos y]
      show (match f_X8_ends N τ d e 0 with
      | none => none
      | some r' => bif ycP .eq r'.1 0 then K r'.2 else Y r'.2) = _
      rw [x8_ends5 hs (by omega) h3 he, if_neg (fun y5 => z ⟨y.1, y.2.1, y.2.2.1, y.2.2.2, y5.1, y5.2, trivial⟩)]
      rfl
    · rw [if_neg y]
      rfl
theorem x8_w6 {N : Nat} {τ : yS} {s P : Nat} {a b c d e f : Int} (hs : τ.1 0 19 = (s : Int)) (hP : τ.1 0 18 = (P : Int)) (h1 : s ≤ P) (h2 : (P : Int) ≤ τ.1 0 17) (h3 : τ.1 0 17 ≤ 160) (he : ¬ e = 0) (hf : ¬ f = 0) (K Y : yS → Option (Int × yS)) : (yWd τ [a, b, c, d, e, f] s P → (match f_X8_is N τ 6 a b c with
  | none => none
  | some r => bif ycP .eq r.1 0 then K r.2 else match f_X8_ends N r.2 d e f with
    | none => none
    | some r' => bif ycP .eq r'.1 0 then K r'.2 else Y r'.2) = Y τ) ∧ (¬ yWd τ [a, b, c, d, e, f] s P → (match f_X8_is N τ 6 a b c with
  | none => none
  | some r => bif ycP .eq r.1 0 then K r.2 else match f_X8_ends N r.2 d e f with
    | none => none
    | some r' => bif ycP .eq r'.1 0 then K r'.2 else Y r'.2) = K τ) := by
  have q := x8_is (N := N) (n := 6) (a := a) (b := b) (c := c) hs hP h1 h2 h3 (by omega)
  have q : f_X8_is N τ 6 a b c = _ := q
  rw [q]
  refine ⟨fun ⟨z1, z2, z3, z4, z5, z6, z7, _⟩ => ?_, fun z => ?_⟩
  · have z1 : P = s + 6 := z1
    rw [if_pos ⟨z1, z2, z3, z4⟩]
    show (match f_X8_ends N τ d e f with
    | none => none
    | some r' => bif ycP .eq r'.1 0 then K r'.2 else Y r'.2) = _
    rw [x8_ends6 hs (by omega) h3 he hf, if_pos ⟨z5, z6, z7⟩]
    rfl
  · by_cases y : P = s + 6 ∧ τ.1 8 s = a ∧ τ.1 8 (s + 1) = b ∧ τ.1 8 (s + 2) = c
    · rw [if_pos y]
      show (match f_X8_ends N τ d e f with
      | none => none
      | some r' => bif ycP .eq r'.1 0 then K r'.2 else Y r'.2) = _
      rw [x8_ends6 hs (by omega) h3 he hf, if_neg (fun y5 => z ⟨y.1, y.2.1, y.2.2.1, y.2.2.2, y5.1, y5.2.1, y5.2.2, trivial⟩)]
      rfl
    · rw [if_neg y]
      rfl
end
section
theorem ybz {α : Type} {A B : α} : (bif ycP .eq 0 0 then A else B) = A := by
  rw [ycP_eq, decide_eq_true rfl, cond_true]
theorem ybo {α : Type} {A B : α} : (bif ycP .eq 1 0 then A else B) = B := by
  rw [ycP_eq, decide_eq_false (by decide), cond_false]
theorem ybz2 {α : Type} {A B : α} : (bif ycP .ne 0 0 then A else B) = B := by
  rw [ycP_ne, decide_eq_false (by decide), cond_false]
theorem ybo2 {α : Type} {A B : α} : (bif ycP .ne 1 0 then A else B) = A := by
  rw [ycP_ne, decide_eq_true (by decide), cond_true]
theorem yMt_c {g g' : Nat → Int} : ∀ (w : List Int) (s : Nat), (∀ i : Nat, s ≤ i → i < s + w.length → g i = g' i) → (yMt g w s ↔ yMt g' w s)
  | [], _, _ => Iff.rfl
  | c :: cs, s, h => by
    have h : ∀ i : Nat, s ≤ i → i < s + (cs.length + 1) → g i = g' i := h
    have ih := yMt_c (g := g) (g' := g') cs (s + 1) (fun i h1 h2 => h i (by omega) (by omega))
    unfold yMt
    rw [h s (by omega) (by omega), ih]
/-- a word asked for, where no fault is -/
theorem x1_nm {σ τ : yS} {s P : Nat} (H : yLx σ τ ∧ yTk σ τ) (hs : τ.1 0 19 = (s : Int)) (hP : τ.1 0 18 = (P : Int)) (w : List Int) : (τ.1 0 20 = 1 → yWd τ w s P → f_X1_isName w σ 2 = some (1, σ)) ∧ (¬ (τ.1 0 20 = 1 ∧ yWd τ w s P) → f_X1_isName w σ 2 = some (0, σ)) := by
  obtain ⟨⟨T, f7, f8, hap, hp0, hp1⟩, ⟨b, t, s0, t0, tz, tn, tv⟩⟩ := H
  have l160 := T.2.1
  have t17 := T.2.2.1
  obtain ⟨e, g, e01, ei⟩ := x1_isName (σ := σ) (s := s) (P := P) w (by omega) (by omega) (by omega) (by omega)
  have key : (σ.1 2 2 = 1 ∧ P = s + w.length ∧ yMt (fun i => σ.1 4 i) w s) ↔ (τ.1 0 20 = 1 ∧ yWd τ w s P) := by
    rw [t]
    unfold yWd
    refine ⟨fun ⟨q1, q2, q3⟩ => ⟨q1, q2, (yMt_c w s (fun i h1 h2 => (T.2.2.2 i (by omega)).1)).1 q3⟩, fun ⟨q1, q2, q3⟩ => ⟨q1, q2, (yMt_c w s (fun i h1 h2 => (T.2.2.2 i (by omega)).1)).2 q3⟩⟩
  refine ⟨fun q1 q2 => ?_, fun q => ?_⟩
  · rw [g, ei.2 (key.2 ⟨q1, q2⟩)]
  · rcases e01 with rfl | rfl
    · exact g
    · exact absurd (key.1 (ei.1 rfl)) q
/-- which kind the token names -/
theorem p_kind {N : Nat} {σ0 σ τ : yS} (hr : f_X1_readToken N σ0 = some (0, σ)) (H : yE σ τ) : ∃ (a b : Int) (σ' τ' : yS), f_X1_needKind N σ0 = some (a, σ') ∧ f_X8_readKind N τ = (match f_X8_next N τ' with
    | none => none
    | some r2 => some (b, r2.2)) ∧ yE σ' τ' ∧ yK7 σ σ' ∧ yK8 τ τ' ∧ (0 ≤ a ∧ a ≤ 4) ∧ (b = -4 ∨ (0 ≤ b ∧ b ≤ 4)) ∧ (σ'.1 2 4 = 0 → a = b ∧ σ' = σ ∧ τ' = τ) ∧ σ'.1 2 1 = σ.1 2 1 ∧ (¬ σ.1 2 4 = 0 → σ' = σ ∧ τ' = τ) := by
  rcases H with HH | ⟨B, T⟩
  · have H0 := HH
    obtain ⟨⟨T, f7, f8, hap, hp0, hp1⟩, ⟨b, t, s0, t0, tz, tn, tv⟩⟩ := H0
    have l160 := T.2.1
    have t17 := T.2.2.1
    obtain ⟨s, hs⟩ : ∃ s : Nat, τ.1 0 19 = (s : Int) := ⟨(τ.1 0 19).toNat, by omega⟩
    obtain ⟨P, hP⟩ : ∃ s : Nat, τ.1 0 18 = (s : Int) := ⟨(τ.1 0 18).toNat, by omega⟩
    have sP : s ≤ P := by omega
    have h2 : (P : Int) ≤ τ.1 0 17 := by omega
    have h3 : τ.1 0 17 ≤ 160 := by omega
    have good : ∀ k : Int, 0 ≤ k ∧ k ≤ 4 → f_X1_needKind N σ0 = some (k, σ) → f_X8_readKind N τ = (match f_X8_next N τ with
      | none => none
      | some r2 => some (k, r2.2)) → ∃ (a b : Int) (σ' τ' : yS), f_X1_needKind N σ0 = some (a, σ') ∧ f_X8_readKind N τ = (match f_X8_next N τ' with
      | none => none
      | some r2 => some (b, r2.2)) ∧ yE σ' τ' ∧ yK7 σ σ' ∧ yK8 τ τ' ∧ (0 ≤ a ∧ a ≤ 4) ∧ (b = -4 ∨ (0 ≤ b ∧ b ≤ 4)) ∧ (σ'.1 2 4 = 0 → a = b ∧ σ' = σ ∧ τ' = τ) ∧ σ'.1 2 1 = σ.1 2 1 ∧ (¬ σ.1 2 4 = 0 → σ' = σ ∧ τ' = τ) := fun k hk g7 g8 => ⟨k, k, σ, τ, g7, g8, Or.inl HH, yK7_r, yK8_r, hk, Or.inr hk, fun _ => ⟨rfl, rfl, rfl⟩, rfl, fun _ => ⟨rfl, rfl⟩⟩
    have bad : f_X1_needKind N σ0 = some (4, yw (yw σ 2 4 2) 2 5 (σ.1 2 3)) → f_X8_readKind N τ = f_X8_readKind_b24 N τ (-4) → ∃ (a b : Int) (σ' τ' : yS), f_X1_needKind N σ0 = some (a, σ') ∧ f_X8_readKind N τ = (match f_X8_next N τ' with
      | none => none
      | some r2 => some (b, r2.2)) ∧ yE σ' τ' ∧ yK7 σ σ' ∧ yK8 τ τ' ∧ (0 ≤ a ∧ a ≤ 4) ∧ (b = -4 ∨ (0 ≤ b ∧ b ≤ 4)) ∧ (σ'.1 2 4 = 0 → a = b ∧ σ' = σ ∧ τ' = τ) ∧ σ'.1 2 1 = σ.1 2 1 ∧ (¬ σ.1 2 4 = 0 → σ' = σ ∧ τ' = τ) := fun g7 g8 => by
      refine ⟨4, -4, _, yw (yw τ 0 22 2) 0 23 (τ.1 0 19), g7, ?_, (p_fail (N := N) HH (show (0 : Int) < 2 by decide)).2.2, yK7_w (yK7_w yK7_r (by omega)) (by omega), yK8_w (yK8_w yK8_r (by omega)) (by omega), by decide, Or.inl rfl, fun z => ?_, ?_, fun z => absurd f7 z⟩
      · rw [g8]
        unfold f_X8_readKind_b24
        rw [ycP_eq, decide_eq_true rfl, cond_true]
        unfold f_X8_readKind_b37
        rw [(p_fail (N := N) HH (show (0 : Int) < 2 by decide)).2.1]
        rfl
      · rw [yw_n (by omega), yw_p] at z
        exact absurd z (by decide)
      · rw [yw_n (by omega), yw_n (by omega)]
    by_cases h1 : τ.1 0 20 = 1
    · have r8 : f_X8_readKind N τ = (match f_X8_kindNow N τ with
          | none => none
          | some r3 => f_X8_readKind_b24 N r3.2 r3.1) := by
        unfold f_X8_readKind
        rw [f8, h1, ybz2, ycP_ne, decide_eq_false (by decide), cond_false]
        rfl
      have fin : ∀ k : Int, 0 ≤ k ∧ k ≤ 4 → f_X8_kindNow N τ = some (k, τ) → f_X8_readKind N τ = (match f_X8_next N τ with
          | none => none
          | some r2 => some (k, r2.2)) := fun k hk q => by
        rw [r8, q]
        show f_X8_readKind_b24 N τ k = _
        unfold f_X8_readKind_b24
        rw [ycP_eq, decide_eq_false (show ¬ k = -4 by omega), cond_false]
        unfold f_X8_readKind_b37
        rw [x8_ngood]
        rfl
      have n1 := x1_nm HH hs hP [112, 108, 97, 105, 110]
      have n2 := x1_nm HH hs hP [108, 101, 102, 116]
      have n3 := x1_nm HH hs hP [100, 114, 117, 110, 107]
      have n4 := x1_nm HH hs hP [106, 111, 105, 110, 116]
      have n5 := x1_nm HH hs hP [116, 104, 114, 101, 97, 116]
      have k1 := x8_w5 (N := N) (a := 112) (b := 108) (c := 97) (d := 105) (e := 110) hs hP sP h2 h3 (by decide) (fun t => f_X8_kindNow_b28 N t) (fun t => some (0, t))
      have k2 := x8_w4 (N := N) (a := 108) (b := 101) (c := 102) (d := 116) hs hP sP h2 h3 (fun t => f_X8_kindNow_b55 N t) (fun t => some (1, t))
      have k3 := x8_w5 (N := N) (a := 100) (b := 114) (c := 117) (d := 110) (e := 107) hs hP sP h2 h3 (by decide) (fun t => f_X8_kindNow_b83 N t) (fun t => some (2, t))
      have k4 := x8_w5 (N := N) (a := 106) (b := 111) (c := 105) (d := 110) (e := 116) hs hP sP h2 h3 (by decide) (fun t => f_X8_kindNow_b113 N t) (fun t => f_X8_kindNow_b147 N t 3)
      have k5 := x8_w6 (N := N) (a := 116) (b := 104) (c := 114) (d := 101) (e := 97) (f := 116) hs hP sP h2 h3 (by decide) (by decide) (fun t => f_X8_kindNow_b145 N t) (fun t => f_X8_kindNow_b147 N t 4)
      have nt : ∀ w : List Int, ¬ yWd τ w s P → ¬ (τ.1 0 20 = 1 ∧ yWd τ w s P) := fun w q r => q r.2
      by_cases w1 : yWd τ [112, 108, 97, 105, 110] s P
      · refine good 0 (by decide) ?_ (fin 0 (by decide) (k1.1 w1))
        unfold f_X1_needKind
        rw [hr]
        simp only [n1.1 h1 w1, ybo]
      have a1 := n1.2 (nt _ w1)
      have b1 : f_X8_kindNow N τ = f_X8_kindNow_b28 N τ := k1.2 w1
      by_cases w2 : yWd τ [108, 101, 102, 116] s P
      · refine good 1 (by decide) ?_ (fin 1 (by decide) (b1.trans (k2.1 w2)))
        unfold f_X1_needKind
        rw [hr]
        simp only [a1, n2.1 h1 w2, ybz, ybo]
      have a2 := n2.2 (nt _ w2)
      have b2 : f_X8_kindNow N τ = f_X8_kindNow_b55 N τ := b1.trans (k2.2 w2)
      by_cases w3 : yWd τ [100, 114, 117, 110, 107] s P
      · refine good 2 (by decide) ?_ (fin 2 (by decide) (b2.trans (k3.1 w3)))
        unfold f_X1_needKind
        rw [hr]
        simp only [a1, a2, n3.1 h1 w3, ybz, ybo]
      have a3 := n3.2 (nt _ w3)
      have b3 : f_X8_kindNow N τ = f_X8_kindNow_b83 N τ := b2.trans (k3.2 w3)
      by_cases w4 : yWd τ [106, 111, 105, 110, 116] s P
      · refine good 3 (by decide) ?_ (fin 3 (by decide) (b3.trans (k4.1 w4)))
        unfold f_X1_needKind
        rw [hr]
        simp only [a1, a2, a3, n4.1 h1 w4, ybz, ybo]
      have a4 := n4.2 (nt _ w4)
      have b4 : f_X8_kindNow N τ = f_X8_kindNow_b113 N τ := b3.trans (k4.2 w4)
      by_cases w5 : yWd τ [116, 104, 114, 101, 97, 116] s P
      · refine good 4 (by decide) ?_ (fin 4 (by decide) (b4.trans (k5.1 w5)))
        unfold f_X1_needKind
        rw [hr]
        simp only [a1, a2, a3, a4, n5.1 h1 w5, ybz, ybo2, f_X1_needKind_b66]
      have a5 := n5.2 (nt _ w5)
      have b5 : f_X8_kindNow N τ = f_X8_kindNow_b145 N τ := b4.trans (k5.2 w5)
      refine bad ?_ ?_
      · unfold f_X1_needKind
        rw [hr]
        simp only [a1, a2, a3, a4, a5, ybz, ybz2, (p_fail (N := N) HH (show (0 : Int) < 2 by decide)).1, f_X1_needKind_b66]
      · rw [r8, b5]
        rfl
    · have z : ∀ w : List Int, f_X1_isName w σ 2 = some (0, σ) := fun w => (x1_nm HH hs hP w).2 (fun q => h1 q.1)
      refine bad ?_ ?_
      · unfold f_X1_needKind
        rw [hr]
        simp only [z, ybz, ybz2, (p_fail (N := N) HH (show (0 : Int) < 2 by decide)).1, f_X1_needKind_b66]
      · unfold f_X8_readKind
        rw [f8, ybz2, ycP_ne, decide_eq_true h1, cond_true]
        rfl
  · have b1 := B.1
    have b2 := B.2.1
    have b6 := B.2.2.2.2.2.1
    have n7 : ¬ σ.1 2 4 = 0 := by omega
    have n8 : ¬ τ.1 0 22 = 0 := by omega
    have l160 := T.2.1
    obtain ⟨s, hs⟩ : ∃ s : Nat, σ.1 2 3 = (s : Int) := ⟨(σ.1 2 3).toNat, by omega⟩
    obtain ⟨P, hP⟩ : ∃ s : Nat, σ.1 2 1 = (s : Int) := ⟨(σ.1 2 1).toNat, by omega⟩
    have nm : ∀ w : List Int, f_X1_isName w σ 2 = some (0, σ) ∨ f_X1_isName w σ 2 = some (1, σ) := fun w => by
      obtain ⟨e, g, e01, -⟩ := x1_isName (σ := σ) (s := s) (P := P) w hs hP (by omega) (by omega)
      rcases e01 with rfl | rfl
      · exact Or.inl g
      · exact Or.inr g
    have g8 : f_X8_readKind N τ = (match f_X8_next N τ with
        | none => none
        | some r2 => some (-4, r2.2)) := by
      unfold f_X8_readKind
      rw [ycP_ne, decide_eq_true n8, cond_true]
      unfold f_X8_readKind_b22 f_X8_readKind_b24
      rw [ycP_eq, decide_eq_true rfl, cond_true]
      unfold f_X8_readKind_b37
      rw [x8_nbad n8]
      rfl
    have fin : ∀ k : Int, 0 ≤ k ∧ k ≤ 4 → f_X1_needKind N σ0 = some (k, σ) → ∃ (a b : Int) (σ' τ' : yS), f_X1_needKind N σ0 = some (a, σ') ∧ f_X8_readKind N τ = (match f_X8_next N τ' with
      | none => none
      | some r2 => some (b, r2.2)) ∧ yE σ' τ' ∧ yK7 σ σ' ∧ yK8 τ τ' ∧ (0 ≤ a ∧ a ≤ 4) ∧ (b = -4 ∨ (0 ≤ b ∧ b ≤ 4)) ∧ (σ'.1 2 4 = 0 → a = b ∧ σ' = σ ∧ τ' = τ) ∧ σ'.1 2 1 = σ.1 2 1 ∧ (¬ σ.1 2 4 = 0 → σ' = σ ∧ τ' = τ) := fun k hk g7 => ⟨k, -4, σ, τ, g7, g8, Or.inr ⟨B, T⟩, yK7_r, yK8_r, hk, Or.inl rfl, fun z => absurd z n7, rfl, fun _ => ⟨rfl, rfl⟩⟩
    rcases nm [112, 108, 97, 105, 110] with a1 | a1
    · rcases nm [108, 101, 102, 116] with a2 | a2
      · rcases nm [100, 114, 117, 110, 107] with a3 | a3
        · rcases nm [106, 111, 105, 110, 116] with a4 | a4
          · rcases nm [116, 104, 114, 101, 97, 116] with a5 | a5
            · refine fin 4 (by decide) ?_
              unfold f_X1_needKind
              rw [hr]
              simp only [a1, a2, a3, a4, a5, ybz, ybz2, x1_cbad n7, f_X1_needKind_b66]
            · refine fin 4 (by decide) ?_
              unfold f_X1_needKind
              rw [hr]
              simp only [a1, a2, a3, a4, a5, ybz, ybo2, f_X1_needKind_b66]
          · refine fin 3 (by decide) ?_
            unfold f_X1_needKind
            rw [hr]
            simp only [a1, a2, a3, a4, ybz, ybo]
        · refine fin 2 (by decide) ?_
          unfold f_X1_needKind
          rw [hr]
          simp only [a1, a2, a3, ybz, ybo]
      · refine fin 1 (by decide) ?_
        unfold f_X1_needKind
        rw [hr]
        simp only [a1, a2, ybz, ybo]
    · refine fin 0 (by decide) ?_
      unfold f_X1_needKind
      rw [hr]
      simp only [a1, ybo]
end
