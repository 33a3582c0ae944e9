theorem yrmL_e {a b : Int} (h1 : 0 ≤ a) (h2 : a ≤ 9223372036854775807) (h3 : 0 < b) (h4 : b ≤ 9223372036854775807) : yrmL a b = a % b := by
  unfold yrmL
  have e1 := zq_ofL (z := a) (by omega) (by omega)
  have e2 := zq_ofL (z := b) (by omega) (by omega)
  rw [zrem_bL _ _ (by omega) (by omega), e1, e2]
theorem ydvL_e {a b : Int} (h1 : 0 ≤ a) (h2 : a ≤ 9223372036854775807) (h3 : 0 < b) (h4 : b ≤ 9223372036854775807) : ydvL a b = a / b := by
  unfold ydvL
  have e1 := zq_ofL (z := a) (by omega) (by omega)
  have e2 := zq_ofL (z := b) (by omega) (by omega)
  rw [zdiv_bL _ _ (by omega) (by omega), e1, e2]
theorem ymuL_e {a b : Int} (h1 : -9223372036854775808 ≤ a * b) (h2 : a * b ≤ 9223372036854775807) : ymuL a b = a * b := by
  unfold ymuL
  rw [← Int64.ofInt_mul, zq_ofL h1 h2]
theorem ygs (a b : Nat) : Nat.gcd a b = Nat.gcd b (a % b) := by
  rw [Nat.gcd_comm a b, Nat.gcd_rec b a, Nat.gcd_comm]
theorem yhalf {b r : Nat} (h0 : 0 < r) (h1 : r < b) : 2 * (b % r) < b := by
  have l := Nat.mod_lt b h0
  have d := Nat.div_add_mod b r
  have q : 1 ≤ b / r := (Nat.one_le_div_iff h0).2 (by omega)
  have m : r * 1 ≤ r * (b / r) := Nat.mul_le_mul_left r q
  omega
theorem yrmN {a b : Nat} (ha : a < 1000000000) (hb : b < 1000000000) (h : ¬ b = 0) : yrmL (a : Int) (b : Int) = ((a % b : Nat) : Int) := by
  rw [yrmL_e (by omega) (by omega) (by omega) (by omega)]
  omega
theorem x8_common_l {N : Nat} {τ : yS} : ∀ (n m a b : Nat), b < 2 ^ n → a < 1000000000 → b < 1000000000 → f_X8_common_b6 N (m + 2 * n + 1) τ a b = some (((Nat.gcd a b : Nat) : Int), τ)
  | 0, m, a, b, hb, _, _ => by
    have e : b = 0 := by omega
    subst e
    rw [q_X8_common_b6]
    simp [ycP_eq]
  | n + 1, m, a, b, hb, la, lb => by
    have stop : ∀ (k c : Nat), f_X8_common_b6 N (k + 1) τ c ((0 : Nat) : Int) = some ((c : Int), τ) := fun k c => by
      rw [q_X8_common_b6]
      simp [ycP_eq]
    by_cases h0 : b = 0
    · subst h0
      rw [stop, Nat.gcd_zero_right]
    · have z1 : ynz (b : Int) = true := by rw [ynz_d]; exact decide_eq_true (by omega)
      rw [show m + 2 * (n + 1) + 1 = (m + 2 * n + 1 + 1) + 1 by omega, q_X8_common_b6]
      simp only [ycP_eq, decide_eq_false (show ¬ (b : Int) = 0 by omega), cond_false, z1, cond_true, yrmN la lb h0]
      have l1 := Nat.mod_lt a (show 0 < b by omega)
      by_cases h1 : a % b = 0
      · rw [h1, stop, ygs, h1, Nat.gcd_zero_right]
      · have z2 : ynz ((a % b : Nat) : Int) = true := by rw [ynz_d]; exact decide_eq_true (by omega)
        rw [q_X8_common_b6]
        simp only [ycP_eq, decide_eq_false (show ¬ ((a % b : Nat) : Int) = 0 by omega), cond_false, z2, cond_true, yrmN lb (show a % b < 1000000000 by omega) h1]
        have hh := yhalf (show 0 < a % b by omega) l1
        have hp : (2 : Nat) ^ (n + 1) = 2 * 2 ^ n := by rw [Nat.pow_succ]; omega
        rw [x8_common_l n m (a % b) (b % (a % b)) (by omega) (by omega) (by omega), ygs a b, ygs b (a % b)]
theorem x7_part_l {N : Nat} {σ : yS} {x0 x2 x4 : Int} : ∀ (n m a b i : Nat), b < 2 ^ n → i + 2 * n ≤ 99 → a < 1000000000 → b < 1000000000 → f_X7_partOfFraction_b9 N (m + 2 * n + 1) σ x0 x2 x4 a b i = f_X7_partOfFraction_b44 N σ x0 x2 x4 ((Nat.gcd a b : Nat) : Int)
  | 0, m, a, b, i, hb, hi, _, _ => by
    have e : b = 0 := by omega
    subst e
    rw [q_X7_partOfFraction_b9]
    simp [ycP_eq, ycP_ge, show ¬ (100 : Int) ≤ (i : Int) by omega]
  | n + 1, m, a, b, i, hb, hi, la, lb => by
    have stop : ∀ (k c j : Nat), f_X7_partOfFraction_b9 N (k + 1) σ x0 x2 x4 c ((0 : Nat) : Int) j = f_X7_partOfFraction_b44 N σ x0 x2 x4 (c : Int) := fun k c j => by
      rw [q_X7_partOfFraction_b9]
      by_cases q : (100 : Int) ≤ (j : Int)
      · simp [ycP_ge, q]
      · simp [ycP_eq, ycP_ge, q]
    have e1 : yad (i : Int) 1 = ((i + 1 : Nat) : Int) := by rw [yad_e (by omega) (by omega)]; omega
    have e2 : yad ((i + 1 : Nat) : Int) 1 = ((i + 2 : Nat) : Int) := by rw [yad_e (by omega) (by omega)]; omega
    by_cases h0 : b = 0
    · subst h0
      rw [stop, Nat.gcd_zero_right]
    · have z1 : ynz (b : Int) = true := by rw [ynz_d]; exact decide_eq_true (by omega)
      rw [show m + 2 * (n + 1) + 1 = (m + 2 * n + 1 + 1) + 1 by omega, q_X7_partOfFraction_b9]
      simp only [ycP_eq, ycP_ge, decide_eq_false (show ¬ (100 : Int) ≤ (i : Int) by omega), decide_eq_false (show ¬ (b : Int) = 0 by omega), cond_false, z1, cond_true, yrmN la lb h0, e1]
      have l1 := Nat.mod_lt a (show 0 < b by omega)
      by_cases h1 : a % b = 0
      · rw [h1, stop, ygs, h1, Nat.gcd_zero_right]
      · have z2 : ynz ((a % b : Nat) : Int) = true := by rw [ynz_d]; exact decide_eq_true (by omega)
        rw [q_X7_partOfFraction_b9]
        simp only [ycP_eq, ycP_ge, decide_eq_false (show ¬ (100 : Int) ≤ ((i + 1 : Nat) : Int) by omega), decide_eq_false (show ¬ ((a % b : Nat) : Int) = 0 by omega), cond_false, z2, cond_true, yrmN lb (show a % b < 1000000000 by omega) h1, e2]
        have hh := yhalf (show 0 < a % b by omega) l1
        have hp : (2 : Nat) ^ (n + 1) = 2 * 2 ^ n := by rw [Nat.pow_succ]; omega
        rw [x7_part_l n m (a % b) (b % (a % b)) (i + 2) (by omega) (by omega) (by omega) (by omega), ygs a b, ygs b (a % b)]
theorem p_frac {N : Nat} (hN : 1000 ≤ N) {σ τ : yS} {p w : Nat} {x : Int} (h0 : 0 < w) (hw : w < 2 ^ 25) (hp : p < 2 ^ 25) : ∃ a : Int, f_X7_partOfFraction N σ p w x = some (a, σ) ∧ f_X8_told N τ p w x = some (a, τ) := by
  have c7 := x7_part_l (N := N) (σ := σ) (x0 := (p : Int)) (x2 := (w : Int)) (x4 := x) 25 (N - 51) p w 0 hw (by omega) (by omega) (by omega)
  have c8 := x8_common_l (N := N) (τ := τ) 25 (N - 51) w p hp (by omega) (by omega)
  rw [show N - 51 + 2 * 25 + 1 = N by omega] at c7 c8
  rw [show ((0 : Nat) : Int) = 0 from rfl] at c7
  have gp : 0 < Nat.gcd p w := Nat.gcd_pos_of_pos_right p h0
  have gl : Nat.gcd p w ≤ w := Nat.gcd_le_right p h0
  have gc : Nat.gcd w p = Nat.gcd p w := Nat.gcd_comm w p
  rw [gc] at c8
  generalize Nat.gcd p w = g at c7 c8 gp gl
  have z : ynz (g : Int) = true := by rw [ynz_d]; exact decide_eq_true (by omega)
  have d7 : f_X7_partOfFraction N σ p w x = f_X7_partOfFraction_b44 N σ p w x (g : Int) := c7
  have d8 : f_X8_common N τ w p = some ((g : Int), τ) := c8
  by_cases hx : x = 0
  · refine ⟨ydvL (p : Int) (g : Int), ?_, ?_⟩
    · rw [d7]
      simp [f_X7_partOfFraction_b44, f_X7_partOfFraction_b54, f_X7_partOfFraction_b73, ycP_ne, ycP_le, hx, z, show ¬ g = 0 by omega]
    · simp [f_X8_told, f_X8_told_b23, d8, ycP_ne, hx, z]
  · refine ⟨ydvL (w : Int) (g : Int), ?_, ?_⟩
    · rw [d7]
      simp [f_X7_partOfFraction_b44, f_X7_partOfFraction_b54, f_X7_partOfFraction_b73, ycP_ne, ycP_le, hx, z, show ¬ g = 0 by omega]
    · simp [f_X8_told, f_X8_told_b23, d8, ycP_ne, hx, z]
/-- one fall of a habit -/
theorem p_times_t {N : Nat} {σ τ : yS} {x h : Nat} {k : Int} (HR : yRR σ τ) (hx : (x : Int) < τ.1 0 3) (hk1 : σ.1 21 x = k) (hk2 : τ.1 1 (21 + x) = k) (i n : Nat) (hi : i < 2) (hn : n ≤ 2) (hf : (i : Int) < (if k = 3 then 2 else 1)) : ∃ e : Nat, e ≤ 1 ∧ (∀ m : Nat, f_X4_habitFalls_b38 N (m + 1) σ 17 x h n i = f_X4_habitFalls_b38 N m σ 17 x h ((n + e : Nat) : Int) ((i + 1 : Nat) : Int)) ∧ (∀ m : Nat, f_X8_timesOf_b5 N (m + 1) τ x h n i = f_X8_timesOf_b5 N m τ x h ((n + e : Nat) : Int) ((i + 1 : Nat) : Int)) := by
  have R := HR.1.2.2.1
  have b0 := HR.1.2.2.1.2.2.2.1
  obtain ⟨s, s7, s8, hs⟩ := p_step (N := N) (σ := σ) (τ := τ) (k := k) (i := (i : Int))
  obtain ⟨a, b, a7, a8, hab⟩ := p_where (N := N) R (h := (x : Int)) (by omega) hs
  have i1 : yin (x : Int) 7 = true := by rw [yin_d]; exact decide_eq_true (by omega)
  have m1 : yad 21 (x : Int) = ((21 + x : Nat) : Int) := by rw [yad_e (by omega) (by omega)]; omega
  have i2 : yin ((21 + x : Nat) : Int) 393 = true := by rw [yin_d]; exact decide_eq_true (by omega)
  have ei : yad (i : Int) 1 = ((i + 1 : Nat) : Int) := by rw [yad_e (by omega) (by omega)]; omega
  have hg : decide ((if k = 3 then 2 else 1) ≤ (i : Int)) = false := decide_eq_false (by omega)
  have hab2 : (a = (h : Int)) ↔ (b = (h : Int)) := by omega
  by_cases e : a = (h : Int)
  · have e2 := hab2.1 e
    have en : yad (n : Int) 1 = ((n + 1 : Nat) : Int) := by rw [yad_e (by omega) (by omega)]; omega
    refine ⟨1, by omega, fun m => ?_, fun m => ?_⟩
    · rw [q_X4_habitFalls_b38]
      simp only [i1, cond_true, Int.toNat_natCast, hk1, x4_fallsOf, ycP_ge, ycP_ne, hg, cond_false, s7, a7, e, not_true_eq_false, decide_false, f_X4_habitFalls_b78, en, ei]
    · rw [q_X8_timesOf_b5]
      simp only [m1, i2, cond_true, Int.toNat_natCast, hk2, x8_fallsOf, ycP_ge, ycP_ne, hg, cond_false, s8, a8, e2, not_true_eq_false, decide_false, f_X8_timesOf_b51, x8_flag (show (0 : Int) ≤ 1 ∧ (1 : Int) ≤ 1 by omega), en, ei]
  · have e2 : ¬ b = (h : Int) := fun q => e (hab2.2 q)
    have en : yad (n : Int) 0 = ((n + 0 : Nat) : Int) := by rw [yad_e (by omega) (by omega)]; omega
    refine ⟨0, by omega, fun m => ?_, fun m => ?_⟩
    · rw [q_X4_habitFalls_b38]
      simp only [i1, cond_true, Int.toNat_natCast, hk1, x4_fallsOf, ycP_ge, ycP_ne, hg, cond_false, s7, a7, e, not_false_eq_true, decide_true, f_X4_habitFalls_b78, en, ei]
    · rw [q_X8_timesOf_b5]
      simp only [m1, i2, cond_true, Int.toNat_natCast, hk2, x8_fallsOf, ycP_ge, ycP_ne, hg, cond_false, s8, a8, e2, not_false_eq_true, decide_true, f_X8_timesOf_b51, x8_flag (show (0 : Int) ≤ 0 ∧ (0 : Int) ≤ 1 by omega), en, ei]
/-- how often a vow by habit is to be done in a house -/
theorem p_times {N : Nat} (hN : 10 ≤ N) {σ τ : yS} {x h : Nat} (HR : yRR σ τ) (hx : (x : Int) < τ.1 0 3) (hh : (h : Int) < τ.1 0 3) : ∃ n : Nat, n ≤ 2 ∧ (¬ n = 0 → ¬ τ.1 1 (35 + x) = 0) ∧ f_X4_habitFalls N σ 17 x h = some ((n : Int), σ) ∧ f_X8_timesOf N τ x h = some ((n : Int), τ) := by
  obtain ⟨e0, e1, e2, b0, b1, b2, hc⟩ := HR.1.2.2.1
  obtain ⟨M, hM⟩ : ∃ M, N = M + 3 := ⟨N - 3, by omega⟩
  obtain ⟨-, -, -, q3, q4, q5⟩ := HR.1.2.2.2.1.1 x (by omega)
  have q3 : σ.1 21 x = τ.1 1 (21 + x) := q3
  have q5 : σ.1 23 x = τ.1 1 (35 + x) := q5
  have ql : yan (ysr (σ.1 17 6) (h : Int)) 1 = τ.1 1 (14 + h) := (HR.1.2.2.2.1.1 h (by omega)).2.2.1
  obtain ⟨k, hk⟩ : ∃ k : Int, τ.1 1 (21 + x) = k := ⟨_, rfl⟩
  rw [hk] at q3
  have i1 : yin (x : Int) 7 = true := by rw [yin_d]; exact decide_eq_true (by omega)
  have m1 : yad 21 (x : Int) = ((21 + x : Nat) : Int) := by rw [yad_e (by omega) (by omega)]; omega
  have m2 : yad 14 (h : Int) = ((14 + h : Nat) : Int) := by rw [yad_e (by omega) (by omega)]; omega
  have m3 : yad 35 (x : Int) = ((35 + x : Nat) : Int) := by rw [yad_e (by omega) (by omega)]; omega
  have i2 : yin ((21 + x : Nat) : Int) 393 = true := by rw [yin_d]; exact decide_eq_true (by omega)
  have i3 : yin ((14 + h : Nat) : Int) 393 = true := by rw [yin_d]; exact decide_eq_true (by omega)
  have i4 : yin ((35 + x : Nat) : Int) 393 = true := by rw [yin_d]; exact decide_eq_true (by omega)
  have run : ∃ n : Nat, n ≤ 2 ∧ f_X4_habitFalls_b38 N N σ 17 x h 0 0 = some ((n : Int), σ) ∧ f_X8_timesOf N τ x h = some (if k = 4 ∨ τ.1 1 (14 + h) = 1 ∨ τ.1 1 (35 + x) = 0 then 0 else (n : Int), τ) := by
    have fin7 : ∀ (m n i : Nat), (if k = 3 then 2 else 1) ≤ (i : Int) → f_X4_habitFalls_b38 N (m + 1) σ 17 x h n i = some ((n : Int), σ) := fun m n i q => by
      rw [q_X4_habitFalls_b38]
      simp only [i1, cond_true, Int.toNat_natCast, q3, x4_fallsOf, ycP_ge, decide_eq_true q]
    have fin8 : ∀ (m n i : Nat), (if k = 3 then 2 else 1) ≤ (i : Int) → f_X8_timesOf_b5 N (m + 1) τ x h n i = some (if k = 4 ∨ τ.1 1 (14 + h) = 1 ∨ τ.1 1 (35 + x) = 0 then 0 else (n : Int), τ) := fun m n i q => by
      rw [q_X8_timesOf_b5]
      simp only [m1, m2, m3, i2, i3, i4, cond_true, Int.toNat_natCast, hk, x8_fallsOf, ycP_ge, ycP_eq, ycP_ne, decide_eq_true q, f_X8_timesOf_b100, f_X8_timesOf_b105]
      by_cases z1 : k = 4
      · simp [z1]
      · by_cases z2 : τ.1 1 (14 + h) = 1
        · simp [z1, z2]
        · by_cases z3 : τ.1 1 (35 + x) = 0
          · simp [z1, z2, z3]
          · simp [z1, z2, z3]
    obtain ⟨a, ha, a7, a8⟩ := p_times_t (N := N) (h := h) HR hx q3 hk 0 0 (by omega) (by omega) (by split <;> simp)
    by_cases h3 : k = 3
    · obtain ⟨b, hb, c7, c8⟩ := p_times_t (N := N) (h := h) HR hx q3 hk 1 (0 + a) (by omega) (by omega) (by rw [if_pos h3]; simp)
      refine ⟨0 + a + b, by omega, ?_, ?_⟩
      · have q := a7 (M + 2)
        rw [show M + 2 + 1 = N by omega] at q
        exact q.trans ((c7 (M + 1)).trans (fin7 M _ _ (by rw [if_pos h3]; simp)))
      · have q := a8 (M + 2)
        rw [show M + 2 + 1 = N by omega] at q
        exact q.trans ((c8 (M + 1)).trans (fin8 M _ _ (by rw [if_pos h3]; simp)))
    · refine ⟨0 + a, by omega, ?_, ?_⟩
      · have q := a7 (M + 2)
        rw [show M + 2 + 1 = N by omega] at q
        exact q.trans (fin7 (M + 1) _ _ (by rw [if_neg h3]; simp))
      · have q := a8 (M + 2)
        rw [show M + 2 + 1 = N by omega] at q
        exact q.trans (fin8 (M + 1) _ _ (by rw [if_neg h3]; simp))
  obtain ⟨n, hn, r7, r8⟩ := run
  by_cases z3 : τ.1 1 (35 + x) = 0
  · refine ⟨0, by omega, fun q => absurd rfl q, ?_, ?_⟩
    · simp [f_X4_habitFalls, f_X4_habitFalls_b31, i1, ycP_eq, q5, z3]
    · rw [r8, if_pos (Or.inr (Or.inr z3))]
      rfl
  · by_cases z1 : k = 4
    · refine ⟨0, by omega, fun q => absurd rfl q, ?_, ?_⟩
      · simp [f_X4_habitFalls, f_X4_habitFalls_b31, i1, ycP_eq, q5, q3, z1, z3]
      · rw [r8, if_pos (Or.inl z1)]
        rfl
    · by_cases z2 : τ.1 1 (14 + h) = 1
      · refine ⟨0, by omega, fun q => absurd rfl q, ?_, ?_⟩
        · simp [f_X4_habitFalls, f_X4_habitFalls_b31, i1, ycP_eq, ycP_ne, f_X7_bit, ql, q5, q3, z1, z2, z3]
        · rw [r8, if_pos (Or.inr (Or.inl z2))]
          rfl
      · refine ⟨n, hn, fun _ => z3, ?_, ?_⟩
        · simp [f_X4_habitFalls, i1, ycP_eq, ycP_ne, f_X7_bit, ql, q5, q3, z1, z2, z3, r7]
        · rw [r8, if_neg (by intro q; rcases q with q | q | q; exact z1 q; exact z2 q; exact z3 q)]
