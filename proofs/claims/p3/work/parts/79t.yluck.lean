theorem ymuN {a b : Nat} (h : a * b ≤ 2147483647) : ymu (a : Int) (b : Int) = ((a * b : Nat) : Int) := by
  have e : ((a * b : Nat) : Int) = (a : Int) * (b : Int) := by simp
  rw [ymu_e (by omega) (by omega), e]
theorem ymuLN {a b : Nat} (h : a * b ≤ 2147483647) : ymuL (a : Int) (b : Int) = ((a * b : Nat) : Int) := by
  have e : ((a * b : Nat) : Int) = (a : Int) * (b : Int) := by simp
  rw [ymuL_e (by omega) (by omega), e]
theorem yadLN {a b : Nat} (h : a + b ≤ 2147483647) : yadL (a : Int) (b : Int) = ((a + b : Nat) : Int) := by
  rw [yadL_e (by omega) (by omega)]
  omega
noncomputable def ytm (N : Nat) (τ : yS) (h x : Nat) : Nat := (((f_X8_timesOf N τ x h).getD (0, τ)).1).toNat
noncomputable def yco (τ : yS) (x : Nat) : Nat := (τ.1 4 (τ.1 1 (28 + x)).toNat).toNat
noncomputable def yod (τ : yS) (x : Nat) : Nat := (τ.1 1 (35 + x)).toNat
theorem p_tm {N : Nat} (hN : 10 ≤ N) {σ τ : yS} {x h : Nat} (HR : yRR σ τ) (hx : (x : Int) < τ.1 0 3) (hh : (h : Int) < τ.1 0 3) : ytm N τ h x ≤ 2 ∧ f_X4_habitFalls N σ 17 x h = some ((ytm N τ h x : Int), σ) ∧ f_X8_timesOf N τ x h = some ((ytm N τ h x : Int), τ) ∧ (¬ ytm N τ h x = 0 → (σ.1 18 (τ.1 1 (28 + x)).toNat = (yco τ x : Int) ∧ τ.1 4 (τ.1 1 (28 + x)).toNat = (yco τ x : Int) ∧ yco τ x ≤ 9)) := by
  have b0 := HR.1.2.2.1.2.2.2.1
  obtain ⟨n, hn, ho, g7, g8⟩ := p_times (N := N) hN HR hx hh
  have e : ytm N τ h x = n := by
    unfold ytm
    rw [g8]
    show ((n : Int)).toNat = n
    omega
  rw [e]
  refine ⟨hn, g7, g8, fun z => ?_⟩
  have lt : τ.1 1 (28 + x) < τ.1 0 5 := HR.2.1.2.1 x (by omega) (ho z)
  have w4 : 0 ≤ τ.1 1 (28 + x) ∧ τ.1 1 (28 + x) ≤ 4 := (HR.1.2.2.2.2.2.1 x (by omega)).2.2.2.1
  have c := HR.1.2.2.1.2.2.2.2.2.2 (τ.1 1 (28 + x)).toNat (by omega)
  unfold yco
  have c1 : σ.1 18 (τ.1 1 (28 + x)).toNat = τ.1 4 (τ.1 1 (28 + x)).toNat := c.1
  refine ⟨?_, ?_, ?_⟩
  · rw [c1]; omega
  · omega
  · omega
theorem p_mean_l {N : Nat} (hN : 1000 ≤ N) {σ τ : yS} {H h : Nat} {w : Int} (HR : yRR σ τ) (hH : τ.1 0 3 = (H : Int)) (hh : h < H) : ∀ (c m q x A : Nat), x + c = H → A ≤ 180 * x → ∃ a : Int, f_X7_mean_b29 N (m + c + 1) σ h w A x = some (a, σ) ∧ f_X8_mean_b27 N (q + c + 1) τ h w A x = some (a, τ)
  | 0, m, q, x, A, hx, hA => by
    have b0 := HR.1.2.2.1.2.2.2.1
    have e0 := HR.1.2.2.1.1
    obtain ⟨a, g7, g8⟩ := p_frac (N := N) hN (σ := σ) (τ := τ) (p := A) (w := 10) (x := w) (by omega) (by omega) (by omega)
    have g7 : f_X7_partOfFraction N σ A 10 w = some (a, σ) := g7
    have g8 : f_X8_told N τ A 10 w = some (a, τ) := g8
    refine ⟨a, ?_, ?_⟩
    · rw [q_X7_mean_b29, e0, hH]
      simp only [ycP_ge, decide_eq_true (show (H : Int) ≤ (x : Int) by omega), cond_true, g7]
    · rw [q_X8_mean_b27, hH]
      simp only [ycP_ge, decide_eq_true (show (H : Int) ≤ (x : Int) by omega), cond_true, g8]
  | c + 1, m, q, x, A, hx, hA => by
    have b0 := HR.1.2.2.1.2.2.2.1
    have e0 := HR.1.2.2.1.1
    have ex : yad (x : Int) 1 = ((x + 1 : Nat) : Int) := by rw [yad_e (by omega) (by omega)]; omega
    obtain ⟨tn, t7, t8, tc⟩ := p_tm (N := N) (by omega) (x := x) (h := h) HR (by omega) (by omega)
    obtain ⟨-, -, -, -, q4, q5⟩ := HR.1.2.2.2.1.1 x (by omega)
    have q4 : σ.1 (17 + 5) x = τ.1 1 (28 + x) := q4
    have q5 : σ.1 23 x = τ.1 1 (35 + x) := q5
    have w4 : 0 ≤ τ.1 1 (28 + x) ∧ τ.1 1 (28 + x) ≤ 4 := (HR.1.2.2.2.2.2.1 x (by omega)).2.2.2.1
    have w5 : 0 ≤ τ.1 1 (35 + x) ∧ τ.1 1 (35 + x) ≤ 10 := (HR.1.2.2.2.2.2.1 x (by omega)).2.2.2.2
    obtain ⟨o, ho⟩ : ∃ o : Nat, τ.1 1 (35 + x) = (o : Int) := ⟨(τ.1 1 (35 + x)).toNat, by omega⟩
    have i1 : yin (x : Int) 7 = true := by rw [yin_d]; exact decide_eq_true (by omega)
    have i2 : yin (τ.1 1 (28 + x)) 5 = true := by rw [yin_d]; exact decide_eq_true (by omega)
    have m1 : yad 28 (x : Int) = ((28 + x : Nat) : Int) := by rw [yad_e (by omega) (by omega)]; omega
    have m2 : yad 35 (x : Int) = ((35 + x : Nat) : Int) := by rw [yad_e (by omega) (by omega)]; omega
    have i3 : yin ((28 + x : Nat) : Int) 393 = true := by rw [yin_d]; exact decide_eq_true (by omega)
    have i4 : yin ((35 + x : Nat) : Int) 393 = true := by rw [yin_d]; exact decide_eq_true (by omega)
    have fx : decide ((H : Int) ≤ (x : Int)) = false := decide_eq_false (by omega)
    generalize ytm N τ h x = n at tn t7 t8 tc
    by_cases hn : n = 0
    · subst hn
      have z1 : ymu ((0 : Nat) : Int) (σ.1 (17 + 1) (τ.1 1 (28 + x)).toNat) = ((0 : Nat) : Int) := by
        show ymu 0 _ = 0
        rw [ymu_e (by omega) (by omega), Int.zero_mul]
      have z2 : ymu (o : Int) ((0 : Nat) : Int) = ((0 : Nat) : Int) := by rw [ymuN (by omega), Nat.mul_zero]
      have z3 : yadL (A : Int) ((0 : Nat) : Int) = (A : Int) := by rw [yadLN (by omega), Nat.add_zero]
      obtain ⟨a, i7, i8⟩ := p_mean_l hN (w := w) HR hH hh c m q (x + 1) A (by omega) (by omega)
      refine ⟨a, ?_, ?_⟩
      · rw [show m + (c + 1) + 1 = (m + c + 1) + 1 by omega, q_X7_mean_b29, e0, hH]
        simp only [ycP_ge, fx, cond_false, i1, cond_true, f_X4_habitCost, t7, Int.toNat_natCast, q4, i2, z1, q5, ho, z2, z3, ex, i7]
      · rw [show q + (c + 1) + 1 = (q + c + 1) + 1 by omega, q_X8_mean_b27, hH]
        have z3 : yadL (A : Int) 0 = (A : Int) := z3
        simp only [ycP_ge, ycP_ne, fx, cond_false, t8, show decide (¬ ((0 : Nat) : Int) = 0) = false from rfl, f_X8_mean_b87, z3, ex, i8]
    · obtain ⟨c7, c8, c9⟩ := tc hn
      generalize yco τ x = cc at c7 c8 c9
      have c7 : σ.1 (17 + 1) (τ.1 1 (28 + x)).toNat = (cc : Int) := c7
      have l1 : n * cc ≤ 2 * 9 := Nat.mul_le_mul tn c9
      have l2 : o * (n * cc) ≤ 10 * 18 := Nat.mul_le_mul (by omega) l1
      have l3 : n * o ≤ 2 * 10 := Nat.mul_le_mul tn (by omega)
      have e4 : n * o * cc = o * (n * cc) := by rw [Nat.mul_comm n o, Nat.mul_assoc]
      have z1 := ymuN (a := n) (b := cc) (by omega)
      have z2 := ymuN (a := o) (b := n * cc) (by omega)
      have z3 := ymuLN (a := n) (b := o) (by omega)
      have z4 := ymuLN (a := n * o) (b := cc) (by omega)
      have z5 := yadLN (a := A) (b := o * (n * cc)) (by omega)
      rw [e4] at z4
      obtain ⟨a, i7, i8⟩ := p_mean_l hN (w := w) HR hH hh c m q (x + 1) (A + o * (n * cc)) (by omega) (by omega)
      refine ⟨a, ?_, ?_⟩
      · rw [show m + (c + 1) + 1 = (m + c + 1) + 1 by omega, q_X7_mean_b29, e0, hH]
        simp only [ycP_ge, fx, cond_false, i1, cond_true, f_X4_habitCost, t7, Int.toNat_natCast, q4, i2, c7, z1, q5, ho, z2, z5, ex, i7]
      · rw [show q + (c + 1) + 1 = (q + c + 1) + 1 by omega, q_X8_mean_b27, hH]
        simp only [ycP_ge, ycP_ne, fx, cond_false, cond_true, t8, decide_eq_true (show ¬ (n : Int) = 0 by omega), m1, m2, i3, i4, Int.toNat_natCast, i2, ho, c8, z3, z4, f_X8_mean_b87, z5, ex, i8]
theorem P_mean {N : Nat} (hN : 1000 ≤ N) {σ τ : yS} {h w : Int} (HR : yRR σ τ) : ∃ (a : Int) (σ' τ' : yS), f_X7_mean N σ h w = some (a, σ') ∧ f_X8_mean N τ h w = some (a, τ') ∧ yRR σ' τ' := by
  obtain ⟨e0, e1, e2, b0, b1, b2, hc⟩ := HR.1.2.2.1
  simp only [f_X7_mean, f_X7_mean_b20, f_X8_mean, f_X8_mean_b18, x4_isHouse (show 2 ≤ σ.1 17 0 ∧ σ.1 17 0 ≤ 7 by rw [e0]; exact b0), x8_isHouse b0, x7_within, x8_in, ycP_ne, ycP_eq, e0]
  by_cases hh : 0 ≤ h ∧ h < τ.1 0 3
  · by_cases hw : 0 ≤ w ∧ w ≤ 1
    · obtain ⟨H, hH⟩ : ∃ m : Nat, τ.1 0 3 = (m : Int) := ⟨(τ.1 0 3).toNat, by omega⟩
      obtain ⟨h, rfl⟩ : ∃ m : Nat, h = (m : Int) := ⟨h.toNat, by omega⟩
      obtain ⟨a, g7, g8⟩ := p_mean_l (N := N) hN (h := h) (w := w) HR hH (by omega) H (N - H - 1) (N - H - 1) 0 0 (by omega) (by omega)
      rw [show N - H - 1 + H + 1 = N by omega, show ((0 : Nat) : Int) = 0 from rfl] at g7 g8
      exact ⟨a, σ, τ, by simp [hh, hw, g7], by simp [hh, hw, g8], HR⟩
    · exact ⟨-1, σ, τ, by simp [hh, hw], by simp [hh, hw], HR⟩
  · exact ⟨-1, σ, τ, by simp [hh], by simp [hh], HR⟩
