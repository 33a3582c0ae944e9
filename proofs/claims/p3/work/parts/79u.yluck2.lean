theorem ytb : ∀ s : Fin 128, ∀ x : Fin 7, yan (ysr ((s.val : Nat) : Int) ((x.val : Nat) : Int)) 1 = if s.val.testBit x.val then 1 else 0 := by decide +kernel
noncomputable def yWt (τ : yS) (s : Nat) : Nat → Nat
  | 0 => 1
  | x + 1 => yWt τ s x * (if s.testBit x then yod τ x else 10 - yod τ x)
noncomputable def yDr (N : Nat) (τ : yS) (h s : Nat) : Nat → Nat
  | 0 => 0
  | x + 1 => yDr N τ h s x + (if s.testBit x then (if ytm N τ h x = 0 then 0 else ytm N τ h x * yco τ x) else 0)
def yIs (N : Nat) (τ : yS) (h s : Nat) : Nat → Prop
  | 0 => True
  | x + 1 => yIs N τ h s x ∧ (s.testBit x = true → ¬ ytm N τ h x = 0 → yan (ysr (τ.1 1 (7 + h)) (τ.1 1 (28 + x))) 1 = 1)
theorem yIs_m {N : Nat} {τ : yS} {h s : Nat} (x : Nat) (q : ¬ yIs N τ h s x) : ∀ c : Nat, ¬ yIs N τ h s (x + c)
  | 0 => q
  | c + 1 => fun z => yIs_m x q c z.1
theorem yWt_b {τ : yS} {s : Nat} (ho : ∀ x : Nat, x < 7 → yod τ x ≤ 10) : ∀ x : Nat, x ≤ 7 → yWt τ s x ≤ 10 ^ x
  | 0, _ => by simp [yWt]
  | x + 1, hx => by
    have h1 := yWt_b (s := s) ho x (by omega)
    have h2 := ho x (by omega)
    rw [yWt, Nat.pow_succ]
    refine Nat.mul_le_mul h1 ?_
    split <;> omega
noncomputable def ySm (f : Nat → Nat) : Nat → Nat
  | 0 => 0
  | n + 1 => ySm f n + f n
theorem ySm_add (f : Nat → Nat) (a : Nat) : ∀ b : Nat, ySm f (a + b) = ySm f a + ySm (fun i => f (a + i)) b
  | 0 => by simp [ySm]
  | b + 1 => by
    rw [show a + (b + 1) = (a + b) + 1 by omega, ySm, ySm, ySm_add f a b]
    omega
theorem ySm_mul (f : Nat → Nat) (c : Nat) : ∀ n : Nat, ySm (fun i => f i * c) n = ySm f n * c
  | 0 => by simp [ySm]
  | n + 1 => by rw [ySm, ySm, ySm_mul f c n, Nat.add_mul]
theorem ySm_congr {f g : Nat → Nat} : ∀ n : Nat, (∀ i : Nat, i < n → f i = g i) → ySm f n = ySm g n
  | 0, _ => rfl
  | n + 1, h => by rw [ySm, ySm, ySm_congr n (fun i hi => h i (by omega)), h n (by omega)]
theorem yWt_low {τ : yS} {x s : Nat} : ∀ y : Nat, y ≤ x → yWt τ (2 ^ x + s) y = yWt τ s y
  | 0, _ => rfl
  | y + 1, h => by rw [yWt, yWt, yWt_low y (by omega), Nat.testBit_two_pow_add_gt (by omega)]
/-- all weights together -/
theorem yWt_all {τ : yS} (ho : ∀ x : Nat, x < 7 → yod τ x ≤ 10) : ∀ x : Nat, x ≤ 7 → ySm (fun s => yWt τ s x) (2 ^ x) = 10 ^ x
  | 0, _ => rfl
  | x + 1, hx => by
    have ih := yWt_all ho x (by omega)
    have o := ho x (by omega)
    rw [show (2 : Nat) ^ (x + 1) = 2 ^ x + 2 ^ x by rw [Nat.pow_succ]; omega, ySm_add]
    have a : ySm (fun s => yWt τ s (x + 1)) (2 ^ x) = ySm (fun s => yWt τ s x * (10 - yod τ x)) (2 ^ x) := ySm_congr _ (fun i hi => by
      try dsimp only
      rw [yWt, Nat.testBit_lt_two_pow hi]
      rfl)
    have b : ySm (fun i => (fun s => yWt τ s (x + 1)) (2 ^ x + i)) (2 ^ x) = ySm (fun s => yWt τ s x * yod τ x) (2 ^ x) := ySm_congr _ (fun i hi => by
      try dsimp only
      rw [yWt, Nat.testBit_two_pow_add_eq, Nat.testBit_lt_two_pow hi, yWt_low x (Nat.le_refl x)]
      rfl)
    rw [a, b, ySm_mul, ySm_mul, ih, ← Nat.mul_add, Nat.pow_succ]
    congr 1
    omega
theorem x4_wt_l {N : Nat} {σ τ : yS} {H s : Nat} (HR : yRR σ τ) (hH : τ.1 0 3 = (H : Int)) (hs : s < 128) (ho : ∀ x : Nat, x < 7 → yod τ x ≤ 10) : ∀ (c m x : Nat), x + c = H → f_X4_habitWeight_b5 N (m + c + 1) σ 17 s (yWt τ s x) x = some ((yWt τ s H : Int), σ)
  | 0, m, x, hx => by
    have e0 := HR.1.2.2.1.1
    have e : x = H := by omega
    subst e
    rw [q_X4_habitWeight_b5, e0, hH]
    simp [ycP_ge]
  | c + 1, m, x, hx => by
    have b0 := HR.1.2.2.1.2.2.2.1
    have e0 := HR.1.2.2.1.1
    have ex : yad (x : Int) 1 = ((x + 1 : Nat) : Int) := by rw [yad_e (by omega) (by omega)]; omega
    have q5 : σ.1 (17 + 6) x = τ.1 1 (35 + x) := (HR.1.2.2.2.1.1 x (by omega)).2.2.2.2.2
    have w5 : 0 ≤ τ.1 1 (35 + x) ∧ τ.1 1 (35 + x) ≤ 10 := (HR.1.2.2.2.2.2.1 x (by omega)).2.2.2.2
    have eo : τ.1 1 (35 + x) = (yod τ x : Int) := by unfold yod; omega
    have o := ho x (by omega)
    have i1 : yin (x : Int) 7 = true := by rw [yin_d]; exact decide_eq_true (by omega)
    have tb := ytb ⟨s, hs⟩ ⟨x, by omega⟩
    dsimp only at tb
    have wb := yWt_b (s := s) ho x (by omega)
    have p7 : (10 : Nat) ^ x ≤ 10 ^ 7 := Nat.pow_le_pow_right (by omega) (by omega)
    have es : ysu 10 (yod τ x : Int) = ((10 - yod τ x : Nat) : Int) := by rw [ysu_e (by omega) (by omega)]; omega
    have ih := x4_wt_l (N := N) HR hH hs ho c m (x + 1) (by omega)
    have p1 : yWt τ s x * yod τ x ≤ 10 ^ 7 * 10 := Nat.mul_le_mul (by omega) o
    have p2 : yWt τ s x * (10 - yod τ x) ≤ 10 ^ 7 * 10 := Nat.mul_le_mul (by omega) (by omega)
    have z1 := ymuLN (a := yWt τ s x) (b := yod τ x) (by omega)
    have z2 := ymuLN (a := yWt τ s x) (b := 10 - yod τ x) (by omega)
    rw [yWt] at ih
    rw [show m + (c + 1) + 1 = (m + c + 1) + 1 by omega, q_X4_habitWeight_b5, e0, hH]
    simp only [ycP_ge, ycP_ne, decide_eq_false (show ¬ (H : Int) ≤ (x : Int) by omega), cond_false, f_X7_bit, tb, i1, cond_true, Int.toNat_natCast, q5, eo, es, f_X4_habitWeight_b47, z1, z2, ex]
    by_cases hb : s.testBit x = true
    · simp only [hb, if_true] at ih ⊢
      exact ih
    · simp only [hb] at ih ⊢
      exact ih
theorem yDr_b {N : Nat} (hN : 10 ≤ N) {σ τ : yS} {H h s : Nat} (HR : yRR σ τ) (hH : τ.1 0 3 = (H : Int)) (hh : h < H) : ∀ x : Nat, x ≤ H → yDr N τ h s x ≤ 18 * x
  | 0, _ => by simp [yDr]
  | x + 1, hx => by
    have ih := yDr_b hN HR hH hh x (by omega) (s := s)
    obtain ⟨tn, -, -, tc⟩ := p_tm (N := N) hN (x := x) (h := h) HR (by omega) (by omega)
    rw [yDr]
    split
    · split
      · omega
      · rename_i hz
        have c9 := (tc hz).2.2
        have : ytm N τ h x * yco τ x ≤ 2 * 9 := Nat.mul_le_mul tn c9
        omega
    · omega
theorem x4_pay_l {N : Nat} (hN : 10 ≤ N) {σ τ : yS} {H h s : Nat} (HR : yRR σ τ) (hH : τ.1 0 3 = (H : Int)) (hh : h < H) (hs : s < 128) : ∀ (c m x : Nat), x + c = H → yIs N τ h s x → ∃ e : Int, f_X4_canPayHabits_b5 N (m + c + 1) σ 17 s h (yDr N τ h s x) x = some (e, σ) ∧ ((yIs N τ h s H ∧ (yDr N τ h s H : Int) ≤ τ.1 1 h → e = 1) ∧ (¬ (yIs N τ h s H ∧ (yDr N τ h s H : Int) ≤ τ.1 1 h) → e = 0))
  | 0, m, x, hx, hI => by
    have b0 := HR.1.2.2.1.2.2.2.1
    have e0 := HR.1.2.2.1.1
    have e : x = H := by omega
    subst e
    have i1 : yin (h : Int) 7 = true := by rw [yin_d]; exact decide_eq_true (by omega)
    have q0 : σ.1 (17 + 2) h = τ.1 1 h := (HR.1.2.2.2.1.1 h (by omega)).1
    by_cases hp : (yDr N τ h s x : Int) ≤ τ.1 1 h
    · refine ⟨1, ?_, fun _ => rfl, fun q => absurd ⟨hI, hp⟩ q⟩
      rw [q_X4_canPayHabits_b5, e0, hH]
      simp only [ycP_ge, ycP_gt, decide_eq_true (Int.le_refl (x : Int)), cond_true, i1, Int.toNat_natCast, q0, decide_eq_false (show ¬ τ.1 1 h < (yDr N τ h s x : Int) by omega), cond_false, f_X4_canPayHabits_b86]
      rfl
    · refine ⟨0, ?_, fun q => absurd q.2 hp, fun _ => rfl⟩
      rw [q_X4_canPayHabits_b5, e0, hH]
      simp only [ycP_ge, ycP_gt, decide_eq_true (Int.le_refl (x : Int)), cond_true, i1, Int.toNat_natCast, q0, decide_eq_true (show τ.1 1 h < (yDr N τ h s x : Int) by omega), f_X4_canPayHabits_b86]
      rfl
  | c + 1, m, x, hx, hI => by
    have b0 := HR.1.2.2.1.2.2.2.1
    have e0 := HR.1.2.2.1.1
    have ex : yad (x : Int) 1 = ((x + 1 : Nat) : Int) := by rw [yad_e (by omega) (by omega)]; omega
    have fx : decide ((H : Int) ≤ (x : Int)) = false := decide_eq_false (by omega)
    have i1 : yin (h : Int) 7 = true := by rw [yin_d]; exact decide_eq_true (by omega)
    have i2 : yin (x : Int) 7 = true := by rw [yin_d]; exact decide_eq_true (by omega)
    have q1 : σ.1 (17 + 3) h = τ.1 1 (7 + h) := (HR.1.2.2.2.1.1 h (by omega)).2.1
    have q4 : σ.1 (17 + 5) x = τ.1 1 (28 + x) := (HR.1.2.2.2.1.1 x (by omega)).2.2.2.2.1
    have w4 : 0 ≤ τ.1 1 (28 + x) ∧ τ.1 1 (28 + x) ≤ 4 := (HR.1.2.2.2.2.2.1 x (by omega)).2.2.2.1
    have i3 : yin (τ.1 1 (28 + x)) 5 = true := by rw [yin_d]; exact decide_eq_true (by omega)
    have sk : 0 ≤ τ.1 1 (7 + h) ∧ τ.1 1 (7 + h) < 32 := (HR.1.2.2.2.2.2.1 h (by omega)).1
    have bb := ybit5 ⟨(τ.1 1 (7 + h)).toNat, by omega⟩ ⟨(τ.1 1 (28 + x)).toNat, by omega⟩
    simp only [show (((τ.1 1 (7 + h)).toNat : Nat) : Int) = τ.1 1 (7 + h) by omega, show (((τ.1 1 (28 + x)).toNat : Nat) : Int) = τ.1 1 (28 + x) by omega] at bb
    obtain ⟨tn, t7, t8, tc⟩ := p_tm (N := N) hN (x := x) (h := h) HR (by omega) (by omega)
    have tb := ytb ⟨s, hs⟩ ⟨x, by omega⟩
    dsimp only at tb
    have db := yDr_b hN HR hH hh x (by omega) (s := s)
    rw [show m + (c + 1) + 1 = (m + c + 1) + 1 by omega, q_X4_canPayHabits_b5, e0, hH]
    simp only [ycP_ge, ycP_ne, ycP_le, fx, cond_false, f_X7_bit, tb, f_X4_canPayHabits_b65, ex, t7, i1, i2, cond_true, Int.toNat_natCast, q1, q4]
    by_cases hb : s.testBit x = true
    · simp only [hb, if_true, not_true_eq_false, decide_false, cond_false]
      by_cases hz : ytm N τ h x = 0
      · have I2 : yIs N τ h s (x + 1) := ⟨hI, fun _ q => absurd hz q⟩
        have D2 : yDr N τ h s (x + 1) = yDr N τ h s x := by rw [yDr, if_pos hb, if_pos hz, Nat.add_zero]
        obtain ⟨e, g, h1⟩ := x4_pay_l hN HR hH hh hs c m (x + 1) (by omega) I2
        rw [D2] at g
        refine ⟨e, ?_, h1⟩
        simp only [hz, show decide (((0 : Nat) : Int) ≤ 0) = true from rfl, cond_true]
        exact g
      · simp only [decide_eq_false (show ¬ (ytm N τ h x : Int) ≤ 0 by omega), cond_false]
        by_cases hsk : yan (ysr (τ.1 1 (7 + h)) (τ.1 1 (28 + x))) 1 = 0
        · have nI : ¬ yIs N τ h s (x + 1) := fun q => by
            have := q.2 hb hz
            omega
          have nH := yIs_m (x + 1) nI c
          rw [show x + 1 + c = H by omega] at nH
          refine ⟨0, ?_, fun q => absurd q.1 nH, fun _ => rfl⟩
          simp only [hsk, not_true_eq_false, decide_false, cond_false]
        · obtain ⟨c7, c8, c9⟩ := tc hz
          have c7 : σ.1 (17 + 1) (τ.1 1 (28 + x)).toNat = (yco τ x : Int) := c7
          have I2 : yIs N τ h s (x + 1) := ⟨hI, fun _ _ => by omega⟩
          have D2 : yDr N τ h s (x + 1) = yDr N τ h s x + ytm N τ h x * yco τ x := by rw [yDr, if_pos hb, if_neg hz]
          have l1 : ytm N τ h x * yco τ x ≤ 2 * 9 := Nat.mul_le_mul tn c9
          have z1 := ymuN (a := ytm N τ h x) (b := yco τ x) (by omega)
          have z2 : yad (yDr N τ h s x : Int) ((ytm N τ h x * yco τ x : Nat) : Int) = ((yDr N τ h s x + ytm N τ h x * yco τ x : Nat) : Int) := by rw [yad_e (by omega) (by omega)]; omega
          obtain ⟨e, g, h1⟩ := x4_pay_l hN HR hH hh hs c m (x + 1) (by omega) I2
          rw [D2] at g
          refine ⟨e, ?_, h1⟩
          simp only [hsk, not_false_eq_true, decide_true, cond_true, f_X4_habitCost, t7, i2, Int.toNat_natCast, q4, i3, c7, z1, z2]
          exact g
    · have I2 : yIs N τ h s (x + 1) := ⟨hI, fun q => absurd q hb⟩
      have D2 : yDr N τ h s (x + 1) = yDr N τ h s x := by rw [yDr, if_neg hb, Nat.add_zero]
      obtain ⟨e, g, h1⟩ := x4_pay_l hN HR hH hh hs c m (x + 1) (by omega) I2
      rw [D2] at g
      refine ⟨e, ?_, h1⟩
      simp only [hb, if_false, decide_eq_true (show ¬ (0 : Int) = 1 by omega), cond_true]
      exact g
