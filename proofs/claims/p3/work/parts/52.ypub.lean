theorem ybs5 : ∀ (S : Fin 32) (d : Fin 5), (0 ≤ yor ((S.val : Nat) : Int) (ysl 1 ((d.val : Nat) : Int)) ∧ yor ((S.val : Nat) : Int) (ysl 1 ((d.val : Nat) : Int)) < 32) ∧ (0 ≤ yan ((S.val : Nat) : Int) (yxo (ysl 1 ((d.val : Nat) : Int)) (-1)) ∧ yan ((S.val : Nat) : Int) (yxo (ysl 1 ((d.val : Nat) : Int)) (-1)) < 32) := by decide +kernel
theorem ybs5_ok {S d : Int} (hS : 0 ≤ S ∧ S < 32) (hd : 0 ≤ d ∧ d < 5) : (0 ≤ yor S (ysl 1 d) ∧ yor S (ysl 1 d) < 32) ∧ (0 ≤ yan S (yxo (ysl 1 d) (-1)) ∧ yan S (yxo (ysl 1 d) (-1)) < 32) := by
  have q := ybs5 ⟨S.toNat, by omega⟩ ⟨d.toNat, by omega⟩
  have e1 : ((S.toNat : Nat) : Int) = S := by omega
  have e2 : ((d.toNat : Nat) : Int) = d := by omega
  simp only [e1, e2] at q
  exact q
theorem x7_withBit {N : Nat} {σ : yS} {b i z : Int} : f_X7_withBit N σ b i z = some (if z = 0 then yan b (yxo (ysl 1 i) (-1)) else yor b (ysl 1 i), σ) := by
  simp only [f_X7_withBit, f_X7_withBit_b19, ycP_eq]
  by_cases h : z = 0
  · simp [h]
  · simp [h]
theorem p_can {N : Nat} {σ τ : yS} {h d z : Int} (H : yRN σ τ) : ∃ (a : Int) (σ' τ' : yS), f_X7_can N σ h d z = some (a, σ') ∧ f_X8_can N τ h d z = some (a, τ') ∧ yRN σ' τ' ∧ yFs σ σ' ∧ yFo τ τ' := by
  have H0 := H
  obtain ⟨-, -, ⟨e0, e1, e2, b0, b1, b2, hc⟩, ⟨t1, -⟩, ⟨-, g1, -⟩⟩ := H0
  simp only [f_X7_can, f_X7_can_b22, f_X7_bit, x7_withBit, f_X8_can, f_X8_can_b16, f_X8_can_b76, x4_isHouse (show 2 ≤ σ.1 17 0 ∧ σ.1 17 0 ≤ 7 by rw [e0]; exact b0), x8_isHouse b0, x4_isDeed (show 0 ≤ σ.1 17 2 ∧ σ.1 17 2 ≤ 5 by rw [e2]; exact b2), x8_isDeed b2, ycP_eq, ycP_ne, yin_d, e0, e2]
  by_cases hh : 0 ≤ h ∧ h < τ.1 0 3
  · by_cases hd : 0 ≤ d ∧ d < τ.1 0 5
    · obtain ⟨n, rfl⟩ : ∃ n : Nat, h = (n : Int) := ⟨h.toNat, by omega⟩
      have e : yad 7 (n : Int) = ((7 + n : Nat) : Int) := by rw [yad_e (by omega) (by omega)]; omega
      have q : σ.1 20 n = τ.1 1 (7 + n) := (t1 n (by omega)).2.1
      have r : 0 ≤ τ.1 1 (7 + n) ∧ τ.1 1 (7 + n) < 32 := (g1 n (by omega)).1
      obtain ⟨r1, r2⟩ := ybs5_ok r (show 0 ≤ d ∧ d < 5 by omega)
      refine ⟨yan (ysr (τ.1 1 (7 + n)) d) 1, yw σ 20 n (if z = 0 then yan (τ.1 1 (7 + n)) (yxo (ysl 1 d) (-1)) else yor (τ.1 1 (7 + n)) (ysl 1 d)), yw τ 1 (7 + n) (if z = 0 then yan (τ.1 1 (7 + n)) (yxo (ysl 1 d) (-1)) else yor (τ.1 1 (7 + n)) (ysl 1 d)), ?_, ?_, yRN_can H (by omega) (by split; exact r2; exact r1), (by repeat (first | exact yFs_r | refine yFs_w ?_ (by omega))), (by repeat (first | exact yFo_r | refine yFo_w ?_ (by omega)))⟩
      · simp [hh, hd, show (n : Int) < 7 by omega, q]
      · rw [e]
        have c1 : ((7 + n : Nat) : Int).toNat = 7 + n := by omega
        have c2 : 0 ≤ ((7 + n : Nat) : Int) ∧ ((7 + n : Nat) : Int) < ((393 : Nat) : Int) := by omega
        rw [c1]
        generalize ((7 + n : Nat) : Int) = y at c2
        by_cases hz : z = 0
        · simp only [hh, hd, hz, and_self, if_true, c2, decide_true, cond_true, cond_false, decide_false]
          simp
        · simp only [hh, hd, hz, and_self, if_true, if_false, c2, decide_true, cond_true, cond_false, decide_false]
          simp
    · exact ⟨-1, σ, τ, by simp [hh, hd], by simp [hh, hd], H, yFs_r, yFo_r⟩
  · exact ⟨-1, σ, τ, by simp [hh], by simp [hh], H, yFs_r, yFo_r⟩
theorem x7_isKind {N : Nat} {σ : yS} {k : Int} : f_X7_isKind N σ k = some (if 0 ≤ k ∧ k ≤ 4 then 1 else 0, σ) := by
  simp only [f_X7_isKind, x7_within, yb1_d]
  by_cases hc : 0 ≤ k ∧ k ≤ 4
  · simp [hc]
  · simp [hc]
theorem x8_isKind {N : Nat} {τ : yS} {k : Int} : f_X8_isKind N τ k = some (if 0 ≤ k ∧ k ≤ 4 then 1 else 0, τ) := by
  simp only [f_X8_isKind, x8_in, yb1_d]
  by_cases hc : 0 ≤ k ∧ k ≤ 4
  · simp [hc]
  · simp [hc]
theorem p_habit {N : Nat} {σ τ : yS} {h k d o : Int} (H : yRN σ τ) : ∃ (a : Int) (σ' τ' : yS), f_X7_habit N σ h k d o = some (a, σ') ∧ f_X8_habit N τ h k d o = some (a, τ') ∧ yRN σ' τ' ∧ yFs σ σ' ∧ (∀ a b : Nat, ¬ (a = 1 ∧ 21 ≤ b ∧ b < 42) → τ'.1 a b = τ.1 a b) ∧ ((∀ i : Nat, i < 7 → ¬ τ.1 1 (35 + i) = 0 → τ.1 1 (28 + i) < τ.1 0 5) → ∀ i : Nat, i < 7 → ¬ τ'.1 1 (35 + i) = 0 → τ'.1 1 (28 + i) < τ.1 0 5) := by
  have H0 := H
  obtain ⟨-, -, ⟨e0, e1, e2, b0, b1, b2, hc⟩, ⟨t1, -⟩, ⟨-, g1, -⟩⟩ := H0
  simp only [f_X7_habit, f_X7_habit_b40, f_X4_setHabit, f_X8_habit, f_X8_habit_b36, f_X8_becomes, x7_isKind, x8_isKind, x7_within, x8_in, x4_isHouse (show 2 ≤ σ.1 17 0 ∧ σ.1 17 0 ≤ 7 by rw [e0]; exact b0), x8_isHouse b0, x4_isDeed (show 0 ≤ σ.1 17 2 ∧ σ.1 17 2 ≤ 5 by rw [e2]; exact b2), x8_isDeed b2, ycP_eq, ycP_ne, yin_d, e0, e2]
  by_cases hh : 0 ≤ h ∧ h < τ.1 0 3
  · by_cases hk : 0 ≤ k ∧ k ≤ 4
    · by_cases hd : 0 ≤ d ∧ d < τ.1 0 5
      · by_cases ho : 0 ≤ o ∧ o ≤ 10
        · obtain ⟨n, rfl⟩ : ∃ n : Nat, h = (n : Int) := ⟨h.toNat, by omega⟩
          have y1 : yad 21 (n : Int) = ((21 + n : Nat) : Int) := by rw [yad_e (by omega) (by omega)]; omega
          have y2 : yad 28 (n : Int) = ((28 + n : Nat) : Int) := by rw [yad_e (by omega) (by omega)]; omega
          have y3 : yad 35 (n : Int) = ((35 + n : Nat) : Int) := by rw [yad_e (by omega) (by omega)]; omega
          have q : σ.1 23 n = τ.1 1 (35 + n) := (t1 n (by omega)).2.2.2.2.2
          refine ⟨τ.1 1 (35 + n), yw (yw (yw σ 21 n k) 22 n d) 23 n o, yw (yw (yw τ 1 (21 + n) k) 1 (28 + n) d) 1 (35 + n) o, ?_, ?_, yRN_odds (yRN_deed (yRN_kind H (by omega) hk) (by omega) (by omega)) (by omega) ho, (by repeat (first | exact yFs_r | refine yFs_w ?_ (by omega))), fun a b q => ?_, fun q i hi hz => ?_⟩
          · simp [hh, hk, hd, ho, show (n : Int) < 7 by omega, q]
          · rw [y1, y2, y3]
            have c1 : ((21 : Int) + (n : Int)).toNat = 21 + n := by omega
            have c2 : ((28 : Int) + (n : Int)).toNat = 28 + n := by omega
            have c3 : ((35 : Int) + (n : Int)).toNat = 35 + n := by omega
            simp [c1, c2, c3, hh, hk, hd, ho, yw_1, show ((21 : Int) + n < 393) by omega, show ((28 : Int) + n < 393) by omega, show ((35 : Int) + n < 393) by omega, show (0 ≤ (21 : Int) + n) by omega, show (0 ≤ (28 : Int) + n) by omega, show (0 ≤ (35 : Int) + n) by omega, show ¬ 35 + n = 28 + n by omega, show ¬ 35 + n = 21 + n by omega]
          · rw [yw_1, if_neg (by omega), yw_1, if_neg (by omega), yw_1, if_neg (by omega)]
          · by_cases e : i = n
            · subst e
              rw [yw_1, if_neg (by omega), yw_1, if_pos ⟨rfl, rfl⟩]
              omega
            · rw [yw_1, if_neg (by omega), yw_1, if_neg (by omega), yw_1, if_neg (by omega)] at hz
              rw [yw_1, if_neg (by omega), yw_1, if_neg (by omega), yw_1, if_neg (by omega)]
              exact q i hi hz
        · exact ⟨-1, σ, τ, by simp [hh, hk, hd, ho], by simp [hh, hk, hd, ho], H, yFs_r, fun _ _ _ => rfl, fun q => q⟩
      · exact ⟨-1, σ, τ, by simp [hh, hk, hd], by simp [hh, hk, hd], H, yFs_r, fun _ _ _ => rfl, fun q => q⟩
    · exact ⟨-1, σ, τ, by simp [hh, hk], by simp [hh, hk], H, yFs_r, fun _ _ _ => rfl, fun q => q⟩
  · exact ⟨-1, σ, τ, by simp [hh], by simp [hh], H, yFs_r, fun _ _ _ => rfl, fun q => q⟩
