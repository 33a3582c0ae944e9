theorem yDY_o {σ τ τ' : yS} {t : Nat} (h2 : ∀ j : Nat, τ'.1 2 j = τ.1 2 j) (k : τ'.1 0 3 = τ.1 0 3 ∧ τ'.1 0 4 = τ.1 0 4 ∧ τ'.1 0 5 = τ.1 0 5) (k1 : ∀ b : Nat, τ'.1 4 b = τ.1 4 b) (H : yDY σ τ t) : yDY σ τ' t := by
  obtain ⟨R, T, G, K0⟩ := H
  have e : (fun j => τ'.1 2 j) = (fun j => τ.1 2 j) := funext h2
  refine ⟨yRH_f ⟨rfl, rfl, rfl⟩ (fun _ => rfl) k k1 R, ?_, ?_, ?_⟩
  · rw [e]; exact T
  · rw [e, k.1, k.2.2]; exact G
  · rw [e, k.1, k.2.2]; exact K0
theorem yDY_purse {σ τ : yS} {t h : Nat} {v : Int} (H : yDY σ τ t) (hh : h < 7) : yDY (yw σ (t + 2) h v) (yw τ 2 h v) t :=
  yDY_x H (yRT_purse hh H.2.1) (by omega) (by omega) (by omega) (by omega)
theorem yDY_done {σ τ : yS} {t k : Nat} {v : Int} (H : yDY σ τ t) (hk : k < 35) (hv : 0 ≤ v ∧ v ≤ 99) : yDY (yw σ (t + 7) k v) (yw τ 2 (42 + k) v) t :=
  yDY_x H (yRT_done hk H.2.1) (by omega) (by omega) (by omega) (fun _ _ => hv)
theorem yDY_cnt {σ τ : yS} {t b : Nat} {v : Int} (H : yDY σ τ t) (hb : 14 ≤ b ∧ b < 18) : yDY (yw σ t b v) (yw τ 2 (113 + b) v) t := by
  have q1 : 0 ≤ τ.1 2 77 ∧ τ.1 2 77 ≤ 10 := H.2.2.1.2.2.1
  have q2 : 0 ≤ τ.1 2 118 ∧ τ.1 2 118 ≤ 4 := H.2.2.1.2.2.2.2.1
  exact yDY_x H (yRT_cnt hb (fun i hi => by have hi : (i : Int) < τ.1 2 77 := hi; omega) (fun i hi => by have hi : (i : Int) < τ.1 2 118 := hi; omega) H.2.1) (by omega) (by omega) (by omega) (by omega)
theorem ybit5 : ∀ S : Fin 32, ∀ d : Fin 5, yan (ysr ((S.val : Nat) : Int) ((d.val : Nat) : Int)) 1 = 0 ∨ yan (ysr ((S.val : Nat) : Int) ((d.val : Nat) : Int)) 1 = 1 := by decide +kernel
def yFD (t : Nat) (σ τ σ' τ' : yS) (r : Int) : Prop := σ'.2 = σ.2 ∧ (∀ a b : Nat, ¬ (a = t ∨ a = t + 2 ∨ a = t + 7) → σ'.1 a b = σ.1 a b) ∧ (∀ a b : Nat, ¬ a = 2 → ¬ (a = 0 ∧ b = 26) → τ'.1 a b = τ.1 a b) ∧ (∀ j : Nat, 77 ≤ j → j < 128 → τ'.1 2 j = τ.1 2 j) ∧ ((r = 0 ∧ τ'.1 0 26 = τ.1 0 26) ∨ (r = 1 ∧ τ'.1 0 26 = yad (τ.1 0 26) 1))
theorem p_does {N : Nat} {σ τ : yS} {t h d : Nat} {k : Int} (H : yDY σ τ t) (hh : (h : Int) < τ.1 0 3) (hd : (d : Int) < τ.1 0 5) : ∃ (r : Int) (σ' τ' : yS), f_X4_comesTrue N σ t h k d = some (r, σ') ∧ f_X8_does N τ h k d = some (0, τ') ∧ yDY σ' τ' t ∧ yFD t σ τ σ' τ' r := by
  have H0 := H
  obtain ⟨⟨e0, e1, e2, b0, b1, b2, hc⟩, ⟨t1, t2, -⟩, ⟨-, g1, -⟩, ⟨k1, -⟩⟩ := H0
  have h7 : h < 7 := by omega
  have d5 : d < 5 := by omega
  obtain ⟨q0, q1, -⟩ := t1 h h7
  have q0 : σ.1 (t + 2) h = τ.1 2 h := q0
  have q1 : σ.1 (t + 3) h = τ.1 2 (7 + h) := q1
  have q2 : σ.1 (t + 7) (5 * h + d) = τ.1 2 (42 + (5 * h + d)) := t2 (5 * h + d) (by omega)
  have k2 : 0 ≤ τ.1 2 (42 + (5 * h + d)) ∧ τ.1 2 (42 + (5 * h + d)) ≤ 99 := k1 (5 * h + d) (by omega)
  have s1 : 0 ≤ τ.1 2 (7 + h) ∧ τ.1 2 (7 + h) < 32 := (g1 h h7).1
  have c1 : σ.1 (t + 1) d = τ.1 4 d := (hc d hd).1
  have m1 : yad (ymu (h : Int) 5) (d : Int) = ((5 * h + d : Nat) : Int) := by
    rw [ymu_e (by omega) (by omega), yad_e (by omega) (by omega)]; omega
  have m2 : yad (yad 42 (ymu 5 (h : Int))) (d : Int) = ((42 + (5 * h + d) : Nat) : Int) := by
    rw [ymu_e (by omega) (by omega), yad_e (a := 42) (by omega) (by omega), yad_e (by omega) (by omega)]; omega
  have m3 : yad 7 (h : Int) = ((7 + h : Nat) : Int) := by rw [yad_e (by omega) (by omega)]; omega
  have m4 : yad 0 (h : Int) = (h : Int) := by rw [yad_e (by omega) (by omega)]; omega
  have bt := ybit5 ⟨(τ.1 2 (7 + h)).toNat, by omega⟩ ⟨d, d5⟩
  simp only [show (((τ.1 2 (7 + h)).toNat : Nat) : Int) = τ.1 2 (7 + h) by omega] at bt
  have i1 : yin ((5 * h + d : Nat) : Int) 35 = true := by rw [yin_d]; exact decide_eq_true (by omega)
  have i2 : yin ((42 + (5 * h + d) : Nat) : Int) 131 = true := by rw [yin_d]; exact decide_eq_true (by omega)
  have i3 : yin ((7 + h : Nat) : Int) 131 = true := by rw [yin_d]; exact decide_eq_true (by omega)
  have i4 : yin (h : Int) 131 = true := by rw [yin_d]; exact decide_eq_true (by omega)
  have i5 : yin (h : Int) 7 = true := by rw [yin_d]; exact decide_eq_true (by omega)
  have i6 : yin (d : Int) 5 = true := by rw [yin_d]; exact decide_eq_true (by omega)
  simp only [f_X4_comesTrue, f_X4_comesTrue_b62, f_X4_comesTrue_b101, f_X7_doneAt, f_X7_bit, f_X8_does, f_X8_does_b152, f_X8_does_b140, f_X8_does_b129, f_X8_does_b118, f_X8_does_b105, f_X8_does_b38, m1, m2, m3, m4, i1, i2, i3, i4, i5, i6, cond_true, Int.toNat_natCast, x8_flag (show (0 : Int) ≤ 0 ∧ (0 : Int) ≤ 1 by omega), x8_flag (show (0 : Int) ≤ 1 ∧ (1 : Int) ≤ 1 by omega), ycP_ne, ycP_eq, ycP_le, ycP_lt, ycP_ge, q1]
  by_cases hk : k = 4
  · obtain ⟨x, hx⟩ : ∃ x : Int, τ.1 2 (42 + (5 * h + d)) = x := ⟨_, rfl⟩
    rw [hx] at k2 q2
    have v1 : ymx 0 (ysu x 1) = (if x ≤ 0 then ysu x 0 else ysu x 1) := by
      unfold ymx
      by_cases hz : x ≤ 0
      · have : x = 0 := by omega
        subst this
        decide +kernel
      · rw [if_neg hz, ysu_e (by omega) (by omega)]
        by_cases hz1 : x = 1
        · subst hz1
          decide +kernel
        · rw [show zle (0 + 1) (x - 1) = true from decide_eq_true (by omega)]
          rfl
    have v2 : 0 ≤ ymx 0 (ysu x 1) ∧ ymx 0 (ysu x 1) ≤ 99 := by
      rw [v1]
      split
      · rw [ysu_e (by omega) (by omega)]; omega
      · rw [ysu_e (by omega) (by omega)]; omega
    refine ⟨0, yw σ (t + 7) (5 * h + d) (ymx 0 (ysu x 1)), yw τ 2 (42 + (5 * h + d)) (ymx 0 (ysu x 1)), ?_, ?_, yDY_done H (by omega) v2, rfl, fun a b z => yw_n (by omega), fun a b z y => yw_n (by omega), fun j z y => yw_n (by omega), Or.inl ⟨rfl, yw_n (by omega)⟩⟩
    · simp [hk, q2]
    · rw [v1]
      by_cases hz : x ≤ 0
      · simp [hk, hx, hz]
      · simp [hk, hx, hz]
  · by_cases hb : yan (ysr (τ.1 2 (7 + h)) (d : Int)) 1 = 1
    · by_cases hp : τ.1 4 d ≤ τ.1 2 h
      · obtain ⟨x, hx⟩ : ∃ x : Int, τ.1 2 (42 + (5 * h + d)) = x := ⟨_, rfl⟩
        rw [hx] at k2 q2
        have v1 : ymn 99 (yad x 1) = (if 99 ≤ x then yad x 0 else yad x 1) := by
          unfold ymn
          by_cases hz : 99 ≤ x
          · have : x = 99 := by omega
            subst this
            decide +kernel
          · rw [if_neg hz, yad_e (by omega) (by omega)]
            by_cases hz1 : x = 98
            · subst hz1
              decide +kernel
            · rw [show zle (x + 1 + 1) 99 = true from decide_eq_true (by omega)]
              rfl
        have v2 : 0 ≤ ymn 99 (yad x 1) ∧ ymn 99 (yad x 1) ≤ 99 := by
          rw [v1]
          split
          · rw [yad_e (by omega) (by omega)]; omega
          · rw [yad_e (by omega) (by omega)]; omega
        have K1 := yDY_done H (show 5 * h + d < 35 by omega) v2
        have K2 := yDY_purse (v := ysu (τ.1 2 h) (τ.1 4 d)) K1 h7
        have K3 := yDY_o (τ' := yw (yw (yw τ 2 (42 + (5 * h + d)) (ymn 99 (yad x 1))) 2 h (ysu (τ.1 2 h) (τ.1 4 d))) 0 26 (yad (τ.1 0 26) 1)) (fun j => yw_n (by omega)) ⟨yw_n (by omega), yw_n (by omega), yw_n (by omega)⟩ (fun b => yw_n (by omega)) K2
        refine ⟨1, _, _, ?_, ?_, K3, rfl, fun a b z => ?_, fun a b z y => ?_, fun j z y => ?_, Or.inr ⟨rfl, yw_p⟩⟩
        · simp [hk, hb, q0, c1, hp, q2, yw_1]
        · have r1 : (yw τ 2 (42 + (5 * h + d)) (ymn 99 (yad x 1))).1 2 h = τ.1 2 h := yw_n (by omega)
          rw [v1] at r1 ⊢
          have hp' : ¬ τ.1 2 h < τ.1 4 d := by omega
          by_cases hz : 99 ≤ x
          · rw [if_pos hz] at r1 ⊢
            simp [hk, hb, hp', hx, hz, r1]
            simp [yw_1]
          · rw [if_neg hz] at r1 ⊢
            simp [hk, hb, hp', hx, hz, r1]
            simp [yw_1]
        · rw [yw_n (by omega), yw_n (by omega)]
        · rw [yw_n (by omega), yw_n (by omega), yw_n (by omega)]
        · rw [yw_n (by omega), yw_n (by omega), yw_n (by omega)]
      · have f1 : σ.1 t 17 = τ.1 2 130 := H.2.1.2.2.2.2.1.2.2.2
        refine ⟨0, yw σ t 17 (yad (τ.1 2 130) 1), yw τ 2 (113 + 17) (yad (τ.1 2 130) 1), ?_, ?_, yDY_cnt H (by omega), rfl, fun a b z => yw_n (by omega), fun a b z y => yw_n (by omega), fun j z y => yw_n (by omega), Or.inl ⟨rfl, yw_n (by omega)⟩⟩
        · simp [hk, hb, q0, c1, hp, f1]
        · simp [hk, hb, show τ.1 2 h < τ.1 4 d by omega]
    · have hb0 : yan (ysr (τ.1 2 (7 + h)) (d : Int)) 1 = 0 := by omega
      have f1 : σ.1 t 17 = τ.1 2 130 := H.2.1.2.2.2.2.1.2.2.2
      refine ⟨0, yw σ t 17 (yad (τ.1 2 130) 1), yw τ 2 (113 + 17) (yad (τ.1 2 130) 1), ?_, ?_, yDY_cnt H (by omega), rfl, fun a b z => yw_n (by omega), fun a b z y => yw_n (by omega), fun j z y => yw_n (by omega), Or.inl ⟨rfl, yw_n (by omega)⟩⟩
      · simp [hk, hb0, f1]
      · simp [hk, hb0]
