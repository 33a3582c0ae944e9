/-- what changes the fallen row alone keeps yDY -/
theorem yDY_fl {σ τ σ' τ' : yS} {t : Nat} (c2 : σ'.2 = σ.2) (c : ∀ a b : Nat, ¬ (σ.2 t 12 ≤ a ∧ a < σ.2 t 12 + 5) → σ'.1 a b = σ.1 a b) (o : ∀ a b : Nat, ¬ a = 9 → ¬ (a = 0 ∧ b = 25) → τ'.1 a b = τ.1 a b) (H : yDY σ τ t) : yDY σ' τ' t := by
  have t7 := H.2.1.2.2.2.2.2
  refine yDY_o (τ := τ) (fun j => o 2 j (by omega) (by omega)) ⟨o _ _ (by omega) (by omega), o _ _ (by omega) (by omega), o _ _ (by omega) (by omega)⟩ (fun b => o _ _ (by omega) (by omega)) ?_
  obtain ⟨R, T, G, K0⟩ := H
  refine ⟨yRH_f ⟨c _ _ (by omega), c _ _ (by omega), c _ _ (by omega)⟩ (fun b => c _ _ (by omega)) ⟨rfl, rfl, rfl⟩ (fun _ => rfl) R, yRT_fl (fun b => by rw [c2]) (fun a b _ _ h => c a b h) T, ?_, K0⟩
  rw [c t 6 (by omega)]
  exact G
theorem p_comes {N : Nat} {σ τ : yS} {t f : Nat} (H : yDY σ τ t) (hf : σ.2 t 12 = f) (F : yFal σ τ f) {h k p d : Int} (hh : 0 ≤ h ∧ h < τ.1 0 3) (hk : 0 ≤ k ∧ k ≤ 4) (hp : 0 ≤ p ∧ p ≤ 9) (hd : 0 ≤ d ∧ d < τ.1 0 5) : (f_X5_append N σ f h k p d = some (0, σ) ∧ f_X8_comes N τ h k p d = some (0, yw τ 2 128 (yad (τ.1 2 128) 1))) ∨ ∃ (σ' τ' : yS), f_X5_append N σ f h k p d = some (1, σ') ∧ f_X8_comes N τ h k p d = some (0, τ') ∧ yDY σ' τ' t ∧ yFal σ' τ' f ∧ σ'.2 = σ.2 ∧ (∀ a b : Nat, ¬ (f ≤ a ∧ a < f + 5) → σ'.1 a b = σ.1 a b) ∧ (∀ a b : Nat, ¬ a = 9 → ¬ (a = 0 ∧ b = 25) → τ'.1 a b = τ.1 a b) := by
  obtain ⟨F1, F2, F3⟩ := F
  simp only [f_X5_append, f_X5_append_b26, f_X5_append_b36, f_X5_append_b46, f_X5_append_b54, f_X8_comes, f_X8_comes_b40, f_X8_comes_b54, f_X8_comes_b68, f_X8_comes_b79, ycP_ne, ycP_lt, yin_d]
  by_cases h10 : τ.1 0 25 = 10
  · exact Or.inl ⟨by simp [F1, h10], by simp [h10]⟩
  · refine Or.inr ?_
    obtain ⟨m, hm⟩ : ∃ m : Nat, τ.1 0 25 = (m : Int) := ⟨(τ.1 0 25).toNat, by omega⟩
    rw [hm] at F1
    have m10 : m < 10 := by omega
    have em : ymu 4 (m : Int) = 4 * (m : Int) := ymu_e (by omega) (by omega)
    have eb1 : yad (4 * (m : Int)) 1 = 4 * (m : Int) + 1 := yad_e (by omega) (by omega)
    have eb2 : yad (4 * (m : Int)) 2 = 4 * (m : Int) + 2 := yad_e (by omega) (by omega)
    have eb3 : yad (4 * (m : Int)) 3 = 4 * (m : Int) + 3 := yad_e (by omega) (by omega)
    have ec : (4 * (m : Int)).toNat = 4 * m := by omega
    have ec1 : (4 * (m : Int) + 1).toNat = 4 * m + 1 := by omega
    have ec2 : (4 * (m : Int) + 2).toNat = 4 * m + 2 := by omega
    have ec3 : (4 * (m : Int) + 3).toNat = 4 * m + 3 := by omega
    have ee : yad (m : Int) 1 = (m : Int) + 1 := yad_e (by omega) (by omega)
    refine ⟨yw (yw (yw (yw (yw σ (f + 1) m h) (f + 2) m k) (f + 3) m p) (f + 4) m d) f 0 ((m : Int) + 1), yw (yw (yw (yw (yw τ 9 (4 * m) h) 9 (4 * m + 1) k) 9 (4 * m + 2) p) 9 (4 * m + 3) d) 0 25 ((m : Int) + 1), ?_, ?_, ?_⟩
    · simp [F1, yw_1, ee, show (m : Int) < 10 by omega]
    · simp [hm, yw_1, em, eb1, eb2, eb3, ec, ec1, ec2, ec3, ee, show ¬ (m : Int) = 10 by omega, show (0 : Int) ≤ 4 * m by omega, show (4 : Int) * m < 40 by omega, show (0 : Int) ≤ 4 * m + 1 by omega, show (4 : Int) * m + 1 < 40 by omega, show (0 : Int) ≤ 4 * m + 2 by omega, show (4 : Int) * m + 2 < 40 by omega, show (0 : Int) ≤ 4 * m + 3 by omega, show (4 : Int) * m + 3 < 40 by omega]
    · have cl : ∀ a b : Nat, ¬ (f ≤ a ∧ a < f + 5) → (yw (yw (yw (yw (yw σ (f + 1) m h) (f + 2) m k) (f + 3) m p) (f + 4) m d) f 0 ((m : Int) + 1)).1 a b = σ.1 a b := fun a b ha => by
        rw [yw_n (by omega), yw_n (by omega), yw_n (by omega), yw_n (by omega), yw_n (by omega)]
      have vs : (yw (yw (yw (yw (yw σ (f + 1) m h) (f + 2) m k) (f + 3) m p) (f + 4) m d) f 0 ((m : Int) + 1)).1 f 0 = (m : Int) + 1 := by simp [yw_1]
      have v1 : ∀ i : Nat, (yw (yw (yw (yw (yw σ (f + 1) m h) (f + 2) m k) (f + 3) m p) (f + 4) m d) f 0 ((m : Int) + 1)).1 (f + 1) i = (if i = m then h else σ.1 (f + 1) i) := fun i => by simp [yw_1]
      have v2 : ∀ i : Nat, (yw (yw (yw (yw (yw σ (f + 1) m h) (f + 2) m k) (f + 3) m p) (f + 4) m d) f 0 ((m : Int) + 1)).1 (f + 2) i = (if i = m then k else σ.1 (f + 2) i) := fun i => by simp [yw_1]
      have v3 : ∀ i : Nat, (yw (yw (yw (yw (yw σ (f + 1) m h) (f + 2) m k) (f + 3) m p) (f + 4) m d) f 0 ((m : Int) + 1)).1 (f + 3) i = (if i = m then p else σ.1 (f + 3) i) := fun i => by simp [yw_1]
      have v4 : ∀ i : Nat, (yw (yw (yw (yw (yw σ (f + 1) m h) (f + 2) m k) (f + 3) m p) (f + 4) m d) f 0 ((m : Int) + 1)).1 (f + 4) i = (if i = m then d else σ.1 (f + 4) i) := fun i => by simp [yw_1]
      have c2 : (yw (yw (yw (yw (yw σ (f + 1) m h) (f + 2) m k) (f + 3) m p) (f + 4) m d) f 0 ((m : Int) + 1)).2 = σ.2 := rfl
      have o1 : ∀ a b : Nat, ¬ a = 9 → ¬ (a = 0 ∧ b = 25) → (yw (yw (yw (yw (yw τ 9 (4 * m) h) 9 (4 * m + 1) k) 9 (4 * m + 2) p) 9 (4 * m + 3) d) 0 25 ((m : Int) + 1)).1 a b = τ.1 a b := fun a b ha hb => by
        rw [yw_n (by omega), yw_n (by omega), yw_n (by omega), yw_n (by omega), yw_n (by omega)]
      have us : (yw (yw (yw (yw (yw τ 9 (4 * m) h) 9 (4 * m + 1) k) 9 (4 * m + 2) p) 9 (4 * m + 3) d) 0 25 ((m : Int) + 1)).1 0 25 = (m : Int) + 1 := yw_p
      have u1 : ∀ i : Nat, (yw (yw (yw (yw (yw τ 9 (4 * m) h) 9 (4 * m + 1) k) 9 (4 * m + 2) p) 9 (4 * m + 3) d) 0 25 ((m : Int) + 1)).1 9 (4 * i) = (if i = m then h else τ.1 9 (4 * i)) := fun i => by
        by_cases hq : i = m
        · subst hq
          rw [if_pos rfl, yw_n (by omega), yw_n (by omega), yw_n (by omega), yw_n (by omega), yw_p]
        · rw [if_neg hq, yw_n (by omega), yw_n (by omega), yw_n (by omega), yw_n (by omega), yw_n (by omega)]
      have u2 : ∀ i : Nat, (yw (yw (yw (yw (yw τ 9 (4 * m) h) 9 (4 * m + 1) k) 9 (4 * m + 2) p) 9 (4 * m + 3) d) 0 25 ((m : Int) + 1)).1 9 (4 * i + 1) = (if i = m then k else τ.1 9 (4 * i + 1)) := fun i => by
        by_cases hq : i = m
        · subst hq
          rw [if_pos rfl, yw_n (by omega), yw_n (by omega), yw_n (by omega), yw_p]
        · rw [if_neg hq, yw_n (by omega), yw_n (by omega), yw_n (by omega), yw_n (by omega), yw_n (by omega)]
      have u3 : ∀ i : Nat, (yw (yw (yw (yw (yw τ 9 (4 * m) h) 9 (4 * m + 1) k) 9 (4 * m + 2) p) 9 (4 * m + 3) d) 0 25 ((m : Int) + 1)).1 9 (4 * i + 2) = (if i = m then p else τ.1 9 (4 * i + 2)) := fun i => by
        by_cases hq : i = m
        · subst hq
          rw [if_pos rfl, yw_n (by omega), yw_n (by omega), yw_p]
        · rw [if_neg hq, yw_n (by omega), yw_n (by omega), yw_n (by omega), yw_n (by omega), yw_n (by omega)]
      have u4 : ∀ i : Nat, (yw (yw (yw (yw (yw τ 9 (4 * m) h) 9 (4 * m + 1) k) 9 (4 * m + 2) p) 9 (4 * m + 3) d) 0 25 ((m : Int) + 1)).1 9 (4 * i + 3) = (if i = m then d else τ.1 9 (4 * i + 3)) := fun i => by
        by_cases hq : i = m
        · subst hq
          rw [if_pos rfl, yw_n (by omega), yw_p]
        · rw [if_neg hq, yw_n (by omega), yw_n (by omega), yw_n (by omega), yw_n (by omega), yw_n (by omega)]
      generalize yw (yw (yw (yw (yw σ (f + 1) m h) (f + 2) m k) (f + 3) m p) (f + 4) m d) f 0 ((m : Int) + 1) = S at cl vs v1 v2 v3 v4 c2 ⊢
      generalize yw (yw (yw (yw (yw τ 9 (4 * m) h) 9 (4 * m + 1) k) 9 (4 * m + 2) p) 9 (4 * m + 3) d) 0 25 ((m : Int) + 1) = U at o1 us u1 u2 u3 u4 ⊢
      refine ⟨yDY_fl c2 (fun a b z => cl a b (by rw [← hf]; exact z)) o1 H, ⟨by rw [vs, us], by rw [us]; omega, fun i hi => ?_⟩, c2, cl, o1⟩
      rw [us] at hi
      rw [v1, v2, v3, v4, u1, u2, u3, u4, o1 0 3 (by omega) (by omega), o1 0 5 (by omega) (by omega)]
      by_cases hq : i = m
      · simp only [hq, if_true]
        exact ⟨⟨trivial, trivial, trivial, trivial⟩, hh, hk, hp, hd⟩
      · simp only [hq, if_false]
        exact F3 i (by omega)
