/-- a terrace of the class against a slice of the reference's row -/
def yRT (σ : yS) (t : Nat) (g : Nat → Int) : Prop :=
  (∀ h : Nat, h < 7 → σ.1 (t + 2) h = g h ∧ σ.1 (t + 3) h = g (7 + h) ∧ yan (ysr (σ.1 t 6) h) 1 = g (14 + h) ∧ σ.1 (t + 4) h = g (21 + h) ∧ σ.1 (t + 5) h = g (28 + h) ∧ σ.1 (t + 6) h = g (35 + h)) ∧
  (∀ j : Nat, j < 35 → σ.1 (t + 7) j = g (42 + j)) ∧
  (σ.1 (σ.2 t 11) 0 = g 77 ∧ ∀ i : Nat, (i : Int) < g 77 → σ.1 (σ.2 t 11 + 1) i = g (78 + 4 * i) ∧ σ.1 (σ.2 t 11 + 2) i = g (79 + 4 * i) ∧ σ.1 (σ.2 t 11 + 3) i = g (80 + 4 * i) ∧ σ.1 (σ.2 t 11 + 4) i = g (81 + 4 * i)) ∧
  (σ.1 (t + 18) 0 = g 118 ∧ ∀ i : Nat, (i : Int) < g 118 → σ.1 (t + 19) i = g (119 + 2 * i) ∧ σ.1 (t + 20) i = g (120 + 2 * i)) ∧
  (σ.1 t 14 = g 127 ∧ σ.1 t 15 = g 128 ∧ σ.1 t 16 = g 129 ∧ σ.1 t 17 = g 130) ∧
  ((σ.2 t 11 = t + 8 ∧ σ.2 t 12 = t + 13) ∨ (σ.2 t 11 = t + 13 ∧ σ.2 t 12 = t + 8))
/-- the bounds of a slice, by the number of houses and of deeds -/
def yGd (hs ds : Int) (L : Int) (g : Nat → Int) : Prop :=
  (0 ≤ L ∧ L < 128) ∧ (∀ h : Nat, h < 7 → (0 ≤ g (7 + h) ∧ g (7 + h) < 32) ∧ (0 ≤ g (14 + h) ∧ g (14 + h) ≤ 1) ∧ (0 ≤ g (21 + h) ∧ g (21 + h) ≤ 4) ∧ (0 ≤ g (28 + h) ∧ g (28 + h) ≤ 4) ∧ (0 ≤ g (35 + h) ∧ g (35 + h) ≤ 10)) ∧
  (0 ≤ g 77 ∧ g 77 ≤ 10) ∧ (∀ i : Nat, (i : Int) < g 77 → (0 ≤ g (78 + 4 * i) ∧ g (78 + 4 * i) < hs) ∧ (0 ≤ g (79 + 4 * i) ∧ g (79 + 4 * i) ≤ 4) ∧ (0 ≤ g (80 + 4 * i) ∧ g (80 + 4 * i) ≤ 9) ∧ (0 ≤ g (81 + 4 * i) ∧ g (81 + 4 * i) < ds)) ∧
  (0 ≤ g 118 ∧ g 118 ≤ 4) ∧ (∀ i : Nat, (i : Int) < g 118 → (0 ≤ g (119 + 2 * i) ∧ g (119 + 2 * i) < hs) ∧ (0 ≤ g (120 + 2 * i) ∧ g (120 + 2 * i) < ds)) ∧
  0 ≤ g 127 ∧ g 127 ≤ 999
/-- what both sides hold of the terrace itself -/
def yRH (σ τ : yS) (t : Nat) : Prop := σ.1 t 0 = τ.1 0 3 ∧ σ.1 t 1 = τ.1 0 4 ∧ σ.1 t 2 = τ.1 0 5 ∧ (2 ≤ τ.1 0 3 ∧ τ.1 0 3 ≤ 7) ∧ (0 ≤ τ.1 0 4 ∧ τ.1 0 4 ≤ 1) ∧ (0 ≤ τ.1 0 5 ∧ τ.1 0 5 ≤ 5) ∧ ∀ d : Nat, (d : Int) < τ.1 0 5 → σ.1 (t + 1) d = τ.1 4 d ∧ 0 ≤ τ.1 4 d ∧ τ.1 4 d ≤ 9
/-- all that the calls show of both objects, now -/
def yRN (σ τ : yS) : Prop := yTp σ τ ∧ σ.1 2 4 = τ.1 0 22 ∧ yRH σ τ 17 ∧ yRT σ 17 (fun j => τ.1 1 j) ∧ yGd (τ.1 0 3) (τ.1 0 5) (σ.1 17 6) (fun j => τ.1 1 j)
theorem x8_isHouse {N : Nat} {τ : yS} {h : Int} (h1 : 2 ≤ τ.1 0 3 ∧ τ.1 0 3 ≤ 7) : f_X8_isHouse N τ h = some (if 0 ≤ h ∧ h < τ.1 0 3 then 1 else 0, τ) := by
  have e : ysu (τ.1 0 3) 1 = τ.1 0 3 - 1 := ysu_e (by omega) (by omega)
  simp only [f_X8_isHouse, x8_in, yb1_d, e]
  by_cases hc : 0 ≤ h ∧ h < τ.1 0 3
  · have h3 : 0 ≤ h ∧ h ≤ τ.1 0 3 - 1 := by omega
    simp [hc, h3]
  · have h3 : ¬ (0 ≤ h ∧ h ≤ τ.1 0 3 - 1) := by omega
    simp [hc, h3]
theorem x8_isDeed {N : Nat} {τ : yS} {d : Int} (h1 : 0 ≤ τ.1 0 5 ∧ τ.1 0 5 ≤ 5) : f_X8_isDeed N τ d = some (if 0 ≤ d ∧ d < τ.1 0 5 then 1 else 0, τ) := by
  have e : ysu (τ.1 0 5) 1 = τ.1 0 5 - 1 := ysu_e (by omega) (by omega)
  simp only [f_X8_isDeed, x8_in, yb1_d, e]
  by_cases hc : 0 ≤ d ∧ d < τ.1 0 5
  · have h3 : 0 ≤ d ∧ d ≤ τ.1 0 5 - 1 := by omega
    simp [hc, h3]
  · have h3 : ¬ (0 ≤ d ∧ d ≤ τ.1 0 5 - 1) := by omega
    simp [hc, h3]
theorem x4_isHouse {N : Nat} {σ : yS} {t : Nat} {h : Int} (h1 : 2 ≤ σ.1 t 0 ∧ σ.1 t 0 ≤ 7) : f_X4_isHouse N σ t h = some (if 0 ≤ h ∧ h < σ.1 t 0 then 1 else 0, σ) := by
  have e : ysu (σ.1 t 0) 1 = σ.1 t 0 - 1 := ysu_e (by omega) (by omega)
  simp only [f_X4_isHouse, x7_within, yb1_d, e]
  by_cases hc : 0 ≤ h ∧ h < σ.1 t 0
  · have h3 : 0 ≤ h ∧ h ≤ σ.1 t 0 - 1 := by omega
    simp [hc, h3]
  · have h3 : ¬ (0 ≤ h ∧ h ≤ σ.1 t 0 - 1) := by omega
    simp [hc, h3]
theorem x4_isDeed {N : Nat} {σ : yS} {t : Nat} {d : Int} (h1 : 0 ≤ σ.1 t 2 ∧ σ.1 t 2 ≤ 5) : f_X4_isDeed N σ t d = some (if 0 ≤ d ∧ d < σ.1 t 2 then 1 else 0, σ) := by
  have e : ysu (σ.1 t 2) 1 = σ.1 t 2 - 1 := ysu_e (by omega) (by omega)
  simp only [f_X4_isDeed, x7_within, yb1_d, e]
  by_cases hc : 0 ≤ d ∧ d < σ.1 t 2
  · have h3 : 0 ≤ d ∧ d ≤ σ.1 t 2 - 1 := by omega
    simp [hc, h3]
  · have h3 : ¬ (0 ≤ d ∧ d ≤ σ.1 t 2 - 1) := by omega
    simp [hc, h3]
theorem p_fault {N : Nat} {σ τ : yS} (h : yRN σ τ) : ∃ a : Int, f_X7_fault N σ = some (a, σ) ∧ f_X8_fault N τ = some (a, τ) :=
  ⟨σ.1 2 4, rfl, by unfold f_X8_fault; rw [h.2.1]⟩
theorem p_cost {N : Nat} {σ τ : yS} {d : Int} (h : yRN σ τ) : ∃ a : Int, f_X7_cost N σ d = some (a, σ) ∧ f_X8_cost N τ d = some (a, τ) := by
  obtain ⟨-, -, ⟨e0, e1, e2, b0, b1, b2, hc⟩, -, -⟩ := h
  simp only [f_X7_cost, f_X7_cost_b24, f_X8_cost, f_X8_cost_b18, x4_isDeed (show 0 ≤ σ.1 17 2 ∧ σ.1 17 2 ≤ 5 by rw [e2]; exact b2), x8_isDeed b2, ycP_eq, yin_d, e2]
  by_cases hd : 0 ≤ d ∧ d < τ.1 0 5
  · have q := hc d.toNat (by omega)
    refine ⟨τ.1 4 d.toNat, ?_, ?_⟩
    · simp [hd, show d < 5 by omega, q.1]
    · simp [hd, show d < 5 by omega]
  · exact ⟨-1, by simp [hd], by simp [hd]⟩
theorem x8_flag {N : Nat} {τ : yS} {b : Int} (h : 0 ≤ b ∧ b ≤ 1) : f_X8_flag N τ b = some (b, τ) := by
  simp only [f_X8_flag, f_X8_flag_b9, ycP_eq]
  by_cases hb : b = 0
  · simp [hb]
  · have : b = 1 := by omega
    simp [this]
theorem p_rule {N : Nat} {σ τ : yS} {w : Int} (h : yRN σ τ) : ∃ a : Int, f_X7_rule N σ w = some (a, σ) ∧ f_X8_rule N τ w = some (a, τ) := by
  obtain ⟨-, -, ⟨e0, e1, e2, b0, b1, b2, -⟩, ⟨-, -, v, wt, ⟨d0, d1, d2, d3⟩, -⟩, -⟩ := h
  simp only [f_X7_rule, f_X7_rule_b75, f_X8_rule, f_X8_rule_b99, yeq_d, x8_flag b1, x8_in, ycP_eq, yin_d]
  by_cases h0 : w = 0
  · exact ⟨τ.1 0 3, by simp [h0, e0], by simp [h0]⟩
  by_cases h1 : w = 1
  · refine ⟨τ.1 0 4, ?_, by simp [h1]⟩
    by_cases hz : τ.1 0 4 = 0
    · simp [h1, e1, hz]
    · have : τ.1 0 4 = 1 := by omega
      simp [h1, e1, this]
  by_cases h2 : w = 2
  · exact ⟨τ.1 0 5, by simp [h2, e2], by simp [h2]⟩
  by_cases h3 : w = 3
  · exact ⟨τ.1 1 77, by simp [h3, v.1], by simp [h3]⟩
  by_cases h4 : w = 4
  · exact ⟨τ.1 1 118, by simp [h4, wt.1], by simp [h4]⟩
  by_cases h5 : 5 ≤ w ∧ w ≤ 8
  · have e : ysu (yad 127 w) 5 = w + 122 := by
      rw [yad_e (by omega) (by omega), ysu_e (by omega) (by omega)]
      omega
    refine ⟨τ.1 1 (w + 122).toNat, ?_, ?_⟩
    · have : w = 5 ∨ w = 6 ∨ w = 7 ∨ w = 8 := by omega
      rcases this with q | q | q | q <;> subst q <;> simp [d0, d1, d2, d3]
    · simp [h0, h1, h2, h3, h4, h5, e, show 0 ≤ w + 122 by omega, show w + 122 < 393 by omega]
  · refine ⟨-1, ?_, ?_⟩
    · simp [h0, h1, h2, h3, h4, show ¬ w = 5 by omega, show ¬ w = 6 by omega, show ¬ w = 7 by omega, show ¬ w = 8 by omega]
    · simp [h0, h1, h2, h3, h4, h5]
/-- what a change of the terrace now or of the tape leaves alone -/
def yFs (σ σ' : yS) : Prop := σ'.2 = σ.2 ∧ ∀ a b : Nat, a < 3 ∨ (5 ≤ a ∧ a < 17) ∨ 38 ≤ a → σ'.1 a b = σ.1 a b
def yFo (τ τ' : yS) : Prop := ∀ a b : Nat, ¬ (a = 0 ∧ b = 17) → ¬ a = 8 → ¬ (a = 1 ∧ (b < 14 ∨ (21 ≤ b ∧ b < 28) ∨ 77 ≤ b) ∧ b < 131) → τ'.1 a b = τ.1 a b
theorem yFs_r {σ : yS} : yFs σ σ := ⟨rfl, fun _ _ _ => rfl⟩
theorem yFs_w {σ σ1 : yS} {i k : Nat} {z : Int} (h : yFs σ σ1) (hi : (3 ≤ i ∧ i < 5) ∨ (17 ≤ i ∧ i < 38)) : yFs σ (yw σ1 i k z) := ⟨h.1, fun a b q => by
  rw [yw_1, if_neg (by omega)]
  exact h.2 a b q⟩
theorem yFo_r {τ : yS} : yFo τ τ := fun _ _ _ _ _ => rfl
theorem yFo_w {τ τ1 : yS} {i k : Nat} {z : Int} (h : yFo τ τ1) (hi : (i = 0 ∧ k = 17) ∨ i = 8 ∨ (i = 1 ∧ (k < 14 ∨ (21 ≤ k ∧ k < 28) ∨ 77 ≤ k) ∧ k < 131)) : yFo τ (yw τ1 i k z) := fun a b x y q => by
  rw [yw_1, if_neg (by omega)]
  exact h a b x y q
