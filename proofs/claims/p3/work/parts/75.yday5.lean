theorem yrm7 : ∀ H : Fin 8, ∀ h : Fin 7, 2 ≤ H.val → h.val < H.val → (0 ≤ yrm (yad (yad ((h.val : Nat) : Int) (-1)) ((H.val : Nat) : Int)) ((H.val : Nat) : Int) ∧ yrm (yad (yad ((h.val : Nat) : Int) (-1)) ((H.val : Nat) : Int)) ((H.val : Nat) : Int) < ((H.val : Nat) : Int)) ∧ (0 ≤ yrm (yad (yad ((h.val : Nat) : Int) 1) ((H.val : Nat) : Int)) ((H.val : Nat) : Int) ∧ yrm (yad (yad ((h.val : Nat) : Int) 1) ((H.val : Nat) : Int)) ((H.val : Nat) : Int) < ((H.val : Nat) : Int)) ∧ (0 ≤ yrm (yad (yad ((h.val : Nat) : Int) 2) ((H.val : Nat) : Int)) ((H.val : Nat) : Int) ∧ yrm (yad (yad ((h.val : Nat) : Int) 2) ((H.val : Nat) : Int)) ((H.val : Nat) : Int) < ((H.val : Nat) : Int)) := by decide +kernel
theorem p_where {N : Nat} {σ τ : yS} {t : Nat} (R : yRH σ τ t) {h s : Int} (hh : 0 ≤ h ∧ h < τ.1 0 3) (hs : s = -1 ∨ s = 1 ∨ s = 2) : ∃ x y : Int, f_X4_whereFalls N σ t h s = some (x, σ) ∧ f_X8_off N τ h s = some (y, τ) ∧ ((x = -1 ∧ y = -4) ∨ (x = y ∧ 0 ≤ x ∧ x < τ.1 0 3)) := by
  obtain ⟨e0, e1, e2, b0, b1, b2, hc⟩ := R
  have ea : yad h s = h + s := yad_e (by omega) (by omega)
  have eb : ysu (τ.1 0 3) 1 = τ.1 0 3 - 1 := ysu_e (by omega) (by omega)
  by_cases hr : τ.1 0 4 = 0
  · simp only [f_X4_whereFalls, f_X4_whereFalls_b30, f_X4_whereFalls_b47, f_X4_whereFalls_b48, f_X8_off, f_X8_off_b45, ycP_eq, ycP_gt, ycP_ge, e0, e1, hr, decide_true, cond_true, x8_in, ea, eb]
    by_cases h1 : 0 ≤ h + s ∧ h + s ≤ τ.1 0 3 - 1
    · exact ⟨h + s, h + s, by simp [show ¬ h + s < 0 by omega, show ¬ τ.1 0 3 ≤ h + s by omega], by simp [h1], Or.inr ⟨rfl, by omega, by omega⟩⟩
    · refine ⟨-1, -4, ?_, by simp [h1], Or.inl ⟨rfl, rfl⟩⟩
      by_cases h2 : h + s < 0
      · simp [h2]
      · simp [h2, show τ.1 0 3 ≤ h + s by omega]
  · have hnz : ynz (τ.1 0 3) = true := by
      rw [ynz_d]
      exact decide_eq_true (by omega)
    have q := yrm7 ⟨(τ.1 0 3).toNat, by omega⟩ ⟨h.toNat, by omega⟩ (by show 2 ≤ (τ.1 0 3).toNat; omega) (by show h.toNat < (τ.1 0 3).toNat; omega)
    simp only [show (((τ.1 0 3).toNat : Nat) : Int) = τ.1 0 3 by omega, show ((h.toNat : Nat) : Int) = h by omega] at q
    refine ⟨yrm (yad (yad h s) (τ.1 0 3)) (τ.1 0 3), yrm (yad (yad h s) (τ.1 0 3)) (τ.1 0 3), ?_, ?_, Or.inr ⟨rfl, ?_⟩⟩
    · simp [f_X4_whereFalls, ycP_eq, ycP_le, e0, e1, hr, hnz, show ¬ τ.1 0 3 ≤ 0 by omega]
    · simp [f_X8_off, ycP_eq, hr, hnz]
    · rcases hs with rfl | rfl | rfl
      · exact q.1
      · exact q.2.1
      · exact q.2.2
theorem p_step {N : Nat} {σ τ : yS} {k i : Int} : ∃ s : Int, f_X4_stepOf N σ k i = some (s, σ) ∧ f_X8_byOf N τ k i = some (s, τ) ∧ (s = -1 ∨ s = 1 ∨ s = 2) := by
  simp only [f_X4_stepOf, f_X4_stepOf_b14, f_X4_stepOf_b16, f_X4_stepOf_b26, f_X8_byOf, f_X8_byOf_b14, f_X8_byOf_b34, ycP_eq, ycP_ne]
  by_cases h1 : k = 1
  · exact ⟨-1, by simp [h1], by simp [h1], by omega⟩
  by_cases h3 : k = 3
  · by_cases hi : i = 0
    · exact ⟨-1, by simp [h3, hi], by simp [h3, hi], by omega⟩
    · exact ⟨1, by simp [h3, hi], by simp [h3, hi], by omega⟩
  by_cases h2 : k = 2
  · exact ⟨2, by simp [h2], by simp [h2], by omega⟩
  · exact ⟨1, by simp [h1, h2, h3], by simp [h1, h2, h3], by omega⟩
theorem x4_fallsOf {N : Nat} {σ : yS} {k : Int} : f_X4_fallsOf N σ k = some (if k = 3 then 2 else 1, σ) := by
  simp only [f_X4_fallsOf, f_X4_fallsOf_b10, ycP_ne]
  by_cases h : k = 3
  · simp [h]
  · simp [h]
theorem x8_fallsOf {N : Nat} {σ : yS} {k : Int} : f_X8_fallsOf N σ k = some (if k = 3 then 2 else 1, σ) := by
  simp only [f_X8_fallsOf, f_X8_fallsOf_b10, ycP_ne]
  by_cases h : k = 3
  · simp [h]
  · simp [h]
/-- many falls: what they leave alone, and how many deeds are done -/
def yAc (t : Nat) (σ τ σ' τ' : yS) (c z : Int) : Prop := σ'.2 = σ.2 ∧ (∀ a b : Nat, a < t ∨ t + 21 ≤ a → σ'.1 a b = σ.1 a b) ∧ yF8 τ τ' ∧ (∀ j : Nat, 77 ≤ j → j < 128 → τ'.1 2 j = τ.1 2 j) ∧ (0 ≤ z ∧ z ≤ c) ∧ (0 ≤ τ.1 0 26 → τ.1 0 26 + c ≤ 2147483647 → τ'.1 0 26 = τ.1 0 26 + z)
theorem yAc_r {t : Nat} {σ τ : yS} : yAc t σ τ σ τ 0 0 := ⟨rfl, fun _ _ _ => rfl, yF8_r, fun _ _ _ => rfl, by omega, fun _ _ => by omega⟩
theorem yAc_s {t : Nat} {σ τ σ' τ' : yS} {r : Int} (h : yFW t σ τ σ' τ' r) : yAc t σ τ σ' τ' 1 r := by
  obtain ⟨h1, h2, h3, h4, h5⟩ := h
  refine ⟨h1, h2, h3, h4, by omega, fun k1 k2 => ?_⟩
  rcases h5 with ⟨rfl, h5⟩ | ⟨rfl, h5⟩
  · rw [h5]; omega
  · rw [h5, yad_e (by omega) (by omega)]
theorem yAc_t {t : Nat} {σ τ σ1 τ1 σ2 τ2 : yS} {c z c2 z2 : Int} (h : yAc t σ τ σ1 τ1 c z) (k : yAc t σ1 τ1 σ2 τ2 c2 z2) : yAc t σ τ σ2 τ2 (c + c2) (z + z2) := by
  obtain ⟨h1, h2, h3, h4, h5, h6⟩ := h
  obtain ⟨k1, k2, k3, k4, k5, k6⟩ := k
  refine ⟨k1.trans h1, fun a b q => by rw [k2 a b q, h2 a b q], yF8_t h3 k3, fun j x y => by rw [k4 j x y, h4 j x y], by omega, fun x y => ?_⟩
  have e := h6 x (by omega)
  have e2 := k6 (by omega) (by omega)
  omega
theorem yAc_w {t : Nat} {σ τ σ1 τ1 : yS} {c c2 z : Int} (h : yAc t σ τ σ1 τ1 c z) (hc : c ≤ c2) : yAc t σ τ σ1 τ1 c2 z := by
  obtain ⟨h1, h2, h3, h4, h5, h6⟩ := h
  exact ⟨h1, h2, h3, h4, by omega, fun x y => h6 x (by omega)⟩
/-- one turn of the inner loops -/
theorem p_turn {N : Nat} {σ τ : yS} {t f i k : Nat} {o : Int} (k12 : yS → Nat → Int → Int → Option (Int × yS)) (k7 : yS → Int → Option (Int × yS)) (H : yDY σ τ t) (hf : σ.2 t 12 = f) (F : yFal σ τ f) (hi : (i : Int) < τ.1 2 77) (hk : (k : Int) < (if τ.1 2 (79 + 4 * i) = 3 then 2 else 1)) (ho : 0 ≤ o ∧ o ≤ 1000) : ∃ (r : Int) (σ' τ' : yS), (∀ n : Nat, f_X4_passDay_b36 N k12 (n + 1) σ t o i (τ.1 2 (79 + 4 * i)) k = f_X4_passDay_b36 N k12 n σ' t (o + r) i (τ.1 2 (79 + 4 * i)) ((k + 1 : Nat) : Int)) ∧ (∀ n : Nat, f_X8_days_b27 N k7 (n + 1) τ i ((78 + 4 * i : Nat) : Int) k = f_X8_days_b27 N k7 n τ' i ((78 + 4 * i : Nat) : Int) ((k + 1 : Nat) : Int)) ∧ yDY σ' τ' t ∧ yFal σ' τ' f ∧ yAc t σ τ σ' τ' 1 r := by
  have H0 := H
  obtain ⟨R, ⟨t1, t2, ⟨t3, t4⟩, -, -, t7⟩, ⟨-, g1, g2, g3, -⟩, -⟩ := H0
  have g2 : 0 ≤ τ.1 2 77 ∧ τ.1 2 77 ≤ 10 := g2
  obtain ⟨v1, v2, v3, v4⟩ := t4 i hi
  obtain ⟨w1, w2, w3, w4⟩ := g3 i hi
  dsimp only at v1 v2 v3 v4 w1 w2 w3 w4
  obtain ⟨s, s7, s8, hs⟩ := p_step (N := N) (σ := σ) (τ := τ) (k := τ.1 2 (79 + 4 * i)) (i := (k : Int))
  obtain ⟨x, y, x7, x8, hxy⟩ := p_where (N := N) R w1 hs
  obtain ⟨r, σ', τ', c7, c8, K, F', W⟩ := p_fall (N := N) H hf F hi hxy
  have hr := W.2.2.2.2
  have hk2 : k < 2 := by
    by_cases q : τ.1 2 (79 + 4 * i) = 3
    · rw [if_pos q] at hk; omega
    · rw [if_neg q] at hk; omega
  have ek : yad (k : Int) 1 = ((k + 1 : Nat) : Int) := by rw [yad_e (by omega) (by omega)]; omega
  have i2 : yin (i : Int) 10 = true := by rw [yin_d]; exact decide_eq_true (by omega)
  have m1 : yad ((78 + 4 * i : Nat) : Int) 1 = ((79 + 4 * i : Nat) : Int) := by rw [yad_e (by omega) (by omega)]; omega
  have m2 : yad ((78 + 4 * i : Nat) : Int) 2 = ((80 + 4 * i : Nat) : Int) := by rw [yad_e (by omega) (by omega)]; omega
  have m3 : yad ((78 + 4 * i : Nat) : Int) 3 = ((81 + 4 * i : Nat) : Int) := by rw [yad_e (by omega) (by omega)]; omega
  have j0 : yin ((78 + 4 * i : Nat) : Int) 131 = true := by rw [yin_d]; exact decide_eq_true (by omega)
  have j1 : yin ((79 + 4 * i : Nat) : Int) 131 = true := by rw [yin_d]; exact decide_eq_true (by omega)
  have j2 : yin ((80 + 4 * i : Nat) : Int) 131 = true := by rw [yin_d]; exact decide_eq_true (by omega)
  have j3 : yin ((81 + 4 * i : Nat) : Int) 131 = true := by rw [yin_d]; exact decide_eq_true (by omega)
  have hg : decide ((if τ.1 2 (79 + 4 * i) = 3 then 2 else 1) ≤ (k : Int)) = false := decide_eq_false (by omega)
  refine ⟨r, σ', τ', fun n => ?_, fun n => ?_, K, F', yAc_s W⟩
  · rw [q_X4_passDay_b36]
    simp only [x4_fallsOf, ycP_ge, ycP_eq, hg, cond_false, i2, cond_true, Int.toNat_natCast, v1, s7, x7, c7, f_X4_passDay_b82, ek]
    rcases hr with ⟨rfl, -⟩ | ⟨rfl, -⟩
    · rw [yad_e (a := o) (b := 0) (by omega) (by omega)]; rfl
    · rw [yad_e (a := o) (b := 1) (by omega) (by omega)]; rfl
  · rw [q_X8_days_b27]
    simp only [m1, m2, m3, j0, j1, j2, j3, cond_true, Int.toNat_natCast, x8_fallsOf, ycP_ge, hg, cond_false, s8, x8, c8, ek]
