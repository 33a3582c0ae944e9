/-- one fall: what it leaves alone, and whether a deed is done -/
def yFW (t : Nat) (σ τ σ' τ' : yS) (r : Int) : Prop := σ'.2 = σ.2 ∧ (∀ a b : Nat, a < t ∨ t + 21 ≤ a → σ'.1 a b = σ.1 a b) ∧ yF8 τ τ' ∧ (∀ j : Nat, 77 ≤ j → j < 128 → τ'.1 2 j = τ.1 2 j) ∧ ((r = 0 ∧ τ'.1 0 26 = τ.1 0 26) ∨ (r = 1 ∧ τ'.1 0 26 = yad (τ.1 0 26) 1))
theorem yFal_cnt {σ τ : yS} {t f b k : Nat} {v w : Int} (hf : ¬ (f ≤ t ∧ t < f + 5)) (F : yFal σ τ f) : yFal (yw σ t b v) (yw τ 2 k w) f :=
  yFal_f (fun a b h1 h2 => yw_n (by omega)) ⟨yw_n (by omega), yw_n (by omega), yw_n (by omega)⟩ (fun b => yw_n (by omega)) F
theorem p_fall {N : Nat} {σ τ : yS} {t f i : Nat} (H : yDY σ τ t) (hf : σ.2 t 12 = f) (F : yFal σ τ f) (hi : (i : Int) < τ.1 2 77) {x y : Int} (hx : (x = -1 ∧ y = -4) ∨ (x = y ∧ 0 ≤ x ∧ x < τ.1 0 3)) : ∃ (r : Int) (σ' τ' : yS), f_X4_letFall N σ t i x = some (r, σ') ∧ f_X8_falls N τ y (τ.1 2 (79 + 4 * i)) (τ.1 2 (80 + 4 * i)) (τ.1 2 (81 + 4 * i)) = some (0, τ') ∧ yDY σ' τ' t ∧ yFal σ' τ' f ∧ yFW t σ τ σ' τ' r := by
  have H0 := H
  obtain ⟨⟨e0, e1, e2, b0, b1, b2, hc⟩, ⟨t1, t2, ⟨t3, t4⟩, -, ⟨d0, d1, d2, d3⟩, t7⟩, ⟨-, g1, g2, g3, -⟩, -⟩ := H0
  have hf2 : f = t + 8 ∨ f = t + 13 := by omega
  have g2 : 0 ≤ τ.1 2 77 ∧ τ.1 2 77 ≤ 10 := g2
  obtain ⟨v1, v2, v3, v4⟩ := t4 i hi
  obtain ⟨w1, w2, w3, w4⟩ := g3 i hi
  dsimp only at v1 v2 v3 v4 w1 w2 w3 w4 d1 d2
  rcases hx with ⟨rfl, rfl⟩ | ⟨rfl, hx0, hx1⟩
  · refine ⟨0, yw σ t 15 (yad (τ.1 2 128) 1), yw τ 2 (113 + 15) (yad (τ.1 2 128) 1), ?_, ?_, yDY_cnt H (by omega), yFal_cnt (by omega) F, rfl, fun a b z => yw_n (by omega), yF8_w yF8_r (by omega), fun j z y => yw_n (by omega), Or.inl ⟨rfl, yw_n (by omega)⟩⟩
    · simp [f_X4_letFall, ycP_ne, d1]
    · simp [f_X8_falls, f_X8_falls_b86, ycP_ne]
  · obtain ⟨h, rfl⟩ : ∃ h : Nat, x = (h : Int) := ⟨x.toNat, by omega⟩
    have h7 : h < 7 := by omega
    have l1 : yan (ysr (σ.1 t 6) (h : Int)) 1 = τ.1 2 (14 + h) := (t1 h h7).2.2.1
    have m1 : yad 14 (h : Int) = 14 + (h : Int) := yad_e (by omega) (by omega)
    have i1 : yin (14 + (h : Int)) 131 = true := by rw [yin_d]; exact decide_eq_true (by omega)
    have c1 : (14 + (h : Int)).toNat = 14 + h := by omega
    have i2 : yin (i : Int) 10 = true := by rw [yin_d]; exact decide_eq_true (by omega)
    have n1 : ¬ (h : Int) = -1 := by omega
    have n4 : ¬ (h : Int) = -4 := by omega
    by_cases hl : τ.1 2 (14 + h) = 1
    · refine ⟨0, yw σ t 16 (yad (τ.1 2 129) 1), yw τ 2 (113 + 16) (yad (τ.1 2 129) 1), ?_, ?_, yDY_cnt H (by omega), yFal_cnt (by omega) F, rfl, fun a b z => yw_n (by omega), yF8_w yF8_r (by omega), fun j z y => yw_n (by omega), Or.inl ⟨rfl, yw_n (by omega)⟩⟩
      · simp [f_X4_letFall, f_X4_letFall_b112, f_X4_letFall_b69, f_X7_bit, ycP_ne, ycP_le, i2, l1, n1, v2, v3, v4, hf, hl, d2]
      · simp [f_X8_falls, f_X8_falls_b86, f_X8_falls_b70, ycP_ne, ycP_le, m1, i1, c1, n4, hl]
    · by_cases hz : τ.1 2 (80 + 4 * i) ≤ 0
      · obtain ⟨d, hd⟩ : ∃ d : Nat, τ.1 2 (81 + 4 * i) = (d : Int) := ⟨(τ.1 2 (81 + 4 * i)).toNat, by omega⟩
        obtain ⟨r, σ', τ', c7, c8, K, k1, k2, k3, k4, k5⟩ := p_does (N := N) (k := τ.1 2 (79 + 4 * i)) H hx1 (show (d : Int) < τ.1 0 5 by omega)
        refine ⟨r, σ', τ', ?_, ?_, K, yFal_f (fun a b z y => k2 a b (by omega)) ⟨k3 _ _ (by omega) (by omega), k3 _ _ (by omega) (by omega), k3 _ _ (by omega) (by omega)⟩ (fun b => k3 _ _ (by omega) (by omega)) F, k1, fun a b z => k2 a b (by omega), fun a b z1 z2 z3 => k3 a b z1 (by omega), k4, k5⟩
        · have hr : yb1 r = true := by
            rw [yb1_d]
            exact decide_eq_true (by omega)
          simp [f_X4_letFall, f_X4_letFall_b112, f_X4_letFall_b69, f_X7_bit, ycP_ne, ycP_le, i2, l1, n1, v2, v3, v4, hf, hl, hz, hd, c7, hr]
        · simp [f_X8_falls, f_X8_falls_b86, f_X8_falls_b70, ycP_ne, ycP_le, m1, i1, c1, n4, hl, hz, hd, c8]
      · by_cases h9 : τ.1 2 (80 + 4 * i) = 9
        · rcases p_comes (N := N) H hf F (h := (h : Int)) (k := τ.1 2 (79 + 4 * i)) (p := 9) (d := τ.1 2 (81 + 4 * i)) (by omega) w2 (by omega) w4 with ⟨c7, c8⟩ | ⟨σ', τ', c7, c8, K, F', k1, k2, k3⟩
          · refine ⟨0, yw σ t 15 (yad (τ.1 2 128) 1), yw τ 2 (113 + 15) (yad (τ.1 2 128) 1), ?_, ?_, yDY_cnt H (by omega), yFal_cnt (by omega) F, rfl, fun a b z => yw_n (by omega), yF8_w yF8_r (by omega), fun j z y => yw_n (by omega), Or.inl ⟨rfl, yw_n (by omega)⟩⟩
            · simp [f_X4_letFall, f_X4_letFall_b112, f_X4_letFall_b69, f_X7_bit, ycP_ne, ycP_le, i2, l1, n1, v2, v3, v4, hf, hl, hz, h9, c7, d1]
            · simp [f_X8_falls, f_X8_falls_b86, f_X8_falls_b70, ycP_ne, ycP_le, m1, i1, c1, n4, hl, hz, h9, c8]
          · refine ⟨0, σ', τ', ?_, ?_, K, F', k1, fun a b z => k2 a b (by omega), fun a b z1 z2 z3 => k3 a b z2 (by omega), fun j z y => k3 2 j (by omega) (by omega), Or.inl ⟨rfl, k3 _ _ (by omega) (by omega)⟩⟩
            · simp [f_X4_letFall, f_X4_letFall_b112, f_X4_letFall_b69, f_X7_bit, ycP_ne, ycP_le, i2, l1, n1, v2, v3, v4, hf, hl, hz, h9, c7]
            · simp [f_X8_falls, f_X8_falls_b86, f_X8_falls_b70, ycP_ne, ycP_le, m1, i1, c1, n4, hl, hz, h9, c8]
        · rcases p_comes (N := N) H hf F (h := (h : Int)) (k := τ.1 2 (79 + 4 * i)) (p := ysu (τ.1 2 (80 + 4 * i)) 1) (d := τ.1 2 (81 + 4 * i)) (by omega) w2 (by rw [ysu_e (by omega) (by omega)]; omega) w4 with ⟨c7, c8⟩ | ⟨σ', τ', c7, c8, K, F', k1, k2, k3⟩
          · refine ⟨0, yw σ t 15 (yad (τ.1 2 128) 1), yw τ 2 (113 + 15) (yad (τ.1 2 128) 1), ?_, ?_, yDY_cnt H (by omega), yFal_cnt (by omega) F, rfl, fun a b z => yw_n (by omega), yF8_w yF8_r (by omega), fun j z y => yw_n (by omega), Or.inl ⟨rfl, yw_n (by omega)⟩⟩
            · simp [f_X4_letFall, f_X4_letFall_b112, f_X4_letFall_b69, f_X7_bit, ycP_ne, ycP_le, i2, l1, n1, v2, v3, v4, hf, hl, hz, h9, c7, d1]
            · simp [f_X8_falls, f_X8_falls_b86, f_X8_falls_b70, ycP_ne, ycP_le, m1, i1, c1, n4, hl, hz, h9, c8]
          · refine ⟨0, σ', τ', ?_, ?_, K, F', k1, fun a b z => k2 a b (by omega), fun a b z1 z2 z3 => k3 a b z2 (by omega), fun j z y => k3 2 j (by omega) (by omega), Or.inl ⟨rfl, k3 _ _ (by omega) (by omega)⟩⟩
            · simp [f_X4_letFall, f_X4_letFall_b112, f_X4_letFall_b69, f_X7_bit, ycP_ne, ycP_le, i2, l1, n1, v2, v3, v4, hf, hl, hz, h9, c7]
            · simp [f_X8_falls, f_X8_falls_b86, f_X8_falls_b70, ycP_ne, ycP_le, m1, i1, c1, n4, hl, hz, h9, c8]
