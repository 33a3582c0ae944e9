theorem yRT_can {σ : yS} {t h : Nat} {g : Nat → Int} {v : Int} (hh : h < 7) (H : yRT σ t g) : yRT (yw σ (t + 3) h v) t (yup g (7 + h) v) := by
  obtain ⟨t1, t2, ⟨t3, t4⟩, ⟨t5, t6⟩, ⟨d0, d1, d2, d3⟩, t7⟩ := H
  refine ⟨fun i hi => ?_, fun j hj => ?_, ⟨?_, fun i hi => ?_⟩, ⟨?_, fun i hi => ?_⟩, ⟨?_, ?_, ?_, ?_⟩, t7⟩
  · obtain ⟨q0, q1, q2, q3, q4, q5⟩ := t1 i hi
    refine ⟨?_, ?_, ?_, ?_, ?_, ?_⟩
    · rw [yw_n (by omega), yup_n (by omega)]; exact q0
    · by_cases e : i = h
      · subst e
        rw [yw_p, yup_p]
      · rw [yw_n (by omega), yup_n (by omega)]; exact q1
    · rw [yw_n (by omega), yup_n (by omega)]; exact q2
    · rw [yw_n (by omega), yup_n (by omega)]; exact q3
    · rw [yw_n (by omega), yup_n (by omega)]; exact q4
    · rw [yw_n (by omega), yup_n (by omega)]; exact q5
  · rw [yw_n (by omega), yup_n (by omega)]; exact t2 j hj
  · rw [yw_2, yw_n (by omega), yup_n (by omega)]; exact t3
  · rw [yup_n (by omega)] at hi
    rw [yw_2, yw_n (by omega), yw_n (by omega), yw_n (by omega), yw_n (by omega), yup_n (by omega), yup_n (by omega), yup_n (by omega), yup_n (by omega)]; exact t4 i hi
  · rw [yw_n (by omega), yup_n (by omega)]; exact t5
  · rw [yup_n (by omega)] at hi
    rw [yw_n (by omega), yw_n (by omega), yup_n (by omega), yup_n (by omega)]; exact t6 i hi
  · rw [yw_n (by omega), yup_n (by omega)]; exact d0
  · rw [yw_n (by omega), yup_n (by omega)]; exact d1
  · rw [yw_n (by omega), yup_n (by omega)]; exact d2
  · rw [yw_n (by omega), yup_n (by omega)]; exact d3
theorem yDY_can {σ τ : yS} {t h : Nat} {v : Int} (H : yDY σ τ t) (hh : h < 7) (hv : 0 ≤ v ∧ v < 32) : yDY (yw σ (t + 3) h v) (yw τ 2 (7 + h) v) t := by
  obtain ⟨R, T, ⟨g0, g1, g2, g3, g4, g5⟩, K0⟩ := H
  refine ⟨yRH_f ⟨yw_n (by omega), yw_n (by omega), yw_n (by omega)⟩ (fun b => yw_n (by omega)) ⟨yw_n (by omega), yw_n (by omega), yw_n (by omega)⟩ (fun b => yw_n (by omega)) R, by rw [yup_w]; exact yRT_can hh T, ?_, ?_⟩
  · rw [yup_w, yw_n (a := t) (by omega), yw_n (a := 0) (by omega), yw_n (a := 0) (by omega)]
    refine ⟨g0, fun i hi => ?_, ?_, fun i hi => ?_, ?_, fun i hi => ?_⟩
    · obtain ⟨q1, q2, q3, q4, q5⟩ := g1 i hi
      refine ⟨?_, by rw [yup_n (by omega)]; exact q2, by rw [yup_n (by omega)]; exact q3, by rw [yup_n (by omega)]; exact q4, by rw [yup_n (by omega)]; exact q5⟩
      by_cases e : i = h
      · subst e
        rw [yup_p]; exact hv
      · rw [yup_n (by omega)]; exact q1
    · rw [yup_n (by omega)]; exact g2
    · rw [yup_n (by omega)] at hi
      rw [yup_n (by omega), yup_n (by omega), yup_n (by omega), yup_n (by omega)]; exact g3 i hi
    · rw [yup_n (by omega)]; exact g4
    · rw [yup_n (by omega)] at hi
      rw [yup_n (by omega), yup_n (by omega)]; exact g5 i hi
  · rw [yup_w, yw_n (by omega), yw_n (by omega)]
    exact yGk_cong (fun j hj => yup_n (by omega)) K0
theorem x8_moves {N : Nat} {τ : yS} {a b : Nat} (ha : a < 7) (hb : b < 7) (hab : ¬ a = b) : f_X8_moves N τ a b = some (0, yw (yw (yw (yw τ 1 (7 + a) (τ.1 1 (7 + b))) 1 (7 + b) (τ.1 1 (7 + a))) 1 a (τ.1 1 b)) 1 b (τ.1 1 a)) := by
  have a1 : yad 7 (a : Int) = 7 + (a : Int) := yad_e (by omega) (by omega)
  have a2 : yad 7 (b : Int) = 7 + (b : Int) := yad_e (by omega) (by omega)
  have a3 : yad 0 (a : Int) = (a : Int) := by rw [yad_e (by omega) (by omega)]; omega
  have a4 : yad 0 (b : Int) = (b : Int) := by rw [yad_e (by omega) (by omega)]; omega
  have c1 : (7 + (a : Int)).toNat = 7 + a := by omega
  have c2 : (7 + (b : Int)).toNat = 7 + b := by omega
  have i1 : yin (7 + (a : Int)) 393 = true := by rw [yin_d]; exact decide_eq_true (by omega)
  have i2 : yin (7 + (b : Int)) 393 = true := by rw [yin_d]; exact decide_eq_true (by omega)
  have i3 : yin (a : Int) 393 = true := by rw [yin_d]; exact decide_eq_true (by omega)
  have i4 : yin (b : Int) 393 = true := by rw [yin_d]; exact decide_eq_true (by omega)
  have r1 : (yw (yw τ 1 (7 + a) (τ.1 1 (7 + b))) 1 (7 + b) (τ.1 1 (7 + a))).1 1 a = τ.1 1 a := by rw [yw_n (by omega), yw_n (by omega)]
  have r2 : (yw (yw τ 1 (7 + a) (τ.1 1 (7 + b))) 1 (7 + b) (τ.1 1 (7 + a))).1 1 b = τ.1 1 b := by rw [yw_n (by omega), yw_n (by omega)]
  simp only [f_X8_moves, f_X8_swaps, a1, a2, a3, a4, c1, c2, i1, i2, i3, i4, cond_true, Int.toNat_natCast, r1, r2]
theorem x4_change {N : Nat} {σ : yS} {t a b : Nat} (ha : a < 7) (hb : b < 7) (hab : ¬ a = b) : f_X4_changeHouses N σ t a b = some (0, yw (yw (yw (yw σ (t + 2) a (σ.1 (t + 2) b)) (t + 2) b (σ.1 (t + 2) a)) (t + 3) a (σ.1 (t + 3) b)) (t + 3) b (σ.1 (t + 3) a)) := by
  have i3 : yin (a : Int) 7 = true := by rw [yin_d]; exact decide_eq_true (by omega)
  have i4 : yin (b : Int) 7 = true := by rw [yin_d]; exact decide_eq_true (by omega)
  have r1 : (yw (yw σ (t + 2) a (σ.1 (t + 2) b)) (t + 2) b (σ.1 (t + 2) a)).1 (t + 3) a = σ.1 (t + 3) a := by rw [yw_n (by omega), yw_n (by omega)]
  have r2 : (yw (yw σ (t + 2) a (σ.1 (t + 2) b)) (t + 2) b (σ.1 (t + 2) a)).1 (t + 3) b = σ.1 (t + 3) b := by rw [yw_n (by omega), yw_n (by omega)]
  simp only [f_X4_changeHouses, f_X4_changeHouses_b31, i3, i4, cond_true, Int.toNat_natCast, r1, r2]
/-- one pair of houses tried -/
theorem p_best_s {N : Nat} (hN : 132 ≤ N) {σ τ : yS} {a b n : Nat} (ha : (a : Int) < τ.1 0 3) (hb : (b : Int) < τ.1 0 3) (hab : ¬ a = b) (hn : n ≤ 60) (H : yRR σ τ) : ∃ (z : Int) (σ1 σ2 σ' τ1 τ2 τ3 τ' : yS), f_X4_copyFrom N σ 38 17 = some (0, σ1) ∧ f_X4_changeHouses N σ1 38 a b = some (0, σ2) ∧ f_X4_passDays N σ2 38 n = some (z, σ') ∧ f_X8_moves N τ a b = some (0, τ1) ∧ f_X8_starts N τ1 = some (0, τ2) ∧ f_X8_daysAll N τ2 n = some (0, τ3) ∧ f_X8_moves N τ3 a b = some (0, τ') ∧ τ'.1 0 26 = z ∧ yRR σ' τ' ∧ τ'.1 0 3 = τ.1 0 3 := by
  obtain ⟨e0, e1, e2, b0, b1, b2, hc⟩ := H.1.2.2.1
  have ha7 : a < 7 := by omega
  have hb7 : b < 7 := by omega
  obtain ⟨σ1, c0, f1, -, D1⟩ := yDY_trial (N := N) H
  have pa : σ1.1 40 a = τ.1 1 a := by
    have q : σ1.1 40 a = (ycp τ 1 2 0 0 131).1 2 a := (D1.2.1.1 a ha7).1
    rw [q, ycp_p (by omega)]
  have pb : σ1.1 40 b = τ.1 1 b := by
    have q : σ1.1 40 b = (ycp τ 1 2 0 0 131).1 2 b := (D1.2.1.1 b hb7).1
    rw [q, ycp_p (by omega)]
  have sa : σ1.1 41 a = τ.1 1 (7 + a) := by
    have q : σ1.1 41 a = (ycp τ 1 2 0 0 131).1 2 (7 + a) := (D1.2.1.1 a ha7).2.1
    rw [q, ycp_p (by omega)]
  have sb : σ1.1 41 b = τ.1 1 (7 + b) := by
    have q : σ1.1 41 b = (ycp τ 1 2 0 0 131).1 2 (7 + b) := (D1.2.1.1 b hb7).2.1
    rw [q, ycp_p (by omega)]
  have ba : 0 ≤ τ.1 1 (7 + a) ∧ τ.1 1 (7 + a) < 32 := (H.1.2.2.2.2.2.1 a ha7).1
  have bb : 0 ≤ τ.1 1 (7 + b) ∧ τ.1 1 (7 + b) < 32 := (H.1.2.2.2.2.2.1 b hb7).1
  have D2 := yDY_can (yDY_can (yDY_purse (v := τ.1 1 a) (yDY_purse (v := τ.1 1 b) D1 ha7) hb7) ha7 bb) hb7 ba
  have c1 := x4_change (N := N) (σ := σ1) (t := 38) ha7 hb7 hab
  rw [show 38 + 2 = 40 from rfl, show 38 + 3 = 41 from rfl, pa, pb, sa, sb] at c1
  rw [show 38 + 2 = 40 from rfl, show 38 + 3 = 41 from rfl] at D2
  have m1 := x8_moves (N := N) (τ := τ) ha7 hb7 hab
  generalize hU : yw (yw (yw (yw τ 1 (7 + a) (τ.1 1 (7 + b))) 1 (7 + b) (τ.1 1 (7 + a))) 1 a (τ.1 1 b)) 1 b (τ.1 1 a) = U at m1
  have uo : ∀ x y : Nat, ¬ (x = 1 ∧ (y = a ∨ y = b ∨ y = 7 + a ∨ y = 7 + b)) → U.1 x y = τ.1 x y := fun x y h => by
    rw [← hU, yw_n (by omega), yw_n (by omega), yw_n (by omega), yw_n (by omega)]
  have ua : U.1 1 a = τ.1 1 b := by rw [← hU, yw_n (by omega), yw_p]
  have ub : U.1 1 b = τ.1 1 a := by rw [← hU, yw_p]
  have uc : U.1 1 (7 + a) = τ.1 1 (7 + b) := by rw [← hU, yw_n (by omega), yw_n (by omega), yw_n (by omega), yw_p]
  have ud : U.1 1 (7 + b) = τ.1 1 (7 + a) := by rw [← hU, yw_n (by omega), yw_n (by omega), yw_p]
  have s8 := x8_starts (N := N) hN (τ := U)
  have D3 : yDY (yw (yw (yw (yw σ1 40 a (τ.1 1 b)) 40 b (τ.1 1 a)) 41 a (τ.1 1 (7 + b))) 41 b (τ.1 1 (7 + a))) (ycp U 1 2 0 0 131) 38 := by
    refine yDY_o (fun j => ?_) ⟨?_, ?_, ?_⟩ (fun j => ?_) D2
    · by_cases hj : j < 131
      · rw [ycp_p hj]
        by_cases h1 : j = 7 + b
        · subst h1
          rw [ud, yw_p]
        · rw [yw_n (by omega)]
          by_cases h2 : j = 7 + a
          · subst h2
            rw [uc, yw_p]
          · rw [yw_n (by omega)]
            by_cases h3 : j = b
            · subst h3
              rw [ub, yw_p]
            · rw [yw_n (by omega)]
              by_cases h4 : j = a
              · subst h4
                rw [ua, yw_p]
              · rw [yw_n (by omega), ycp_p hj, uo _ _ (by omega)]
      · rw [ycp_n (by omega), yw_n (by omega), yw_n (by omega), yw_n (by omega), yw_n (by omega), ycp_n (by omega), uo _ _ (by omega)]
    · rw [ycp_n (by omega), yw_n (by omega), yw_n (by omega), yw_n (by omega), yw_n (by omega), ycp_n (by omega), uo _ _ (by omega)]
    · rw [ycp_n (by omega), yw_n (by omega), yw_n (by omega), yw_n (by omega), yw_n (by omega), ycp_n (by omega), uo _ _ (by omega)]
    · rw [ycp_n (by omega), yw_n (by omega), yw_n (by omega), yw_n (by omega), yw_n (by omega), ycp_n (by omega), uo _ _ (by omega)]
    · rw [ycp_n (by omega), yw_n (by omega), yw_n (by omega), yw_n (by omega), yw_n (by omega), ycp_n (by omega), uo _ _ (by omega)]
  have f2 : yF7 38 σ (yw (yw (yw (yw σ1 40 a (τ.1 1 b)) 40 b (τ.1 1 a)) 41 a (τ.1 1 (7 + b))) 41 b (τ.1 1 (7 + a))) := yF7_w (yF7_w (yF7_w (yF7_w f1 (by omega)) (by omega)) (by omega)) (by omega)
  obtain ⟨z, σ', τ3, c7, c8, K, f7, f8, q1, q2, -⟩ := p_days (N := N) (by omega) hn D3
  have oo : ∀ x y : Nat, ¬ x = 2 → ¬ x = 9 → ¬ (x = 0 ∧ (y = 25 ∨ y = 26)) → τ3.1 x y = U.1 x y := fun x y h1 h2 h3 => by rw [f8 x y h1 h2 h3, ycp_n (by omega)]
  have m3 := x8_moves (N := N) (τ := τ3) ha7 hb7 hab
  rw [oo 1 a (by omega) (by omega) (by omega), oo 1 b (by omega) (by omega) (by omega), oo 1 (7 + a) (by omega) (by omega) (by omega), oo 1 (7 + b) (by omega) (by omega) (by omega), ua, ub, uc, ud] at m3
  generalize hV : yw (yw (yw (yw τ3 1 (7 + a) (τ.1 1 (7 + a))) 1 (7 + b) (τ.1 1 (7 + b))) 1 a (τ.1 1 a)) 1 b (τ.1 1 b) = V at m3
  have vo : ∀ x y : Nat, ¬ x = 2 → ¬ x = 9 → ¬ (x = 0 ∧ (y = 25 ∨ y = 26)) → V.1 x y = τ.1 x y := fun x y h1 h2 h3 => by
    rw [← hV]
    by_cases k1 : x = 1 ∧ y = b
    · obtain ⟨rfl, rfl⟩ := k1
      rw [yw_p]
    · rw [yw_n (by omega)]
      by_cases k2 : x = 1 ∧ y = a
      · obtain ⟨rfl, rfl⟩ := k2
        rw [yw_p]
      · rw [yw_n (by omega)]
        by_cases k3 : x = 1 ∧ y = 7 + b
        · obtain ⟨rfl, rfl⟩ := k3
          rw [yw_p]
        · rw [yw_n (by omega)]
          by_cases k4 : x = 1 ∧ y = 7 + a
          · obtain ⟨rfl, rfl⟩ := k4
            rw [yw_p]
          · rw [yw_n (by omega), oo x y h1 h2 h3, uo x y (by omega)]
  have v26 : V.1 0 26 = z := by rw [← hV, yw_n (by omega), yw_n (by omega), yw_n (by omega), yw_n (by omega), q1]
  have ff := yF7_t f2 f7
  exact ⟨z, σ1, _, σ', U, _, τ3, V, c0, c1, c7, m1, s8, c8, m3, v26, yRR_scr H (fun a b h => ff.2 a b h) K.2.1.2.2.2.2.2 (fun a b h => ff.1 a b (by omega)) (fun x y h1 h2 _ _ h5 => vo x y h1 h2 (by omega)), vo 0 3 (by omega) (by omega) (by omega)⟩
