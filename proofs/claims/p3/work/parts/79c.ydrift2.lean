theorem p_vbh {N : Nat} {σ τ : yS} {t h : Nat} (H : yDY σ τ t) (hh : (h : Int) < τ.1 0 3) : ∃ (σ' τ' : yS), f_X4_vowByHabit N σ t h = some (0, σ') ∧ (∀ (k49 : yS → Int → Int → Int → Int → Int → Option (Int × yS)) (x2 x3 x4 x5 x6 : Int), f_X8_drift_b83 N k49 τ x2 x3 x4 x5 x6 h = f_X8_drift_b190 N k49 τ' x2 x3 x4 x5 x6) ∧ yDY σ' τ' t ∧ yF7 t σ σ' ∧ yF8 τ τ' ∧ τ'.1 0 26 = τ.1 0 26 := by
  have H0 := H
  obtain ⟨⟨e0, e1, e2, b0, b1, b2, hc⟩, ⟨t1, t2, ⟨t3, t4⟩, -, -, t7⟩, ⟨-, g1, g2, -⟩, ⟨-, kk, -⟩⟩ := H0
  have g2 : 0 ≤ τ.1 2 77 ∧ τ.1 2 77 ≤ 10 := g2
  have t3 : σ.1 (σ.2 t 11) 0 = τ.1 2 77 := t3
  have h7 : h < 7 := by omega
  obtain ⟨-, -, -, q3, q4, q5⟩ := t1 h h7
  have q3 : σ.1 (t + 4) h = τ.1 2 (21 + h) := q3
  have q4 : σ.1 (t + 5) h = τ.1 2 (28 + h) := q4
  have q5 : σ.1 (t + 6) h = τ.1 2 (35 + h) := q5
  obtain ⟨-, -, w3, w4, w5⟩ := g1 h h7
  dsimp only at w3 w4 w5
  have kd : ¬ τ.1 2 (35 + h) = 0 → τ.1 2 (28 + h) < τ.1 0 5 := kk h h7
  have a1 : yad 35 (h : Int) = 35 + (h : Int) := yad_e (by omega) (by omega)
  have a2 : yad 28 (h : Int) = 28 + (h : Int) := yad_e (by omega) (by omega)
  have a3 : yad 21 (h : Int) = 21 + (h : Int) := yad_e (by omega) (by omega)
  have n1 : (35 + (h : Int)).toNat = 35 + h := by omega
  have n2 : (28 + (h : Int)).toNat = 28 + h := by omega
  have n3 : (21 + (h : Int)).toNat = 21 + h := by omega
  have i1 : yin (35 + (h : Int)) 131 = true := by rw [yin_d]; exact decide_eq_true (by omega)
  have i2 : yin (28 + (h : Int)) 131 = true := by rw [yin_d]; exact decide_eq_true (by omega)
  have i3 : yin (21 + (h : Int)) 131 = true := by rw [yin_d]; exact decide_eq_true (by omega)
  have i7 : yin (h : Int) 7 = true := by rw [yin_d]; exact decide_eq_true (by omega)
  have ih : f_X4_isHouse N σ t (h : Int) = some (1, σ) := by
    rw [x4_isHouse (by rw [e0]; exact b0), e0, if_pos (by omega)]
  obtain ⟨v, hv⟩ : ∃ v : Nat, σ.2 t 11 = v := ⟨_, rfl⟩
  rw [hv] at t3 t7
  by_cases ho : τ.1 2 (35 + h) = 0
  · refine ⟨σ, τ, ?_, fun k49 x2 x3 x4 x5 x6 => ?_, H, yF7_r, yF8_r, rfl⟩
    · simp [f_X4_vowByHabit, f_X4_vowByHabit_b39, ih, ycP_eq, i7, q5, ho]
    · simp [f_X8_drift_b83, a1, n1, i1, ycP_le, ho]
  · have hl : ¬ τ.1 2 (35 + h) ≤ 0 := by omega
    by_cases hf : τ.1 2 77 = 10
    · refine ⟨σ, τ, ?_, fun k49 x2 x3 x4 x5 x6 => ?_, H, yF7_r, yF8_r, rfl⟩
      · simp [f_X4_vowByHabit, f_X4_vowByHabit_b39, ih, ycP_eq, ycP_lt, i7, q5, ho, f_X5_append, hv, t3, hf]
      · simp [f_X8_drift_b83, a1, n1, i1, ycP_le, ycP_ge, hl, hf]
    · obtain ⟨m, hm⟩ : ∃ m : Nat, τ.1 2 77 = (m : Int) := ⟨(τ.1 2 77).toNat, by omega⟩
      have h10 : m < 10 := by omega
      rw [hm] at t3
      have em : ymu 4 (m : Int) = 4 * (m : Int) := ymu_e (by omega) (by omega)
      have ea : yad 78 (4 * (m : Int)) = 78 + 4 * (m : Int) := yad_e (by omega) (by omega)
      have eb1 : yad (78 + 4 * (m : Int)) 1 = 79 + 4 * (m : Int) := by rw [yad_e (by omega) (by omega)]; omega
      have eb2 : yad (78 + 4 * (m : Int)) 2 = 80 + 4 * (m : Int) := by rw [yad_e (by omega) (by omega)]; omega
      have eb3 : yad (78 + 4 * (m : Int)) 3 = 81 + 4 * (m : Int) := by rw [yad_e (by omega) (by omega)]; omega
      have ec : (78 + 4 * (m : Int)).toNat = 78 + 4 * m := by omega
      have ec1 : (79 + 4 * (m : Int)).toNat = 79 + 4 * m := by omega
      have ec2 : (80 + 4 * (m : Int)).toNat = 80 + 4 * m := by omega
      have ec3 : (81 + 4 * (m : Int)).toNat = 81 + 4 * m := by omega
      have j0 : yin (78 + 4 * (m : Int)) 131 = true := by rw [yin_d]; exact decide_eq_true (by omega)
      have j1 : yin (79 + 4 * (m : Int)) 131 = true := by rw [yin_d]; exact decide_eq_true (by omega)
      have j2 : yin (80 + 4 * (m : Int)) 131 = true := by rw [yin_d]; exact decide_eq_true (by omega)
      have j3 : yin (81 + 4 * (m : Int)) 131 = true := by rw [yin_d]; exact decide_eq_true (by omega)
      have j77 : yin 77 131 = true := by decide +kernel
      have jm : yin (m : Int) 10 = true := by rw [yin_d]; exact decide_eq_true (by omega)
      have ee : yad (m : Int) 1 = (m : Int) + 1 := yad_e (by omega) (by omega)
      refine ⟨yw (yw (yw (yw (yw σ (v + 1) m h) (v + 2) m (τ.1 2 (21 + h))) (v + 3) m 0) (v + 4) m (τ.1 2 (28 + h))) v 0 ((m : Int) + 1), yw (yw (yw (yw (yw τ 2 (78 + 4 * m) h) 2 (79 + 4 * m) (τ.1 2 (21 + h))) 2 (80 + 4 * m) 0) 2 (81 + 4 * m) (τ.1 2 (28 + h))) 2 77 ((m : Int) + 1), ?_, fun k49 x2 x3 x4 x5 x6 => ?_, ?_, ?_, ?_, ?_⟩
      · simp [f_X4_vowByHabit, f_X4_vowByHabit_b39, ih, ycP_eq, ycP_lt, i7, q3, q4, q5, ho, f_X5_append, f_X5_append_b26, f_X5_append_b36, f_X5_append_b46, f_X5_append_b54, hv, t3, show (m : Int) < 10 by omega, jm, yw_1, ee]
      · have r1 : (yw τ 2 (78 + 4 * m) (h : Int)).1 2 (21 + h) = τ.1 2 (21 + h) := yw_n (by omega)
        have r2 : (yw (yw (yw τ 2 (78 + 4 * m) (h : Int)) 2 (79 + 4 * m) (τ.1 2 (21 + h))) 2 (80 + 4 * m) 0).1 2 (28 + h) = τ.1 2 (28 + h) := by rw [yw_n (by omega), yw_n (by omega), yw_n (by omega)]
        have r3 : (yw (yw (yw (yw τ 2 (78 + 4 * m) (h : Int)) 2 (79 + 4 * m) (τ.1 2 (21 + h))) 2 (80 + 4 * m) 0) 2 (81 + 4 * m) (τ.1 2 (28 + h))).1 2 77 = (m : Int) := by rw [yw_n (by omega), yw_n (by omega), yw_n (by omega), yw_n (by omega)]; exact hm
        simp only [f_X8_drift_b83, f_X8_drift_b148, f_X8_drift_b177, f_X8_drift_b186, a1, n1, i1, ycP_le, ycP_ge, decide_eq_false hl, hm, decide_eq_false (show ¬ (10 : Int) ≤ (m : Int) by omega), cond_true, cond_false, em, ea, eb1, eb2, eb3, ec, ec1, ec2, ec3, j0, j1, j2, j3, a2, a3, n2, n3, i2, i3, r1, r2, j77, show (77 : Int).toNat = 77 from rfl, r3, ee]
      · refine yDY_app (m := m) (h := (h : Int)) (k := τ.1 2 (21 + h)) (p := 0) (d := τ.1 2 (28 + h)) H hv hm h10 (by omega) w3 (by omega) (by omega) rfl (fun a b z => ?_) (by simp [yw_1]) (fun i => by simp [yw_1]) (fun i => by simp [yw_1]) (fun i => by simp [yw_1]) (fun i => by simp [yw_1]) (fun a b z => ?_) (fun j z => ?_) yw_p (fun i hi => ?_) (fun i hi => ?_) (fun i hi => ?_) (fun i hi => ?_)
        · rw [yw_n (by omega), yw_n (by omega), yw_n (by omega), yw_n (by omega), yw_n (by omega)]
        · rw [yw_n (by omega), yw_n (by omega), yw_n (by omega), yw_n (by omega), yw_n (by omega)]
        · rw [yw_n (by omega), yw_n (by omega), yw_n (by omega), yw_n (by omega), yw_n (by omega)]
        · by_cases hq : i = m
          · subst hq
            rw [if_pos rfl, yw_n (by omega), yw_n (by omega), yw_n (by omega), yw_n (by omega), yw_p]
          · rw [if_neg hq, yw_n (by omega), yw_n (by omega), yw_n (by omega), yw_n (by omega), yw_n (by omega)]
        · by_cases hq : i = m
          · subst hq
            rw [if_pos rfl, yw_n (by omega), yw_n (by omega), yw_n (by omega), yw_p]
          · rw [if_neg hq, yw_n (by omega), yw_n (by omega), yw_n (by omega), yw_n (by omega), yw_n (by omega)]
        · by_cases hq : i = m
          · subst hq
            rw [if_pos rfl, yw_n (by omega), yw_n (by omega), yw_p]
          · rw [if_neg hq, yw_n (by omega), yw_n (by omega), yw_n (by omega), yw_n (by omega), yw_n (by omega)]
        · by_cases hq : i = m
          · subst hq
            rw [if_pos rfl, yw_n (by omega), yw_p]
          · rw [if_neg hq, yw_n (by omega), yw_n (by omega), yw_n (by omega), yw_n (by omega), yw_n (by omega)]
      · repeat (first | exact yF7_r | refine yF7_w ?_ (by omega))
      · repeat (first | exact yF8_r | refine yF8_w ?_ (by omega))
      · rw [yw_n (by omega), yw_n (by omega), yw_n (by omega), yw_n (by omega), yw_n (by omega)]
theorem p_idx {N : Nat} {σ : yS} {A H : Int} (h0 : 0 ≤ A ∧ A ≤ 32767) (hH : 2 ≤ H ∧ H ≤ 7) : ∃ h : Nat, (h : Int) < H ∧ yrm A H = (h : Int) ∧ f_J9_floorMod_7cf53 N σ A H = some ((h : Int), σ) := by
  have hr : yrm A H = A % H := yrm_e h0.1 (by omega) (by omega) (by omega)
  have l1 := Int.emod_nonneg A (show H ≠ 0 by omega)
  have l2 := Int.emod_lt_of_pos A (show 0 < H by omega)
  have e : yrm A H = ((A % H).toNat : Int) := by rw [hr]; omega
  exact ⟨(A % H).toNat, by omega, e, by rw [x9_floorMod h0.1 (by omega) (by omega) (by omega), e]⟩
/-- one day of drift -/
theorem p_drift_s {N : Nat} (hN : 62 ≤ N) {n i : Nat} {w F S o : Int} {σ τ : yS} (hi : i ≤ 60) (H : yDY σ τ 38) (ho : 0 ≤ o ∧ o ≤ 20 * i) (h26 : τ.1 0 26 = o) : ∃ (z : Int) (σ' τ' : yS), (∀ k41 : yS → Int → Int → Int → Int → Int → Option (Int × yS), f_X7_drift_b58 N k41 σ n w S o i = k41 σ' n w S (o + z) ((i + 1 : Nat) : Int)) ∧ (∀ k49 : yS → Int → Int → Int → Int → Int → Option (Int × yS), f_X8_drift_b67 N k49 τ n w F S i = k49 τ' n w F S ((i + 1 : Nat) : Int)) ∧ yDY σ' τ' 38 ∧ yF7 38 σ σ' ∧ yF8 τ τ' ∧ τ'.1 0 26 = o + z ∧ (0 ≤ o + z ∧ o + z ≤ 20 * ((i + 1 : Nat) : Int)) := by
  obtain ⟨e0, e1, e2, b0, b1, b2, hc⟩ := H.1
  have y0 := yan15 (ysr S 16)
  simp only [f_X7_drift_b58, f_X8_drift_b67, yus16]
  generalize yan (ysr S 16) 32767 = A at y0 ⊢
  have hmx : ymx 1 (σ.1 38 0) = τ.1 0 3 := by
    rw [e0]
    unfold ymx
    rw [show zle (1 + 1) (τ.1 0 3) = true from decide_eq_true (by omega)]
    rfl
  obtain ⟨h, l2, hr, fm⟩ := p_idx (N := N) (σ := σ) y0 b0
  have hz : ynz (τ.1 0 3) = true := by rw [ynz_d]; exact decide_eq_true (by omega)
  obtain ⟨σ1, τ1, v7, v8, K1, f1, o1, h261⟩ := p_vbh (N := N) H l2
  obtain ⟨z, σ2, τ2, c7, c8, K2, f7, f8, hzz, d26, -⟩ := p_day (N := N) (by omega) K1
  have e26 := d26 (by omega) (by omega)
  have e3 : yad (i : Int) 1 = ((i + 1 : Nat) : Int) := by rw [yad_e (by omega) (by omega)]; omega
  have eo : yad o z = o + z := yad_e (by omega) (by omega)
  refine ⟨z, σ2, τ2, fun k41 => ?_, fun k49 => ?_, K2, yF7_t f1 f7, yF8_t o1 f8, by omega, by omega⟩
  · simp only [hmx, fm, v7, c7, eo, e3]
  · simp only [hz, cond_true, hr, v8, f_X8_drift_b190, c8, e3]
/-- the loop of drift -/
theorem p_drift_l {N : Nat} (hN : 62 ≤ N) {n : Nat} (hn : n ≤ 60) {w F : Int} : ∀ (c m k i : Nat) (σ τ : yS) (s o : Int), i + c = n → yDY σ τ 38 → (0 ≤ o ∧ o ≤ 20 * i) → τ.1 0 26 = o → σ.1 17 17 = F → ∃ (a : Int) (σ' τ' : yS), f_X7_drift_b41 N (m + c + 1) σ n w s o i = some (a, σ') ∧ f_X8_drift_b49 N (k + c + 1) τ n w F s i = some (a, τ') ∧ yDY σ' τ' 38 ∧ yF7 38 σ σ' ∧ yF8 τ τ'
  | 0, m, k, i, σ, τ, s, o, hi, H, ho, h26, hF => by
    have e : i = n := by omega
    subst e
    have d3 : σ.1 38 17 = τ.1 2 130 := H.2.1.2.2.2.2.1.2.2.2
    by_cases hw : w = 0
    · refine ⟨o, σ, τ, ?_, ?_, H, yF7_r, yF8_r⟩
      · rw [q_X7_drift_b41]
        simp [ycP_ge, ycP_ne, hw, f_X7_drift_b130]
      · rw [q_X8_drift_b49]
        simp [ycP_ge, ycP_ne, hw, f_X8_drift_b222, h26]
    · refine ⟨ysu (τ.1 2 130) F, σ, τ, ?_, ?_, H, yF7_r, yF8_r⟩
      · rw [q_X7_drift_b41]
        simp [ycP_ge, ycP_ne, hw, f_X7_drift_b130, d3, hF]
      · rw [q_X8_drift_b49]
        simp [ycP_ge, ycP_ne, hw, f_X8_drift_b222]
  | c + 1, m, k, i, σ, τ, s, o, hi, H, ho, h26, hF => by
    obtain ⟨z, σ2, τ2, c7, c8, K2, f7, f8, h2, h3⟩ := p_drift_s (N := N) (n := n) (w := w) (F := F) (S := yad (ymu s 1103515245) 12345) hN (show i ≤ 60 by omega) H ho h26
    obtain ⟨a, σ3, τ3, g7, g8, K3, l7, l8⟩ := p_drift_l hN hn (w := w) (F := F) c m k (i + 1) σ2 τ2 (yad (ymu s 1103515245) 12345) (o + z) (by omega) K2 h3 h2 (by rw [f7.1 17 17 (by omega)]; exact hF)
    refine ⟨a, σ3, τ3, ?_, ?_, K3, yF7_t f7 l7, yF8_t f8 l8⟩
    · rw [show m + (c + 1) + 1 = (m + c + 1) + 1 by omega, q_X7_drift_b41]
      simp only [ycP_ge, decide_eq_false (show ¬ (n : Int) ≤ (i : Int) by omega), cond_false, c7, g7]
    · rw [show k + (c + 1) + 1 = (k + c + 1) + 1 by omega, q_X8_drift_b49]
      simp only [ycP_ge, decide_eq_false (show ¬ (n : Int) ≤ (i : Int) by omega), cond_false, c8, g8]
theorem P_drift {N : Nat} (hN : 132 ≤ N) {σ τ : yS} {s n w : Int} (H : yRR σ τ) : ∃ (a : Int) (σ' τ' : yS), f_X7_drift N σ s n w = some (a, σ') ∧ f_X8_drift N τ s n w = some (a, τ') ∧ yRR σ' τ' := by
  simp only [f_X7_drift, f_X7_drift_b19, f_X8_drift, f_X8_drift_b22, f_X8_drift_b40, x7_within, x8_in, ycP_ne, ycP_eq]
  by_cases hn : 1 ≤ n ∧ n ≤ 60
  · by_cases hw : 0 ≤ w ∧ w ≤ 1
    · obtain ⟨m, rfl⟩ : ∃ m : Nat, n = (m : Int) := ⟨n.toNat, by omega⟩
      obtain ⟨σ1, c0, f1, -, D1⟩ := yDY_trial (N := N) H
      have s8 := x8_starts (N := N) hN (τ := τ)
      have D2 : yDY σ1 (yw (ycp τ 1 2 0 0 131) 0 26 0) 38 := yDY_o (τ := ycp τ 1 2 0 0 131) (fun j => yw_n (by omega)) ⟨yw_n (by omega), yw_n (by omega), yw_n (by omega)⟩ (fun b => yw_n (by omega)) D1
      have r30 : (yw (ycp τ 1 2 0 0 131) 0 26 0).1 2 130 = τ.1 1 130 := by rw [yw_n (by omega), ycp_p (by omega)]
      have d3 : σ.1 17 17 = τ.1 1 130 := H.1.2.2.2.1.2.2.2.2.1.2.2.2
      obtain ⟨a, σ2, τ2, g7, g8, K2, l7, l8⟩ := p_drift_l (N := N) (by omega) (show m ≤ 60 by omega) (w := w) (F := τ.1 1 130) m (N - m - 1) (N - m - 1) 0 σ1 _ s 0 (by omega) D2 (by omega) yw_p (by rw [f1.1 17 17 (by omega)]; exact d3)
      rw [show N - m - 1 + m + 1 = N by omega, show ((0 : Nat) : Int) = 0 from rfl] at g7 g8
      have j30 : yin 130 131 = true := by decide +kernel
      refine ⟨a, σ2, τ2, ?_, ?_, yRR_tr H (yF7_t f1 l7) K2 (yF8_t (yF8_w yF8_c (by omega)) l8)⟩
      · simp [hn, hw, c0, g7]
      · simp [hn, hw, s8, j30, r30, g8]
    · exact ⟨-1, σ, τ, by simp [hn, hw], by simp [hn, hw], H⟩
  · exact ⟨-1, σ, τ, by simp [hn], by simp [hn], H⟩
