theorem ylaw7 : ∀ L : Fin 128, ∀ i : Fin 7, yor ((L.val % 2 ^ i.val : Nat) : Int) (ysl (yan (ysr ((L.val : Nat) : Int) ((i.val : Nat) : Int)) 1) ((i.val : Nat) : Int)) = ((L.val % 2 ^ (i.val + 1) : Nat) : Int) := by decide +kernel
theorem ylawz : ∀ L : Fin 128, ∀ H : Fin 8, (∀ h : Fin 7, H.val ≤ h.val → yan (ysr ((L.val : Nat) : Int) ((h.val : Nat) : Int)) 1 = 0) → L.val % 2 ^ H.val = L.val := by decide +kernel
theorem x8_law_l {N n H3 : Nat} {σ τ : yS} {L : Nat} (hL : L < 128) (h7 : H3 ≤ 7) (h3 : τ.1 0 3 = (H3 : Int)) (hb : ∀ h : Nat, h < 7 → yan (ysr (L : Int) (h : Int)) 1 = τ.1 1 (14 + h)) : ∀ j i : Nat, i + j = H3 → f_X8_lawyersNow_b4 N (n + j + 1) τ ((L % 2 ^ i : Nat) : Int) (i : Int) = some (((L % 2 ^ H3 : Nat) : Int), τ)
  | 0, i, h => by
    have e : i = H3 := by omega
    subst e
    rw [q_X8_lawyersNow_b4, h3]
    simp [ycP_ge]
  | j + 1, i, h => by
    have e3 : yad (i : Int) 1 = ((i + 1 : Nat) : Int) := by rw [yad_e (by omega) (by omega)]; omega
    have e4 : yad 14 (i : Int) = ((14 + i : Nat) : Int) := by rw [yad_e (by omega) (by omega)]; omega
    have i4 : yin ((14 + i : Nat) : Int) 393 = true := by rw [yin_d]; exact decide_eq_true (by omega)
    have q := ylaw7 ⟨L, hL⟩ ⟨i, by omega⟩
    dsimp only at q
    rw [hb i (by omega)] at q
    rw [show n + (j + 1) + 1 = (n + j + 1) + 1 by omega, q_X8_lawyersNow_b4, h3]
    simp only [ycP_ge, decide_eq_false (show ¬ (H3 : Int) ≤ (i : Int) by omega), cond_false, e4, i4, cond_true, Int.toNat_natCast, q, e3]
    exact x8_law_l (σ := σ) hL h7 h3 hb j (i + 1) (by omega)
theorem x8_law {N : Nat} (hN : 8 ≤ N) {σ τ : yS} (H : yRR σ τ) : f_X8_lawyersNow N τ = some (σ.1 17 6, τ) := by
  obtain ⟨e0, e1, e2, b0, b1, b2, hc⟩ := H.1.2.2.1
  have g0 : 0 ≤ σ.1 17 6 ∧ σ.1 17 6 < 128 := H.1.2.2.2.2.1
  obtain ⟨L, hL⟩ : ∃ L : Nat, σ.1 17 6 = (L : Int) := ⟨(σ.1 17 6).toNat, by omega⟩
  obtain ⟨H3, h3⟩ : ∃ m : Nat, τ.1 0 3 = (m : Int) := ⟨(τ.1 0 3).toNat, by omega⟩
  have hb : ∀ h : Nat, h < 7 → yan (ysr (L : Int) (h : Int)) 1 = τ.1 1 (14 + h) := fun h hh => by
    rw [← hL]
    exact (H.1.2.2.2.1.1 h hh).2.2.1
  have q := x8_law_l (N := N) (n := N - H3 - 1) (σ := σ) (τ := τ) (L := L) (show L < 128 by omega) (show H3 ≤ 7 by omega) h3 hb H3 0 (by omega)
  have z := ylawz ⟨L, by omega⟩ ⟨H3, by omega⟩ (fun h hh => by
    rw [hb h.val h.isLt]
    have hh : H3 ≤ h.val := hh
    exact H.2.1.2.2 h.val h.isLt (by omega))
  dsimp only at z
  rw [z, show N - H3 - 1 + H3 + 1 = N by omega, show ((L % 2 ^ 0 : Nat) : Int) = 0 by rw [Nat.pow_zero, Nat.mod_one]; rfl] at q
  rw [hL]
  exact q
theorem ybc7 : ∀ S : Fin 128, (f_J6_bitCount_0f7a4 0 (fun _ _ => 0, fun _ _ => 0) ((S.val : Nat) : Int)).map Prod.fst = some (ybt ((S.val : Nat) : Int)) := by decide +kernel
theorem x7_bits7 {N : Nat} {σ : yS} {x : Int} (h : 0 ≤ x ∧ x < 128) : f_J6_bitCount_0f7a4 N σ x = some (ybt x, σ) := by
  have q := ybc7 ⟨x.toNat, by omega⟩
  have e1 : ((x.toNat : Nat) : Int) = x := by omega
  simp only [e1, f_J6_bitCount_0f7a4, Option.map_some, Option.some.injEq] at q
  simp only [f_J6_bitCount_0f7a4, q]
theorem ykb : ∀ S : Fin 4, ybt ((S.val : Nat) : Int) = yad (yan (ysr ((S.val : Nat) : Int) 0) 1) (yan (ysr ((S.val : Nat) : Int) 1) 1) := by decide +kernel
theorem p_cdone {N n m : Nat} {σ τ : yS} {w x3 x4 : Int} (H : yRR σ τ) : ∀ (j i : Nat) (o : Int), i + j = 35 → ∃ D : Int, f_X4_allDone_b4 N (n + j + 1) σ 17 o i = some (D, σ) ∧ f_X8_count_b10 N (m + j + 1) τ w o x3 x4 i = f_X8_count_b39 N N τ w D x3 x4 0
  | 0, i, o, h => by
    have e : i = 35 := by omega
    subst e
    refine ⟨o, ?_, ?_⟩
    · rw [q_X4_allDone_b4]
      simp [ycP_ge]
    · rw [q_X8_count_b10]
      simp [ycP_ge]
  | j + 1, i, o, h => by
    have e3 : yad (i : Int) 1 = ((i + 1 : Nat) : Int) := by rw [yad_e (by omega) (by omega)]; omega
    have e4 : yad 42 (i : Int) = ((42 + i : Nat) : Int) := by rw [yad_e (by omega) (by omega)]; omega
    have i4 : yin ((42 + i : Nat) : Int) 393 = true := by rw [yin_d]; exact decide_eq_true (by omega)
    have i5 : yin (i : Int) 35 = true := by rw [yin_d]; exact decide_eq_true (by omega)
    have t2 : σ.1 (17 + 7) i = τ.1 1 (42 + i) := H.1.2.2.2.1.2.1 i (by omega)
    obtain ⟨D, g7, g8⟩ := p_cdone (N := N) (n := n) (m := m) (w := w) (x3 := x3) (x4 := x4) H j (i + 1) (yad o (τ.1 1 (42 + i))) (by omega)
    refine ⟨D, ?_, ?_⟩
    · rw [show n + (j + 1) + 1 = (n + j + 1) + 1 by omega, q_X4_allDone_b4]
      simp only [ycP_ge, decide_eq_false (show ¬ (35 : Int) ≤ (i : Int) by omega), cond_false, i5, cond_true, Int.toNat_natCast, t2, e3, g7]
    · rw [show m + (j + 1) + 1 = (m + j + 1) + 1 by omega, q_X8_count_b10]
      simp only [ycP_ge, decide_eq_false (show ¬ (35 : Int) ≤ (i : Int) by omega), cond_false, e4, i4, cond_true, Int.toNat_natCast, e3, g8]
theorem p_cpurse {N n m H3 : Nat} {σ τ : yS} {w x2 x4 : Int} (h7 : H3 ≤ 7) (h3 : τ.1 0 3 = (H3 : Int)) (H : yRR σ τ) : ∀ (j i : Nat) (o : Int), i + j = H3 → ∃ D : Int, f_X4_allPurses_b4 N (n + j + 1) σ 17 o i = some (D, σ) ∧ f_X8_count_b39 N (m + j + 1) τ w x2 o x4 i = f_X8_count_b69 N N τ w x2 D x4 0
  | 0, i, o, h => by
    have e : i = H3 := by omega
    subst e
    have e0 : σ.1 17 0 = τ.1 0 3 := H.1.2.2.1.1
    refine ⟨o, ?_, ?_⟩
    · rw [q_X4_allPurses_b4, e0, h3]
      simp [ycP_ge]
    · rw [q_X8_count_b39, h3]
      simp [ycP_ge]
  | j + 1, i, o, h => by
    have e0 : σ.1 17 0 = τ.1 0 3 := H.1.2.2.1.1
    have e3 : yad (i : Int) 1 = ((i + 1 : Nat) : Int) := by rw [yad_e (by omega) (by omega)]; omega
    have e4 : yad 0 (i : Int) = (i : Int) := by rw [yad_e (by omega) (by omega)]; omega
    have i4 : yin (i : Int) 393 = true := by rw [yin_d]; exact decide_eq_true (by omega)
    have i5 : yin (i : Int) 7 = true := by rw [yin_d]; exact decide_eq_true (by omega)
    have t2 : σ.1 (17 + 2) i = τ.1 1 i := (H.1.2.2.2.1.1 i (by omega)).1
    obtain ⟨D, g7, g8⟩ := p_cpurse (N := N) (n := n) (m := m) (w := w) (x2 := x2) (x4 := x4) h7 h3 H j (i + 1) (yad o (τ.1 1 i)) (by omega)
    refine ⟨D, ?_, ?_⟩
    · rw [show n + (j + 1) + 1 = (n + j + 1) + 1 by omega, q_X4_allPurses_b4, e0, h3]
      simp only [ycP_ge, decide_eq_false (show ¬ (H3 : Int) ≤ (i : Int) by omega), cond_false, i5, cond_true, Int.toNat_natCast, t2, e3, g7]
    · rw [show m + (j + 1) + 1 = (m + j + 1) + 1 by omega, q_X8_count_b39, h3]
      simp only [ycP_ge, decide_eq_false (show ¬ (H3 : Int) ≤ (i : Int) by omega), cond_false, e4, i4, cond_true, Int.toNat_natCast, e3, g8]
theorem p_cever {N n m S : Nat} {σ τ : yS} {w x2 x3 : Int} (hS : τ.1 1 77 = (S : Int)) (h10 : S ≤ 10) (H : yRR σ τ) : ∀ (j i : Nat) (o : Int), i + j = S → (0 ≤ o ∧ o ≤ i) → ∃ D : Int, f_X5_manyForEver_b4 N (n + j + 1) σ (σ.2 17 11) o i = some (D, σ) ∧ f_X8_count_b69 N (m + j + 1) τ w x2 x3 o i = f_X8_count_b69 N (m + 1) τ w x2 x3 D S
  | 0, i, o, h, ho => by
    have e : i = S := by omega
    subst e
    have t3 : σ.1 (σ.2 17 11) 0 = τ.1 1 77 := H.1.2.2.2.1.2.2.1.1
    refine ⟨o, ?_, rfl⟩
    rw [q_X5_manyForEver_b4, t3, hS]
    simp [ycP_ge]
  | j + 1, i, o, h, ho => by
    have t3 : σ.1 (σ.2 17 11) 0 = τ.1 1 77 := H.1.2.2.2.1.2.2.1.1
    have t4 : σ.1 (σ.2 17 11 + 3) i = τ.1 1 (80 + 4 * i) := (H.1.2.2.2.1.2.2.1.2 i (by show (i : Int) < τ.1 1 77; omega)).2.2.1
    have e3 : yad (i : Int) 1 = ((i + 1 : Nat) : Int) := by rw [yad_e (by omega) (by omega)]; omega
    have e4 : yad (yad 78 (ymu 4 (i : Int))) 2 = ((80 + 4 * i : Nat) : Int) := by
      rw [ymu_e (by omega) (by omega), yad_e (a := 78) (by omega) (by omega), yad_e (by omega) (by omega)]; omega
    have i4 : yin ((80 + 4 * i : Nat) : Int) 393 = true := by rw [yin_d]; exact decide_eq_true (by omega)
    have i5 : yin (i : Int) 10 = true := by rw [yin_d]; exact decide_eq_true (by omega)
    by_cases h9 : τ.1 1 (80 + 4 * i) = 9
    · have eo : yad o 1 = o + 1 := yad_e (by omega) (by omega)
      obtain ⟨D, g7, g8⟩ := p_cever (N := N) (n := n) (m := m) (w := w) (x2 := x2) (x3 := x3) hS h10 H j (i + 1) (o + 1) (by omega) (by omega)
      refine ⟨D, ?_, ?_⟩
      · rw [show n + (j + 1) + 1 = (n + j + 1) + 1 by omega, q_X5_manyForEver_b4, t3, hS]
        simp only [ycP_ge, ycP_ne, decide_eq_false (show ¬ (S : Int) ≤ (i : Int) by omega), cond_false, i5, cond_true, Int.toNat_natCast, t4, h9, not_true_eq_false, decide_false, f_X5_manyForEver_b26, eo, e3, g7]
      · rw [show m + (j + 1) + 1 = (m + j + 1) + 1 by omega, q_X8_count_b69, hS]
        simp only [ycP_ge, ycP_ne, decide_eq_false (show ¬ (S : Int) ≤ (i : Int) by omega), cond_false, e4, i4, cond_true, Int.toNat_natCast, h9, not_true_eq_false, decide_false, f_X8_count_b107, x8_flag (show (0 : Int) ≤ 1 ∧ (1 : Int) ≤ 1 by omega), eo, e3, g8]
    · have eo : yad o 0 = o := by rw [yad_e (by omega) (by omega)]; omega
      obtain ⟨D, g7, g8⟩ := p_cever (N := N) (n := n) (m := m) (w := w) (x2 := x2) (x3 := x3) hS h10 H j (i + 1) o (by omega) (by omega)
      refine ⟨D, ?_, ?_⟩
      · rw [show n + (j + 1) + 1 = (n + j + 1) + 1 by omega, q_X5_manyForEver_b4, t3, hS]
        simp only [ycP_ge, ycP_ne, decide_eq_false (show ¬ (S : Int) ≤ (i : Int) by omega), cond_false, i5, cond_true, Int.toNat_natCast, t4, h9, not_false_eq_true, decide_true, f_X5_manyForEver_b26, e3, g7]
      · rw [show m + (j + 1) + 1 = (m + j + 1) + 1 by omega, q_X8_count_b69, hS]
        simp only [ycP_ge, ycP_ne, decide_eq_false (show ¬ (S : Int) ≤ (i : Int) by omega), cond_false, e4, i4, cond_true, Int.toNat_natCast, h9, not_false_eq_true, decide_true, f_X8_count_b107, x8_flag (show (0 : Int) ≤ 0 ∧ (0 : Int) ≤ 1 by omega), eo, e3, g8]
theorem P_count {N : Nat} (hN : 132 ≤ N) {σ τ : yS} {w : Int} (H : yRR σ τ) : ∃ (a : Int) (σ' τ' : yS), f_X7_count N σ w = some (a, σ') ∧ f_X8_count N τ w = some (a, τ') ∧ yRR σ' τ' := by
  obtain ⟨e0, e1, e2, b0, b1, b2, hc⟩ := H.1.2.2.1
  obtain ⟨H3, h3⟩ : ∃ m : Nat, τ.1 0 3 = (m : Int) := ⟨(τ.1 0 3).toNat, by omega⟩
  have g2 : 0 ≤ τ.1 1 77 ∧ τ.1 1 77 ≤ 10 := H.1.2.2.2.2.2.2.1
  obtain ⟨S, hS⟩ : ∃ m : Nat, τ.1 1 77 = (m : Int) := ⟨(τ.1 1 77).toNat, by omega⟩
  obtain ⟨D, d7, d8⟩ := p_cdone (N := N) (n := N - 36) (m := N - 36) (w := w) (x3 := 0) (x4 := 0) H 35 0 0 (by omega)
  obtain ⟨Pu, p7, p8⟩ := p_cpurse (N := N) (n := N - H3 - 1) (m := N - H3 - 1) (w := w) (x2 := D) (x4 := 0) (show H3 ≤ 7 by omega) h3 H H3 0 0 (by omega)
  obtain ⟨E, v7, v8⟩ := p_cever (N := N) (n := N - S - 1) (m := N - S - 1) (w := w) (x2 := D) (x3 := Pu) hS (by omega) H S 0 0 (by omega) (by omega)
  rw [show N - 36 + 35 + 1 = N by omega, show ((0 : Nat) : Int) = 0 from rfl] at d7 d8
  rw [show N - H3 - 1 + H3 + 1 = N by omega, show ((0 : Nat) : Int) = 0 from rfl] at p7 p8
  rw [show N - S - 1 + S + 1 = N by omega, show ((0 : Nat) : Int) = 0 from rfl] at v7 v8
  have c8 : f_X8_count N τ w = f_X8_count_b69 N (N - S - 1 + 1) τ w D Pu E S := d8.trans (p8.trans v8)
  have lw := x8_law (N := N) (by omega) H
  have g0 : 0 ≤ σ.1 17 6 ∧ σ.1 17 6 < 128 := H.1.2.2.2.2.1
  have kb := H.2.2.1
  have k0 : 0 ≤ τ.1 3 0 ∧ τ.1 3 0 ≤ 1 := (H.2.2.2.1 0 (by omega)).2.2.1
  have k1 : 0 ≤ τ.1 3 1 ∧ τ.1 3 1 ≤ 1 := (H.2.2.2.1 1 (by omega)).2.2.1
  have r0 : yan (ysr (σ.1 0 7) 0) 1 = τ.1 3 0 := (H.2.2.2.1 0 (by omega)).2.2.2.1
  have r1 : yan (ysr (σ.1 0 7) 1) 1 = τ.1 3 1 := (H.2.2.2.1 1 (by omega)).2.2.2.1
  have r2 : ybt (σ.1 0 7) = yad (τ.1 3 0) (τ.1 3 1) := by
    have q := ykb ⟨(σ.1 0 7).toNat, by omega⟩
    simp only [show (((σ.1 0 7).toNat : Nat) : Int) = σ.1 0 7 by omega] at q
    rw [q, r0, r1]
  have tp : σ.1 3 0 = τ.1 0 17 := H.1.1.2.2.1
  obtain ⟨i1, sh⟩ := H.2.2.2.2.2.1 0 (by omega)
  rw [c8, q_X8_count_b69, hS]
  simp only [f_X7_count, f_X7_count_b113, f_X8_count_b223, f_X4_allDone, f_X4_allPurses, f_X5_manyForEver, x2_isNothing, yeq_d, ycP_ge, ycP_eq, ycP_ne, decide_eq_true (Int.le_refl (S : Int)), cond_true, d7, p7, v7, lw, x8_bits (show 8 ≤ N by omega), x8_flag k0, x8_flag k1, i1, x7_bits7 g0, x7_bits7 (show 0 ≤ σ.1 0 7 ∧ σ.1 0 7 < 128 by omega), r2, tp]
  by_cases h0 : w = 0
  · exact ⟨D, σ, τ, by simp [h0], by simp [h0], H⟩
  by_cases h1 : w = 1
  · exact ⟨Pu, σ, τ, by simp [h1], by simp [h1], H⟩
  by_cases h2 : w = 2
  · exact ⟨ybt (σ.1 17 6), σ, τ, by simp [h2], by simp [h2], H⟩
  by_cases h3 : w = 3
  · exact ⟨yad (τ.1 3 0) (τ.1 3 1), σ, τ, by simp [h3], by simp [h3], H⟩
  by_cases h4 : w = 4
  · exact ⟨τ.1 0 17, σ, τ, by simp [h4], by simp [h4], H⟩
  by_cases h5 : w = 5
  · rcases sh with ⟨s1, s2⟩ | ⟨s1, s2, s3, s4, s5⟩
    · exact ⟨-4, σ, τ, by simp [h5, s1], by simp [h5, s2], H⟩
    · exact ⟨τ.1 13 0, σ, τ, by simp [h5, s1, s3, show ¬ τ.1 12 0 = -1 by omega], by simp [h5, show ¬ τ.1 12 0 = -4 by omega], H⟩
  by_cases h6 : w = 6
  · exact ⟨E, σ, τ, by simp [h6], by simp [h6], H⟩
  · exact ⟨-1, σ, τ, by simp [h0, h1, h2, h3, h4, h5, h6], by simp [h0, h1, h2, h3, h4, h5, h6], H⟩
