theorem yadL_e {a b : Int} (h1 : -9223372036854775808 ≤ a + b) (h2 : a + b ≤ 9223372036854775807) : yadL a b = a + b := by
  unfold yadL
  rw [← Int64.ofInt_add, zq_ofL h1 h2]
theorem yRR_torn {σ τ : yS} {x y : Int} (H : yRR σ τ) : yRR (yw σ 0 8 x) (yw τ 0 32 y) :=
  yRR_scr H (fun a b _ => rfl) H.2.2.2.2.2.2 (fun a b h => yw_n (by omega)) (fun a b _ _ _ _ h => yw_n (by omega))
theorem yad_w {f x : Int} (hf : yI f) (hx : 0 ≤ x ∧ x ≤ 100) : yad f x = f + x ∨ (2147483647 < f + x ∧ yad f x < 0) := by
  obtain ⟨h1, h2⟩ := hf
  by_cases q : f + x ≤ 2147483647
  · exact Or.inl (yad_e (by omega) q)
  · have e : yad f x = f + x - 4294967296 := by
      unfold yad
      rw [zq_addW, ← (zq_per (f + x)).2, zq_of (by omega) (by omega)]
    omega
/-- the reference's four cells of a vow -/
theorem x8_rdin {N k n i : Nat} {l f many w S : Int} {τ : yS} (hk : k < 4) (hl : 0 ≤ l ∧ l ≤ 2) (h12 : τ.1 12 k = l) (h13 : τ.1 13 k = S) (hf : yI f) (hi : i ≤ 10) (k41 : yS → Int → Int → Int → Int → Int → Int → Int → Int → Option (Int × yS)) : ∀ j m c : Nat, c + j = 4 → f_X8_read_b56 N k41 (m + j + 2) τ k l f n many 0 w i c = f_X8_read_b143 N k41 τ k l f n many (if c = 4 ∨ (0 ≤ f + 4 * i + c ∧ f + 4 * i + 3 < S) then 0 else 2) w i
  | 0, m, c, hc => by
    have e : c = 4 := by omega
    subst e
    rw [show m + 0 + 2 = (m + 1) + 1 by omega, q_X8_read_b56]
    simp [ycP_ge]
  | j + 1, m, c, hc => by
    obtain ⟨f1, f2⟩ := hf
    have e1 : ymu 4 (i : Int) = 4 * (i : Int) := ymu_e (by omega) (by omega)
    have e2 : yadL (yadL f (4 * (i : Int))) (c : Int) = f + 4 * i + c := by
      rw [yadL_e (a := f) (by omega) (by omega), yadL_e (by omega) (by omega)]
    have e3 : yad (c : Int) 1 = ((c + 1 : Nat) : Int) := by rw [yad_e (by omega) (by omega)]; omega
    have ik : yin (k : Int) 4 = true := by rw [yin_d]; exact decide_eq_true (by omega)
    have n4 : ¬ l = -4 := by omega
    have out : ∀ d : Int, f_X8_read_b56 N k41 (m + j + 2) τ k l f n many 2 w i d = f_X8_read_b143 N k41 τ k l f n many 2 w i := fun d => by
      rw [show m + j + 2 = (m + j + 1) + 1 by omega, q_X8_read_b56]
      simp [ycP_ge, ycP_ne]
    rw [show m + (j + 1) + 2 = (m + j + 2) + 1 by omega, q_X8_read_b56]
    simp only [ycP_ge, ycP_ne, ycP_eq, ycP_lt, Int.toNat_natCast, h12, h13, e1, e2, e3, ik, decide_eq_false (show ¬ (4 : Int) ≤ (c : Int) by omega), cond_false, cond_true, decide_true, n4, not_false_eq_true, not_true_eq_false, decide_false, f_X8_read_b130, f_X8_read_b135, out]
    by_cases h0 : f + 4 * (i : Int) + c < 0
    · rw [decide_eq_true h0, if_neg (by omega)]
      rfl
    · rw [decide_eq_false h0]
      by_cases hS : f + 4 * (i : Int) + c < S
      · rw [decide_eq_true hS]
        simp only [cond_false, cond_true]
        rw [x8_rdin hk hl h12 h13 ⟨f1, f2⟩ hi k41 j m (c + 1) (by omega)]
        by_cases hq : c = 4 ∨ (0 ≤ f + 4 * (i : Int) + c ∧ f + 4 * (i : Int) + 3 < S)
        · rw [if_pos hq, if_pos (by omega)]
        · rw [if_neg hq, if_neg (by omega)]
      · rw [decide_eq_false hS, if_neg (by omega)]
        rfl
theorem p_read_l {N : Nat} (hN : 132 ≤ N) {k n : Nat} {l f many : Int} (hk : k < 4) (hn : n ≤ 10) (hl : 0 ≤ l ∧ l ≤ 2) (hf : yI f) (hm : 0 ≤ many) : ∀ (c m q i : Nat) (σ τ : yS), i + c = n → yRR σ τ → τ.1 12 k = l → many ≤ τ.1 1 77 → ∃ (a : Int) (σ' τ' : yS), f_X7_read_b61 N (m + c + 1) σ f n (9 + 2 * k) many 0 i i = some (a, σ') ∧ f_X8_read_b41 N (q + c + 1) τ k l f n many 0 i i = some (a, τ') ∧ yRR σ' τ'
  | 0, m, q, i, σ, τ, hi, H, h12, h77 => by
    have e : i = n := by omega
    subst e
    refine ⟨(i : Int), _, _, ?_, ?_, yRR_torn (x := 0) (y := 0) H⟩
    · rw [q_X7_read_b61]
      simp [ycP_ge, f_X7_read_b137]
    · rw [q_X8_read_b41]
      simp [ycP_ge, f_X8_read_b226]
  | c + 1, m, q, i, σ, τ, hi, H, h12, h77 => by
    have e1 : ymu 4 (i : Int) = 4 * (i : Int) := ymu_e (by omega) (by omega)
    have e3 : yad (i : Int) 1 = ((i + 1 : Nat) : Int) := by rw [yad_e (by omega) (by omega)]; omega
    obtain ⟨i1, S⟩ := H.2.2.2.2.2.1 k hk
    have S2 : σ.1 (9 + 2 * k) 0 = τ.1 12 k ∧ σ.1 (9 + 2 * k) 1 = τ.1 13 k ∧ (0 ≤ τ.1 13 k ∧ τ.1 13 k ≤ 40) ∧ ∀ i : Nat, i < 40 → σ.1 (10 + 2 * k) i = τ.1 14 (40 * k + i) := by
      rcases S with ⟨s1, s2⟩ | ⟨s1, s2, s3, s4, s5⟩
      · omega
      · exact ⟨s1, s3, s4, s5⟩
    obtain ⟨s1, s3, s4, s5⟩ := S2
    have nn : ¬ l = -1 := by omega
    have es : ysu (τ.1 13 k) 4 = τ.1 13 k - 4 := ysu_e (by omega) (by omega)
    have rd := x8_rdin (N := N) (k := k) (n := n) (i := i) (l := l) (f := f) (many := many) (w := (i : Int)) (S := τ.1 13 k) (τ := τ) hk hl h12 rfl hf (by omega) (f_X8_read_b41 N (q + c + 1)) 4 (N - 6) 0 (by omega)
    rw [show N - 6 + 4 + 2 = N by omega] at rd
    have hw := yad_w (f := f) (x := 4 * (i : Int)) hf (by omega)
    by_cases ok : 0 ≤ f + 4 * (i : Int) ∧ f + 4 * (i : Int) ≤ τ.1 13 k - 4
    · have ea : yad f (4 * (i : Int)) = f + 4 * i := by omega
      obtain ⟨F, hF⟩ : ∃ F : Nat, f + 4 * (i : Int) = (F : Int) := ⟨(f + 4 * (i : Int)).toNat, by omega⟩
      rw [hF] at ea ok
      have f36 : F ≤ 36 := by omega
      rw [if_pos (by omega)] at rd
      have j0 : yin (F : Int) 40 = true := by rw [yin_d]; exact decide_eq_true (by omega)
      have a1 : yad (F : Int) 1 = ((F + 1 : Nat) : Int) := by rw [yad_e (by omega) (by omega)]; omega
      have a2 : yad (F : Int) 2 = ((F + 2 : Nat) : Int) := by rw [yad_e (by omega) (by omega)]; omega
      have a3 : yad (F : Int) 3 = ((F + 3 : Nat) : Int) := by rw [yad_e (by omega) (by omega)]; omega
      have j1 : yin ((F + 1 : Nat) : Int) 40 = true := by rw [yin_d]; exact decide_eq_true (by omega)
      have j2 : yin ((F + 2 : Nat) : Int) 40 = true := by rw [yin_d]; exact decide_eq_true (by omega)
      have j3 : yin ((F + 3 : Nat) : Int) 40 = true := by rw [yin_d]; exact decide_eq_true (by omega)
      have b0 : yad (yad (ymu 40 (k : Int)) f) (4 * (i : Int)) = ((40 * k + F : Nat) : Int) := by
        rw [ymu_e (by omega) (by omega), yad_e (a := 40 * (k : Int)) (by omega) (by omega), yad_e (by omega) (by omega)]; omega
      have b1 : yad ((40 * k + F : Nat) : Int) 1 = ((40 * k + (F + 1) : Nat) : Int) := by rw [yad_e (by omega) (by omega)]; omega
      have b2 : yad ((40 * k + F : Nat) : Int) 2 = ((40 * k + (F + 2) : Nat) : Int) := by rw [yad_e (by omega) (by omega)]; omega
      have b3 : yad ((40 * k + F : Nat) : Int) 3 = ((40 * k + (F + 3) : Nat) : Int) := by rw [yad_e (by omega) (by omega)]; omega
      have y0 : yin ((40 * k + F : Nat) : Int) 160 = true := by rw [yin_d]; exact decide_eq_true (by omega)
      have y1 : yin ((40 * k + (F + 1) : Nat) : Int) 160 = true := by rw [yin_d]; exact decide_eq_true (by omega)
      have y2 : yin ((40 * k + (F + 2) : Nat) : Int) 160 = true := by rw [yin_d]; exact decide_eq_true (by omega)
      have y3 : yin ((40 * k + (F + 3) : Nat) : Int) 160 = true := by rw [yin_d]; exact decide_eq_true (by omega)
      have c0 := s5 F (by omega)
      have c1 := s5 (F + 1) (by omega)
      have c2 := s5 (F + 2) (by omega)
      have c3 := s5 (F + 3) (by omega)
      rw [show 10 + 2 * k = 9 + 2 * k + 1 by omega] at c0 c1 c2 c3
      obtain ⟨a, σ1, τ1, v7, v8, K1, fs, fo, le⟩ := p_vows (N := N) (h := τ.1 14 (40 * k + F)) (k := τ.1 14 (40 * k + (F + 1))) (p := τ.1 14 (40 * k + (F + 2))) (d := τ.1 14 (40 * k + (F + 3))) H.1
      have H1 : yRR σ1 τ1 := yRR_s H K1 fs fo
      have hin : decide (0 ≤ (F : Int) ∧ (F : Int) ≤ τ.1 13 k - 4) = true := decide_eq_true ok
      by_cases ha : 0 ≤ a
      · obtain ⟨z, σ2, τ2, g7, g8, K2⟩ := p_read_l hN hk hn hl hf hm c m q (i + 1) σ1 τ1 (by omega) H1 (by rw [fo 12 k (by omega) (by omega) (by omega)]; exact h12) (by omega)
        refine ⟨z, σ2, τ2, ?_, ?_, K2⟩
        · rw [show m + (c + 1) + 1 = (m + c + 1) + 1 by omega, q_X7_read_b61]
          simp only [ycP_ge, ycP_ne, ycP_eq, decide_eq_false (show ¬ (n : Int) ≤ (i : Int) by omega), cond_false, cond_true, decide_true, decide_false, not_true_eq_false, not_false_eq_true, f_X2_faultOfCells, f_X2_faultOfCells_b28, x2_isNothing, s1, h12, nn, if_false, s3, es, x7_within, e1, ea, if_pos ok, show ¬ (1 : Int) = 0 by omega, f_X7_vowFromCells, j0, j1, j2, j3, a1, a2, a3, Int.toNat_natCast, c0, c1, c2, c3, v7, decide_eq_true ha, f_X7_read_b131, e3, g7]
        · rw [show q + (c + 1) + 1 = (q + c + 1) + 1 by omega, q_X8_read_b41]
          simp only [ycP_ge, ycP_ne, decide_eq_false (show ¬ (n : Int) ≤ (i : Int) by omega), cond_false, decide_false, not_true_eq_false]
          refine rd.trans ?_
          simp only [f_X8_read_b143, f_X8_read_b220, ycP_ge, ycP_ne, decide_false, not_true_eq_false, cond_false, cond_true, e1, b0, b1, b2, b3, y0, y1, y2, y3, Int.toNat_natCast, v8, decide_eq_true ha, e3, g8]
      · have b77 : τ1.1 1 77 ≤ 10 := H1.1.2.2.2.2.2.2.1.2
        have hd : 0 ≤ many ∧ many ≤ τ1.1 1 77 := by omega
        have t7 := H1.1.2.2.2.1.2.2.2.2.2
        refine ⟨ysu (-20) (i : Int), yw σ1 (σ1.2 17 11) 0 many, yw τ1 1 77 many, ?_, ?_, yRR_s H1 (yRN_dropv H1.1 hd) (yFs_w yFs_r (by omega)) (yFo_w yFo_r (by omega))⟩
        · rw [show m + (c + 1) + 1 = (m + c + 1) + 1 by omega, q_X7_read_b61]
          simp only [ycP_ge, ycP_ne, ycP_eq, decide_eq_false (show ¬ (n : Int) ≤ (i : Int) by omega), cond_false, cond_true, decide_true, decide_false, not_true_eq_false, not_false_eq_true, f_X2_faultOfCells, f_X2_faultOfCells_b28, x2_isNothing, s1, h12, nn, if_false, s3, es, x7_within, e1, ea, if_pos ok, show ¬ (1 : Int) = 0 by omega, f_X7_vowFromCells, j0, j1, j2, j3, a1, a2, a3, Int.toNat_natCast, c0, c1, c2, c3, v7, decide_eq_false ha]
        · rw [show q + (c + 1) + 1 = (q + c + 1) + 1 by omega, q_X8_read_b41]
          simp only [ycP_ge, ycP_ne, decide_eq_false (show ¬ (n : Int) ≤ (i : Int) by omega), cond_false, decide_false, not_true_eq_false]
          refine rd.trans ?_
          simp only [f_X8_read_b143, f_X8_read_b220, ycP_ge, ycP_ne, decide_false, not_true_eq_false, cond_false, cond_true, e1, b0, b1, b2, b3, y0, y1, y2, y3, Int.toNat_natCast, v8, decide_eq_false ha]
    · rw [if_neg (by omega)] at rd
      have nok : ¬ (0 ≤ yad f (4 * (i : Int)) ∧ yad f (4 * (i : Int)) ≤ τ.1 13 k - 4) := by omega
      refine ⟨(i : Int), _, _, ?_, ?_, yRR_torn (x := 2) (y := 2) H⟩
      · rw [show m + (c + 1) + 1 = (m + c + 1) + 1 by omega, q_X7_read_b61]
        simp only [ycP_ge, ycP_ne, ycP_eq, decide_eq_false (show ¬ (n : Int) ≤ (i : Int) by omega), cond_false, cond_true, decide_true, decide_false, not_true_eq_false, not_false_eq_true, f_X2_faultOfCells, f_X2_faultOfCells_b28, x2_isNothing, s1, h12, nn, if_false, s3, es, x7_within, e1, if_neg nok, show ¬ (2 : Int) = 0 by omega, f_X7_read_b131]
        rw [q_X7_read_b61]
        simp [ycP_ge, ycP_ne, f_X7_read_b137]
      · rw [show q + (c + 1) + 1 = (q + c + 1) + 1 by omega, q_X8_read_b41]
        simp only [ycP_ge, ycP_ne, decide_eq_false (show ¬ (n : Int) ≤ (i : Int) by omega), cond_false, decide_false, not_true_eq_false]
        refine rd.trans ?_
        simp only [f_X8_read_b143, f_X8_read_b220, ycP_ne, show ¬ (2 : Int) = 0 by omega, not_false_eq_true, decide_true, cond_true]
        rw [q_X8_read_b41]
        simp [ycP_ge, ycP_ne, f_X8_read_b226]
