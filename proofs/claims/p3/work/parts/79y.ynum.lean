/-- a token is read and good, or a fault is found -/
def yE (σ τ : yS) : Prop := (yLx σ τ ∧ yTk σ τ) ∨ (yBd σ τ ∧ yTp σ τ)
/-- a fault told on both sides -/
theorem p_fail {N : Nat} {σ τ : yS} {k : Int} (H : yLx σ τ ∧ yTk σ τ) (hk : 0 < k) : f_X1_complain N σ k (σ.1 2 3) = some (0, yw (yw σ 2 4 k) 2 5 (σ.1 2 3)) ∧ f_X8_needs N τ 0 k = some (0, yw (yw τ 0 22 k) 0 23 (τ.1 0 19)) ∧ yE (yw (yw σ 2 4 k) 2 5 (σ.1 2 3)) (yw (yw τ 0 22 k) 0 23 (τ.1 0 19)) := by
  obtain ⟨⟨T, f7, f8, hap, hp0, hp1⟩, ⟨b, t, s0, -⟩⟩ := H
  have l160 := T.2.1
  have t17 := T.2.2.1
  refine ⟨?_, ?_, Or.inr ⟨⟨?_, ?_, ?_, ?_, ?_, ?_, ?_⟩, yTp_k (yK7_w (yK7_w yK7_r (by omega)) (by omega)) (yK8_w (yK8_w yK8_r (by omega)) (by omega)) T⟩⟩
  · simp only [f_X1_complain, f_X1_complain_b17, ycP_ne, f7, not_true_eq_false, decide_false, cond_false]
  · simp only [f_X8_needs, f_X8_needs_b18, f_X8_needs_b24, ycP_ne, f8, not_true_eq_false, decide_false, cond_false]
    rw [yw_n (a := 0) (b := 19) (by omega)]
  · rw [yw_n (by omega), yw_p, yw_n (by omega), yw_p]
  · rw [yw_n (by omega), yw_p]; exact hk
  · rw [yw_p, yw_p]; exact b
  · rw [yw_p]; omega
  · rw [yw_p]; omega
  · rw [yw_n (by omega), yw_n (by omega), yw_n (by omega), yw_n (by omega), yw_n (by omega), yw_n (by omega)]; omega
  · rw [yw_n (by omega), yw_n (by omega)]; omega
theorem x1_cbad {N : Nat} {σ : yS} {k p : Int} (h : ¬ σ.1 2 4 = 0) : f_X1_complain N σ k p = some (0, σ) := by
  simp only [f_X1_complain, f_X1_complain_b17, ycP_ne, decide_eq_true h, cond_true]
theorem x8_nbad {N : Nat} {τ : yS} {g k : Int} (h : ¬ τ.1 0 22 = 0) : f_X8_needs N τ g k = some (0, τ) := by
  simp only [f_X8_needs, f_X8_needs_b24, ycP_ne]
  by_cases q : g = 0
  · simp only [q, not_true_eq_false, decide_false, cond_false, decide_eq_true h, cond_true]
  · simp only [decide_eq_true q, cond_true]
theorem x8_ngood {N : Nat} {τ : yS} {k : Int} : f_X8_needs N τ 1 k = some (0, τ) := by
  unfold f_X8_needs
  rw [ycP_ne, decide_eq_true (show ¬ (1 : Int) = 0 by decide), cond_true]
  rfl
/-- a token more -/
theorem p_next {N : Nat} (hN : 400 ≤ N) {σ τ : yS} (H : yE σ τ) : ∃ (σ' τ' : yS), f_X1_readToken N σ = some (0, σ') ∧ f_X8_next N τ = some (0, τ') ∧ yE σ' τ' ∧ yK7 σ σ' ∧ yK8 τ τ' ∧ σ.1 2 1 ≤ σ'.1 2 1 ∧ (σ'.1 2 4 = 0 → σ.1 2 4 = 0) ∧ (σ'.1 2 4 = 0 → ¬ σ'.1 2 2 = 0 → σ.1 2 1 < σ'.1 2 1) ∧ (¬ σ.1 2 4 = 0 → σ' = σ ∧ τ' = τ) := by
  rcases H with ⟨L, K⟩ | ⟨B, T⟩
  · obtain ⟨σ', τ', g7, g8, k7, k8, mo, h⟩ := p_token (N := N) hN L
    refine ⟨σ', τ', g7, g8, ?_, k7, k8, mo, fun _ => L.2.1, fun z => ?_, fun z => absurd L.2.1 z⟩
    · rcases h with ⟨h1, h2, -⟩ | h1
      · exact Or.inl ⟨h1, h2⟩
      · exact Or.inr ⟨h1, yTp_k k7 k8 L.1⟩
    · rcases h with ⟨-, -, h3⟩ | h1
      · exact h3
      · exfalso
        have := h1.1
        have := h1.2.1
        omega
  · have b1 := B.1
    have b2 := B.2.1
    refine ⟨σ, τ, ?_, ?_, Or.inr ⟨B, T⟩, yK7_r, yK8_r, Int.le_refl _, fun z => z, fun z => by omega, fun _ => ⟨rfl, rfl⟩⟩
    · simp only [f_X1_readToken, ycP_eq, decide_eq_false (show ¬ σ.1 2 4 = 0 by omega), cond_false]
    · simp only [f_X8_next, ycP_le, decide_eq_false (show ¬ τ.1 0 22 ≤ 0 by omega), cond_false]
/-- the class's loop over figures, whatever they are -/
theorem x1_num_l {N : Nat} {σ : yS} {lo hi : Int} {A : Nat} (hA : σ.1 2 1 = (A : Int)) (h160 : A ≤ 160) : ∀ (c m i : Nat) (v : Int), i + c = A → ∃ v' : Int, f_X1_numberHere_b27 N (m + c + 1) σ lo hi v i = (match f_X7_within N σ v' lo hi with
      | none => none
      | some r1 => bif ycP .ne r1.1 0 then
          f_X1_numberHere_b79 N r1.2 lo v'
        else
          match f_X1_complain N r1.2 3 (r1.2.1 2 3) with
          | none => none
          | some r2 => f_X1_numberHere_b79 N r2.2 lo v')
  | 0, m, i, v, he => by
    refine ⟨v, ?_⟩
    rw [q_X1_numberHere_b27, hA, ycP_ge, decide_eq_true (show (A : Int) ≤ (i : Int) by omega)]
    rfl
  | c + 1, m, i, v, he => by
    have e1 : yad (i : Int) 1 = ((i + 1 : Nat) : Int) := by rw [yad_e (by omega) (by omega)]; omega
    have ii : yin (i : Int) 160 = true := by rw [yin_d]; exact decide_eq_true (by omega)
    obtain ⟨v', g⟩ := x1_num_l (N := N) (lo := lo) (hi := hi) hA h160 c m (i + 1) (ysu (yad (ymu 10 v) (σ.1 4 i)) 48) (by omega)
    refine ⟨v', ?_⟩
    rw [show m + (c + 1) + 1 = (m + c + 1) + 1 by omega, q_X1_numberHere_b27, hA, ycP_ge, decide_eq_false (show ¬ (A : Int) ≤ (i : Int) by omega), cond_false, ii, cond_true, Int.toNat_natCast, e1]
    exact g
/-- the number told, or a fault -/
theorem p_num {N : Nat} (hN : 400 ≤ N) {σ τ : yS} {lo hi : Int} (hl : 0 ≤ lo ∧ lo ≤ hi) (H : yE σ τ) : ∃ (a b : Int) (σ' τ' : yS), f_X1_numberHere N σ lo hi = some (a, σ') ∧ f_X8_looked N τ lo hi = some (b, τ') ∧ yE σ' τ' ∧ yK7 σ σ' ∧ yK8 τ τ' ∧ (lo ≤ a ∧ a ≤ hi) ∧ (b = 0 ∨ (lo ≤ b ∧ b ≤ hi)) ∧ (σ'.1 2 4 = 0 → a = b ∧ σ' = σ ∧ τ' = τ) ∧ σ'.1 2 1 = σ.1 2 1 ∧ (τ'.1 0 22 = σ'.1 2 4) ∧ (¬ σ.1 2 4 = 0 → σ' = σ ∧ τ' = τ) := by
  rcases H with ⟨L, K⟩ | ⟨B, T⟩
  · have HH : yLx σ τ ∧ yTk σ τ := ⟨L, K⟩
    obtain ⟨T, f7, f8, hap, hp0, hp1⟩ := L
    obtain ⟨b, t, s0, t0, tz, tn, tv⟩ := K
    have l160 := T.2.1
    have t17 := T.2.2.1
    have bad : ∀ k : Int, 0 < k → f_X1_numberHere N σ lo hi = some (lo, yw (yw σ 2 4 k) 2 5 (σ.1 2 3)) → f_X8_looked N τ lo hi = some (0, yw (yw τ 0 22 k) 0 23 (τ.1 0 19)) → ∃ (a b : Int) (σ' τ' : yS), f_X1_numberHere N σ lo hi = some (a, σ') ∧ f_X8_looked N τ lo hi = some (b, τ') ∧ yE σ' τ' ∧ yK7 σ σ' ∧ yK8 τ τ' ∧ (lo ≤ a ∧ a ≤ hi) ∧ (b = 0 ∨ (lo ≤ b ∧ b ≤ hi)) ∧ (σ'.1 2 4 = 0 → a = b ∧ σ' = σ ∧ τ' = τ) ∧ σ'.1 2 1 = σ.1 2 1 ∧ (τ'.1 0 22 = σ'.1 2 4) ∧ (¬ σ.1 2 4 = 0 → σ' = σ ∧ τ' = τ) := fun k hk g7 g8 => by
      refine ⟨lo, 0, _, _, g7, g8, (p_fail (N := N) HH hk).2.2, yK7_w (yK7_w yK7_r (by omega)) (by omega), yK8_w (yK8_w yK8_r (by omega)) (by omega), by omega, Or.inl rfl, fun z => ?_, ?_, ?_, ?_⟩
      · rw [yw_n (by omega), yw_p] at z
        omega
      · rw [yw_n (by omega), yw_n (by omega)]
      · rw [yw_n (by omega), yw_p, yw_n (by omega), yw_p]
      · exact fun z => absurd f7 z
    have lbad : ∀ k : Int, 0 < k → f_X8_looked_b49 N (yw (yw τ 0 22 k) 0 23 (τ.1 0 19)) = some (0, yw (yw τ 0 22 k) 0 23 (τ.1 0 19)) := fun k hk => by
      unfold f_X8_looked_b49
      rw [yw_n (by omega), yw_p, ycP_ne, decide_eq_true (show ¬ k = 0 by omega)]
      rfl
    by_cases h2 : τ.1 0 20 = 2
    · obtain ⟨s, hs, d0, hv⟩ := tv h2
      have q0 := T.2.2.2 s (by omega)
      have vv : ∃ v : Int, 0 ≤ v ∧ v ≤ 99 ∧ τ.1 0 21 = v ∧ f_X1_numberHere N σ lo hi = (match f_X7_within N σ v lo hi with
          | none => none
          | some r1 => bif ycP .ne r1.1 0 then
              f_X1_numberHere_b79 N r1.2 lo v
            else
              match f_X1_complain N r1.2 3 (r1.2.1 2 3) with
              | none => none
              | some r2 => f_X1_numberHere_b79 N r2.2 lo v) := by
        have z10 : ∀ x : Int, 48 ≤ x ∧ x ≤ 57 → ysu (yad (ymu 10 0) x) 48 = x - 48 := fun x hx => by
          rw [ymu_e (by omega) (by omega), yad_e (by omega) (by omega), ysu_e (by omega) (by omega)]
          omega
        obtain ⟨M, hM⟩ : ∃ M, N = M + 3 := ⟨N - 3, by omega⟩
        have is0 : yin (s : Int) 160 = true := by rw [yin_d]; exact decide_eq_true (by omega)
        have e1 : yad (s : Int) 1 = (s : Int) + 1 := yad_e (by omega) (by omega)
        have st : f_X1_numberHere N σ lo hi = f_X1_numberHere_b27 N (M + 2) σ lo hi (τ.1 8 s - 48) ((s : Int) + 1) := by
          unfold f_X1_numberHere
          rw [t, h2, ycP_eq, decide_eq_true rfl, cond_true, b, hs]
          have q := q_X1_numberHere_b27 N (M + 2) σ lo hi 0 (s : Int)
          rw [show M + 2 + 1 = N by omega, hap, ycP_ge, decide_eq_false (show ¬ τ.1 0 18 ≤ (s : Int) by omega), cond_false, is0, cond_true, Int.toNat_natCast, q0.1, z10 _ d0, e1] at q
          exact q
        rcases hv with ⟨h1, h3⟩ | ⟨h1, h4, h3⟩
        · refine ⟨τ.1 8 s - 48, by omega, by omega, h3, ?_⟩
          rw [st, show M + 2 = (M + 1) + 1 by omega, q_X1_numberHere_b27, hap, h1, ycP_ge, decide_eq_true (Int.le_refl _)]
          rfl
        · have q1 := T.2.2.2 (s + 1) (by omega)
          have is1 : yin ((s : Int) + 1) 160 = true := by rw [yin_d]; exact decide_eq_true (by omega)
          have ev : ysu (yad (ymu 10 (τ.1 8 s - 48)) (τ.1 8 (s + 1))) 48 = 10 * (τ.1 8 s - 48) + (τ.1 8 (s + 1) - 48) := by
            rw [ymu_e (by omega) (by omega), yad_e (by omega) (by omega), ysu_e (by omega) (by omega)]
            omega
          have e2 : yad ((s : Int) + 1) 1 = (s : Int) + 2 := by rw [yad_e (by omega) (by omega)]; omega
          refine ⟨10 * (τ.1 8 s - 48) + (τ.1 8 (s + 1) - 48), by omega, by omega, h3, ?_⟩
          rw [st, show M + 2 = (M + 1) + 1 by omega, q_X1_numberHere_b27, hap, h1, ycP_ge, decide_eq_false (show ¬ (s : Int) + 2 ≤ (s : Int) + 1 by omega), cond_false, is1, cond_true, show ((s : Int) + 1).toNat = s + 1 by omega, q1.1, ev, e2, q_X1_numberHere_b27, hap, h1, ycP_ge, decide_eq_true (Int.le_refl _)]
          rfl
      obtain ⟨v, v0, v9, hv1, g7⟩ := vv
      have g8 : f_X8_looked N τ lo hi = f_X8_looked_b25 N τ lo hi := by
        unfold f_X8_looked
        rw [f8, h2, ycP_ne, decide_eq_false (show ¬ ¬ (0 : Int) = 0 by decide), cond_false, ycP_ne, decide_eq_false (show ¬ ¬ (2 : Int) = 2 by decide), cond_false]
        unfold f_X8_looked_b21
        rw [x8_ngood]
      by_cases hr : lo ≤ v ∧ v ≤ hi
      · refine ⟨v, v, σ, τ, ?_, ?_, Or.inl HH, yK7_r, yK8_r, hr, Or.inr hr, fun _ => ⟨rfl, rfl, rfl⟩, rfl, by rw [f7, f8], fun _ => ⟨rfl, rfl⟩⟩
        · rw [g7, x7_within, if_pos hr]
          show f_X1_numberHere_b79 N σ lo v = _
          unfold f_X1_numberHere_b79
          rw [f7]
          rfl
        · rw [g8]
          unfold f_X8_looked_b25
          rw [f8, hv1, x8_in, if_pos hr]
          show (match f_X8_needs N τ 1 3 with
            | none => none
            | some r2 => f_X8_looked_b49 N r2.2) = _
          rw [x8_ngood]
          show f_X8_looked_b49 N τ = _
          unfold f_X8_looked_b49
          rw [f8, hv1]
          rfl
      · refine bad 3 (by decide) ?_ ?_
        · rw [g7, x7_within, if_neg hr]
          show (match f_X1_complain N σ 3 (σ.1 2 3) with
              | none => none
              | some r2 => f_X1_numberHere_b79 N r2.2 lo v) = _
          rw [(p_fail (N := N) HH (show (0 : Int) < 3 by decide)).1]
          show f_X1_numberHere_b79 N _ lo v = _
          unfold f_X1_numberHere_b79
          rw [yw_n (by omega), yw_p]
          rfl
        · rw [g8]
          unfold f_X8_looked_b25
          rw [f8, hv1, x8_in, if_neg hr]
          show (match f_X8_needs N τ 0 3 with
            | none => none
            | some r2 => f_X8_looked_b49 N r2.2) = _
          rw [(p_fail (N := N) HH (show (0 : Int) < 3 by decide)).2.1]
          exact lbad 3 (by decide)
    · refine bad 2 (by decide) ?_ ?_
      · unfold f_X1_numberHere
        rw [t, ycP_eq, decide_eq_false h2, cond_false, (p_fail (N := N) HH (show (0 : Int) < 2 by decide)).1]
      · unfold f_X8_looked
        rw [f8, ycP_ne, decide_eq_false (show ¬ ¬ (0 : Int) = 0 by decide), cond_false, ycP_ne, decide_eq_true h2, cond_true]
        unfold f_X8_looked_b21
        rw [(p_fail (N := N) HH (show (0 : Int) < 2 by decide)).2.1]
        show f_X8_looked_b25 N _ lo hi = _
        unfold f_X8_looked_b25
        rw [yw_n (a := 0) (b := 22) (by omega), yw_p, ycP_ne, decide_eq_true (show ¬ (2 : Int) = 0 by decide), cond_true]
        exact lbad 2 (by decide)
  · have b1 := B.1
    have b2 := B.2.1
    have b6 := B.2.2.2.2.2.1
    have n7 : ¬ σ.1 2 4 = 0 := by omega
    have n8 : ¬ τ.1 0 22 = 0 := by omega
    have l160 := T.2.1
    have e79 : ∀ v : Int, f_X1_numberHere_b79 N σ lo v = some (lo, σ) := fun v => by
      unfold f_X1_numberHere_b79
      rw [ycP_ne, decide_eq_true n7]
      rfl
    refine ⟨lo, 0, σ, τ, ?_, ?_, Or.inr ⟨B, T⟩, yK7_r, yK8_r, by omega, Or.inl rfl, fun z => absurd z n7, rfl, b1.symm, fun _ => ⟨rfl, rfl⟩⟩
    · unfold f_X1_numberHere
      by_cases h2 : σ.1 2 2 = 2
      · rw [ycP_eq, decide_eq_true h2, cond_true]
        obtain ⟨A, hA⟩ : ∃ A : Nat, σ.1 2 1 = (A : Int) := ⟨(σ.1 2 1).toNat, by omega⟩
        obtain ⟨s, hs⟩ : ∃ A : Nat, σ.1 2 3 = (A : Int) := ⟨(σ.1 2 3).toNat, by omega⟩
        obtain ⟨v', g⟩ := x1_num_l (N := N) (σ := σ) (lo := lo) (hi := hi) hA (by omega) (A - s) (N - (A - s) - 1) s 0 (by omega)
        rw [show N - (A - s) - 1 + (A - s) + 1 = N by omega] at g
        rw [hs, g, x7_within]
        by_cases hr : lo ≤ v' ∧ v' ≤ hi
        · rw [if_pos hr]
          exact e79 v'
        · rw [if_neg hr]
          show (match f_X1_complain N σ 3 (σ.1 2 3) with
              | none => none
              | some r2 => f_X1_numberHere_b79 N r2.2 lo v') = _
          rw [x1_cbad n7]
          exact e79 v'
      · rw [ycP_eq, decide_eq_false h2, cond_false, x1_cbad n7]
    · unfold f_X8_looked
      rw [ycP_ne, decide_eq_true n8, cond_true]
      unfold f_X8_looked_b25
      rw [ycP_ne, decide_eq_true n8, cond_true]
      unfold f_X8_looked_b49
      rw [ycP_ne, decide_eq_true n8]
      rfl
