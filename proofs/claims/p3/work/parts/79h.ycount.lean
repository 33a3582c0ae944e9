theorem P_read {N : Nat} (hN : 132 ≤ N) {σ τ : yS} {k l f n : Int} (hf : yI f) (H : yRR σ τ) : ∃ (a : Int) (σ' τ' : yS), f_X7_read N σ k l f n = some (a, σ') ∧ f_X8_read N τ k l f n = some (a, τ') ∧ yRR σ' τ' := by
  simp only [f_X7_read, f_X7_read_b25, f_X8_read, f_X8_read_b21, f_X2_faultOfLane, f_X2_faultOfLane_b15, f_X2_faultOfLane_b20, x7_isSheet, x7_isLane, x8_isSheet, x2_isNothing, x7_within, x8_in, ycP_eq, ycP_ne, yin_d]
  by_cases hk : 0 ≤ k ∧ k ≤ 3
  · by_cases hl : 0 ≤ l ∧ l ≤ 2
    · by_cases hn : 0 ≤ n ∧ n ≤ 10
      · obtain ⟨k, rfl⟩ : ∃ m : Nat, k = (m : Int) := ⟨k.toNat, by omega⟩
        obtain ⟨n, rfl⟩ : ∃ m : Nat, n = (m : Int) := ⟨n.toNat, by omega⟩
        have hk4 : k < 4 := by omega
        have k4 : (k : Int) < 4 := by omega
        have ik : yin (k : Int) 4 = true := by rw [yin_d]; exact decide_eq_true (by omega)
        obtain ⟨i1, S⟩ := H.2.2.2.2.2.1 k hk4
        have t3 : σ.1 (σ.2 17 11) 0 = τ.1 1 77 := H.1.2.2.2.1.2.2.1.1
        have g2 : 0 ≤ τ.1 1 77 ∧ τ.1 1 77 ≤ 10 := H.1.2.2.2.2.2.2.1
        have z4 : ymu 4 0 = 0 := by decide +kernel
        obtain ⟨M, hM⟩ : ∃ M, N = M + 2 := ⟨N - 2, by omega⟩
        have e7 : ∀ (m : Nat) (x s : Int), ¬ x = 0 → f_X7_read_b61 N (m + 1) σ f n (9 + 2 * k) (τ.1 1 77) x 0 s = some (0, yw σ 0 8 x) := fun m x s hx => by
          rw [q_X7_read_b61]
          by_cases q : (n : Int) ≤ s
          · simp [ycP_ge, ycP_ne, f_X7_read_b137, q]
          · simp [ycP_ge, ycP_ne, f_X7_read_b137, q, hx]
        have e8 : ∀ (m : Nat) (x s : Int), ¬ x = 0 → f_X8_read_b41 N (m + 1) τ k l f n (τ.1 1 77) x 0 s = some (0, yw τ 0 32 x) := fun m x s hx => by
          rw [q_X8_read_b41]
          by_cases q : (n : Int) ≤ s
          · simp [ycP_ge, ycP_ne, f_X8_read_b226, q]
          · simp [ycP_ge, ycP_ne, f_X8_read_b226, q, hx]
        have z7 : ∀ (m : Nat) (x : Int), n = 0 → f_X7_read_b61 N (m + 1) σ f n (9 + 2 * k) (τ.1 1 77) x 0 0 = some (0, yw σ 0 8 x) := fun m x hx => by
          subst hx
          rw [q_X7_read_b61]
          simp [ycP_ge, f_X7_read_b137]
        have z8 : ∀ (m : Nat) (x : Int), n = 0 → f_X8_read_b41 N (m + 1) τ k l f n (τ.1 1 77) x 0 0 = some (0, yw τ 0 32 x) := fun m x hx => by
          subst hx
          rw [q_X8_read_b41]
          simp [ycP_ge, f_X8_read_b226]
        have r8 : ∀ (x : Int) (d : Int) (m : Nat), ¬ x = 0 → f_X8_read_b56 N (f_X8_read_b41 N (M + 1)) (m + 1) τ k l f n (τ.1 1 77) x 0 0 d = some (0, yw τ 0 32 x) := fun x d m hx => by
          have q143 : f_X8_read_b143 N (f_X8_read_b41 N (M + 1)) τ k l f n (τ.1 1 77) x 0 0 = some (0, yw τ 0 32 x) := by
            simp only [f_X8_read_b143, f_X8_read_b220, ycP_ne, decide_eq_true hx, cond_true]
            exact e8 M x _ hx
          rw [q_X8_read_b56]
          by_cases q : (4 : Int) ≤ d
          · simp only [ycP_ge, decide_eq_true q, cond_true]
            exact q143
          · simp only [ycP_ge, ycP_ne, decide_eq_false q, decide_eq_true hx, cond_true, cond_false]
            exact q143
        have b8 : ∀ x : Int, ¬ n = 0 → ¬ x = 0 → (∀ m : Nat, f_X8_read_b56 N (f_X8_read_b41 N (M + 1)) (m + 1) τ k l f n (τ.1 1 77) 0 0 0 0 = f_X8_read_b56 N (f_X8_read_b41 N (M + 1)) m τ k l f n (τ.1 1 77) x 0 0 (yad 0 1)) → f_X8_read_b41 N N τ k l f n (τ.1 1 77) 0 0 0 = some (0, yw τ 0 32 x) := fun x hn0 hx hq => by
          have hh := q_X8_read_b41 N (M + 1) τ (k : Int) l f (n : Int) (τ.1 1 77) 0 0 0
          rw [show M + 1 + 1 = N by omega] at hh
          rw [hh]
          simp only [ycP_ge, ycP_ne, decide_eq_false (show ¬ (n : Int) ≤ 0 by omega), decide_false, not_true_eq_false, cond_false]
          have h1 := hq (M + 1)
          rw [show M + 1 + 1 = N by omega] at h1
          rw [h1]
          exact r8 x _ M hx
        rcases S with ⟨s1, s2⟩ | ⟨s1, s2, s3, s4, s5⟩
        · by_cases hn0 : n = 0
          · refine ⟨0, _, _, ?_, ?_, yRR_torn (x := 0) (y := 0) H⟩
            · have q := z7 (M + 1) 0 hn0
              rw [show M + 1 + 1 = N by omega] at q
              simp [hk, hl, hn, k4, i1, s1, t3, q]
            · have q := z8 (M + 1) 0 hn0
              rw [show M + 1 + 1 = N by omega] at q
              simp [hk, hl, hn, q]
          · refine ⟨0, _, _, ?_, ?_, yRR_torn (x := 1) (y := 1) H⟩
            · have q : f_X7_read_b61 N N σ f n (9 + 2 * k) (τ.1 1 77) 0 0 0 = some (0, yw σ 0 8 1) := by
                have hh := q_X7_read_b61 N (M + 1) σ f (n : Int) (9 + 2 * k) (τ.1 1 77) 0 0 0
                rw [show M + 1 + 1 = N by omega] at hh
                rw [hh]
                simp only [ycP_ge, ycP_ne, ycP_eq, decide_eq_false (show ¬ (n : Int) ≤ 0 by omega), cond_false, cond_true, decide_true, decide_false, not_true_eq_false, not_false_eq_true, f_X2_faultOfCells, x2_isNothing, s1, if_true, show ¬ (1 : Int) = 0 by omega, f_X7_read_b131]
                exact e7 M 1 _ (by omega)
              simp [hk, hl, hn, k4, i1, s1, t3, q]
            · have q := b8 1 hn0 (by omega) (fun m => by
                rw [q_X8_read_b56]
                simp only [ycP_ge, ycP_ne, ycP_eq, ycP_lt, Int.toNat_natCast, s2, ik, decide_eq_false (show ¬ (4 : Int) ≤ 0 by omega), cond_false, cond_true, decide_true, decide_false, not_true_eq_false, not_false_eq_true, f_X8_read_b135])
              simp [hk, hl, hn, q]
        · have n1 : ¬ τ.1 12 k = -1 := by omega
          have n4 : ¬ τ.1 12 k = -4 := by omega
          by_cases hle : τ.1 12 k = l
          · obtain ⟨a, σ', τ', g7, g8, K⟩ := p_read_l (N := N) hN (k := k) (n := n) (l := l) (f := f) (many := τ.1 1 77) hk4 (by omega) hl hf g2.1 n (N - n - 1) (N - n - 1) 0 σ τ (by omega) H hle (Int.le_refl _)
            rw [show N - n - 1 + n + 1 = N by omega, show ((0 : Nat) : Int) = 0 from rfl] at g7 g8
            refine ⟨a, σ', τ', ?_, ?_, K⟩
            · simp [hk, hl, hn, k4, i1, s1, n1, hle, t3, show ¬ l = -1 by omega, g7]
            · simp [hk, hl, hn, g8]
          · by_cases hn0 : n = 0
            · refine ⟨0, _, _, ?_, ?_, yRR_torn (x := 3) (y := 0) H⟩
              · have q := z7 (M + 1) 3 hn0
                rw [show M + 1 + 1 = N by omega] at q
                simp [hk, hl, hn, k4, i1, s1, n1, hle, t3, q]
              · have q := z8 (M + 1) 0 hn0
                rw [show M + 1 + 1 = N by omega] at q
                simp [hk, hl, hn, q]
            · refine ⟨0, _, _, ?_, ?_, yRR_torn (x := 3) (y := 3) H⟩
              · have q := e7 (M + 1) 3 0 (by omega)
                rw [show M + 1 + 1 = N by omega] at q
                simp [hk, hl, hn, k4, i1, s1, n1, hle, t3, q]
              · have q := b8 3 hn0 (by omega) (fun m => by
                  rw [q_X8_read_b56]
                  simp only [ycP_ge, ycP_ne, ycP_eq, ycP_lt, Int.toNat_natCast, n4, hle, ik, decide_eq_false (show ¬ (4 : Int) ≤ 0 by omega), cond_false, cond_true, decide_true, decide_false, not_true_eq_false, not_false_eq_true, f_X8_read_b135])
                simp [hk, hl, hn, q]
      · exact ⟨-1, σ, τ, by simp [hk, hl, hn], by simp [hk, hl, hn], H⟩
    · exact ⟨-1, σ, τ, by simp [hk, hl], by simp [hk, hl], H⟩
  · exact ⟨-1, σ, τ, by simp [hk], by simp [hk], H⟩
