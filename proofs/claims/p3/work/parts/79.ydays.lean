theorem P_keep {N : Nat} (hN : 132 ≤ N) {σ τ : yS} {n : Int} (H : yRR σ τ) : ∃ (a : Int) (σ' τ' : yS), f_X7_keep N σ n = some (a, σ') ∧ f_X8_keep N τ n = some (a, τ') ∧ yRR σ' τ' := by
  obtain ⟨h1, h2, h3, h4, h5, h6, h7⟩ := H
  obtain ⟨a, σ', τ', c7, c8, k1, k2, k3, k4, k5, k6, k7, k8⟩ := p_keepI (N := N) hN (n := n) h1 h3 h4
  refine ⟨a, σ', τ', c7, c8, k1, ?_, k2, k3, fun k hk hz => ?_, fun k hk => yRS_fr hk (fun b => by rw [k4]) (fun a b z1 z2 => k5 a b (by omega) (by omega)) (fun a b z => k6 a b (by omega) (by omega)) (h6 k hk), ?_⟩
  · rw [k6 0 3 (by omega) (by omega), k6 0 5 (by omega) (by omega)]
    exact yGk_cong (fun j hj => k7 j (by omega)) h2
  · rw [k6 0 3 (by omega) (by omega), k6 0 5 (by omega) (by omega)]
    rcases k8 k hk with ⟨e1, e2⟩ | e2
    · rw [e1] at hz
      exact yGk_cong (fun j hj => e2 j (by omega)) (h5 k hk hz)
    · exact yGk_cong (fun j hj => e2 j (by omega)) h2
  · unfold yTr at h7 ⊢
    rw [k4]
    exact h7
theorem P_back {N : Nat} (hN : 132 ≤ N) {σ τ : yS} {n : Int} (H : yRR σ τ) : ∃ (a : Int) (σ' τ' : yS), f_X7_back N σ n = some (a, σ') ∧ f_X8_back N τ n = some (a, τ') ∧ yRR σ' τ' := by
  obtain ⟨h1, h2, h3, h4, h5, h6, h7⟩ := H
  obtain ⟨a, σ', τ', c7, c8, k1, k2, k3, k4, k5, k6, k7, k8⟩ := p_backI (N := N) hN (n := n) h1 h4
  refine ⟨a, σ', τ', c7, c8, k1, ?_, by rw [k2]; exact h3, k3, fun k hk hz => ?_, fun k hk => yRS_fr hk (fun b => by rw [k4]) (fun a b z1 z2 => k5 a b (by omega)) (fun a b z => k6 a b (by omega)) (h6 k hk), ?_⟩
  · rw [k6 0 3 (by omega), k6 0 5 (by omega)]
    rcases k8 with e | ⟨k, hk, hz, e⟩
    · exact yGk_cong (fun j hj => e j (by omega)) h2
    · exact yGk_cong (fun j hj => e j (by omega)) (h5 k hk hz)
  · rw [k6 3 k (by omega)] at hz
    rw [k6 0 3 (by omega), k6 0 5 (by omega)]
    exact yGk_cong (fun j hj => k7 _ (by omega)) (h5 k hk hz)
  · unfold yTr at h7 ⊢
    rw [k4]
    exact h7
/-- so many days -/
theorem p_days_l {N : Nat} (hN : 62 ≤ N) {t n : Nat} (hn : n ≤ 60) : ∀ (c m k i : Nat) (σ τ : yS) (o : Int), i + c = n → yDY σ τ t → (0 ≤ o ∧ o ≤ 20 * i) → τ.1 0 26 = o → ∃ (z : Int) (σ' τ' : yS), f_X4_passDays_b4 N (m + c + 1) σ t n o i = some (z, σ') ∧ f_X8_daysAll_b7 N (k + c + 1) τ n i = some (0, τ') ∧ yDY σ' τ' t ∧ yF7 t σ σ' ∧ yF8 τ τ' ∧ τ'.1 0 26 = z ∧ (0 ≤ z ∧ z ≤ 20 * n) ∧ (0 ≤ τ.1 2 127 → τ.1 2 127 + c ≤ 2000 → τ'.1 2 127 = τ.1 2 127 + c)
  | 0, m, k, i, σ, τ, o, hi, H, ho, h26 => by
    have e : i = n := by omega
    subst e
    refine ⟨o, σ, τ, ?_, ?_, H, yF7_r, yF8_r, h26, ho, fun _ _ => by omega⟩
    · rw [Nat.add_zero, q_X4_passDays_b4]
      simp [ycP_ge]
    · rw [Nat.add_zero, q_X8_daysAll_b7]
      simp [ycP_ge]
  | c + 1, m, k, i, σ, τ, o, hi, H, ho, h26 => by
    obtain ⟨z, σ1, τ1, c7, c8, K, f7, f8, hz, d26, d27⟩ := p_day (N := N) (by omega) H
    have e26 := d26 (by omega) (by omega)
    have e3 : yad (i : Int) 1 = ((i + 1 : Nat) : Int) := by rw [yad_e (by omega) (by omega)]; omega
    have eo : yad o z = o + z := yad_e (by omega) (by omega)
    obtain ⟨z2, σ2, τ2, g7, g8, K2, l7, l8, q1, q2, q3⟩ := p_days_l hN hn c m k (i + 1) σ1 τ1 (o + z) (by omega) K (by omega) (by omega)
    refine ⟨z2, σ2, τ2, ?_, ?_, K2, yF7_t f7 l7, yF8_t f8 l8, q1, q2, fun x y => ?_⟩
    · rw [show m + (c + 1) + 1 = (m + c + 1) + 1 by omega, q_X4_passDays_b4]
      simp only [ycP_ge, decide_eq_false (show ¬ (n : Int) ≤ (i : Int) by omega), cond_false, c7, eo, e3, g7]
    · rw [show k + (c + 1) + 1 = (k + c + 1) + 1 by omega, q_X8_daysAll_b7]
      simp only [ycP_ge, decide_eq_false (show ¬ (n : Int) ≤ (i : Int) by omega), cond_false, c8, e3, g8]
    · have e : τ1.1 2 127 = τ.1 2 127 + 1 := by rw [d27, yad_e (by omega) (by omega)]
      have := q3 (by omega) (by omega)
      omega
theorem p_days {N : Nat} (hN : 62 ≤ N) {t n : Nat} (hn : n ≤ 60) {σ τ : yS} (H : yDY σ τ t) : ∃ (z : Int) (σ' τ' : yS), f_X4_passDays N σ t n = some (z, σ') ∧ f_X8_daysAll N τ n = some (0, τ') ∧ yDY σ' τ' t ∧ yF7 t σ σ' ∧ yF8 τ τ' ∧ τ'.1 0 26 = z ∧ (0 ≤ z ∧ z ≤ 20 * n) ∧ (0 ≤ τ.1 2 127 → τ.1 2 127 + n ≤ 2000 → τ'.1 2 127 = τ.1 2 127 + n) := by
  have H1 : yDY σ (yw τ 0 26 0) t := yDY_o (τ := τ) (fun j => yw_n (by omega)) ⟨yw_n (by omega), yw_n (by omega), yw_n (by omega)⟩ (fun b => yw_n (by omega)) H
  obtain ⟨z, σ', τ', c7, c8, K, f7, f8, q1, q2, q3⟩ := p_days_l (N := N) hN hn n (N - n - 1) (N - n - 1) 0 σ (yw τ 0 26 0) 0 (by omega) H1 (by omega) yw_p
  rw [show N - n - 1 + n + 1 = N by omega] at c7 c8
  rw [yw_n (by omega)] at q3
  exact ⟨z, σ', τ', c7, c8, K, f7, yF8_t (yF8_w yF8_r (by omega)) f8, q1, q2, q3⟩
theorem yDY_c {σ τ τ' : yS} {t : Nat} {g : Nat → Int} (R : yRH σ τ t) (T : yRT σ t g) (G : yGd (τ.1 0 3) (τ.1 0 5) (σ.1 t 6) g) (K : yGk (τ.1 0 3) (τ.1 0 5) g) (h2 : ∀ j : Nat, j < 131 → τ'.1 2 j = g j) (h : ∀ a b : Nat, ¬ a = 2 → τ'.1 a b = τ.1 a b) : yDY σ τ' t := by
  refine ⟨yRH_f ⟨rfl, rfl, rfl⟩ (fun _ => rfl) ⟨h _ _ (by omega), h _ _ (by omega), h _ _ (by omega)⟩ (fun b => h _ _ (by omega)) R, yRT_cong h2 G T, ?_, ?_⟩
  · rw [h 0 3 (by omega), h 0 5 (by omega)]
    exact yGe_cong (fun j hj => h2 j (by omega)) (yGd_e G)
  · rw [h 0 3 (by omega), h 0 5 (by omega)]
    exact yGk_cong (fun j hj => h2 j (by omega)) K
theorem yDY_start {σ τ : yS} (H : yRR σ τ) : yDY σ (ycp τ 1 2 0 0 131) 17 :=
  yDY_c H.1.2.2.1 H.1.2.2.2.1 H.1.2.2.2.2 H.2.1 (fun j hj => ycp_p hj) (fun a b h => ycp_n (by omega))
theorem yDY_trial {N : Nat} {σ τ : yS} (H : yRR σ τ) : ∃ σ1 : yS, f_X4_copyFrom N σ 38 17 = some (0, σ1) ∧ yF7 38 σ σ1 ∧ yTr σ1 ∧ yDY σ1 (ycp τ 1 2 0 0 131) 38 := by
  obtain ⟨⟨-, -, ⟨e0, e1, e2, b0, b1, b2, hc⟩, T, G⟩, K, -, -, -, -, tr⟩ := H
  obtain ⟨σ', c, s2, fr, T', k6, k0, k1, k2, kc⟩ := yRT_copy (N := N) (x := 38) (y := 17) (by omega) tr (by rw [e1]; exact b1) T G
  refine ⟨σ', c, ⟨fun a b h => fr a b (by omega), fun a b h => by rw [s2]⟩, ?_, yDY_c (τ := τ) ⟨by rw [k0]; exact e0, by rw [k1]; exact e1, by rw [k2]; exact e2, b0, b1, b2, fun d hd => ?_⟩ T' (by rw [k6]; exact G) K (fun j hj => ycp_p hj) (fun a b h => ycp_n (by omega))⟩
  · unfold yTr at tr ⊢
    rw [s2]
    exact tr
  · rw [kc d (by omega)]
    exact hc d hd
theorem x8_go_l {N n : Nat} {τ : yS} : ∀ j i : Nat, i + j = 131 → f_X8_go_b43 N (n + j + 1) (ycp τ 2 1 0 0 i) (i : Int) = some (τ.1 0 26, ycp τ 2 1 0 0 131)
  | 0, i, h => by
    have : i = 131 := by omega
    subst this
    rw [q_X8_go_b43, ycp_n (a := 0) (b := 26) (by omega)]
    simp [ycP_ge]
  | j + 1, i, h => by
    have e3 : yad (i : Int) 1 = ((i + 1 : Nat) : Int) := by rw [yad_e (by omega) (by omega)]; omega
    have s := ycp_s (τ := τ) (i0 := 2) (i1 := 1) (b := 0) (a := 0) (Or.inl (by omega)) (show i < 131 by omega)
    rw [Nat.zero_add] at s
    rw [q_X8_go_b43, e3, Int.toNat_natCast, s]
    simp only [ycP_ge, yin_d]
    rw [decide_eq_false (show ¬ (131 : Int) ≤ (i : Int) by omega)]
    rw [decide_eq_true (show 0 ≤ (i : Int) ∧ (i : Int) < ((393 : Nat) : Int) by omega), decide_eq_true (show 0 ≤ (i : Int) ∧ (i : Int) < ((131 : Nat) : Int) by omega)]
    simp only [cond_false, cond_true]
    exact x8_go_l (N := N) (n := n) j (i + 1) (by omega)
theorem P_go {N : Nat} (hN : 132 ≤ N) {σ τ : yS} {n : Int} (H : yRR σ τ) : ∃ (a : Int) (σ' τ' : yS), f_X7_go N σ n = some (a, σ') ∧ f_X8_go N τ n = some (a, τ') ∧ yRR σ' τ' := by
  have d0 : σ.1 17 14 = τ.1 1 127 := H.1.2.2.2.1.2.2.2.2.1.1
  have g6 : 0 ≤ τ.1 1 127 ∧ τ.1 1 127 ≤ 999 := H.1.2.2.2.2.2.2.2.2.2.2
  simp only [f_X7_go, f_X8_go, x7_within, x8_in, ycP_ne, ycP_lt, ycP_le, d0]
  by_cases hn : 0 ≤ n ∧ n ≤ 60
  · obtain ⟨m, rfl⟩ : ∃ m : Nat, n = (m : Int) := ⟨n.toNat, by omega⟩
    have ea : yad (τ.1 1 127) (m : Int) = τ.1 1 127 + m := yad_e (by omega) (by omega)
    by_cases hf : τ.1 1 127 + m ≤ 999
    · obtain ⟨z, σ', τ1, c7, c8, K, f7, f8, q1, q2, q3⟩ := p_days (N := N) (by omega) (show m ≤ 60 by omega) (yDY_start H)
      have s8 := x8_starts (N := N) hN (τ := τ)
      have g8 := x8_go_l (N := N) (n := N - 132) (τ := τ1) 131 0 (by omega)
      rw [ycp_0, show N - 132 + 131 + 1 = N by omega, show ((0 : Nat) : Int) = 0 from rfl] at g8
      have e27 : (ycp τ 1 2 0 0 131).1 2 127 = τ.1 1 127 := ycp_p (by omega)
      have q4 : τ1.1 2 127 = τ.1 1 127 + m := by rw [q3 (by omega) (by omega), e27]
      have oo : ∀ a b : Nat, ¬ a = 2 → ¬ a = 9 → ¬ (a = 0 ∧ (b = 25 ∨ b = 26)) → τ1.1 a b = τ.1 a b := fun a b x y w => by rw [f8 a b x y w, ycp_n (by omega)]
      have os : ∀ a b : Nat, ¬ a = 1 → (ycp τ1 2 1 0 0 131).1 a b = τ1.1 a b := fun a b x => ycp_n (by omega)
      have o1 : ∀ j : Nat, j < 131 → (ycp τ1 2 1 0 0 131).1 1 j = τ1.1 2 j := fun j hj => ycp_p hj
      obtain ⟨R, T, G, Kk⟩ := K
      have G1 : yGd (τ1.1 0 3) (τ1.1 0 5) (σ'.1 17 6) (fun j => τ1.1 2 j) := yGe_d G (by show 0 ≤ τ1.1 2 127 ∧ τ1.1 2 127 ≤ 999; omega)
      obtain ⟨⟨a0, a1, a2, a3⟩, f0, -⟩ := H.1
      refine ⟨z, σ', ycp τ1 2 1 0 0 131, ?_, ?_, yRR_fr H ⟨⟨?_, ?_, ?_, fun j hj => ?_⟩, ?_, yRH_f ⟨rfl, rfl, rfl⟩ (fun _ => rfl) ⟨os _ _ (by omega), os _ _ (by omega), os _ _ (by omega)⟩ (fun b => os _ _ (by omega)) R, yRT_cong o1 G1 T, ?_⟩ ?_ (fun a b x _ => f7.2 a b x) ?_ (f7.1 0 7 (by omega)) (fun a b h => f7.1 a b (by omega)) (fun a b h => ?_)⟩
      · simp [hn, ea, show τ.1 1 127 + (m : Int) < 1000 by omega, c7]
      · simp [hn, ea, hf, s8, c8, g8, q1]
      · rw [f7.1 _ _ (by omega)]; exact a0
      · rw [f7.1 _ _ (by omega)]; exact a1
      · rw [f7.1 _ _ (by omega), os _ _ (by omega), oo _ _ (by omega) (by omega) (by omega)]; exact a2
      · rw [f7.1 _ _ (by omega)] at hj
        rw [f7.1 _ _ (by omega), os _ _ (by omega), oo _ _ (by omega) (by omega) (by omega)]; exact a3 j hj
      · rw [f7.1 _ _ (by omega), os _ _ (by omega), oo _ _ (by omega) (by omega) (by omega)]; exact f0
      · rw [os 0 3 (by omega), os 0 5 (by omega)]
        exact yGd_cong o1 G1
      · rw [os 0 3 (by omega), os 0 5 (by omega)]
        exact yGk_cong (fun j hj => o1 j (by omega)) Kk
      · have tr := H.2.2.2.2.2.2
        unfold yTr at tr ⊢
        rw [f7.2 38 11 (by omega), f7.2 38 12 (by omega)]
        exact tr
      · by_cases h1 : a = 1
        · subst h1
          rw [ycp_n (by omega), oo _ _ (by omega) (by omega) (by omega)]
        · rw [os _ _ h1, oo _ _ (by omega) (by omega) (by omega)]
    · exact ⟨-3, σ, τ, by simp [hn, ea, show ¬ τ.1 1 127 + (m : Int) < 1000 by omega], by simp [hn, ea, hf], H⟩
  · exact ⟨-1, σ, τ, by simp [hn], by simp [hn], H⟩
