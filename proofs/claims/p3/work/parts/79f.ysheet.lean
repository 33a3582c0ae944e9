theorem x7_isSheet {N : Nat} {σ : yS} {k : Int} : f_X7_isSheet N σ k = some (if 0 ≤ k ∧ k ≤ 3 then 1 else 0, σ) := by
  simp only [f_X7_isSheet, x7_within, yb1_d]
  by_cases h : 0 ≤ k ∧ k ≤ 3
  · simp [h]
  · simp [h]
theorem x7_isLane {N : Nat} {σ : yS} {k : Int} : f_X7_isLane N σ k = some (if 0 ≤ k ∧ k ≤ 2 then 1 else 0, σ) := by
  simp only [f_X7_isLane, x7_within, yb1_d]
  by_cases h : 0 ≤ k ∧ k ≤ 2
  · simp [h]
  · simp [h]
theorem x8_isSheet {N : Nat} {τ : yS} {k l : Int} : f_X8_isSheet N τ k l = some (if (0 ≤ k ∧ k ≤ 3) ∧ (0 ≤ l ∧ l ≤ 2) then 1 else 0, τ) := by
  simp only [f_X8_isSheet, f_X8_isSheet_b28, f_X8_isSheet_b29, x8_in, yb1_d, ycP_eq]
  by_cases h : 0 ≤ k ∧ k ≤ 3
  · by_cases h2 : 0 ≤ l ∧ l ≤ 2
    · simp [h, h2]
    · simp [h, h2]
  · simp [h]
theorem x2_renew_l {N n s : Nat} : ∀ (j i : Nat) (σ : yS), i + j = 40 → ∃ σ' : yS, f_X2_renew_b12 N (n + j + 1) σ s (i : Int) = some (0, σ') ∧ σ'.2 = σ.2 ∧ (∀ a b : Nat, ¬ (a = s + 1 ∧ i ≤ b ∧ b < 40) → σ'.1 a b = σ.1 a b) ∧ (∀ b : Nat, i ≤ b → b < 40 → σ'.1 (s + 1) b = 0)
  | 0, i, σ, h => by
    have e : i = 40 := by omega
    subst e
    refine ⟨σ, ?_, rfl, fun _ _ _ => rfl, fun b h1 h2 => by omega⟩
    rw [q_X2_renew_b12]
    simp [ycP_ge]
  | j + 1, i, σ, h => by
    have e3 : yad (i : Int) 1 = ((i + 1 : Nat) : Int) := by rw [yad_e (by omega) (by omega)]; omega
    obtain ⟨σ', c, c2, fr, z⟩ := x2_renew_l (N := N) (n := n) (s := s) j (i + 1) (yw σ (s + 1) i 0) (by omega)
    refine ⟨σ', ?_, c2, fun a b q => ?_, fun b h1 h2 => ?_⟩
    · rw [show n + (j + 1) + 1 = (n + j + 1) + 1 by omega, q_X2_renew_b12]
      simp only [ycP_ge, yin_d, decide_eq_false (show ¬ (40 : Int) ≤ (i : Int) by omega), decide_eq_true (show 0 ≤ (i : Int) ∧ (i : Int) < ((40 : Nat) : Int) by omega), cond_false, cond_true, Int.toNat_natCast, e3, c]
    · rw [fr a b (by omega), yw_n (by omega)]
    · by_cases e : b = i
      · subst e
        rw [fr _ _ (by omega), yw_p]
      · exact z b (by omega) h2
theorem x2_renew {N s : Nat} (hN : 42 ≤ N) {σ : yS} {l n : Int} : ∃ σ' : yS, f_X2_renew N σ s l n = some (0, σ') ∧ σ'.2 = σ.2 ∧ (∀ a b : Nat, ¬ (a = s ∧ b < 2) → ¬ (a = s + 1 ∧ b < 40) → σ'.1 a b = σ.1 a b) ∧ σ'.1 s 0 = l ∧ σ'.1 s 1 = n ∧ (∀ b : Nat, b < 40 → σ'.1 (s + 1) b = 0) := by
  obtain ⟨σ', c, c2, fr, z⟩ := x2_renew_l (N := N) (n := N - 41) (s := s) 40 0 (yw (yw σ s 0 l) s 1 n) (by omega)
  rw [show N - 41 + 40 + 1 = N by omega] at c
  refine ⟨σ', c, c2, fun a b h1 h2 => ?_, ?_, ?_, fun b hb => z b (by omega) hb⟩
  · rw [fr a b (by omega), yw_n (by omega), yw_n (by omega)]
  · rw [fr _ _ (by omega), yw_n (by omega), yw_p]
  · rw [fr _ _ (by omega), yw_p]
theorem x8_sheet_l {N n k : Nat} (hk : k < 4) : ∀ (j i : Nat) (τ : yS), i + j = 40 → ∃ τ' : yS, f_X8_sheet_b40 N (n + j + 1) τ (k : Int) (i : Int) = some (1, τ') ∧ (∀ a b : Nat, ¬ (a = 14 ∧ 40 * k + i ≤ b ∧ b < 40 * k + 40) → τ'.1 a b = τ.1 a b) ∧ (∀ b : Nat, i ≤ b → b < 40 → τ'.1 14 (40 * k + b) = 0)
  | 0, i, τ, h => by
    have e : i = 40 := by omega
    subst e
    refine ⟨τ, ?_, fun _ _ _ => rfl, fun b h1 h2 => by omega⟩
    rw [q_X8_sheet_b40]
    simp [ycP_ge]
  | j + 1, i, τ, h => by
    have e3 : yad (i : Int) 1 = ((i + 1 : Nat) : Int) := by rw [yad_e (by omega) (by omega)]; omega
    have e4 : yad (ymu 40 (k : Int)) (i : Int) = ((40 * k + i : Nat) : Int) := by
      rw [ymu_e (by omega) (by omega), yad_e (by omega) (by omega)]; omega
    obtain ⟨τ', c, fr, z⟩ := x8_sheet_l (N := N) (n := n) hk j (i + 1) (yw τ 14 (40 * k + i) 0) (by omega)
    refine ⟨τ', ?_, fun a b q => ?_, fun b h1 h2 => ?_⟩
    · rw [show n + (j + 1) + 1 = (n + j + 1) + 1 by omega, q_X8_sheet_b40]
      simp only [ycP_ge, yin_d, e4, decide_eq_false (show ¬ (40 : Int) ≤ (i : Int) by omega), decide_eq_true (show 0 ≤ ((40 * k + i : Nat) : Int) ∧ ((40 * k + i : Nat) : Int) < ((160 : Nat) : Int) by omega), cond_false, cond_true, Int.toNat_natCast, e3, c]
    · rw [fr a b (by omega), yw_n (by omega)]
    · by_cases e : b = i
      · subst e
        rw [fr _ _ (by omega), yw_p]
      · exact z b (by omega) h2
theorem yRR_sh {σ τ σ' τ' : yS} (H : yRR σ τ) (r : σ'.2 = σ.2) (c : ∀ a b : Nat, ¬ (9 ≤ a ∧ a < 17) → σ'.1 a b = σ.1 a b) (o : ∀ a b : Nat, ¬ (a = 12 ∨ a = 13 ∨ a = 14) → τ'.1 a b = τ.1 a b) (S : ∀ k : Nat, k < 4 → yRS σ' τ' k) : yRR σ' τ' := by
  obtain ⟨h1, h2, h3, h4, h5, h6, h7⟩ := H
  refine ⟨yRN_fr (fun b => by rw [r]) (fun b => ⟨c _ _ (by omega), c _ _ (by omega), c _ _ (by omega)⟩) (fun a b x y => c _ _ (by omega)) (fun b => ⟨o _ _ (by omega), o _ _ (by omega), o _ _ (by omega)⟩) (fun j hj => o _ _ (by omega)) h1, ?_, by rw [c _ _ (by omega)]; exact h3, fun k hk => yRI_fr hk (by rw [r]) (fun a b h => by rw [r]) (c _ _ (by omega)) (fun a b h => c _ _ (by omega)) (fun b => o _ _ (by omega)) (fun b => o _ _ (by omega)) ⟨o _ _ (by omega), o _ _ (by omega), o _ _ (by omega)⟩ (fun j h => o _ _ (by omega)) (h4 k hk), fun k hk hz => ?_, S, ?_⟩
  · rw [o 0 3 (by omega), o 0 5 (by omega)]
    exact yGk_cong (fun j hj => o _ _ (by omega)) h2
  · rw [o 3 k (by omega)] at hz
    rw [o 0 3 (by omega), o 0 5 (by omega)]
    exact yGk_cong (fun j hj => o _ _ (by omega)) (h5 k hk hz)
  · unfold yTr at h7 ⊢
    rw [r]
    exact h7
theorem yRS_o {σ τ σ' τ' : yS} {l : Nat} (r : ∀ b : Nat, σ'.2 8 b = σ.2 8 b) (c : ∀ b : Nat, σ'.1 (9 + 2 * l) b = σ.1 (9 + 2 * l) b ∧ σ'.1 (10 + 2 * l) b = σ.1 (10 + 2 * l) b) (o : τ'.1 12 l = τ.1 12 l ∧ τ'.1 13 l = τ.1 13 l) (o14 : ∀ i : Nat, i < 40 → τ'.1 14 (40 * l + i) = τ.1 14 (40 * l + i)) (H : yRS σ τ l) : yRS σ' τ' l := by
  obtain ⟨h1, h2⟩ := H
  refine ⟨by rw [r]; exact h1, ?_⟩
  rw [(c 0).1, (c 1).1, o.1, o.2]
  rcases h2 with h | ⟨a1, a2, a3, a4, a5⟩
  · exact Or.inl h
  · exact Or.inr ⟨a1, a2, a3, a4, fun i hi => by rw [(c i).2, o14 i hi]; exact a5 i hi⟩
theorem P_sheet {N : Nat} (hN : 132 ≤ N) {σ τ : yS} {k l n : Int} (H : yRR σ τ) : ∃ (a : Int) (σ' τ' : yS), f_X7_sheet N σ k l n = some (a, σ') ∧ f_X8_sheet N τ k l n = some (a, τ') ∧ yRR σ' τ' := by
  simp only [f_X7_sheet, f_X7_sheet_b20, f_X8_sheet, f_X8_sheet_b14, x7_isSheet, x7_isLane, x8_isSheet, ycP_eq, ycP_le, ycP_ge, yin_d]
  by_cases hk : 0 ≤ k ∧ k ≤ 3
  · by_cases hl : 0 ≤ l ∧ l ≤ 2
    · by_cases hn : n ≤ 40
      · by_cases h0 : 0 ≤ n
        · obtain ⟨k, rfl⟩ : ∃ m : Nat, k = (m : Int) := ⟨k.toNat, by omega⟩
          have hk4 : k < 4 := by omega
          have i1 : σ.2 8 k = 9 + 2 * k := (H.2.2.2.2.2.1 k hk4).1
          obtain ⟨σ', c, c2, fr, z0, z1, z2⟩ := x2_renew (N := N) (s := 9 + 2 * k) (by omega) (σ := σ) (l := l) (n := n)
          obtain ⟨τ', d, fo, w⟩ := x8_sheet_l (N := N) (n := N - 41) hk4 40 0 (yw (yw τ 12 k l) 13 k n) (by omega)
          rw [show N - 41 + 40 + 1 = N by omega, show ((0 : Nat) : Int) = 0 from rfl] at d
          have w2 : τ'.1 12 k = l := by rw [fo _ _ (by omega), yw_n (by omega), yw_p]
          have w3 : τ'.1 13 k = n := by rw [fo _ _ (by omega), yw_p]
          refine ⟨1, σ', τ', ?_, ?_, yRR_sh H c2 (fun a b h => fr a b (by omega) (by omega)) (fun a b h => ?_) (fun m hm => ?_)⟩
          · simp [hk, hl, hn, h0, i1, c, show (k : Int) < 4 by omega]
          · simp [hk, hl, hn, h0, d, show (k : Int) < 4 by omega]
          · rw [fo _ _ (by omega), yw_n (by omega), yw_n (by omega)]
          · by_cases e : m = k
            · subst e
              refine ⟨by rw [c2]; exact i1, Or.inr ⟨by rw [z0, w2], by rw [w2]; exact hl, by rw [z1, w3], by rw [w3]; omega, fun i hi => ?_⟩⟩
              rw [w i (by omega) hi]
              rw [show 10 + 2 * m = 9 + 2 * m + 1 by omega]
              exact z2 i hi
            · refine yRS_o (fun b => by rw [c2]) (fun b => ⟨fr _ _ (by omega) (by omega), fr _ _ (by omega) (by omega)⟩) ⟨?_, ?_⟩ (fun i hi => ?_) (H.2.2.2.2.2.1 m hm)
              · rw [fo _ _ (by omega), yw_n (by omega), yw_n (by omega)]
              · rw [fo _ _ (by omega), yw_n (by omega), yw_n (by omega)]
              · rw [fo _ _ (by omega), yw_n (by omega), yw_n (by omega)]
        · exact ⟨-14, σ, τ, by simp [hk, hl, hn, h0], by simp [hk, hl, hn, h0], H⟩
      · exact ⟨-1, σ, τ, by simp [hk, hl, hn], by simp [hk, hl, hn], H⟩
    · exact ⟨-1, σ, τ, by simp [hk, hl], by simp [hk, hl], H⟩
  · exact ⟨-1, σ, τ, by simp [hk], by simp [hk], H⟩
theorem x2_isNothing {N : Nat} {σ : yS} {s : Nat} : f_X2_isNothing N σ s = some (if σ.1 s 0 = -1 then 1 else 0, σ) := by
  simp only [f_X2_isNothing, f_X2_isNothing_b13, ycP_ne, yb1_d]
  by_cases h : σ.1 s 0 = -1
  · simp [h]
  · simp [h]
theorem P_lay {N : Nat} {σ τ : yS} {k i v : Int} (H : yRR σ τ) : ∃ (a : Int) (σ' τ' : yS), f_X7_lay N σ k i v = some (a, σ') ∧ f_X8_lay N τ k i v = some (a, τ') ∧ yRR σ' τ' := by
  simp only [f_X7_lay, f_X8_lay, f_X8_lay_b85, f_X2_faultOfCells, f_X2_faultOfCells_b28, f_X2_put, f_X2_put_b44, x7_isSheet, x8_isSheet, x2_isNothing, x7_within, x8_in, ycP_eq, ycP_ne, yin_d]
  by_cases hk : 0 ≤ k ∧ k ≤ 3
  · obtain ⟨k, rfl⟩ : ∃ m : Nat, k = (m : Int) := ⟨k.toNat, by omega⟩
    have hk4 : k < 4 := by omega
    obtain ⟨i1, S⟩ := H.2.2.2.2.2.1 k hk4
    have k4 : (k : Int) < 4 := by omega
    rcases S with ⟨s1, s2⟩ | ⟨s1, s2, s3, s4, s5⟩
    · have e : ysu (-10) 1 = -11 := by decide +kernel
      exact ⟨-11, σ, τ, by simp [hk, k4, i1, s1, e], by simp [hk, k4, s2], H⟩
    · have es : ysu (τ.1 13 k) 1 = τ.1 13 k - 1 := ysu_e (by omega) (by omega)
      have n1 : ¬ τ.1 12 k = -1 := by omega
      have n4 : ¬ τ.1 12 k = -4 := by omega
      by_cases hi : 0 ≤ i ∧ i ≤ τ.1 13 k - 1
      · obtain ⟨i, rfl⟩ : ∃ m : Nat, i = (m : Int) := ⟨i.toNat, by omega⟩
        have ea : yad (ymu 40 (k : Int)) (i : Int) = 40 * (k : Int) + i := by
          rw [ymu_e (by omega) (by omega), yad_e (by omega) (by omega)]
        have ec : (40 * (k : Int) + i).toNat = 40 * k + i := by omega
        have key : ∀ x : Int, yRR (yw σ (9 + 2 * k + 1) i x) (yw τ 14 (40 * k + i) x) := fun x => by
          refine yRR_sh H rfl (fun a b h => yw_n (by omega)) (fun a b h => yw_n (by omega)) (fun m hm => ?_)
          by_cases e : m = k
          · subst e
            refine ⟨i1, Or.inr ⟨by rw [yw_n (by omega), yw_n (by omega)]; exact s1, by rw [yw_n (by omega)]; exact s2, by rw [yw_n (by omega), yw_n (by omega)]; exact s3, by rw [yw_n (by omega)]; exact s4, fun j hj => ?_⟩⟩
            by_cases e : j = i
            · subst e
              rw [show 10 + 2 * m = 9 + 2 * m + 1 by omega, yw_p, yw_p]
            · rw [yw_n (by omega), yw_n (by omega)]
              exact s5 j hj
          · exact yRS_o (σ := σ) (τ := τ) (fun b => rfl) (fun b => ⟨yw_n (by omega), yw_n (by omega)⟩) ⟨yw_n (by omega), yw_n (by omega)⟩ (fun j hj => yw_n (by omega)) (H.2.2.2.2.2.1 m hm)
        by_cases l0 : τ.1 12 k = 0
        · refine ⟨1, _, _, ?_, ?_, key (yi8 v)⟩
          · simp [hk, k4, i1, s1, s3, es, n1, hi, l0, show (i : Int) < 40 by omega]
          · simp [hk, k4, n4, es, hi, l0, ea, ec, show (0 : Int) ≤ 40 * (k : Int) + i by omega, show 40 * (k : Int) + i < 160 by omega]
        · by_cases l1 : τ.1 12 k = 1
          · refine ⟨1, _, _, ?_, ?_, key (yi16 v)⟩
            · simp [hk, k4, i1, s1, s3, es, n1, hi, l1, show (i : Int) < 40 by omega]
            · simp [hk, k4, n4, es, hi, l1, ea, ec, show (0 : Int) ≤ 40 * (k : Int) + i by omega, show 40 * (k : Int) + i < 160 by omega]
          · refine ⟨1, _, _, ?_, ?_, key v⟩
            · simp [hk, k4, i1, s1, s3, es, n1, hi, l0, l1, show (i : Int) < 40 by omega]
            · simp [hk, k4, n4, es, hi, l0, l1, ea, ec, show (0 : Int) ≤ 40 * (k : Int) + i by omega, show 40 * (k : Int) + i < 160 by omega]
      · have e : ysu (-10) 2 = -12 := by decide +kernel
        exact ⟨-12, σ, τ, by simp [hk, k4, i1, s1, s3, es, n1, hi, e], by simp [hk, k4, n4, es, hi], H⟩
  · exact ⟨-1, σ, τ, by simp [hk], by simp [hk], H⟩
theorem P_torn {N : Nat} {σ τ : yS} (H : yRR σ τ) : ∃ (a b : Int) (σ' τ' : yS), f_X7_torn N σ = some (a, σ') ∧ f_X8_torn N τ = some (b, τ') ∧ yRR σ' τ' := ⟨_, _, _, _, rfl, rfl, H⟩
