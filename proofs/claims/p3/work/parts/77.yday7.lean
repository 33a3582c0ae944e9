theorem x8_dcopy_l {N n : Nat} {τ : yS} {c : Nat} (hc : c ≤ 40) (h25 : ymu 4 (τ.1 0 25) = (c : Int)) : ∀ j i : Nat, i + j = c → f_X8_days_b117 N (n + j + 1) (ycp τ 9 2 0 78 i) (i : Int) = some (0, yw (ycp τ 9 2 0 78 c) 2 127 (yad ((ycp τ 9 2 0 78 c).1 2 127) 1))
  | 0, i, h => by
    have e : i = c := by omega
    subst e
    rw [q_X8_days_b117, ycp_n (a := 0) (b := 25) (by omega), h25]
    simp [ycP_ge]
  | j + 1, i, h => by
    have e3 : yad (i : Int) 1 = ((i + 1 : Nat) : Int) := by rw [yad_e (by omega) (by omega)]; omega
    have e4 : yad 78 (i : Int) = ((78 + i : Nat) : Int) := by rw [yad_e (by omega) (by omega)]; omega
    have s := ycp_s (τ := τ) (i0 := 9) (i1 := 2) (b := 0) (a := 78) (Or.inl (by omega)) (show i < 131 by omega)
    rw [Nat.zero_add] at s
    rw [q_X8_days_b117, ycp_n (a := 0) (b := 25) (by omega), h25, e3, e4, Int.toNat_natCast, Int.toNat_natCast, s]
    simp only [ycP_ge, yin_d]
    rw [decide_eq_false (show ¬ (c : Int) ≤ (i : Int) by omega), decide_eq_true (show 0 ≤ (i : Int) ∧ (i : Int) < ((40 : Nat) : Int) by omega), decide_eq_true (show 0 ≤ ((78 + i : Nat) : Int) ∧ ((78 + i : Nat) : Int) < ((131 : Nat) : Int) by omega)]
    simp only [cond_false, cond_true]
    exact x8_dcopy_l (N := N) (n := n) hc h25 j (i + 1) (by omega)
/-- the fallen row becomes the vows -/
theorem yDY_turn {σ τ σ' τ' : yS} {t f v : Nat} {D : Int} (H : yDY σ τ t) (hf : σ.2 t 12 = f) (hv : σ.2 t 11 = v) (F : yFal σ τ f) (c11 : σ'.2 t 11 = f) (c12 : σ'.2 t 12 = v) (c : ∀ a b : Nat, ¬ (a = t ∧ b = 14) → σ'.1 a b = σ.1 a b) (cd : σ'.1 t 14 = D) (o : ∀ a b : Nat, ¬ a = 2 → τ'.1 a b = τ.1 a b) (o2 : ∀ j : Nat, j < 77 ∨ (118 ≤ j ∧ ¬ j = 127) → τ'.1 2 j = τ.1 2 j) (o77 : τ'.1 2 77 = τ.1 0 25) (o78 : ∀ j : Nat, (j : Int) < 4 * τ.1 0 25 → τ'.1 2 (78 + j) = τ.1 9 j) (od : τ'.1 2 127 = D) : yDY σ' τ' t := by
  obtain ⟨R, ⟨t1, t2, ⟨t3, t4⟩, ⟨t5, t6⟩, ⟨d0, d1, d2, d3⟩, t7⟩, ⟨g0, g1, g2, g3, g4, g5⟩, K0⟩ := H
  obtain ⟨F1, F2, F3⟩ := F
  have hf2 : f = t + 8 ∨ f = t + 13 := by omega
  have g4 : 0 ≤ τ.1 2 118 ∧ τ.1 2 118 ≤ 4 := g4
  have w1 : ∀ i : Nat, (i : Int) < τ.1 0 25 → τ'.1 2 (78 + 4 * i) = τ.1 9 (4 * i) ∧ τ'.1 2 (79 + 4 * i) = τ.1 9 (4 * i + 1) ∧ τ'.1 2 (80 + 4 * i) = τ.1 9 (4 * i + 2) ∧ τ'.1 2 (81 + 4 * i) = τ.1 9 (4 * i + 3) := fun i hi =>
    ⟨o78 _ (by omega), by rw [show 79 + 4 * i = 78 + (4 * i + 1) by omega]; exact o78 _ (by omega), by rw [show 80 + 4 * i = 78 + (4 * i + 2) by omega]; exact o78 _ (by omega), by rw [show 81 + 4 * i = 78 + (4 * i + 3) by omega]; exact o78 _ (by omega)⟩
  refine ⟨yRH_f ⟨c _ _ (by omega), c _ _ (by omega), c _ _ (by omega)⟩ (fun b => c _ _ (by omega)) ⟨o _ _ (by omega), o _ _ (by omega), o _ _ (by omega)⟩ (fun b => o _ _ (by omega)) R, ⟨fun i hi => ?_, fun j hj => ?_, ⟨?_, fun i hi => ?_⟩, ⟨?_, fun i hi => ?_⟩, ⟨?_, ?_, ?_, ?_⟩, ?_⟩, ⟨?_, fun i hi => ?_, ?_, fun i hi => ?_, ?_, fun i hi => ?_⟩, ?_⟩
  all_goals try dsimp only
  · rw [c (t + 2) _ (by omega), c (t + 3) _ (by omega), c t 6 (by omega), c (t + 4) _ (by omega), c (t + 5) _ (by omega), c (t + 6) _ (by omega), o2 i (by omega), o2 (7 + i) (by omega), o2 (14 + i) (by omega), o2 (21 + i) (by omega), o2 (28 + i) (by omega), o2 (35 + i) (by omega)]
    exact t1 i hi
  · rw [c _ _ (by omega), o2 _ (by omega)]; exact t2 j hj
  · rw [c11, c _ _ (by omega), o77]; exact F1
  · dsimp only at hi
    rw [o77] at hi
    rw [c11, c _ _ (by omega), c _ _ (by omega), c _ _ (by omega), c _ _ (by omega), (w1 i hi).1, (w1 i hi).2.1, (w1 i hi).2.2.1, (w1 i hi).2.2.2]
    exact (F3 i hi).1
  · rw [c _ _ (by omega), o2 _ (by omega)]; exact t5
  · dsimp only at hi
    rw [o2 _ (by omega)] at hi
    rw [c _ _ (by omega), c _ _ (by omega), o2 _ (by omega), o2 _ (by omega)]; exact t6 i hi
  · rw [cd, od]
  · rw [c _ _ (by omega), o2 _ (by omega)]; exact d1
  · rw [c _ _ (by omega), o2 _ (by omega)]; exact d2
  · rw [c _ _ (by omega), o2 _ (by omega)]; exact d3
  · rw [c11, c12]; omega
  · rw [c _ _ (by omega)]; exact g0
  · rw [o2 (7 + i) (by omega), o2 (14 + i) (by omega), o2 (21 + i) (by omega), o2 (28 + i) (by omega), o2 (35 + i) (by omega)]; exact g1 i hi
  · rw [o77]; exact F2
  · dsimp only at hi
    rw [o77] at hi
    rw [(w1 i hi).1, (w1 i hi).2.1, (w1 i hi).2.2.1, (w1 i hi).2.2.2, o 0 3 (by omega), o 0 5 (by omega)]
    exact (F3 i hi).2
  · rw [o2 _ (by omega)]; exact g4
  · dsimp only at hi
    rw [o2 118 (by omega)] at hi
    have hi2 : (i : Int) < τ.1 2 118 := hi
    rw [o2 _ (by omega), o2 _ (by omega), o 0 3 (by omega), o 0 5 (by omega)]; exact g5 i hi
  · rw [o 0 3 (by omega), o 0 5 (by omega)]
    exact yGk_cong (fun j hj => o2 j (by omega)) K0
/-- a day -/
theorem p_day {N : Nat} (hN : 42 ≤ N) {σ τ : yS} {t : Nat} (H : yDY σ τ t) : ∃ (z : Int) (σ' τ' : yS), f_X4_passDay N σ t = some (z, σ') ∧ f_X8_days N τ = some (0, τ') ∧ yDY σ' τ' t ∧ yF7 t σ σ' ∧ yF8 τ τ' ∧ (0 ≤ z ∧ z ≤ 20) ∧ (0 ≤ τ.1 0 26 → τ.1 0 26 ≤ 2000000000 → τ'.1 0 26 = τ.1 0 26 + z) ∧ τ'.1 2 127 = yad (τ.1 2 127) 1 := by
  obtain ⟨f, hf⟩ : ∃ f : Nat, σ.2 t 12 = f := ⟨_, rfl⟩
  obtain ⟨v, hv⟩ : ∃ v : Nat, σ.2 t 11 = v := ⟨_, rfl⟩
  have g2 : 0 ≤ τ.1 2 77 ∧ τ.1 2 77 ≤ 10 := H.2.2.1.2.2.1
  have t7 := H.2.1.2.2.2.2.2
  rw [hf, hv] at t7
  have H1 : yDY (yw σ f 0 0) (yw τ 0 25 0) t := yDY_fl (σ := σ) (τ := τ) rfl (fun a b z => yw_n (by omega)) (fun a b x y => yw_n (by omega)) H
  have F1 : yFal (yw σ f 0 0) (yw τ 0 25 0) f := ⟨by rw [yw_p, yw_p], by rw [yw_p]; omega, fun i hi => by rw [yw_p] at hi; omega⟩
  obtain ⟨c, hc⟩ : ∃ c : Nat, τ.1 2 77 = (c : Int) := ⟨(τ.1 2 77).toNat, by omega⟩
  have e77 : (yw τ 0 25 0).1 2 77 = (c : Int) := by rw [yw_n (by omega)]; exact hc
  obtain ⟨z, σ1, τ1, c7, c8, K1, F2, A1⟩ := p_vowsf (N := N) (by omega) c (N - c) (N - c) 0 (yw σ f 0 0) (yw τ 0 25 0) 0 H1 hf F1 (by rw [e77]; omega) (by omega) (by omega)
  obtain ⟨a1, a2, a3, a4, a5, a6⟩ := A1
  have d77 : τ1.1 2 77 = (c : Int) := by rw [a4 77 (by omega) (by omega)]; exact e77
  have s11 : σ1.2 t 11 = v := by rw [a1, yw_2]; exact hv
  have s12 : σ1.2 t 12 = f := by rw [a1, yw_2]; exact hf
  have t3 : σ1.1 v 0 = (c : Int) := by
    have q : σ1.1 (σ1.2 t 11) 0 = τ1.1 2 77 := K1.2.1.2.2.1.1
    rw [s11, d77] at q
    exact q
  have m25 := F2.2.1
  obtain ⟨m, hm⟩ : ∃ m : Nat, τ1.1 0 25 = (m : Int) := ⟨(τ1.1 0 25).toNat, by omega⟩
  have e25 : ymu 4 ((yw τ1 2 77 (m : Int)).1 0 25) = ((4 * m : Nat) : Int) := by
    rw [yw_n (by omega), hm, ymu_e (by omega) (by omega)]; omega
  have cp := x8_dcopy_l (N := N) (n := N - (4 * m + 1)) (τ := yw τ1 2 77 (m : Int)) (c := 4 * m) (by omega) e25 (4 * m) 0 (by omega)
  rw [ycp_0, show N - (4 * m + 1) + 4 * m + 1 = N by omega] at cp
  have d14 : σ1.1 t 14 = τ1.1 2 127 := K1.2.1.2.2.2.2.1.1
  have r27 : (ycp (yw τ1 2 77 (m : Int)) 9 2 0 78 (4 * m)).1 2 127 = τ1.1 2 127 := by rw [ycp_n (by omega), yw_n (by omega)]
  rw [r27] at cp
  rw [Int.zero_add, Nat.zero_add, show N - c + c = N by omega] at c7
  rw [Nat.zero_add, show N - c + c = N by omega] at c8
  have D27 : τ1.1 2 127 = τ.1 2 127 := by rw [a4 127 (by omega) (by omega), yw_n (by omega)]
  refine ⟨z, yw (yq (yq σ1 t 11 f) t 12 v) t 14 (yad (τ1.1 2 127) 1), yw (ycp (yw τ1 2 77 (m : Int)) 9 2 0 78 (4 * m)) 2 127 (yad (τ1.1 2 127) 1), ?_, ?_, ?_, ⟨fun a b q => ?_, fun a b q => ?_⟩, fun a b x y q => ?_, ?_, fun x y => ?_, ?_⟩
  · unfold f_X4_passDay
    rw [hf]
    refine c7.trans ?_
    rw [show N - c = (N - c - 1) + 1 by omega, q_X4_passDay_b12, s11, s12, t3]
    simp only [ycP_ge, decide_eq_true (Int.le_refl (c : Int)), cond_true, f_X4_passDay_b116, yq_1, d14]
  · unfold f_X8_days
    refine c8.trans ?_
    rw [show N - c = (N - c - 1) + 1 by omega, q_X8_days_b7, d77]
    simp only [ycP_ge, decide_eq_true (Int.le_refl (c : Int)), cond_true, hm]
    exact cp
  · refine yDY_turn (D := yad (τ1.1 2 127) 1) K1 s12 s11 F2 ?_ ?_ (fun a b q => ?_) yw_p (fun a b q => ?_) (fun j q => ?_) ?_ (fun j q => ?_) yw_p
    · simp [yw_2, yq_2]
    · simp [yw_2, yq_2]
    · rw [yw_n (by omega)]; rfl
    · rw [yw_n (by omega), ycp_n (by omega), yw_n (by omega)]
    · rw [yw_n (by omega), ycp_n (by omega), yw_n (by omega)]
    · rw [yw_n (by omega), ycp_n (by omega), yw_p, hm]
    · rw [hm] at q
      rw [yw_n (by omega), ycp_1, if_pos ⟨rfl, by omega, by omega⟩, yw_n (by omega), show 0 + (78 + j - 78) = j by omega]
  · rw [yw_n (by omega)]
    show σ1.1 a b = σ.1 a b
    rw [a2 a b q, yw_n (by omega)]
  · show (yq (yq σ1 t 11 f) t 12 v).2 a b = σ.2 a b
    rw [yq_2, if_neg (by omega), yq_2, if_neg (by omega), a1, yw_2]
  · rw [yw_n (by omega), ycp_n (by omega), yw_n (by omega), a3 a b x y q, yw_n (by omega)]
  · omega
  · rw [yw_n (by omega), ycp_n (by omega), yw_n (by omega)]
    have q := a6 (by rw [yw_n (by omega)]; exact x) (by rw [yw_n (by omega)]; omega)
    rw [yw_n (by omega)] at q
    exact q
  · rw [yw_p, D27]
