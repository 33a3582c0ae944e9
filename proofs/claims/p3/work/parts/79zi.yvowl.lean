theorem yRD_vow {σ τ σ' τ' : yS} {m v : Nat} {a k p d : Int} (R : yRD σ τ) (hv : σ.2 38 11 = v) (hm : τ.1 5 77 = (m : Int)) (m10 : m < 10) (ha : 0 ≤ a ∧ a ≤ 6) (hk : 0 ≤ k ∧ k ≤ 4) (hp : 0 ≤ p ∧ p ≤ 9) (hd : 0 ≤ d ∧ d ≤ 4) (r : σ'.2 = σ.2) (w7 : ∀ i n : Nat, ¬ (i = 2 ∧ ((1 ≤ n ∧ n ≤ 5) ∨ n = 11 ∨ n = 12)) → ¬ (v + 1 ≤ i ∧ i ≤ v + 4 ∧ n = m) → ¬ (i = v ∧ n = 0) → σ'.1 i n = σ.1 i n) (x1 : σ'.1 (v + 1) m = a) (x2 : σ'.1 (v + 2) m = k) (x3 : σ'.1 (v + 3) m = p) (x4 : σ'.1 (v + 4) m = d) (x5 : σ'.1 v 0 = (m : Int) + 1) (w8 : ∀ i n : Nat, ¬ (i = 0 ∧ ((18 ≤ n ∧ n ≤ 23) ∨ n = 14 ∨ n = 15)) → ¬ (i = 5 ∧ ((78 + 4 * m ≤ n ∧ n ≤ 81 + 4 * m) ∨ n = 77)) → τ'.1 i n = τ.1 i n) (y1 : τ'.1 5 (78 + 4 * m) = a) (y2 : τ'.1 5 (79 + 4 * m) = k) (y3 : τ'.1 5 (80 + 4 * m) = p) (y4 : τ'.1 5 (81 + 4 * m) = d) (y5 : τ'.1 5 77 = (m : Int) + 1) (gh : σ'.1 2 11 = τ'.1 0 14 ∧ τ.1 0 14 ≤ τ'.1 0 14 ∧ a ≤ τ'.1 0 14 ∧ 0 ≤ τ'.1 0 14 ∧ τ'.1 0 14 ≤ 6) (gd : σ'.1 2 12 = τ'.1 0 15 ∧ τ.1 0 15 ≤ τ'.1 0 15 ∧ d ≤ τ'.1 0 15 ∧ 0 ≤ τ'.1 0 15 ∧ τ'.1 0 15 ≤ 4) : yRD σ' τ' := by
  obtain ⟨⟨q1, q2, q3, q4, q5, q6, q7⟩, T, G, K, z, ⟨s1, s2, s3⟩, ⟨a1, a2, a3, a4⟩, b, g1, g2⟩ := R
  have hv2 : v = 46 ∨ v = 51 := by
    have := T.2.2.2.2.2
    omega
  have low : ∀ j : Nat, j < 77 ∨ 118 ≤ j → τ'.1 5 j = τ.1 5 j := fun j hj => w8 5 j (by omega) (by omega)
  have old : ∀ i : Nat, i < m → τ'.1 5 (78 + 4 * i) = τ.1 5 (78 + 4 * i) ∧ τ'.1 5 (79 + 4 * i) = τ.1 5 (79 + 4 * i) ∧ τ'.1 5 (80 + 4 * i) = τ.1 5 (80 + 4 * i) ∧ τ'.1 5 (81 + 4 * i) = τ.1 5 (81 + 4 * i) := fun i hi => ⟨w8 5 _ (by omega) (by omega), w8 5 _ (by omega) (by omega), w8 5 _ (by omega) (by omega), w8 5 _ (by omega) (by omega)⟩
  have G2 := yGe_m (hs' := τ'.1 0 14 + 1) (ds' := τ'.1 0 15 + 1) (by omega) (by omega) G
  have K2 := yGk_m (hs' := τ'.1 0 14 + 1) (ds' := τ'.1 0 15 + 1) (by omega) (by omega) K
  have c118 : 0 ≤ τ.1 5 118 ∧ τ.1 5 118 ≤ 4 := G.2.2.2.2.1
  refine ⟨⟨?_, ?_, ?_, ?_, ?_, ?_, fun e he => ?_⟩, ?_, ?_, ?_, ?_, ?_, ⟨?_, ?_, ?_, ?_⟩, fun n hn => ?_, ?_, ?_⟩
  · rw [w7 _ _ (by omega) (by omega) (by omega), w8 _ _ (by omega) (by omega)]; exact q1
  · rw [w7 _ _ (by omega) (by omega) (by omega), w8 _ _ (by omega) (by omega)]; exact q2
  · rw [w7 _ _ (by omega) (by omega) (by omega), w8 _ _ (by omega) (by omega)]; exact q3
  · rw [w8 _ _ (by omega) (by omega)]; exact q4
  · rw [w8 _ _ (by omega) (by omega)]; exact q5
  · rw [w8 _ _ (by omega) (by omega)]; exact q6
  · rw [w8 _ _ (by omega) (by omega)] at he
    rw [w7 _ _ (by omega) (by omega) (by omega), w8 _ _ (by omega) (by omega)]; exact q7 e he
  · obtain ⟨t1, t2, ⟨t3, t4⟩, ⟨t5, t6⟩, ⟨d0, d1, d2, d3⟩, t7⟩ := T
    rw [hv] at t3
    refine ⟨fun i hi => ?_, fun j hj => ?_, ⟨?_, fun i hi => ?_⟩, ⟨?_, fun i hi => ?_⟩, ⟨?_, ?_, ?_, ?_⟩, ?_⟩
    all_goals try dsimp only
    · rw [w7 (38 + 2) _ (by omega) (by omega) (by omega), w7 (38 + 3) _ (by omega) (by omega) (by omega), w7 38 _ (by omega) (by omega) (by omega), w7 (38 + 4) _ (by omega) (by omega) (by omega), w7 (38 + 5) _ (by omega) (by omega) (by omega), w7 (38 + 6) _ (by omega) (by omega) (by omega), low i (by omega), low (7 + i) (by omega), low (14 + i) (by omega), low (21 + i) (by omega), low (28 + i) (by omega), low (35 + i) (by omega)]
      exact t1 i hi
    · rw [w7 _ _ (by omega) (by omega) (by omega), low _ (by omega)]; exact t2 j hj
    · rw [r, hv, y5]; exact x5
    · dsimp only at hi
      rw [y5] at hi
      rw [r, hv]
      by_cases e : i = m
      · subst e
        rw [y1, y2, y3, y4]; exact ⟨x1, x2, x3, x4⟩
      · have q := t4 i (show (i : Int) < τ.1 5 77 by omega)
        rw [hv] at q
        obtain ⟨o1, o2, o3, o4⟩ := old i (by omega)
        rw [o1, o2, o3, o4, w7 (v + 1) i (by omega) (by omega) (by omega), w7 (v + 2) i (by omega) (by omega) (by omega), w7 (v + 3) i (by omega) (by omega) (by omega), w7 (v + 4) i (by omega) (by omega) (by omega)]
        exact q
    · rw [w7 _ _ (by omega) (by omega) (by omega), low _ (by omega)]; exact t5
    · dsimp only at hi
      rw [low _ (by omega)] at hi
      rw [w7 _ _ (by omega) (by omega) (by omega), w7 _ _ (by omega) (by omega) (by omega), low _ (by omega), low _ (by omega)]; exact t6 i hi
    · rw [w7 _ _ (by omega) (by omega) (by omega), low _ (by omega)]; exact d0
    · rw [w7 _ _ (by omega) (by omega) (by omega), low _ (by omega)]; exact d1
    · rw [w7 _ _ (by omega) (by omega) (by omega), low _ (by omega)]; exact d2
    · rw [w7 _ _ (by omega) (by omega) (by omega), low _ (by omega)]; exact d3
    · rw [r]; exact t7
  · obtain ⟨c0, c1, c2, c3, c4, c5⟩ := G2
    refine ⟨by rw [w7 _ _ (by omega) (by omega) (by omega)]; exact c0, fun i hi => ?_, ?_, fun i hi => ?_, ?_, fun i hi => ?_⟩
    all_goals try dsimp only
    · rw [low (7 + i) (by omega), low (14 + i) (by omega), low (21 + i) (by omega), low (28 + i) (by omega), low (35 + i) (by omega)]; exact c1 i hi
    · rw [y5]; omega
    · dsimp only at hi
      rw [y5] at hi
      by_cases e : i = m
      · subst e
        rw [y1, y2, y3, y4]; omega
      · obtain ⟨o1, o2, o3, o4⟩ := old i (by omega)
        rw [o1, o2, o3, o4]
        exact c3 i (show (i : Int) < τ.1 5 77 by omega)
    · rw [low _ (by omega)]; exact c4
    · dsimp only at hi
      rw [low _ (by omega)] at hi
      rw [low _ (by omega), low _ (by omega)]; exact c5 i hi
  · exact yGk_cong (fun j hj => low j (by omega)) K2
  · rw [low _ (by omega)]; exact z
  · rw [w7 _ _ (by omega) (by omega) (by omega), w8 _ _ (by omega) (by omega)]; exact ⟨s1, s2, s3⟩
  · rw [w7 _ _ (by omega) (by omega) (by omega), w8 _ _ (by omega) (by omega)]; exact a1
  · rw [w7 _ _ (by omega) (by omega) (by omega), w8 _ _ (by omega) (by omega)]; exact a2
  · rw [w7 _ _ (by omega) (by omega) (by omega), w8 _ _ (by omega) (by omega)]; exact a3
  · rw [w7 38 6 (by omega) (by omega) (by omega), w7 2 9 (by omega) (by omega) (by omega)]; exact a4
  · rw [w8 _ _ (by omega) (by omega)]; exact b n hn
  · exact Or.inr ⟨gh.1, gh.2.2.2.1, gh.2.2.2.2⟩
  · exact Or.inr ⟨gd.1, gd.2.2.2.1, gd.2.2.2.2⟩
theorem x5_app {N : Nat} {σ : yS} {m v : Nat} {h k p d : Int} (hm : σ.1 v 0 = (m : Int)) (m10 : m < 10) : f_X5_append N σ v h k p d = some (1, yw (yw (yw (yw (yw σ (v + 1) m h) (v + 2) m k) (v + 3) m p) (v + 4) m d) v 0 ((m : Int) + 1)) := by
  have im : yin (m : Int) 10 = true := by rw [yin_d]; exact decide_eq_true (by omega)
  have e1 : yad (m : Int) 1 = (m : Int) + 1 := yad_e (by omega) (by omega)
  simp only [f_X5_append, f_X5_append_b26, f_X5_append_b36, f_X5_append_b46, f_X5_append_b54, ycP_lt, cond_true, hm, im, Int.toNat_natCast]
  rw [yw_n (a := v) (b := 0) (by omega), hm, im, cond_true, Int.toNat_natCast, yw_n (a := v) (b := 0) (by omega), yw_n (a := v) (b := 0) (by omega), hm, im, cond_true, Int.toNat_natCast, yw_n (a := v) (b := 0) (by omega), yw_n (a := v) (b := 0) (by omega), yw_n (a := v) (b := 0) (by omega), hm, im, cond_true, Int.toNat_natCast, yw_n (a := v) (b := 0) (by omega), yw_n (a := v) (b := 0) (by omega), yw_n (a := v) (b := 0) (by omega), yw_n (a := v) (b := 0) (by omega), hm, e1, decide_eq_true (show (m : Int) < 10 by omega), cond_true]
/-- how deep: a fault for what is no depth -/
theorem p_depth {N : Nat} {σ τ0 τ : yS} {p b : Int} (hp0 : 0 ≤ p) (g : f_X8_looked N τ0 0 9 = some (b, τ)) (E : yE σ τ) (ok : σ.1 2 4 = 0 → p = b) : ∃ (σ' τ' : yS), (∀ K : yS → Option (Int × yS), (match f_X7_isDepth N σ p with
      | none => none
      | some r4 => bif ycP .ne r4.1 0 then K r4.2 else match f_X1_complain N r4.2 3 (r4.2.1 2 3) with
        | none => none
        | some r8 => K r8.2) = K σ') ∧ f_X8_readDeep N τ0 = (match f_X8_next N τ' with
      | none => none
      | some r2 => some (b, r2.2)) ∧ yE σ' τ' ∧ yK7 σ σ' ∧ yK8 τ τ' ∧ σ'.1 2 1 = σ.1 2 1 ∧ (σ'.1 2 4 = 0 → σ' = σ ∧ τ' = τ) := by
  by_cases f0 : σ.1 2 4 = 0
  · have HH := yE_ok E f0
    have e := ok f0
    subst e
    have fe := yE_f E
    have f22 : τ.1 0 22 = 0 := by omega
    by_cases hd : (0 ≤ p ∧ p ≤ 3) ∨ p = 9
    · refine ⟨σ, τ, fun K => ?_, ?_, E, yK7_r, yK8_r, rfl, fun _ => ⟨rfl, rfl⟩⟩
      · rw [x7_isDepth, if_pos hd]
        show (bif ycP .ne 1 0 then K σ else _) = _
        rw [ybo2]
      · unfold f_X8_readDeep
        rw [g]
        show (bif ycP .ne (τ.1 0 22) 0 then f_X8_readDeep_b36 N τ p else bif ycP .le p 3 then f_X8_readDeep_b27 N τ p else bif ycP .ne p 9 then f_X8_readDeep_b32 N τ p 0 else f_X8_readDeep_b27 N τ p) = _
        have f27 : f_X8_readDeep_b27 N τ p = (match f_X8_next N τ with
          | none => none
          | some r2 => some (p, r2.2)) := by
          unfold f_X8_readDeep_b27 f_X8_readDeep_b32
          rw [x8_ngood]
          rfl
        rw [f22, ybz2]
        by_cases h3 : p ≤ 3
        · rw [ycP_le, decide_eq_true h3, cond_true]
          exact f27
        · rw [ycP_le, decide_eq_false h3, cond_false, ycP_ne, decide_eq_false (show ¬ ¬ p = 9 by omega), cond_false]
          exact f27
    · obtain ⟨p1, p2, p3⟩ := p_fail (N := N) HH (show (0 : Int) < 3 by decide)
      by_cases h3 : p ≤ 3
      · refine ⟨_, _, fun K => ?_, ?_, p3, yK7_w (yK7_w yK7_r (by decide)) (by decide), yK8_w (yK8_w yK8_r (by decide)) (by decide), ?_, fun z => ?_⟩
        · rw [x7_isDepth, if_neg hd]
          show (bif ycP .ne 0 0 then _ else match f_X1_complain N σ 3 (σ.1 2 3) with
            | none => none
            | some r8 => K r8.2) = _
          rw [ybz2, p1]
        · exfalso
          omega
        · rw [yw_n (by decide), yw_n (by decide)]
        · rw [yw_n (by decide), yw_p] at z
          exact absurd z (by decide)
      · refine ⟨_, _, fun K => ?_, ?_, p3, yK7_w (yK7_w yK7_r (by decide)) (by decide), yK8_w (yK8_w yK8_r (by decide)) (by decide), ?_, fun z => ?_⟩
        · rw [x7_isDepth, if_neg hd]
          show (bif ycP .ne 0 0 then _ else match f_X1_complain N σ 3 (σ.1 2 3) with
            | none => none
            | some r8 => K r8.2) = _
          rw [ybz2, p1]
        · unfold f_X8_readDeep
          rw [g]
          show (bif ycP .ne (τ.1 0 22) 0 then f_X8_readDeep_b36 N τ p else bif ycP .le p 3 then f_X8_readDeep_b27 N τ p else bif ycP .ne p 9 then f_X8_readDeep_b32 N τ p 0 else f_X8_readDeep_b27 N τ p) = _
          rw [f22, ybz2, ycP_le, decide_eq_false h3, cond_false, ycP_ne, decide_eq_true (show ¬ p = 9 by omega), cond_true]
          unfold f_X8_readDeep_b32
          rw [p2]
          rfl
        · rw [yw_n (by decide), yw_n (by decide)]
        · rw [yw_n (by decide), yw_p] at z
          exact absurd z (by decide)
  · have fe := yE_f E
    have f22 : ¬ τ.1 0 22 = 0 := by omega
    refine ⟨σ, τ, fun K => ?_, ?_, E, yK7_r, yK8_r, rfl, fun z => absurd z f0⟩
    · rw [x7_isDepth]
      by_cases hd : (0 ≤ p ∧ p ≤ 3) ∨ p = 9
      · rw [if_pos hd]
        show (bif ycP .ne 1 0 then K σ else _) = _
        rw [ybo2]
      · rw [if_neg hd]
        show (bif ycP .ne 0 0 then _ else match f_X1_complain N σ 3 (σ.1 2 3) with
            | none => none
            | some r8 => K r8.2) = _
        rw [ybz2, x1_cbad f0]
    · unfold f_X8_readDeep
      rw [g]
      show (bif ycP .ne (τ.1 0 22) 0 then f_X8_readDeep_b36 N τ b else _) = _
      rw [ycP_ne, decide_eq_true f22, cond_true]
      rfl
