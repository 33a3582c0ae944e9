theorem yRD_want {σ τ σ' τ' : yS} {m : Nat} {a d : Int} (R : yRD σ τ) (hm : τ.1 5 118 = (m : Int)) (m4 : m < 4) (ha : 0 ≤ a ∧ a ≤ 6) (hd : 0 ≤ d ∧ d ≤ 4) (r : σ'.2 = σ.2) (w7 : ∀ i k : Nat, ¬ (i = 2 ∧ ((1 ≤ k ∧ k ≤ 5) ∨ k = 11 ∨ k = 12)) → ¬ (i = 57 ∧ k = m) → ¬ (i = 58 ∧ k = m) → ¬ (i = 56 ∧ k = 0) → σ'.1 i k = σ.1 i k) (x1 : σ'.1 57 m = a) (x2 : σ'.1 58 m = d) (x3 : σ'.1 56 0 = (m : Int) + 1) (w8 : ∀ i k : Nat, ¬ (i = 0 ∧ ((18 ≤ k ∧ k ≤ 23) ∨ k = 14 ∨ k = 15)) → ¬ (i = 5 ∧ (k = 119 + 2 * m ∨ k = 120 + 2 * m ∨ k = 118)) → τ'.1 i k = τ.1 i k) (y1 : τ'.1 5 (119 + 2 * m) = a) (y2 : τ'.1 5 (120 + 2 * m) = d) (y3 : τ'.1 5 118 = (m : Int) + 1) (gh : σ'.1 2 11 = τ'.1 0 14 ∧ τ.1 0 14 ≤ τ'.1 0 14 ∧ a ≤ τ'.1 0 14 ∧ 0 ≤ τ'.1 0 14 ∧ τ'.1 0 14 ≤ 6) (gd : σ'.1 2 12 = τ'.1 0 15 ∧ τ.1 0 15 ≤ τ'.1 0 15 ∧ d ≤ τ'.1 0 15 ∧ 0 ≤ τ'.1 0 15 ∧ τ'.1 0 15 ≤ 4) : yRD σ' τ' := by
  obtain ⟨⟨q1, q2, q3, q4, q5, q6, q7⟩, T, G, K, z, ⟨s1, s2, s3⟩, ⟨a1, a2, a3, a4⟩, b, g1, g2⟩ := R
  have low : ∀ j : Nat, j < 118 ∨ 127 ≤ j → τ'.1 5 j = τ.1 5 j := fun j hj => w8 5 j (by omega) (by omega)
  have old : ∀ i : Nat, i < m → τ'.1 5 (119 + 2 * i) = τ.1 5 (119 + 2 * i) ∧ τ'.1 5 (120 + 2 * i) = τ.1 5 (120 + 2 * i) := fun i hi => ⟨w8 5 _ (by omega) (by omega), w8 5 _ (by omega) (by omega)⟩
  have G2 := yGe_m (hs' := τ'.1 0 14 + 1) (ds' := τ'.1 0 15 + 1) (by omega) (by omega) G
  have K2 := yGk_m (hs' := τ'.1 0 14 + 1) (ds' := τ'.1 0 15 + 1) (by omega) (by omega) K
  have c77 : 0 ≤ τ.1 5 77 ∧ τ.1 5 77 ≤ 10 := G.2.2.1
  refine ⟨⟨?_, ?_, ?_, ?_, ?_, ?_, fun e he => ?_⟩, ?_, ?_, ?_, ?_, ?_, ⟨?_, ?_, ?_, ?_⟩, fun k hk => ?_, ?_, ?_⟩
  · rw [w7 _ _ (by omega) (by omega) (by omega) (by omega), w8 _ _ (by omega) (by omega)]; exact q1
  · rw [w7 _ _ (by omega) (by omega) (by omega) (by omega), w8 _ _ (by omega) (by omega)]; exact q2
  · rw [w7 _ _ (by omega) (by omega) (by omega) (by omega), w8 _ _ (by omega) (by omega)]; exact q3
  · rw [w8 _ _ (by omega) (by omega)]; exact q4
  · rw [w8 _ _ (by omega) (by omega)]; exact q5
  · rw [w8 _ _ (by omega) (by omega)]; exact q6
  · rw [w8 _ _ (by omega) (by omega)] at he
    rw [w7 _ _ (by omega) (by omega) (by omega) (by omega), w8 _ _ (by omega) (by omega)]; exact q7 e he
  · obtain ⟨t1, t2, ⟨t3, t4⟩, ⟨t5, t6⟩, ⟨d0, d1, d2, d3⟩, t7⟩ := T
    refine ⟨fun i hi => ?_, fun j hj => ?_, ⟨?_, fun i hi => ?_⟩, ⟨?_, fun i hi => ?_⟩, ⟨?_, ?_, ?_, ?_⟩, ?_⟩
    all_goals try dsimp only
    · rw [w7 (38 + 2) _ (by omega) (by omega) (by omega) (by omega), w7 (38 + 3) _ (by omega) (by omega) (by omega) (by omega), w7 38 _ (by omega) (by omega) (by omega) (by omega), w7 (38 + 4) _ (by omega) (by omega) (by omega) (by omega), w7 (38 + 5) _ (by omega) (by omega) (by omega) (by omega), w7 (38 + 6) _ (by omega) (by omega) (by omega) (by omega), low i (by omega), low (7 + i) (by omega), low (14 + i) (by omega), low (21 + i) (by omega), low (28 + i) (by omega), low (35 + i) (by omega)]
      exact t1 i hi
    · rw [w7 _ _ (by omega) (by omega) (by omega) (by omega), low _ (by omega)]; exact t2 j hj
    · rw [r, w7 _ _ (by omega) (by omega) (by omega) (by omega), low _ (by omega)]; exact t3
    · dsimp only at hi
      rw [low _ (by omega)] at hi
      rw [r, w7 _ _ (by omega) (by omega) (by omega) (by omega), w7 _ _ (by omega) (by omega) (by omega) (by omega), w7 _ _ (by omega) (by omega) (by omega) (by omega), w7 _ _ (by omega) (by omega) (by omega) (by omega), low (78 + 4 * i) (by omega), low (79 + 4 * i) (by omega), low (80 + 4 * i) (by omega), low (81 + 4 * i) (by omega)]; exact t4 i hi
    · rw [y3]; exact x3
    · dsimp only at hi
      rw [y3] at hi
      by_cases e : i = m
      · subst e
        rw [y1, y2]; exact ⟨x1, x2⟩
      · rw [(old i (by omega)).1, (old i (by omega)).2, w7 (38 + 19) i (by omega) (by omega) (by omega) (by omega), w7 (38 + 20) i (by omega) (by omega) (by omega) (by omega)]
        exact t6 i (show (i : Int) < τ.1 5 118 by omega)
    · rw [w7 _ _ (by omega) (by omega) (by omega) (by omega), low _ (by omega)]; exact d0
    · rw [w7 _ _ (by omega) (by omega) (by omega) (by omega), low _ (by omega)]; exact d1
    · rw [w7 _ _ (by omega) (by omega) (by omega) (by omega), low _ (by omega)]; exact d2
    · rw [w7 _ _ (by omega) (by omega) (by omega) (by omega), low _ (by omega)]; exact d3
    · rw [r]; exact t7
  · obtain ⟨c0, c1, c2, c3, c4, c5⟩ := G2
    refine ⟨by rw [w7 _ _ (by omega) (by omega) (by omega) (by omega)]; exact c0, fun i hi => ?_, ?_, fun i hi => ?_, ?_, fun i hi => ?_⟩
    all_goals try dsimp only
    · rw [low (7 + i) (by omega), low (14 + i) (by omega), low (21 + i) (by omega), low (28 + i) (by omega), low (35 + i) (by omega)]; exact c1 i hi
    · rw [low _ (by omega)]; exact c2
    · dsimp only at hi
      rw [low _ (by omega)] at hi
      rw [low (78 + 4 * i) (by omega), low (79 + 4 * i) (by omega), low (80 + 4 * i) (by omega), low (81 + 4 * i) (by omega)]; exact c3 i hi
    · rw [y3]; omega
    · dsimp only at hi
      rw [y3] at hi
      by_cases e : i = m
      · subst e
        rw [y1, y2]; omega
      · rw [(old i (by omega)).1, (old i (by omega)).2]
        exact c5 i (show (i : Int) < τ.1 5 118 by omega)
  · exact yGk_cong (fun j hj => low j (by omega)) K2
  · rw [low _ (by omega)]; exact z
  · rw [w7 _ _ (by omega) (by omega) (by omega) (by omega), w8 _ _ (by omega) (by omega)]; exact ⟨s1, s2, s3⟩
  · rw [w7 _ _ (by omega) (by omega) (by omega) (by omega), w8 _ _ (by omega) (by omega)]; exact a1
  · rw [w7 _ _ (by omega) (by omega) (by omega) (by omega), w8 _ _ (by omega) (by omega)]; exact a2
  · rw [w7 _ _ (by omega) (by omega) (by omega) (by omega), w8 _ _ (by omega) (by omega)]; exact a3
  · rw [w7 38 6 (by omega) (by omega) (by omega) (by omega), w7 2 9 (by omega) (by omega) (by omega) (by omega)]; exact a4
  · rw [w8 _ _ (by omega) (by omega)]; exact b k hk
  · exact Or.inr ⟨gh.1, gh.2.2.2.1, gh.2.2.2.2⟩
  · exact Or.inr ⟨gd.1, gd.2.2.2.1, gd.2.2.2.2⟩
theorem x6_app {N : Nat} {σ : yS} {m : Nat} {h d : Int} (hm : σ.1 56 0 = (m : Int)) (m4 : m < 4) : f_X6_append N σ (38 + 18) h d = some (1, yw (yw (yw σ 57 m h) 58 m d) 56 0 ((m : Int) + 1)) := by
  have im : yin (m : Int) 4 = true := by rw [yin_d]; exact decide_eq_true (by omega)
  have e1 : yad (m : Int) 1 = (m : Int) + 1 := yad_e (by omega) (by omega)
  simp only [f_X6_append, f_X6_append_b25, f_X6_append_b32, ycP_lt, show 38 + 18 = 56 from rfl, cond_true, hm, im, Int.toNat_natCast, show 56 + 1 = 57 from rfl, show 56 + 2 = 58 from rfl]
  rw [yw_n (a := 56) (b := 0) (by omega), hm, im, cond_true, Int.toNat_natCast, yw_n (a := 56) (b := 0) (by omega), yw_n (a := 56) (b := 0) (by omega), hm, e1, decide_eq_true (show (m : Int) < 4 by omega), cond_true]
theorem p_lwant {N : Nat} (hN : 400 ≤ N) {σ τ : yS} (HH : yLx σ τ ∧ yTk σ τ) (R : yRD σ τ) (h4 : ¬ τ.1 5 118 = 4) : yLL N σ τ (f_X1_readWant N σ 38) (f_X8_readLine_b156 N τ 7 (τ.1 0 10)) := by
  have s23 := R.2.2.2.2.2.1.2
  have b118 : 0 ≤ τ.1 5 118 ∧ τ.1 5 118 ≤ 4 := R.2.2.1.2.2.2.2.1
  have s56 : σ.1 56 0 = τ.1 5 118 := R.2.1.2.2.2.1.1
  obtain ⟨m, hm⟩ : ∃ m : Nat, τ.1 5 118 = (m : Int) := ⟨(τ.1 5 118).toNat, by omega⟩
  have m4 : m < 4 := by omega
  have sm : σ.1 56 0 = (m : Int) := s56.trans hm
  have e118 : yad 119 (ymu 2 (m : Int)) = ((119 + 2 * m : Nat) : Int) := by rw [ymu_e (by omega) (by omega), yad_e (by omega) (by omega)]; omega
  have e120 : yad ((119 + 2 * m : Nat) : Int) 1 = ((120 + 2 * m : Nat) : Int) := by rw [yad_e (by omega) (by omega)]; omega
  have j1 : yin ((119 + 2 * m : Nat) : Int) 131 = true := by rw [yin_d]; exact decide_eq_true (by omega)
  have j2 : yin ((120 + 2 * m : Nat) : Int) 131 = true := by rw [yin_d]; exact decide_eq_true (by omega)
  have em : yad (m : Int) 1 = (m : Int) + 1 := yad_e (by omega) (by omega)
  have lt4 : σ.1 56 0 < 4 := by omega
  clear b118 s56 h4
  have E0 : yE σ (yw τ 0 10 (τ.1 0 10)) := yE_w8 (Or.inl HH) (by decide)
  obtain ⟨σ1, τ1, g7, g8, E1, k7, k8, mo1, z1, st1, nb1⟩ := p_next (N := N) hN E0
  have u8 := y8_0 k8 rfl
  have c0 : f_X1_readWant N σ 38 = f_X1_readWant_b20 N σ 38 := by
    unfold f_X1_readWant
    rw [show 38 + 18 = 56 from rfl, ycP_lt, decide_eq_true lt4, cond_true]
  by_cases f1 : τ1.1 0 22 = 0
  · have gr := R.2.2.2.2.2.2.2.2.1
    have gd := R.2.2.2.2.2.2.2.2.2
    obtain ⟨a, b, σ2, τ2, h7, h8, E2, ha, hb, s2, v7, v8, mo2, ok2⟩ := p_needHouse (N := N) hN g7 E1 (fun _ => by rw [k7.2 2 11 (by decide), u8 0 14 (by decide)]; exact gr)
    obtain ⟨σ3, τ3, t7, t8, E3, i7, i8, mo3, z3, st3, nb3⟩ := p_next (N := N) hN E2
    have E3w : yE σ3 (yw τ3 5 (119 + 2 * m) b) := yE_w8 E3 (by omega)
    obtain ⟨d, e, σ4, τ4, d7, d8, E4, hd, he, s4, x7, x8, mo4, ok4⟩ := p_needDeed (N := N) hN t7 E3w (fun _ => by
      rw [i7.2 2 12 (by decide), v7 2 12 (by decide), k7.2 2 12 (by decide), yw_n (by omega), i8 0 15 (by decide), v8 0 15 (by decide), u8 0 15 (by decide)]
      exact gd)
    have A7 : ∀ i k : Nat, ¬ (i = 2 ∧ ((1 ≤ k ∧ k ≤ 5) ∨ k = 11 ∨ k = 12)) → σ4.1 i k = σ.1 i k := fun i k q => (((x7 i k (by omega)).trans (i7.2 i k (by omega))).trans (v7 i k (by omega))).trans (k7.2 i k (by omega))
    have s40 : σ4.1 56 0 = (m : Int) := (A7 56 0 (by decide)).trans sm
    have ap := x6_app (N := N) (h := a) (d := d) s40 m4
    have E5 : yE (yw (yw (yw σ4 57 m a) 58 m d) 56 0 ((m : Int) + 1)) τ4 := yE_w7 (yE_w7 (yE_w7 E4 (by omega)) (by omega)) (by decide)
    obtain ⟨σ5, τ5, p7, p8, E6, o7, o8, mo5, z5, st5, nb5⟩ := p_next (N := N) hN E5
    have c7 : f_X1_readWant N σ 38 = some (0, σ5) := by
      rw [c0]
      simp only [f_X1_readWant_b20, h7, d7, ap, p7]
    have t118 : τ1.1 5 118 = (m : Int) := (u8 5 118 (by decide)).trans hm
    have B8 : ∀ i k : Nat, ¬ (i = 0 ∧ ((18 ≤ k ∧ k ≤ 23) ∨ k = 14 ∨ k = 15)) → ¬ (i = 5 ∧ k = 119 + 2 * m) → τ5.1 i k = τ.1 i k := fun i k q1 q2 => by
      rw [o8 i k (by omega), x8 i k (by omega), yw_n (by omega), i8 i k (by omega), v8 i k (by omega), u8 i k (by omega)]
    have r118 : τ5.1 5 118 = (m : Int) := (B8 5 118 (by decide) (by omega)).trans hm
    have r8 : f_X8_readLineOf N τ1 7 = some (0, yw (yw τ5 5 (120 + 2 * m) e) 5 118 ((m : Int) + 1)) := by
      unfold f_X8_readLineOf
      rw [yeq_d, decide_eq_false (by decide), cond_false, yeq_d, decide_eq_false (by decide), cond_false, yeq_d, decide_eq_false (by decide), cond_false, yeq_d, decide_eq_false (by decide), cond_false, yeq_d, decide_eq_true rfl, cond_true]
      simp only [f_X8_readAHouse, h8, t8, t118, e118, j1, cond_true, Int.toNat_natCast, f_X8_readADeed, d8, p8, e120, j2, f_X8_readLineOf_b208, f_X8_readLineOf_b220]
      rw [show yin 118 131 = true from by decide +kernel, cond_true, cond_true, show (118 : Int).toNat = 118 from rfl, yw_n (a := 5) (b := 118) (by omega), r118, em]
    have V7 : ∀ i k : Nat, ¬ (i = 2 ∧ ((1 ≤ k ∧ k ≤ 5) ∨ k = 11 ∨ k = 12)) → ¬ (i = 57 ∧ k = m) → ¬ (i = 58 ∧ k = m) → ¬ (i = 56 ∧ k = 0) → σ5.1 i k = σ.1 i k := fun i k q1 q2 q3 q4 => by
      rw [o7.2 i k (by omega), yw_n (by omega), yw_n (by omega), yw_n (by omega)]
      exact A7 i k q1
    have V8 : ∀ i k : Nat, ¬ (i = 0 ∧ ((18 ≤ k ∧ k ≤ 23) ∨ k = 14 ∨ k = 15)) → ¬ (i = 5 ∧ (k = 119 + 2 * m ∨ k = 120 + 2 * m ∨ k = 118)) → (yw (yw τ5 5 (120 + 2 * m) e) 5 118 ((m : Int) + 1)).1 i k = τ.1 i k := fun i k q1 q2 => by
      rw [yw_n (by omega), yw_n (by omega)]
      exact B8 i k q1 (by omega)
    have rr : σ5.2 = σ.2 := o7.1.trans (s4.trans (i7.1.trans (s2.trans k7.1)))
    have x3 : σ5.1 56 0 = (m : Int) + 1 := (o7.2 56 0 (by decide)).trans yw_p
    have l6 : σ5.1 2 6 = σ.1 2 6 := V7 2 6 (by decide) (by omega) (by omega) (by decide)
    have Z7 : yZ7 σ σ5 := ⟨rr, fun i k h1 h2 => V7 i k (fun q => h1 q.1) (fun q => h2 (by omega)) (fun q => h2 (by omega)) (fun q => h2 (by omega))⟩
    have n3 : (yw (yw (yw σ4 57 m a) 58 m d) 56 0 ((m : Int) + 1)).1 2 1 = σ4.1 2 1 := by rw [yw_n (by decide), yw_n (by omega), yw_n (by omega)]
    have n4 : (yw (yw (yw σ4 57 m a) 58 m d) 56 0 ((m : Int) + 1)).1 2 4 = σ4.1 2 4 := by rw [yw_n (by decide), yw_n (by omega), yw_n (by omega)]
    refine ⟨0, σ5, yw (yw τ5 5 (120 + 2 * m) e) 5 118 ((m : Int) + 1), c7, (x8_b156 s23 g8).2 f1 _ r8, yE_w8 (yE_w8 E6 (by omega)) (by decide), Z7, fun i k h1 h2 h3 h4 => V8 i k (by omega) (fun q => h1 q.1), l6, fun z => ⟨?_, ?_, fun q => ?_⟩, fun z => ?_⟩
    · have z4 : σ4.1 2 4 = 0 := n4.symm.trans (z5 z)
      obtain ⟨y1, y2, y3⟩ := ok4 z4
      have z2 : σ2.1 2 4 = 0 := z3 y2
      obtain ⟨y4, y5, y6⟩ := ok2 z2
      have p14 : τ1.1 0 14 = τ.1 0 14 := u8 0 14 (by decide)
      have p15 : (yw τ3 5 (119 + 2 * m) b).1 0 15 = τ.1 0 15 := by rw [yw_n (by omega), i8 0 15 (by decide), v8 0 15 (by decide), u8 0 15 (by decide)]
      have f14 : (yw (yw τ5 5 (120 + 2 * m) e) 5 118 ((m : Int) + 1)).1 0 14 = τ2.1 0 14 := by rw [yw_n (by decide), yw_n (by omega), o8 0 14 (by decide), x8 0 14 (by decide), yw_n (by omega), i8 0 14 (by decide)]
      have f15 : (yw (yw τ5 5 (120 + 2 * m) e) 5 118 ((m : Int) + 1)).1 0 15 = τ4.1 0 15 := by rw [yw_n (by decide), yw_n (by omega), o8 0 15 (by decide)]
      have f11 : σ5.1 2 11 = σ2.1 2 11 := by rw [o7.2 2 11 (by decide), yw_n (by decide), yw_n (by omega), yw_n (by omega), x7 2 11 (by decide), i7.2 2 11 (by decide)]
      have f12 : σ5.1 2 12 = σ4.1 2 12 := by rw [o7.2 2 12 (by decide), yw_n (by decide), yw_n (by omega), yw_n (by omega)]
      refine yRD_want R hm m4 ha hd rr V7 ?_ ?_ x3 V8 ?_ ?_ yw_p ?_ ?_
      · rw [o7.2 57 m (by omega), yw_n (by omega), yw_n (by omega), yw_p]
      · rw [o7.2 58 m (by omega), yw_n (by omega), yw_p]
      · rw [yw_n (by omega), yw_n (by omega), o8 5 _ (by omega), x8 5 _ (by omega), yw_p]; exact y4.symm
      · rw [yw_n (by omega), yw_p]; exact y1.symm
      · rw [f14, f11, ← p14]; exact y6
      · rw [f15, f12, ← p15]; exact y3
    · exact yle4 (Int.le_trans mo1 (by rw [← mo2]; exact mo3)) mo4 mo5 n3
    · exact ylt4 (Int.le_trans mo1 (by rw [← mo2]; exact mo3)) mo4 (st5 z (by rw [q]; decide)) n3
    · obtain ⟨y1, y2, y3, y4⟩ := yRD_Q R
      have y1' := y1
      unfold yTr at y1'
      refine ⟨by unfold yTr; rw [rr]; exact y1, by rw [V7 38 2 (by decide) (by omega) (by omega) (by decide)]; exact y2, ?_, by rw [x3]; omega⟩
      rw [rr, V7 _ 0 (by omega) (by omega) (by omega) (by omega)]; exact y3
  · have fe := yE_f E1
    have B1 : yB7 σ1 := yB7_e E1 (by omega)
    have Q1 : yQ7 σ1 := yQ7_f (yRD_Q R) k7.1 ⟨k7.2 _ _ (by decide), k7.2 _ _ (by decide), k7.2 _ _ (by decide), k7.2 _ _ (by decide)⟩
    have F := x1_bwant hN B1 Q1
    have eq : f_X1_readWant N σ 38 = f_X1_readWant_b20 N σ1 38 := by
      rw [c0]
      simp only [f_X1_readWant_b20, x1_hsame g7 B1]
    rw [eq]
    exact p_lfirst s23 g8 E1 f1 F (yZ7_k k7) k8 (k7.2 _ _ (by decide))
