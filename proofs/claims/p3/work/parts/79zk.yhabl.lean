theorem yRD_hab {σ τ σ' τ' : yS} {A : Nat} {v k d n : Int} (R : yRD σ τ) (hA : A < 7) (r : σ'.2 = σ.2) (w7 : ∀ i b : Nat, ¬ (i = 2 ∧ ((1 ≤ b ∧ b ≤ 5) ∨ (10 ≤ b ∧ b ≤ 12))) → ¬ (42 ≤ i ∧ i ≤ 44 ∧ b = A) → σ'.1 i b = σ.1 i b) (w8 : ∀ i b : Nat, ¬ (i = 0 ∧ ((18 ≤ b ∧ b ≤ 23) ∨ b = 14 ∨ b = 15)) → ¬ (i = 7 ∧ b = 2) → ¬ (i = 5 ∧ (b = 21 + A ∨ b = 28 + A ∨ b = 35 + A)) → τ'.1 i b = τ.1 i b) (x0 : σ'.1 2 10 = v) (x1 : σ'.1 42 A = k) (x2 : σ'.1 43 A = d) (x3 : σ'.1 44 A = n) (y0 : τ'.1 7 2 = v) (y1 : τ'.1 5 (21 + A) = k) (y2 : τ'.1 5 (28 + A) = d) (y3 : τ'.1 5 (35 + A) = n) (vb : 0 ≤ v ∧ v < 128) (hk : 0 ≤ k ∧ k ≤ 4) (hd : 0 ≤ d ∧ d ≤ 4) (hn : 0 ≤ n ∧ n ≤ 10) (gr : σ'.1 2 11 = τ'.1 0 14 ∧ τ.1 0 14 ≤ τ'.1 0 14 ∧ 0 ≤ τ'.1 0 14 ∧ τ'.1 0 14 ≤ 6) (gd : σ'.1 2 12 = τ'.1 0 15 ∧ τ.1 0 15 ≤ τ'.1 0 15 ∧ d ≤ τ'.1 0 15 ∧ 0 ≤ τ'.1 0 15 ∧ τ'.1 0 15 ≤ 4) : yRD σ' τ' := by
  obtain ⟨⟨q1, q2, q3, q4, q5, q6, q7⟩, T, G, K, z, ⟨s1, s2, s3⟩, ⟨a1, a2, a3, a4⟩, b, g1, g2⟩ := R
  have low : ∀ j : Nat, j < 21 ∨ 42 ≤ j → τ'.1 5 j = τ.1 5 j := fun j hj => w8 5 j (by omega) (by omega) (by omega)
  have mid : ∀ i : Nat, i < 7 → ¬ i = A → τ'.1 5 (21 + i) = τ.1 5 (21 + i) ∧ τ'.1 5 (28 + i) = τ.1 5 (28 + i) ∧ τ'.1 5 (35 + i) = τ.1 5 (35 + i) := fun i hi e => ⟨w8 5 _ (by omega) (by omega) (by omega), w8 5 _ (by omega) (by omega) (by omega), w8 5 _ (by omega) (by omega) (by omega)⟩
  have G2 := yGe_m (hs' := τ'.1 0 14 + 1) (ds' := τ'.1 0 15 + 1) (by omega) (by omega) G
  have K2 := yGk_m (hs' := τ'.1 0 14 + 1) (ds' := τ'.1 0 15 + 1) (by omega) (by omega) K
  have c77 : 0 ≤ τ.1 5 77 ∧ τ.1 5 77 ≤ 10 := G.2.2.1
  have c118 : 0 ≤ τ.1 5 118 ∧ τ.1 5 118 ≤ 4 := G.2.2.2.2.1
  refine ⟨⟨?_, ?_, ?_, ?_, ?_, ?_, fun e he => ?_⟩, ?_, ?_, ?_, ?_, ?_, ⟨?_, ?_, ?_, ?_⟩, fun j hj => ?_, ?_, ?_⟩
  · rw [w7 _ _ (by decide) (by omega), w8 _ _ (by decide) (by decide) (by omega)]; exact q1
  · rw [w7 _ _ (by decide) (by omega), w8 _ _ (by decide) (by decide) (by omega)]; exact q2
  · rw [w7 _ _ (by decide) (by omega), w8 _ _ (by decide) (by decide) (by omega)]; exact q3
  · rw [w8 _ _ (by decide) (by decide) (by omega)]; exact q4
  · rw [w8 _ _ (by decide) (by decide) (by omega)]; exact q5
  · rw [w8 _ _ (by decide) (by decide) (by omega)]; exact q6
  · rw [w8 _ _ (by decide) (by decide) (by omega)] at he
    rw [w7 _ _ (by omega) (by omega), w8 _ _ (by omega) (by omega) (by omega)]; exact q7 e he
  · obtain ⟨t1, t2, ⟨t3, t4⟩, ⟨t5, t6⟩, ⟨d0, d1, d2, d3⟩, t7⟩ := T
    refine ⟨fun i hi => ?_, fun j hj => ?_, ⟨?_, fun i hi => ?_⟩, ⟨?_, fun i hi => ?_⟩, ⟨?_, ?_, ?_, ?_⟩, ?_⟩
    all_goals try dsimp only
    · rw [w7 (38 + 2) _ (by omega) (by omega), w7 (38 + 3) _ (by omega) (by omega), w7 38 _ (by omega) (by omega), low i (by omega), low (7 + i) (by omega), low (14 + i) (by omega)]
      obtain ⟨u0, u1, u2, u3, u4, u5⟩ := t1 i hi
      by_cases e : i = A
      · subst e
        exact ⟨u0, u1, u2, x1.trans y1.symm, x2.trans y2.symm, x3.trans y3.symm⟩
      · obtain ⟨m1, m2, m3⟩ := mid i hi e
        rw [m1, m2, m3, w7 (38 + 4) _ (by omega) (by omega), w7 (38 + 5) _ (by omega) (by omega), w7 (38 + 6) _ (by omega) (by omega)]
        exact ⟨u0, u1, u2, u3, u4, u5⟩
    · rw [w7 _ _ (by omega) (by omega), low _ (by omega)]; exact t2 j hj
    · rw [r, w7 _ _ (by omega) (by omega), low _ (by omega)]; exact t3
    · dsimp only at hi
      rw [low _ (by omega)] at hi
      rw [r, w7 _ _ (by omega) (by omega), w7 _ _ (by omega) (by omega), w7 _ _ (by omega) (by omega), w7 _ _ (by omega) (by omega), low (78 + 4 * i) (by omega), low (79 + 4 * i) (by omega), low (80 + 4 * i) (by omega), low (81 + 4 * i) (by omega)]; exact t4 i hi
    · rw [w7 _ _ (by omega) (by omega), low _ (by omega)]; exact t5
    · dsimp only at hi
      rw [low _ (by omega)] at hi
      rw [w7 _ _ (by omega) (by omega), w7 _ _ (by omega) (by omega), low _ (by omega), low _ (by omega)]; exact t6 i hi
    · rw [w7 _ _ (by omega) (by omega), low _ (by omega)]; exact d0
    · rw [w7 _ _ (by omega) (by omega), low _ (by omega)]; exact d1
    · rw [w7 _ _ (by omega) (by omega), low _ (by omega)]; exact d2
    · rw [w7 _ _ (by omega) (by omega), low _ (by omega)]; exact d3
    · rw [r]; exact t7
  · obtain ⟨c0, c1, c2, c3, c4, c5⟩ := G2
    refine ⟨by rw [w7 _ _ (by omega) (by omega)]; exact c0, fun i hi => ?_, ?_, fun i hi => ?_, ?_, fun i hi => ?_⟩
    all_goals try dsimp only
    · rw [low (7 + i) (by omega), low (14 + i) (by omega)]
      obtain ⟨u0, u1, u2, u3, u4⟩ := c1 i hi
      by_cases e : i = A
      · subst e
        rw [y1, y2, y3]
        exact ⟨u0, u1, hk, hd, hn⟩
      · obtain ⟨m1, m2, m3⟩ := mid i hi e
        rw [m1, m2, m3]
        exact ⟨u0, u1, u2, u3, u4⟩
    · rw [low _ (by omega)]; exact c2
    · dsimp only at hi
      rw [low _ (by omega)] at hi
      rw [low _ (by omega), low _ (by omega), low _ (by omega), low _ (by omega)]; exact c3 i hi
    · rw [low _ (by omega)]; exact c4
    · dsimp only at hi
      rw [low _ (by omega)] at hi
      rw [low _ (by omega), low _ (by omega)]; exact c5 i hi
  · obtain ⟨k1, k2, k3⟩ := K2
    refine ⟨fun j hj => ?_, fun i hi q => ?_, fun i hi q => ?_⟩
    · dsimp only
      rw [low _ (by omega)]; exact k1 j hj
    · dsimp only at q ⊢
      by_cases e : i = A
      · subst e
        rw [y2]; omega
      · obtain ⟨m1, m2, m3⟩ := mid i hi e
        rw [m3] at q
        rw [m2]; exact k2 i hi q
    · dsimp only
      rw [low _ (by omega)]; exact k3 i hi q
  · rw [low _ (by omega)]; exact z
  · rw [w7 _ _ (by decide) (by omega), w8 _ _ (by decide) (by decide) (by omega)]; exact ⟨s1, s2, s3⟩
  · rw [w7 _ _ (by decide) (by omega), w8 _ _ (by decide) (by decide) (by omega)]; exact a1
  · rw [w7 _ _ (by decide) (by omega), w8 _ _ (by decide) (by decide) (by omega)]; exact a2
  · rw [x0, y0]
  · rw [w7 38 6 (by decide) (by omega), w7 2 9 (by decide) (by omega)]; exact a4
  · by_cases e : j = 2
    · subst e
      rw [y0]; exact vb
    · rw [w8 _ _ (by omega) (by omega) (by omega)]; exact b j hj
  · exact Or.inr ⟨gr.1, gr.2.2.1, gr.2.2.2⟩
  · exact Or.inr ⟨gd.1, gd.2.2.2.1, gd.2.2.2.2⟩
theorem yh8 {τ τ6 τ7 τ8 τ9 τ10 τ11 : yS} {B : Nat} {x y z : Int} (hB : B < 7) (k6 : yK8 τ τ6) (k7 : yK8 τ6 τ7) (k8 : ∀ i k : Nat, ¬ (i = 0 ∧ (18 ≤ k ∧ k ≤ 23 ∨ k = 15)) → τ8.1 i k = (yw τ7 5 (21 + B) x).1 i k) (k9 : yK8 τ8 τ9) (k10 : yK8 (yw τ9 5 (28 + B) y) τ10) (k11 : yK8 τ10 τ11) : (∀ i k : Nat, ¬ (i = 0 ∧ ((18 ≤ k ∧ k ≤ 23) ∨ k = 15)) → ¬ (i = 5 ∧ (k = 21 + B ∨ k = 28 + B ∨ k = 35 + B)) → (yw τ11 5 (35 + B) z).1 i k = τ.1 i k) ∧ (yw τ11 5 (35 + B) z).1 5 (21 + B) = x ∧ (yw τ11 5 (35 + B) z).1 5 (28 + B) = y ∧ (yw τ11 5 (35 + B) z).1 5 (35 + B) = z ∧ (yw τ11 5 (35 + B) z).1 0 15 = τ8.1 0 15 ∧ (yw τ7 5 (21 + B) x).1 0 15 = τ.1 0 15 := by
  refine ⟨fun i k h1 h2 => ?_, ?_, ?_, yw_p, ?_, ?_⟩
  · rw [yw_n (by omega), k11 i k (by omega), k10 i k (by omega), yw_n (by omega), k9 i k (by omega), k8 i k (by omega), yw_n (by omega), k7 i k (by omega), k6 i k (by omega)]
  · rw [yw_n (by omega), k11 _ _ (by omega), k10 _ _ (by omega), yw_n (by omega), k9 _ _ (by omega), k8 _ _ (by omega), yw_p]
  · rw [yw_n (by omega), k11 _ _ (by omega), k10 _ _ (by omega), yw_p]
  · rw [yw_n (by omega), k11 _ _ (by omega), k10 _ _ (by omega), yw_n (by omega), k9 _ _ (by omega)]
  · rw [yw_n (by omega), k7 _ _ (by omega), k6 _ _ (by omega)]
theorem yh7 {σ σ6 σ7 σ8 σ9 σ10 σ11 : yS} {A : Nat} {k d n : Int} (hA : A < 7) (k6 : yK7 σ σ6) (k7 : yK7 σ6 σ7) (r8 : σ8.2 = σ7.2) (k8 : ∀ i b : Nat, ¬ (i = 2 ∧ (1 ≤ b ∧ b ≤ 5 ∨ b = 12)) → σ8.1 i b = σ7.1 i b) (k9 : yK7 σ8 σ9) (k10 : yK7 σ9 σ10) (k11 : yK7 (yw (yw (yw σ10 42 A k) 43 A d) 44 A n) σ11) : σ11.2 = σ.2 ∧ (∀ i b : Nat, ¬ (i = 2 ∧ ((1 ≤ b ∧ b ≤ 5) ∨ b = 12)) → ¬ (42 ≤ i ∧ i ≤ 44 ∧ b = A) → σ11.1 i b = σ.1 i b) ∧ σ11.1 42 A = k ∧ σ11.1 43 A = d ∧ σ11.1 44 A = n ∧ σ11.1 2 12 = σ8.1 2 12 ∧ σ7.1 2 12 = σ.1 2 12 ∧ (yw (yw (yw σ10 42 A k) 43 A d) 44 A n).1 2 1 = σ10.1 2 1 ∧ (yw (yw (yw σ10 42 A k) 43 A d) 44 A n).1 2 4 = σ10.1 2 4 := by
  refine ⟨k11.1.trans (k10.1.trans (k9.1.trans (r8.trans (k7.1.trans k6.1)))), fun i b h1 h2 => ?_, ?_, ?_, ?_, ?_, ?_, ?_, ?_⟩
  · rw [k11.2 i b (by omega), yw_n (by omega), yw_n (by omega), yw_n (by omega), k10.2 i b (by omega), k9.2 i b (by omega), k8 i b (by omega), k7.2 i b (by omega), k6.2 i b (by omega)]
  · rw [k11.2 _ _ (by omega), yw_n (by omega), yw_n (by omega), yw_p]
  · rw [k11.2 _ _ (by omega), yw_n (by omega), yw_p]
  · rw [k11.2 _ _ (by omega), yw_p]
  · rw [k11.2 _ _ (by omega), yw_n (by omega), yw_n (by omega), yw_n (by omega), k10.2 _ _ (by omega), k9.2 _ _ (by omega)]
  · rw [k7.2 _ _ (by omega), k6.2 _ _ (by omega)]
  · rw [yw_n (by omega), yw_n (by omega), yw_n (by omega)]
  · rw [yw_n (by omega), yw_n (by omega), yw_n (by omega)]
theorem yle6 {a b c d e f : Int} (h1 : b = a) (h2 : b ≤ c) (h3 : d = c) (h4 : d ≤ e) (h5 : f = e) : a ≤ f := by omega
/-- a habit's line behind its house -/
theorem p_hab2 {N : Nat} (hN : 400 ≤ N) {σ0 σ τ : yS} {A B : Nat} (hA : A < 7) (hB : B < 7) (hr : f_X1_readToken N σ0 = some (0, σ)) (E : yE σ τ) (G : σ.1 2 4 = 0 → yGr (σ.1 2 12) (τ.1 0 15) 4) : ∃ (k d n x y z : Int) (σ6 σ8 σ10 σ' τ7 τ9 τ11 : yS), f_X1_needKind N σ0 = some (k, σ6) ∧ f_X1_needDeed N σ6 = some (d, σ8) ∧ f_X1_needNumber N σ8 0 10 = some (n, σ10) ∧ f_X1_readToken N (yw (yw (yw σ10 42 A k) 43 A d) 44 A n) = some (0, σ') ∧ f_X8_readKind N τ = some (x, τ7) ∧ f_X8_readADeed N (yw τ7 5 (21 + B) x) = some (y, τ9) ∧ f_X8_readNumber N (yw τ9 5 (28 + B) y) 0 10 = some (z, τ11) ∧ yE σ' (yw τ11 5 (35 + B) z) ∧ σ'.2 = σ.2 ∧ (∀ i b : Nat, ¬ (i = 2 ∧ ((1 ≤ b ∧ b ≤ 5) ∨ b = 12)) → ¬ (42 ≤ i ∧ i ≤ 44 ∧ b = A) → σ'.1 i b = σ.1 i b) ∧ (∀ i k : Nat, ¬ (i = 0 ∧ ((18 ≤ k ∧ k ≤ 23) ∨ k = 15)) → ¬ (i = 5 ∧ (k = 21 + B ∨ k = 28 + B ∨ k = 35 + B)) → (yw τ11 5 (35 + B) z).1 i k = τ.1 i k) ∧ (σ'.1 42 A = k ∧ σ'.1 43 A = d ∧ σ'.1 44 A = n) ∧ ((yw τ11 5 (35 + B) z).1 5 (21 + B) = x ∧ (yw τ11 5 (35 + B) z).1 5 (28 + B) = y ∧ (yw τ11 5 (35 + B) z).1 5 (35 + B) = z) ∧ ((0 ≤ k ∧ k ≤ 4) ∧ (0 ≤ d ∧ d ≤ 4) ∧ (0 ≤ n ∧ n ≤ 10)) ∧ (σ'.1 2 4 = 0 → k = x ∧ d = y ∧ n = z ∧ σ.1 2 4 = 0 ∧ (σ'.1 2 12 = (yw τ11 5 (35 + B) z).1 0 15 ∧ τ.1 0 15 ≤ (yw τ11 5 (35 + B) z).1 0 15 ∧ d ≤ (yw τ11 5 (35 + B) z).1 0 15 ∧ 0 ≤ (yw τ11 5 (35 + B) z).1 0 15 ∧ (yw τ11 5 (35 + B) z).1 0 15 ≤ 4)) ∧ σ.1 2 1 ≤ σ'.1 2 1 ∧ (σ'.1 2 4 = 0 → ¬ σ'.1 2 2 = 0 → σ.1 2 1 < σ'.1 2 1) := by
  obtain ⟨k, x, σ6, τ6, kd7, kd8, E6, kk7, kk8, hk, hkb, okk, mo6, -⟩ := p_kind (N := N) hr E
  obtain ⟨σ7, τ7, p7, p8, E7, o7, o8, mo7, z7, st7, nb7⟩ := p_next (N := N) hN E6
  have E7w : yE σ7 (yw τ7 5 (21 + B) x) := yE_w8 E7 (by omega)
  have e12 : σ7.1 2 12 = σ.1 2 12 := (o7.2 2 12 (by decide)).trans (kk7.2 2 12 (by decide))
  have e15 : (yw τ7 5 (21 + B) x).1 0 15 = τ.1 0 15 := (yw_n (by omega)).trans ((o8 0 15 (by decide)).trans (kk8 0 15 (by decide)))
  obtain ⟨d, y, σ8, τ8, d7, d8, E8, hd, he, s8, x7, x8, mo8, ok8⟩ := p_needDeed (N := N) hN p7 E7w (fun z => by rw [e12, e15]; exact G ((okk (z7 z)).2.1 ▸ z7 z))
  obtain ⟨σ9, τ9, t7, t8, E9, i7, i8, mo9, z9, st9, nb9⟩ := p_next (N := N) hN E8
  have E9w : yE σ9 (yw τ9 5 (28 + B) y) := yE_w8 E9 (by omega)
  obtain ⟨n, z, σ10, τ10, n7, n8, E10, l7, l8, hn, hnb, okn, mo10⟩ := p_needNumber (N := N) hN (lo := 0) (hi := 10) t7 (by decide) E9w
  have E10w : yE (yw (yw (yw σ10 42 A k) 43 A d) 44 A n) τ10 := yE_w7 (yE_w7 (yE_w7 E10 (by omega)) (by omega)) (by omega)
  obtain ⟨σ11, τ11, r7, r8, E11, j7, j8, mo11, z11, st11, nb11⟩ := p_next (N := N) hN E10w
  obtain ⟨F1, F2, F3, F4, F5, F6, -, F8, F9⟩ := yh7 hA kk7 o7 s8 x7 i7 l7 j7
  obtain ⟨H1, H2, H3, H4, H5, H6⟩ := yh8 (z := z) hB kk8 o8 x8 i8 l8 j8
  have mm : σ.1 2 1 ≤ (yw (yw (yw σ10 42 A k) 43 A d) 44 A n).1 2 1 := by
    rw [F8]
    exact yle6 mo6 mo7 mo8 mo9 mo10
  refine ⟨k, d, n, x, y, z, σ6, σ8, σ10, σ11, τ7, τ9, τ11, kd7, d7, n7, r7, ?_, ?_, ?_, yE_w8 E11 (by omega), F1, F2, H1, ⟨F3, F4, F5⟩, ⟨H2, H3, H4⟩, ⟨hk, hd, hn⟩, fun zz => ?_, Int.le_trans mm mo11, fun zz q => Int.lt_of_le_of_lt mm (st11 zz q)⟩
  · rw [kd8, p8]
  · unfold f_X8_readADeed
    rw [d8]
    show (match f_X8_next N τ8 with
      | none => none
      | some r2 => some (y, r2.2)) = _
    rw [t8]
  · unfold f_X8_readNumber
    rw [n8]
    show (match f_X8_next N τ10 with
      | none => none
      | some r2 => some (z, r2.2)) = _
    rw [r8]
  · have z10 : σ10.1 2 4 = 0 := F9.symm.trans (z11 zz)
    obtain ⟨w1, w2, w3⟩ := okn z10
    have z8' : σ8.1 2 4 = 0 := z9 (w2 ▸ z10)
    obtain ⟨w4, w5, w6⟩ := ok8 z8'
    have z6 : σ6.1 2 4 = 0 := z7 w5
    obtain ⟨w7, w8, w9⟩ := okk z6
    refine ⟨w7, w4, w1, w8 ▸ z6, ?_⟩
    rw [F6, H5, ← H6]
    exact w6
