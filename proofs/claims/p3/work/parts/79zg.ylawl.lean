theorem yRT_law {σ : yS} {t : Nat} {g : Nat → Int} {L : Int} {A : Nat} (hA : A < 7) (hb : ∀ i : Nat, i < 7 → yan (ysr L (i : Int)) 1 = if i = A then 1 else yan (ysr (σ.1 t 6) (i : Int)) 1) (H : yRT σ t g) : yRT (yw σ t 6 L) t (yup g (14 + A) 1) := by
  obtain ⟨t1, t2, ⟨t3, t4⟩, ⟨t5, t6⟩, ⟨d0, d1, d2, d3⟩, t7⟩ := H
  refine ⟨fun i hi => ?_, fun j hj => ?_, ⟨?_, fun i hi => ?_⟩, ⟨?_, fun i hi => ?_⟩, ⟨?_, ?_, ?_, ?_⟩, t7⟩
  · obtain ⟨q0, q1, q2, q3, q4, q5⟩ := t1 i hi
    refine ⟨?_, ?_, ?_, ?_, ?_, ?_⟩
    · rw [yw_n (by omega), yup_n (by omega)]; exact q0
    · rw [yw_n (by omega), yup_n (by omega)]; exact q1
    · rw [yw_p, hb i hi]
      by_cases e : i = A
      · subst e
        rw [if_pos rfl, yup_p]
      · rw [if_neg e, yup_n (by omega)]; exact q2
    · rw [yw_n (by omega), yup_n (by omega)]; exact q3
    · rw [yw_n (by omega), yup_n (by omega)]; exact q4
    · rw [yw_n (by omega), yup_n (by omega)]; exact q5
  · rw [yw_n (by omega), yup_n (by omega)]; exact t2 j hj
  · rw [yw_2, yw_n (by omega), yup_n (by omega)]; exact t3
  · rw [yup_n (by omega)] at hi
    rw [yw_2, yw_n (by omega), yw_n (by omega), yw_n (by omega), yw_n (by omega), yup_n (by omega), yup_n (by omega), yup_n (by omega), yup_n (by omega)]; exact t4 i hi
  · rw [yw_n (by omega), yup_n (by omega)]; exact t5
  · rw [yup_n (by omega)] at hi
    rw [yw_n (by omega), yw_n (by omega), yup_n (by omega), yup_n (by omega)]; exact t6 i hi
  · rw [yw_n (by omega), yup_n (by omega)]; exact d0
  · rw [yw_n (by omega), yup_n (by omega)]; exact d1
  · rw [yw_n (by omega), yup_n (by omega)]; exact d2
  · rw [yw_n (by omega), yup_n (by omega)]; exact d3
/-- a terrace against a row, by what both read -/
theorem yRT_g {σ σ' : yS} {t : Nat} {g g' : Nat → Int} (r : ∀ b : Nat, σ'.2 t b = σ.2 t b) (c : ∀ a b : Nat, (a = t ∧ 6 ≤ b) ∨ (t + 2 ≤ a ∧ a < t + 21) → σ'.1 a b = σ.1 a b) (e : ∀ j : Nat, g' j = g j) (H : yRT σ t g) : yRT σ' t g' := by
  have e : g' = g := funext e
  rw [e]
  obtain ⟨t1, t2, ⟨t3, t4⟩, ⟨t5, t6⟩, ⟨x0, x1, x2, x3⟩, x7⟩ := H
  refine ⟨fun i hi => ?_, fun j hj => ?_, ⟨?_, fun i hi => ?_⟩, ⟨?_, fun i hi => ?_⟩, ⟨?_, ?_, ?_, ?_⟩, ?_⟩
  · rw [c (t + 2) _ (by omega), c (t + 3) _ (by omega), c t _ (by omega), c (t + 4) _ (by omega), c (t + 5) _ (by omega), c (t + 6) _ (by omega)]
    exact t1 i hi
  · rw [c _ _ (by omega)]; exact t2 j hj
  · rw [r, c _ _ (by omega)]; exact t3
  · rw [r, c _ _ (by omega), c _ _ (by omega), c _ _ (by omega), c _ _ (by omega)]; exact t4 i hi
  · rw [c _ _ (by omega)]; exact t5
  · rw [c _ _ (by omega), c _ _ (by omega)]; exact t6 i hi
  · rw [c _ _ (by omega)]; exact x0
  · rw [c _ _ (by omega)]; exact x1
  · rw [c _ _ (by omega)]; exact x2
  · rw [c _ _ (by omega)]; exact x3
  · rw [r, r]; exact x7
theorem yRD_law {σ τ σ' τ' : yS} {A : Nat} {v : Int} (R : yRD σ τ) (hA : A < 7) (r : σ'.2 = σ.2) (w7 : ∀ i k : Nat, ¬ (i = 2 ∧ ((1 ≤ k ∧ k ≤ 5) ∨ k = 9 ∨ k = 11)) → ¬ (i = 38 ∧ k = 6) → σ'.1 i k = σ.1 i k) (w8 : ∀ i k : Nat, ¬ (i = 0 ∧ ((18 ≤ k ∧ k ≤ 23) ∨ k = 14)) → ¬ (i = 7 ∧ k = 1) → ¬ (i = 5 ∧ k = 14 + A) → τ'.1 i k = τ.1 i k) (x1 : σ'.1 2 9 = v) (x2 : σ'.1 38 6 = v) (y1 : τ'.1 7 1 = v) (y2 : τ'.1 5 (14 + A) = 1) (hv : v = yor (σ.1 2 9) (ysl 1 (A : Int))) (vb : 0 ≤ v ∧ v < 128) (gr : σ'.1 2 11 = τ'.1 0 14 ∧ τ.1 0 14 ≤ τ'.1 0 14 ∧ (A : Int) ≤ τ'.1 0 14 ∧ 0 ≤ τ'.1 0 14 ∧ τ'.1 0 14 ≤ 6) : yRD σ' τ' := by
  obtain ⟨⟨q1, q2, q3, q4, q5, q6, q7⟩, T, G, K, z, ⟨s1, s2, s3⟩, ⟨a1, a2, a3, a4⟩, b, g1, g2⟩ := R
  obtain ⟨L, hL⟩ : ∃ L : Nat, σ.1 2 9 = (L : Int) := ⟨(σ.1 2 9).toNat, by have := b 1 (by omega); omega⟩
  have bits : ∀ i : Nat, i < 7 → yan (ysr v (i : Int)) 1 = if i = A then 1 else yan (ysr (σ.1 38 6) (i : Int)) 1 := fun i hi => by
    have q := (ybw7 ⟨L, by have := b 1 (by omega); omega⟩ ⟨A, hA⟩).2 ⟨i, hi⟩
    dsimp only at q
    rw [hv, a4, hL]
    exact q
  have eu : (fun j => τ'.1 5 j) = yup (fun j => τ.1 5 j) (14 + A) 1 := by
    funext j
    by_cases e : j = 14 + A
    · subst e
      rw [y2, yup_p]
    · rw [yup_n e]; exact w8 5 j (by omega) (by omega) (by omega)
  refine ⟨⟨?_, ?_, ?_, ?_, ?_, ?_, fun d hd => ?_⟩, ?_, ?_, ?_, ?_, ?_, ⟨?_, ?_, ?_, ?_⟩, fun k hk => ?_, ?_, ?_⟩
  · rw [w7 _ _ (by omega) (by omega), w8 _ _ (by omega) (by omega) (by omega)]; exact q1
  · rw [w7 _ _ (by omega) (by omega), w8 _ _ (by omega) (by omega) (by omega)]; exact q2
  · rw [w7 _ _ (by omega) (by omega), w8 _ _ (by omega) (by omega) (by omega)]; exact q3
  · rw [w8 _ _ (by omega) (by omega) (by omega)]; exact q4
  · rw [w8 _ _ (by omega) (by omega) (by omega)]; exact q5
  · rw [w8 _ _ (by omega) (by omega) (by omega)]; exact q6
  · rw [w8 _ _ (by omega) (by omega) (by omega)] at hd
    rw [w7 _ _ (by omega) (by omega), w8 _ _ (by omega) (by omega) (by omega)]; exact q7 d hd
  · have T2 := yRT_law (L := v) hA bits T
    rw [← eu] at T2
    refine yRT_g (σ := yw σ 38 6 v) (fun k => by rw [r]; rfl) (fun i k h => ?_) (fun j => rfl) T2
    by_cases e : i = 38 ∧ k = 6
    · obtain ⟨rfl, rfl⟩ := e
      rw [x2, yw_p]
    · rw [yw_n (by omega)]; exact w7 i k (by omega) e
  · rw [eu, x2, w8 0 15 (by omega) (by omega) (by omega)]
    have G2 := yGe_m (hs' := τ'.1 0 14 + 1) (ds' := τ.1 0 15 + 1) (by omega) (Int.le_refl _) G
    obtain ⟨c0, c1, c2, c3, c4, c5⟩ := G2
    refine ⟨vb, fun i hi => ?_, by rw [yup_n (by omega)]; exact c2, fun i hi => ?_, by rw [yup_n (by omega)]; exact c4, fun i hi => ?_⟩
    · obtain ⟨p1, p2, p3, p4, p5⟩ := c1 i hi
      refine ⟨by rw [yup_n (by omega)]; exact p1, ?_, by rw [yup_n (by omega)]; exact p3, by rw [yup_n (by omega)]; exact p4, by rw [yup_n (by omega)]; exact p5⟩
      by_cases e : i = A
      · subst e
        rw [yup_p]; decide
      · rw [yup_n (by omega)]; exact p2
    · rw [yup_n (by omega)] at hi
      rw [yup_n (by omega), yup_n (by omega), yup_n (by omega), yup_n (by omega)]; exact c3 i hi
    · rw [yup_n (by omega)] at hi
      rw [yup_n (by omega), yup_n (by omega)]; exact c5 i hi
  · rw [eu, w8 0 15 (by omega) (by omega) (by omega)]
    have K2 := yGk_m (hs' := τ'.1 0 14 + 1) (ds' := τ.1 0 15 + 1) (by omega) (Int.le_refl _) K
    refine ⟨fun j hj => by rw [yup_n (by omega)]; exact K2.1 j hj, fun i hi => by rw [yup_n (by omega), yup_n (by omega)]; exact K2.2.1 i hi, fun i hi q => ?_⟩
    rw [yup_n (by omega)]
    exact K2.2.2 i hi q
  · rw [w8 _ _ (by omega) (by omega) (by omega)]; exact z
  · rw [w7 _ _ (by omega) (by omega), w8 _ _ (by omega) (by omega) (by omega)]; exact ⟨s1, s2, s3⟩
  · rw [w7 _ _ (by omega) (by omega), w8 _ _ (by omega) (by omega) (by omega)]; exact a1
  · rw [x1, y1]
  · rw [w7 _ _ (by omega) (by omega), w8 _ _ (by omega) (by omega) (by omega)]; exact a3
  · rw [x2, x1]
  · by_cases e : k = 1
    · subst e
      rw [y1]; exact vb
    · rw [w8 _ _ (by omega) (by omega) (by omega)]; exact b k hk
  · exact Or.inr ⟨gr.1, gr.2.2.2.1, gr.2.2.2.2⟩
  · rw [w7 _ _ (by omega) (by omega), w8 _ _ (by omega) (by omega) (by omega)]; exact g2
theorem p_llaw {N : Nat} (hN : 400 ≤ N) {σ τ : yS} (HH : yLx σ τ ∧ yTk σ τ) (R : yRD σ τ) : yLL N σ τ (f_X1_readLawyer N σ 38) (f_X8_readLine_b156 N τ 1 (τ.1 0 10)) := by
  have s23 := R.2.2.2.2.2.1.2
  have E0 : yE σ (yw τ 0 10 (τ.1 0 10)) := yE_w8 (Or.inl HH) (by decide)
  obtain ⟨σ1, τ1, g7, g8, E1, k7, k8, mo1, z1, st1, nb1⟩ := p_next (N := N) hN E0
  have u8 := y8_0 k8 rfl
  by_cases f1 : τ1.1 0 22 = 0
  · have told := R.2.2.2.2.2.2.1.2.1
    have tb := R.2.2.2.2.2.2.2.1 1 (by decide)
    have gr := R.2.2.2.2.2.2.2.2.1
    obtain ⟨a, b, v, σ2, σ3, τ4, h7, o7, r8, E4, ha, hb, s3, w7, w8, mo3, ok⟩ := p_fresh (N := N) hN (j := 9) (by decide) g7 E1 (fun _ => by rw [k7.2 2 11 (by decide), u8 0 14 (by decide)]; exact gr) (fun _ => by rw [k7.2 2 9 (by decide), u8 7 1 (by decide)]; exact ⟨told, tb⟩)
    obtain ⟨A, hA⟩ : ∃ A : Nat, a = (A : Int) := ⟨a.toNat, by omega⟩
    obtain ⟨B, hB⟩ : ∃ A : Nat, b = (A : Int) := ⟨b.toNat, by omega⟩
    have A7 : A < 7 := by omega
    have B7 : B < 7 := by omega
    have E5 : yE (yw (yw σ3 2 9 v) 38 6 v) τ4 := yE_w7 E4 (by decide)
    obtain ⟨σ5, τ5, t7, t8, E6, i7, i8, mo5, z5, st5, nb5⟩ := p_next (N := N) hN E5
    have c7 : f_X1_readLawyer N σ 38 = some (0, σ5) := by
      simp only [f_X1_readLawyer, f_X1_readLawyer_b20, h7, o7]
      rw [yw_p, t7]
    have rf : f_X8_readFresh N τ1 1 = some (b, τ5) := by
      have q : f_X8_readFresh N τ1 1 = _ := r8
      rw [q, t8]
    have V7 : ∀ i k : Nat, ¬ (i = 2 ∧ ((1 ≤ k ∧ k ≤ 5) ∨ k = 9 ∨ k = 11)) → ¬ (i = 38 ∧ k = 6) → σ5.1 i k = σ.1 i k := fun i k h1 h2 => ((y7_2 i7 i k (by omega) (by omega) (by omega)).trans (w7 i k (by omega))).trans (k7.2 i k (by omega))
    have rr : σ5.2 = σ.2 := i7.1.trans (s3.trans k7.1)
    have l6 : σ5.1 2 6 = σ.1 2 6 := V7 2 6 (by decide) (by decide)
    have Z7 : yZ7 σ σ5 := ⟨rr, fun i k h1 h2 => V7 i k (fun q => h1 q.1) (fun q => h2 (by omega))⟩
    have m3 : (yw (yw σ3 2 9 v) 38 6 v).1 2 1 = σ3.1 2 1 := by rw [yw_n (by decide), yw_n (by decide)]
    have m4 : (yw (yw σ3 2 9 v) 38 6 v).1 2 4 = σ3.1 2 4 := by rw [yw_n (by decide), yw_n (by decide)]
    have Q5 : yQ7 σ5 := yQ7_f (yRD_Q R) rr ⟨V7 _ _ (by decide) (by decide), V7 _ _ (by decide) (by decide), V7 _ _ (by decide) (by decide), V7 _ _ (by decide) (by decide)⟩
    have V8 : ∀ i k : Nat, ¬ (i = 0 ∧ ((18 ≤ k ∧ k ≤ 23) ∨ k = 14)) → ¬ (i = 7 ∧ k = 1) → τ5.1 i k = τ.1 i k := fun i k h1 h2 => ((i8 i k (by omega)).trans (w8 i k (by omega) h2)).trans (u8 i k (by omega))
    have fe := yE_f E6
    have ro : ∀ r : Int × yS, f_X8_readOfHouse N τ1 1 = some r → f_X8_readLineOf N τ1 1 = some (0, r.2) := fun r q => by
      unfold f_X8_readLineOf
      rw [yeq_d, decide_eq_false (by decide), cond_false, yeq_d, decide_eq_false (by decide), cond_false, yeq_d, decide_eq_false (by decide), cond_false, yeq_d, decide_eq_false (by decide), cond_false, yeq_d, decide_eq_false (by decide), cond_false, q]
      rfl
    by_cases f5 : τ5.1 0 22 = 0
    · have m14 : yad 14 b = ((14 + B : Nat) : Int) := by rw [hB, yad_e (by omega) (by omega)]; omega
      have i14 : yin ((14 + B : Nat) : Int) 131 = true := by rw [yin_d]; exact decide_eq_true (by omega)
      have rh : f_X8_readOfHouse N τ1 1 = some (0, yw τ5 5 (14 + B) 1) := by
        unfold f_X8_readOfHouse
        rw [rf]
        show (bif ycP .le (τ5.1 0 22) 0 then bif ycP .ne 1 1 then _ else bif yin (yad 14 b) 131 then f_X8_readOfHouse_b101 N (yw τ5 5 (yad 14 b).toNat 1) else none else some (0, τ5)) = _
        rw [f5, ycP_le, decide_eq_true (by decide), cond_true, ycP_ne, decide_eq_false (by decide), cond_false, m14, i14, cond_true, Int.toNat_natCast]
        rfl
      refine ⟨0, σ5, yw τ5 5 (14 + B) 1, c7, (x8_b156 s23 g8).2 f1 _ (ro _ rh), yE_w8 E6 (by omega), Z7, fun i k h1 h2 h3 h4 => ?_, l6, fun z => ⟨?_, yle4 mo1 mo3 mo5 m3, fun q => ylt4 mo1 mo3 (st5 z (by rw [q]; decide)) m3⟩, fun _ => Q5⟩
      · rw [yw_n (fun q => h1 q.2)]; exact V8 i k (by omega) (fun q => h3 q.1)
      · have z2 : σ3.1 2 4 = 0 := m4.symm.trans (z5 z)
        obtain ⟨y1, y2, y3, y4, y5, y6⟩ := ok z2
        have AB : A = B := by omega
        subst AB
        have p9 : σ1.1 2 9 = σ.1 2 9 := k7.2 2 9 (by decide)
        have p14 : τ1.1 0 14 = τ.1 0 14 := u8 0 14 (by decide)
        refine yRD_law R A7 rr V7 (fun i k h1 h2 h3 => by rw [yw_n (fun q => h3 ⟨q.2, q.1⟩)]; exact V8 i k h1 h2) ((i7.2 2 9 (by decide)).trans ((yw_n (by decide)).trans yw_p)) ((i7.2 38 6 (by decide)).trans yw_p) ?_ yw_p ?_ y4 ?_
        · rw [yw_n (by omega), i8 7 1 (by decide)]; exact y3.symm
        · rw [y5, p9, hA]
        · rw [yw_n (by omega), i8 0 14 (by decide), y7_2 i7 2 11 (by decide) (by decide) (by decide), ← hA, ← p14]
          exact y6
    · have rh : f_X8_readOfHouse N τ1 1 = some (0, τ5) := by
        unfold f_X8_readOfHouse
        rw [rf]
        show (bif ycP .le (τ5.1 0 22) 0 then _ else some ((0 : Int), τ5)) = _
        rw [ycP_le, decide_eq_false (show ¬ τ5.1 0 22 ≤ 0 by omega), cond_false]
      have n5 : ¬ σ5.1 2 4 = 0 := by omega
      exact ⟨0, σ5, τ5, c7, (x8_b156 s23 g8).2 f1 _ (ro _ rh), E6, Z7, fun i k h1 h2 h3 h4 => V8 i k (by omega) (fun q => h3 q.1), l6, fun z => absurd z n5, fun _ => Q5⟩
  · have fe := yE_f E1
    have B1 : yB7 σ1 := yB7_e E1 (by omega)
    have Q1 : yQ7 σ1 := yQ7_f (yRD_Q R) k7.1 ⟨k7.2 _ _ (by decide), k7.2 _ _ (by decide), k7.2 _ _ (by decide), k7.2 _ _ (by decide)⟩
    have F := x1_blawyer hN B1 Q1
    have eq : f_X1_readLawyer N σ 38 = f_X1_readLawyer N σ1 38 := by
      simp only [f_X1_readLawyer, x1_hsame g7 B1]
    rw [eq]
    exact p_lfirst s23 g8 E1 f1 F (yZ7_k k7) k8 (k7.2 _ _ (by decide))
