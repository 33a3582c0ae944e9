section
theorem x1_ksame {N : Nat} {σ σ1 : yS} (h : f_X1_readToken N σ = some (0, σ1)) (B : yB7 σ1) : f_X1_needKind N σ = f_X1_needKind N σ1 := by
  simp only [f_X1_needKind, h, x1_tbad B]
/-- the class behind the house of a habit's line, a fault told -/
theorem x1_bhab2 {N : Nat} (hN : 400 ≤ N) {S0 S : yS} {a : Int} (ha : 0 ≤ a ∧ a ≤ 6) (hr : f_X1_readToken N S0 = some (0, S)) (B2 : yB7 S) (Q2 : yQ7 S) : yRB N S (match f_X1_needKind N S0 with
      | none => none
      | some r3 => match f_X1_needDeed N r3.2 with
        | none => none
        | some r4 => match f_X1_needNumber N r4.2 0 10 with
          | none => none
          | some r5 => match f_X4_setHabit N r5.2 38 a r3.1 r4.1 r5.1 with
            | none => none
            | some r6 => match f_X1_readToken N r6.2 with
              | none => none
              | some r7 => some (0, r7.2)) := by
  obtain ⟨k, hk, gk⟩ := x1_kbad (N := N) B2
  have B3 : yB7 (yw S 2 12 (ymx (S.1 2 12) 0)) := yB7_z (yZB_w yZB_r (by omega)) B2
  have B4 : yB7 (yw (yw (yw (yw S 2 12 (ymx (S.1 2 12) 0)) (38 + 4) a.toNat k) (38 + 5) a.toNat 0) (38 + 6) a.toNat 0) := yB7_z (yZB_w (yZB_w (yZB_w (yZB_w yZB_r (by omega)) (by omega)) (by omega)) (by omega)) B2
  have i0 : yin a 7 = true := by rw [yin_d]; exact decide_eq_true (by omega)
  refine ⟨0, yw (yw (yw (yw S 2 12 (ymx (S.1 2 12) 0)) (38 + 4) a.toNat k) (38 + 5) a.toNat 0) (38 + 6) a.toNat 0, ?_, yZB_w (yZB_w (yZB_w (yZB_w yZB_r (by omega)) (by omega)) (by omega)) (by omega), yQ7_w (yQ7_w (yQ7_w (yQ7_w Q2 (by omega)) (by omega)) (by omega)) (by omega)⟩
  rw [x1_ksame hr B2]
  simp only [gk, x1_dbad hN B2, x1_mbad hN B3, f_X4_setHabit, i0, cond_true, x1_tbad B4]
theorem yQ7_fr {σ σ' : yS} (Q : yQ7 σ) (r : σ'.2 = σ.2) (h : ∀ i k : Nat, (i = 38 ∧ k = 2) ∨ (45 < i ∧ k = 0) → σ'.1 i k = σ.1 i k) : yQ7 σ' := yQ7_f Q r ⟨h _ _ (by omega), h _ _ (by omega), h _ _ (by omega), h _ _ (by omega)⟩
theorem yhf7 {σ σ1 σ3 σ5 σ' : yS} {A : Nat} {v : Int} (k7 : yK7 σ σ1) (w7 : ∀ i k : Nat, ¬ (i = 2 ∧ (1 ≤ k ∧ k ≤ 5 ∨ k = 11)) → σ3.1 i k = σ1.1 i k) (i7 : yK7 (yw σ3 2 10 v) σ5) (f7 : ∀ i b : Nat, ¬ (i = 2 ∧ ((1 ≤ b ∧ b ≤ 5) ∨ b = 12)) → ¬ (42 ≤ i ∧ i ≤ 44 ∧ b = A) → σ'.1 i b = σ5.1 i b) : (∀ i b : Nat, ¬ (i = 2 ∧ ((1 ≤ b ∧ b ≤ 5) ∨ (10 ≤ b ∧ b ≤ 12))) → ¬ (42 ≤ i ∧ i ≤ 44 ∧ b = A) → σ'.1 i b = σ.1 i b) ∧ σ'.1 2 10 = v ∧ σ'.1 2 11 = σ3.1 2 11 := by
  refine ⟨fun i b h1 h2 => ?_, ?_, ?_⟩
  · rw [f7 i b (by omega) h2, i7.2 i b (by omega), yw_n (by omega), w7 i b (by omega), k7.2 i b (by omega)]
  · rw [f7 2 10 (by decide) (by omega), i7.2 2 10 (by decide), yw_p]
  · rw [f7 2 11 (by decide) (by omega), i7.2 2 11 (by decide), yw_n (by decide)]
theorem yhf8 {τ τ1 τ4 τ5 τ' : yS} {B : Nat} (u8 : ∀ i k : Nat, ¬ (i = 0 ∧ 18 ≤ k ∧ k ≤ 23) → τ1.1 i k = τ.1 i k) (w8 : ∀ i k : Nat, ¬ (i = 0 ∧ (18 ≤ k ∧ k ≤ 23 ∨ k = 14)) → ¬ (i = 7 ∧ k = 2) → τ4.1 i k = τ1.1 i k) (i8 : yK8 τ4 τ5) (f8 : ∀ i k : Nat, ¬ (i = 0 ∧ ((18 ≤ k ∧ k ≤ 23) ∨ k = 15)) → ¬ (i = 5 ∧ (k = 21 + B ∨ k = 28 + B ∨ k = 35 + B)) → τ'.1 i k = τ5.1 i k) : (∀ i b : Nat, ¬ (i = 0 ∧ ((18 ≤ b ∧ b ≤ 23) ∨ b = 14 ∨ b = 15)) → ¬ (i = 7 ∧ b = 2) → ¬ (i = 5 ∧ (b = 21 + B ∨ b = 28 + B ∨ b = 35 + B)) → τ'.1 i b = τ.1 i b) ∧ τ'.1 7 2 = τ4.1 7 2 ∧ τ'.1 0 14 = τ4.1 0 14 ∧ τ5.1 0 15 = τ.1 0 15 := by
  refine ⟨fun i b h1 h2 h3 => ?_, ?_, ?_, ?_⟩
  · rw [f8 i b (by omega) h3, i8 i b (by omega), w8 i b (by omega) h2, u8 i b (by omega)]
  · rw [f8 7 2 (by decide) (by omega), i8 7 2 (by decide)]
  · rw [f8 0 14 (by decide) (by omega), i8 0 14 (by decide)]
  · rw [i8 0 15 (by decide), w8 0 15 (by decide) (by decide), u8 0 15 (by decide)]
theorem p_lhabit {N : Nat} (hN : 400 ≤ N) {σ τ : yS} (HH : yLx σ τ ∧ yTk σ τ) (R : yRD σ τ) : yLL N σ τ (f_X1_readHabit N σ 38) (f_X8_readLine_b156 N τ 2 (τ.1 0 10)) := by
  have s23 := R.2.2.2.2.2.1.2
  have E0 : yE σ (yw τ 0 10 (τ.1 0 10)) := yE_w8 (Or.inl HH) (by decide)
  obtain ⟨σ1, τ1, g7, g8, E1, k7, k8, mo1, z1, st1, nb1⟩ := p_next (N := N) hN E0
  have u8 := y8_0 k8 rfl
  by_cases f1 : τ1.1 0 22 = 0
  · have told := R.2.2.2.2.2.2.1.2.2.1
    have tb := R.2.2.2.2.2.2.2.1 2 (by decide)
    have gr := R.2.2.2.2.2.2.2.2.1
    have gd := R.2.2.2.2.2.2.2.2.2
    obtain ⟨a, b, v, σ2, σ3, τ4, h7, o7, r8, E4, ha, hb, s3, w7, w8, mo3, ok⟩ := p_fresh (N := N) hN (j := 10) (by decide) g7 E1 (fun _ => by rw [k7.2 2 11 (by decide), u8 0 14 (by decide)]; exact gr) (fun _ => by rw [k7.2 2 10 (by decide), u8 7 2 (by decide)]; exact ⟨told, tb⟩)
    obtain ⟨A, hA⟩ : ∃ A : Nat, a = (A : Int) := ⟨a.toNat, by omega⟩
    obtain ⟨B, hB⟩ : ∃ A : Nat, b = (A : Int) := ⟨b.toNat, by omega⟩
    have A7 : A < 7 := by omega
    have B7 : B < 7 := by omega
    obtain ⟨σ5, τ5, t7, t8, E5, i7, i8, mo5, z5, st5, nb5⟩ := p_next (N := N) hN E4
    have rf : f_X8_readFresh N τ1 2 = some (b, τ5) := by
      have q : f_X8_readFresh N τ1 2 = _ := r8
      rw [q, t8]
    have ro : ∀ r : Int × yS, f_X8_readOfHouse N τ1 2 = some r → f_X8_readLineOf N τ1 2 = some (0, r.2) := fun r q => by
      unfold f_X8_readLineOf
      rw [yeq_d, decide_eq_false (by decide), cond_false, yeq_d, decide_eq_false (by decide), cond_false, yeq_d, decide_eq_false (by decide), cond_false, yeq_d, decide_eq_false (by decide), cond_false, yeq_d, decide_eq_false (by decide), cond_false, q]
      rfl
    have fe := yE_f E5
    have n21 : (yw σ3 2 10 v).1 2 1 = σ3.1 2 1 := yw_n (by decide)
    have m5 : σ.1 2 1 ≤ σ5.1 2 1 := yle4 mo1 mo3 mo5 n21
    have iA : yin (A : Int) 7 = true := by rw [yin_d]; exact decide_eq_true (by omega)
    by_cases f5 : τ5.1 0 22 = 0
    · have e21 : yad 21 (B : Int) = ((21 + B : Nat) : Int) := by rw [yad_e (by omega) (by omega)]; omega
      have e28 : yad 28 (B : Int) = ((28 + B : Nat) : Int) := by rw [yad_e (by omega) (by omega)]; omega
      have e35 : yad 35 (B : Int) = ((35 + B : Nat) : Int) := by rw [yad_e (by omega) (by omega)]; omega
      have j21 : yin ((21 + B : Nat) : Int) 131 = true := by rw [yin_d]; exact decide_eq_true (by omega)
      have j28 : yin ((28 + B : Nat) : Int) 131 = true := by rw [yin_d]; exact decide_eq_true (by omega)
      have j35 : yin ((35 + B : Nat) : Int) 131 = true := by rw [yin_d]; exact decide_eq_true (by omega)
      have gd5 : yGr (σ5.1 2 12) (τ5.1 0 15) 4 := by
        rw [i7.2 2 12 (by decide), yw_n (by decide), w7 2 12 (by decide), k7.2 2 12 (by decide), i8 0 15 (by decide), w8 0 15 (by decide) (by decide), u8 0 15 (by decide)]
        exact gd
      obtain ⟨k, d, n, x, y, z, σ6, σ8, σ10, σ', τ7, τ9, τ11, c1, c2, c3, c4, d1, d2, d3, E', r', F7, F8, ⟨x1, x2, x3⟩, ⟨y1, y2, y3⟩, ⟨hk, hd, hn⟩, ok', mo', st'⟩ := p_hab2 (N := N) hN A7 B7 t7 E5 (fun _ => gd5)
      obtain ⟨P1, P2, P3⟩ := yhf7 k7 w7 i7 F7
      obtain ⟨P4, P5, P6, P7⟩ := yhf8 u8 w8 i8 F8
      have cc : f_X1_readHabit N σ 38 = some (0, σ') := by
        have c4' : f_X1_readToken N (yw (yw (yw σ10 (38 + 4) A k) (38 + 5) A d) (38 + 6) A n) = some (0, σ') := c4
        simp only [f_X1_readHabit, h7, o7, c1, c2, c3]
        simp only [f_X4_setHabit, hA, iA, cond_true, Int.toNat_natCast, c4']
      have rh : f_X8_readOfHouse N τ1 2 = some (0, yw τ11 5 (35 + B) z) := by
        unfold f_X8_readOfHouse
        rw [rf]
        show (bif ycP .le (τ5.1 0 22) 0 then bif ycP .ne 2 1 then bif ycP .ne 2 0 then _ else _ else _ else _) = _
        rw [f5, ycP_le, decide_eq_true (by decide), cond_true, ycP_ne, decide_eq_true (by decide), cond_true, ycP_ne, decide_eq_true (by decide), cond_true]
        simp only [d1, hB, e21, j21, cond_true, Int.toNat_natCast, d2, e28, j28, d3, e35, j35]
        rfl
      have rr : σ'.2 = σ.2 := r'.trans (i7.1.trans (s3.trans k7.1))
      refine ⟨0, σ', yw τ11 5 (35 + B) z, cc, (x8_b156 s23 g8).2 f1 _ (ro _ rh), E', ⟨rr, fun i c h1 h2 => P1 i c (fun q => h1 q.1) (fun q => h2 (by omega))⟩, fun i c h1 h2 h3 h4 => P4 i c (by omega) (fun q => h3 q.1) (fun q => h1 q.1), P1 2 6 (by decide) (by omega), fun zz => ⟨?_, Int.le_trans m5 mo', fun q => Int.lt_of_le_of_lt m5 (st' zz (by rw [q]; decide))⟩, fun _ => yQ7_fr (yRD_Q R) rr (fun i c q => P1 i c (by omega) (by omega))⟩
      obtain ⟨v1, v2, v3, v4, v5⟩ := ok' zz
      have z3 : σ3.1 2 4 = 0 := (yw_n (by decide)).symm.trans (z5 v4)
      obtain ⟨u1, u2, u3, u4, u5, u6⟩ := ok z3
      have AB : A = B := by omega
      subst AB
      have p14 : τ1.1 0 14 = τ.1 0 14 := u8 0 14 (by decide)
      refine yRD_hab R A7 rr P1 P4 P2 x1 x2 x3 (P5.trans u3.symm) (y1.trans v1.symm) (y2.trans v2.symm) (y3.trans v3.symm) u4 hk hd hn ?_ ?_
      · rw [P3, P6, ← p14]
        exact ⟨u6.1, u6.2.1, u6.2.2.2⟩
      · rw [P7] at v5
        exact v5
    · have rh : f_X8_readOfHouse N τ1 2 = some (0, τ5) := by
        unfold f_X8_readOfHouse
        rw [rf]
        show (bif ycP .le (τ5.1 0 22) 0 then _ else some ((0 : Int), τ5)) = _
        rw [ycP_le, decide_eq_false (show ¬ τ5.1 0 22 ≤ 0 by omega), cond_false]
      have n5 : ¬ σ5.1 2 4 = 0 := by omega
      have P1 : ∀ i c : Nat, ¬ (i = 2 ∧ ((1 ≤ c ∧ c ≤ 5) ∨ (10 ≤ c ∧ c ≤ 12))) → σ5.1 i c = σ.1 i c := fun i c q => by rw [i7.2 i c (by omega), yw_n (by omega), w7 i c (by omega), k7.2 i c (by omega)]
      have rr : σ5.2 = σ.2 := i7.1.trans (s3.trans k7.1)
      have Q5 : yQ7 σ5 := yQ7_fr (yRD_Q R) rr (fun i c q => P1 i c (by omega))
      have B5 : yB7 σ5 := yB7_e E5 n5
      obtain ⟨r, σ', cc, Z, Q⟩ := x1_bhab2 (N := N) hN (a := a) ha t7 B5 Q5
      have n7 : ¬ σ'.1 2 4 = 0 := by rw [Z.2 2 4 (by omega) (by omega)]; exact n5
      refine ⟨r, σ', τ5, ?_, (x8_b156 s23 g8).2 f1 _ (ro _ rh), yE_zb E5 n5 Z, yZ7_t ⟨rr, fun i c h1 h2 => P1 i c (fun q => h1 q.1)⟩ (yZ7_b Z), fun i c h1 h2 h3 h4 => ?_, ?_, fun zz => absurd zz n7, fun _ => Q⟩
      · simp only [f_X1_readHabit, h7, o7]
        exact cc
      · rw [i8 i c (by omega), w8 i c (by omega) (fun q => h3 q.1), u8 i c (by omega)]
      · rw [Z.2 2 6 (by omega) (by omega)]; exact P1 2 6 (by decide)
  · have fe := yE_f E1
    have B1 : yB7 σ1 := yB7_e E1 (by omega)
    have Q1 : yQ7 σ1 := yQ7_f (yRD_Q R) k7.1 ⟨k7.2 _ _ (by decide), k7.2 _ _ (by decide), k7.2 _ _ (by decide), k7.2 _ _ (by decide)⟩
    have F := x1_bhabit hN B1 Q1
    have eq : f_X1_readHabit N σ 38 = f_X1_readHabit N σ1 38 := by
      simp only [f_X1_readHabit, x1_hsame g7 B1]
    rw [eq]
    exact p_lfirst s23 g8 E1 f1 F (yZ7_k k7) k8 (k7.2 _ _ (by decide))
end
section
theorem ybw5 : ∀ S : Fin 32, ∀ a : Fin 5, 0 ≤ yor ((S.val : Nat) : Int) (ysl 1 ((a.val : Nat) : Int)) ∧ yor ((S.val : Nat) : Int) (ysl 1 ((a.val : Nat) : Int)) < 32 := by decide +kernel
theorem yRD_hs {σ τ σ' τ' : yS} {A : Nat} {v n s : Int} (R : yRD σ τ) (hA : A < 7) (r : σ'.2 = σ.2) (w7 : ∀ i b : Nat, ¬ (i = 2 ∧ ((1 ≤ b ∧ b ≤ 5) ∨ b = 8 ∨ b = 11 ∨ b = 12)) → ¬ (40 ≤ i ∧ i ≤ 41 ∧ b = A) → σ'.1 i b = σ.1 i b) (w8 : ∀ i b : Nat, ¬ (i = 0 ∧ ((18 ≤ b ∧ b ≤ 23) ∨ b = 14 ∨ b = 15)) → ¬ (i = 7 ∧ b = 0) → ¬ (i = 5 ∧ (b = A ∨ b = 7 + A)) → τ'.1 i b = τ.1 i b) (x0 : σ'.1 2 8 = v) (y0 : τ'.1 7 0 = v) (vb : 0 ≤ v ∧ v < 128) (x1 : σ'.1 40 A = n) (y1 : τ'.1 5 A = n) (x2 : σ'.1 41 A = s) (y2 : τ'.1 5 (7 + A) = s) (sb : 0 ≤ s ∧ s < 32) (gr : yGr (σ'.1 2 11) (τ'.1 0 14) 6 ∧ τ.1 0 14 ≤ τ'.1 0 14) (gd : yGr (σ'.1 2 12) (τ'.1 0 15) 4 ∧ τ.1 0 15 ≤ τ'.1 0 15) : yRD σ' τ' := by
  obtain ⟨⟨q1, q2, q3, q4, q5, q6, q7⟩, T, G, K, z, ⟨s1, s2, s3⟩, ⟨a1, a2, a3, a4⟩, b, g1, g2⟩ := R
  have low : ∀ j : Nat, 14 ≤ j → τ'.1 5 j = τ.1 5 j := fun j hj => w8 5 j (by omega) (by omega) (by omega)
  have mid : ∀ i : Nat, i < 7 → ¬ i = A → τ'.1 5 i = τ.1 5 i ∧ τ'.1 5 (7 + i) = τ.1 5 (7 + i) := fun i hi e => ⟨w8 5 _ (by omega) (by omega) (by omega), w8 5 _ (by omega) (by omega) (by omega)⟩
  have G2 := yGe_m (hs' := τ'.1 0 14 + 1) (ds' := τ'.1 0 15 + 1) (by omega) (by omega) G
  have K2 := yGk_m (hs' := τ'.1 0 14 + 1) (ds' := τ'.1 0 15 + 1) (by omega) (by omega) K
  refine ⟨⟨?_, ?_, ?_, ?_, ?_, ?_, fun e he => ?_⟩, ?_, ?_, ?_, ?_, ?_, ⟨?_, ?_, ?_, ?_⟩, fun j hj => ?_, gr.1, gd.1⟩
  · rw [w7 _ _ (by decide) (by omega), w8 _ _ (by decide) (by decide) (by omega)]; exact q1
  · rw [w7 _ _ (by decide) (by omega), w8 _ _ (by decide) (by decide) (by omega)]; exact q2
  · rw [w7 _ _ (by decide) (by omega), w8 _ _ (by decide) (by decide) (by omega)]; exact q3
  · rw [w8 _ _ (by decide) (by decide) (by omega)]; exact q4
  · rw [w8 _ _ (by decide) (by decide) (by omega)]; exact q5
  · rw [w8 _ _ (by decide) (by decide) (by omega)]; exact q6
  · rw [w8 _ _ (by decide) (by decide) (by omega)] at he
    rw [w7 _ _ (by omega) (by omega), w8 _ _ (by omega) (by omega) (by omega)]; exact q7 e he
  · obtain ⟨t1, t2, ⟨t3, t4⟩, ⟨t5, t6⟩, ⟨d0, d1, d2, d3⟩, t7⟩ := T
    refine ⟨fun i hi => ?_, fun j hj => ?_, ⟨?_, fun i hi => ?_⟩, ⟨?_, fun i hi => ?_⟩, ⟨?_, ?_, ?_, ?_⟩, ?_⟩
    all_goals try dsimp only
    · rw [w7 38 _ (by omega) (by omega), w7 (38 + 4) _ (by omega) (by omega), w7 (38 + 5) _ (by omega) (by omega), w7 (38 + 6) _ (by omega) (by omega), low (14 + i) (by omega), low (21 + i) (by omega), low (28 + i) (by omega), low (35 + i) (by omega)]
      obtain ⟨u0, u1, u2, u3, u4, u5⟩ := t1 i hi
      by_cases e : i = A
      · subst e
        exact ⟨x1.trans y1.symm, x2.trans y2.symm, u2, u3, u4, u5⟩
      · obtain ⟨m1, m2⟩ := mid i hi e
        rw [m1, m2, w7 (38 + 2) _ (by omega) (by omega), w7 (38 + 3) _ (by omega) (by omega)]
        exact ⟨u0, u1, u2, u3, u4, u5⟩
    · rw [w7 _ _ (by omega) (by omega), low _ (by omega)]; exact t2 j hj
    · rw [r, w7 _ _ (by omega) (by omega), low _ (by omega)]; exact t3
    · dsimp only at hi
      rw [low _ (by omega)] at hi
      rw [r, w7 _ _ (by omega) (by omega), w7 _ _ (by omega) (by omega), w7 _ _ (by omega) (by omega), w7 _ _ (by omega) (by omega), low (78 + 4 * i) (by omega), low (79 + 4 * i) (by omega), low (80 + 4 * i) (by omega), low (81 + 4 * i) (by omega)]; exact t4 i hi
    · rw [w7 _ _ (by omega) (by omega), low _ (by omega)]; exact t5
    · dsimp only at hi
      rw [low _ (by omega)] at hi
      rw [w7 _ _ (by omega) (by omega), w7 _ _ (by omega) (by omega), low _ (by omega), low _ (by omega)]; exact t6 i hi
    · rw [w7 _ _ (by omega) (by omega), low _ (by omega)]; exact d0
    · rw [w7 _ _ (by omega) (by omega), low _ (by omega)]; exact d1
    · rw [w7 _ _ (by omega) (by omega), low _ (by omega)]; exact d2
    · rw [w7 _ _ (by omega) (by omega), low _ (by omega)]; exact d3
    · rw [r]; exact t7
  · obtain ⟨c0, c1, c2, c3, c4, c5⟩ := G2
    refine ⟨by rw [w7 _ _ (by omega) (by omega)]; exact c0, fun i hi => ?_, ?_, fun i hi => ?_, ?_, fun i hi => ?_⟩
    all_goals try dsimp only
    · rw [low (14 + i) (by omega), low (21 + i) (by omega), low (28 + i) (by omega), low (35 + i) (by omega)]
      obtain ⟨u0, u1⟩ := c1 i hi
      by_cases e : i = A
      · subst e
        rw [y2]
        exact ⟨sb, u1⟩
      · rw [(mid i hi e).2]
        exact ⟨u0, u1⟩
    · rw [low _ (by omega)]; exact c2
    · dsimp only at hi
      rw [low _ (by omega)] at hi
      rw [low _ (by omega), low _ (by omega), low _ (by omega), low _ (by omega)]; exact c3 i hi
    · rw [low _ (by omega)]; exact c4
    · dsimp only at hi
      rw [low _ (by omega)] at hi
      rw [low _ (by omega), low _ (by omega)]; exact c5 i hi
  · obtain ⟨k1, k2, k3⟩ := K2
    refine ⟨fun j hj => ?_, fun i hi q => ?_, fun i hi q => ?_⟩
    · dsimp only
      rw [low _ (by omega)]; exact k1 j hj
    · dsimp only at q ⊢
      rw [low _ (by omega)] at q ⊢
      exact k2 i hi q
    · dsimp only
      rw [low _ (by omega)]; exact k3 i hi q
  · rw [low _ (by omega)]; exact z
  · rw [w7 _ _ (by decide) (by omega), w8 _ _ (by decide) (by decide) (by omega)]; exact ⟨s1, s2, s3⟩
  · rw [x0, y0]
  · rw [w7 _ _ (by decide) (by omega), w8 _ _ (by decide) (by decide) (by omega)]; exact a2
  · rw [w7 _ _ (by decide) (by omega), w8 _ _ (by decide) (by decide) (by omega)]; exact a3
  · rw [w7 38 6 (by decide) (by omega), w7 2 9 (by decide) (by omega)]; exact a4
  · by_cases e : j = 0
    · subst e
      rw [y0]; exact vb
    · rw [w8 _ _ (by omega) (by omega) (by omega)]; exact b j hj
/-- what the loop over a house's deeds does, once, in the reference -/
noncomputable def yCn (N : Nat) (τ : yS) (A : Int) (ih : yS → Int → Option (Int × yS)) : Option (Int × yS) := match f_X8_lookedDeed N τ with
        | none => none
        | some r1 => bif ycP .ne (r1.2.1 0 22) 0 then
            f_X8_readCan_b68 N ih r1.2 A
          else
            bif yin (yad 7 A) 131 then
              bif ycP .ne (yan (ysr (r1.2.1 5 (yad 7 A).toNat) r1.1) 1) 0 then
                f_X8_readCan_b49 N ih r1.2 A r1.1 0
              else
                f_X8_readCan_b49 N ih r1.2 A r1.1 1
            else none
theorem p_can1 {N : Nat} (hN : 400 ≤ N) {σ τ : yS} {A : Nat} (hA : A < 7) (HH : yLx σ τ ∧ yTk σ τ) (R : yRD σ τ) : ∃ (a v u : Int) (σ1 σ3 σ' τ' : yS), f_X1_numberHere N σ 0 4 = some (a, σ1) ∧ ymx (σ1.1 2 12) a = u ∧ f_X1_tellOnce N (yw σ1 2 12 u) ((yw σ1 2 12 u).1 (38 + 3) A) a = some (v, σ3) ∧ f_X1_readToken N (yw σ3 (38 + 3) A v) = some (0, σ') ∧ (∀ k0 : yS → Int → Option (Int × yS), yCn N τ (A : Int) k0 = k0 τ' (A : Int)) ∧ yE σ' τ' ∧ σ'.2 = σ.2 ∧ (∀ i b : Nat, ¬ (i = 2 ∧ ((1 ≤ b ∧ b ≤ 5) ∨ b = 12)) → ¬ (i = 41 ∧ b = A) → σ'.1 i b = σ.1 i b) ∧ (∀ i b : Nat, ¬ (i = 0 ∧ ((18 ≤ b ∧ b ≤ 23) ∨ b = 15)) → ¬ (i = 5 ∧ b = 7 + A) → τ'.1 i b = τ.1 i b) ∧ σ.1 2 1 ≤ σ'.1 2 1 ∧ (σ'.1 2 4 = 0 → ¬ σ'.1 2 2 = 0 → σ.1 2 1 < σ'.1 2 1) ∧ (σ'.1 2 4 = 0 → yRD σ' τ') := by
  have gd := R.2.2.2.2.2.2.2.2.2
  have sk : σ.1 41 A = τ.1 5 (7 + A) := (R.2.1.1 A hA).2.1
  have sb : 0 ≤ τ.1 5 (7 + A) ∧ τ.1 5 (7 + A) < 32 := (R.2.2.1.2.1 A hA).1
  have e7 : yad 7 (A : Int) = ((7 + A : Nat) : Int) := by rw [yad_e (by omega) (by omega)]; omega
  have j7 : yin ((7 + A : Nat) : Int) 131 = true := by rw [yin_d]; exact decide_eq_true (by omega)
  obtain ⟨a, b, σ1, τ1, n7, n8, E1, ha, hb, s1, w7, w8, mo1, ok1⟩ := p_deedHere (N := N) hN (Or.inl HH) (fun _ => gd)
  obtain ⟨u, hu⟩ : ∃ u : Int, ymx (σ1.1 2 12) a = u := ⟨_, rfl⟩
  rw [hu] at E1 ok1
  have n4 : (yw σ1 2 12 u).1 2 4 = σ1.1 2 4 := yw_n (by decide)
  have n41 : (yw σ1 2 12 u).1 (38 + 3) A = σ.1 41 A := (yw_n (fun q => absurd q.2 (by decide))).trans (w7 41 A (fun q => absurd q.1 (by decide)))
  have t75 : τ1.1 5 (7 + A) = τ.1 5 (7 + A) := w8 5 _ (fun q => absurd q.1 (by decide))
  have fe := yE_f E1
  by_cases f0 : σ1.1 2 4 = 0
  · obtain ⟨e1, e2, e3, e4⟩ := ok1 f0
    subst e1
    have f22 : τ1.1 0 22 = 0 := by rw [← fe.1, n4]; exact f0
    obtain ⟨S, hS⟩ : ∃ S : Nat, τ.1 5 (7 + A) = (S : Int) := ⟨(τ.1 5 (7 + A)).toNat, by omega⟩
    obtain ⟨D, hD⟩ : ∃ D : Nat, a = (D : Int) := ⟨a.toNat, by omega⟩
    have bs := ybw5 ⟨S, by omega⟩ ⟨D, by omega⟩
    have bb := ybit7 ⟨S, by omega⟩ ⟨D, by omega⟩
    dsimp only at bs bb
    rw [← hD, ← hS] at bs bb
    have H1 := yE_ok E1 (n4.trans f0)
    have rf : ∀ (fl : Int) (τ3 τ4 : yS), (∀ q : Int, q = yan (ysr (τ.1 5 (7 + A)) a) 1 → ((¬ q = 0 ∧ fl = 0) ∨ (q = 0 ∧ fl = 1))) → f_X8_needs N τ1 fl 4 = some (0, τ3) → τ3.1 5 (7 + A) = τ.1 5 (7 + A) → f_X8_next N (yw τ3 5 (7 + A) (yor (τ.1 5 (7 + A)) (ysl 1 a))) = some (0, τ4) → ∀ k0 : yS → Int → Option (Int × yS), yCn N τ (A : Int) k0 = k0 τ4 (A : Int) := fun fl τ3 τ4 hq hn ht hx k0 => by
      have q := hq _ rfl
      unfold yCn
      rw [n8]
      show (bif ycP .ne (τ1.1 0 22) 0 then f_X8_readCan_b68 N k0 τ1 A else bif yin (yad 7 (A : Int)) 131 then bif ycP .ne (yan (ysr (τ1.1 5 (yad 7 (A : Int)).toNat) a) 1) 0 then f_X8_readCan_b49 N k0 τ1 A a 0 else f_X8_readCan_b49 N k0 τ1 A a 1 else none) = _
      rw [f22, ybz2, e7, j7, cond_true, Int.toNat_natCast, t75, ycP_ne]
      have fin : f_X8_readCan_b49 N k0 τ1 A a fl = k0 τ4 (A : Int) := by
        unfold f_X8_readCan_b49
        rw [hn]
        show (bif yin (yad 7 (A : Int)) 131 then f_X8_readCan_b68 N k0 (yw τ3 5 (yad 7 (A : Int)).toNat (yor (τ3.1 5 (yad 7 (A : Int)).toNat) (ysl 1 a))) A else none) = _
        rw [e7, j7, cond_true, Int.toNat_natCast, ht]
        unfold f_X8_readCan_b68
        rw [hx]
      rcases q with ⟨q1, q2⟩ | ⟨q1, q2⟩
      · rw [decide_eq_true q1, cond_true]
        rw [q2] at fin
        exact fin
      · rw [decide_eq_false (fun r => r q1), cond_false]
        rw [q2] at fin
        exact fin
    by_cases hd : yan (ysr (τ.1 5 (7 + A)) a) 1 = 1
    · obtain ⟨p1, p2, p3⟩ := p_fail (N := N) H1 (show (0 : Int) < 4 by decide)
      have Es : yE (yw (yw (yw (yw σ1 2 12 u) 2 4 4) 2 5 ((yw σ1 2 12 u).1 2 3)) (38 + 3) A (yor ((yw σ1 2 12 u).1 (38 + 3) A) (ysl 1 a))) (yw (yw (yw τ1 0 22 4) 0 23 (τ1.1 0 19)) 5 (7 + A) (yor (τ.1 5 (7 + A)) (ysl 1 a))) := yE_w8 (yE_w7 p3 ⟨fun q => absurd q.1 (by decide), by decide, by decide⟩) (by omega)
      obtain ⟨σ', τ', t7, t8, E', i7, i8, mo, z', st, nb⟩ := p_next (N := N) hN Es
      have mz : (yw (yw (yw (yw σ1 2 12 u) 2 4 4) 2 5 ((yw σ1 2 12 u).1 2 3)) (38 + 3) A (yor ((yw σ1 2 12 u).1 (38 + 3) A) (ysl 1 a))).1 2 1 = σ.1 2 1 := by
        rw [yw_n (fun q => absurd q.2 (by decide)), yw_n (by decide), yw_n (by decide), yw_n (by decide)]; exact mo1
      have zz : ¬ σ'.1 2 4 = 0 := fun q => by
        have q2 := z' q
        rw [yw_n (fun q => absurd q.2 (by decide)), yw_n (by decide), yw_p] at q2
        exact absurd q2 (by decide)
      refine ⟨a, yor ((yw σ1 2 12 u).1 (38 + 3) A) (ysl 1 a), u, σ1, _, σ', τ', n7, hu, x1_once.2 (by rw [n41, sk]; exact hd) _ p1, t7, rf 0 _ τ' (fun q hq => Or.inl ⟨by rw [hq, hd]; decide, rfl⟩) p2 ?_ t8, E', ?_, fun i c h1 h2 => ?_, fun i c h1 h2 => ?_, ?_, fun q => absurd q zz, fun q => absurd q zz⟩
      · rw [yw_n (fun q => absurd q.2 (by decide)), yw_n (fun q => absurd q.2 (by decide))]; exact t75
      · exact i7.1.trans s1
      · rw [i7.2 i c (by omega), yw_n (by omega), yw_n (by omega), yw_n (by omega), yw_n (by omega)]; exact w7 i c (by omega)
      · rw [i8 i c (by omega), yw_n (by omega), yw_n (by omega), yw_n (by omega)]; exact w8 i c (by omega)
      · rw [mz] at mo; exact mo
    · have hz : yan (ysr (τ.1 5 (7 + A)) a) 1 = 0 := by
        rcases bb with h | h
        · exact h
        · exact absurd h hd
      have Es : yE (yw (yw σ1 2 12 u) (38 + 3) A (yor ((yw σ1 2 12 u).1 (38 + 3) A) (ysl 1 a))) (yw τ1 5 (7 + A) (yor (τ.1 5 (7 + A)) (ysl 1 a))) := yE_w8 (yE_w7 E1 ⟨fun q => absurd q.1 (by decide), by decide, by decide⟩) (by omega)
      obtain ⟨σ', τ', t7, t8, E', i7, i8, mo, z', st, nb⟩ := p_next (N := N) hN Es
      have mz : (yw (yw σ1 2 12 u) (38 + 3) A (yor ((yw σ1 2 12 u).1 (38 + 3) A) (ysl 1 a))).1 2 1 = σ.1 2 1 := by
        rw [yw_n (fun q => absurd q.2 (by decide)), yw_n (by decide)]; exact mo1
      rw [mz] at mo st
      have V7 : ∀ i c : Nat, ¬ (i = 2 ∧ ((1 ≤ c ∧ c ≤ 5) ∨ c = 12)) → ¬ (i = 41 ∧ c = A) → σ'.1 i c = σ.1 i c := fun i c h1 h2 => by
        rw [i7.2 i c (by omega), yw_n (by omega), yw_n (by omega)]; exact w7 i c (by omega)
      have V8 : ∀ i c : Nat, ¬ (i = 0 ∧ ((18 ≤ c ∧ c ≤ 23) ∨ c = 15)) → ¬ (i = 5 ∧ c = 7 + A) → τ'.1 i c = τ.1 i c := fun i c h1 h2 => by
        rw [i8 i c (by omega), yw_n (by omega)]; exact w8 i c (by omega)
      have rr : σ'.2 = σ.2 := i7.1.trans s1
      refine ⟨a, yor ((yw σ1 2 12 u).1 (38 + 3) A) (ysl 1 a), u, σ1, _, σ', τ', n7, hu, x1_once.1 (by rw [n41, sk]; exact hd), t7, rf 1 τ1 τ' (fun q hq => Or.inr ⟨by rw [hq]; exact hz, rfl⟩) x8_ngood t75 t8, E', rr, V7, V8, mo, st, fun q => ?_⟩
      have m8 : σ'.1 2 8 = σ.1 2 8 := V7 2 8 (by decide) (by omega)
      have m11 : σ'.1 2 11 = σ.1 2 11 := V7 2 11 (by decide) (by omega)
      have m12 : σ'.1 2 12 = u := (i7.2 2 12 (by decide)).trans ((yw_n (fun q => absurd q.2 (by decide))).trans yw_p)
      have o14 : τ'.1 0 14 = τ.1 0 14 := V8 0 14 (by decide) (by omega)
      have o15 : τ'.1 0 15 = τ1.1 0 15 := (i8 0 15 (by decide)).trans (yw_n (by omega))
      refine yRD_hs (A := A) (v := σ.1 2 8) (n := σ.1 40 A) (s := yor (τ.1 5 (7 + A)) (ysl 1 a)) R hA rr (fun i c h1 h2 => V7 i c (by omega) (by omega)) (fun i c h1 h2 h3 => V8 i c (by omega) (by omega)) m8 ((V8 7 0 (by decide) (by omega)).trans R.2.2.2.2.2.2.1.1.symm) (by rw [R.2.2.2.2.2.2.1.1]; exact R.2.2.2.2.2.2.2.1 0 (by decide)) (V7 40 A (by omega) (by omega)) ((V8 5 A (by omega) (by omega)).trans (R.2.1.1 A hA).1.symm) ?_ ?_ bs ⟨?_, ?_⟩ ⟨?_, ?_⟩
      · rw [i7.2 41 A (by omega)]
        show (yw (yw σ1 2 12 u) (38 + 3) A _).1 (38 + 3) A = _
        rw [yw_p, n41, sk]
      · rw [i8 5 (7 + A) (by omega), yw_p]
      · rw [m11, o14]; exact R.2.2.2.2.2.2.2.2.1
      · rw [o14]; exact Int.le_refl _
      · rw [m12, o15]; exact Or.inr ⟨e4.1, e4.2.2.2.1, e4.2.2.2.2⟩
      · rw [o15]; exact e4.2.1
  · have f22 : ¬ τ1.1 0 22 = 0 := by rw [← fe.1, n4]; exact f0
    obtain ⟨v, hv⟩ := x1_obad (N := N) (x := (yw σ1 2 12 u).1 (38 + 3) A) (i := a) (yB7_e E1 (by rw [n4]; exact f0))
    have Es : yE (yw (yw σ1 2 12 u) (38 + 3) A v) τ1 := yE_w7 E1 ⟨fun q => absurd q.1 (by decide), by decide, by decide⟩
    obtain ⟨σ', τ', t7, t8, E', i7, i8, mo, z', st, nb⟩ := p_next (N := N) hN Es
    have mz : (yw (yw σ1 2 12 u) (38 + 3) A v).1 2 1 = σ.1 2 1 := by
      rw [yw_n (fun q => absurd q.2 (by decide)), yw_n (by decide)]; exact mo1
    have zz : ¬ σ'.1 2 4 = 0 := fun q => by
      have q2 := z' q
      rw [yw_n (fun q => absurd q.2 (by decide)), yw_n (by decide)] at q2
      exact f0 q2
    refine ⟨a, v, u, σ1, _, σ', τ', n7, hu, hv, t7, fun k0 => ?_, E', i7.1.trans s1, fun i c h1 h2 => ?_, fun i c h1 h2 => ?_, ?_, fun q => absurd q zz, fun q => absurd q zz⟩
    · unfold yCn
      rw [n8]
      show (bif ycP .ne (τ1.1 0 22) 0 then f_X8_readCan_b68 N k0 τ1 A else _) = _
      rw [ycP_ne, decide_eq_true f22, cond_true]
      unfold f_X8_readCan_b68
      rw [t8]
    · rw [i7.2 i c (by omega), yw_n (by omega), yw_n (by omega)]; exact w7 i c (by omega)
    · rw [i8 i c (by omega)]; exact w8 i c (by omega)
    · rw [mz] at mo; exact mo
end
section
theorem p_lcan {N : Nat} (hN : 400 ≤ N) {A : Nat} (hA : A < 7) : ∀ (c m i : Nat) (σ τ : yS), i + c = 161 → yE σ τ → (σ.1 2 4 = 0 → yRD σ τ ∧ (σ.1 2 2 = 2 → (i : Int) < σ.1 2 1)) → ∃ (σ' τ' : yS), f_X1_readHouse_b37 N (m + c + 1) σ 38 (A : Int) (i : Int) = some (0, σ') ∧ f_X8_readCan_b0 N (m + c + 1) τ (A : Int) = some (0, τ') ∧ yE σ' τ' ∧ σ'.2 = σ.2 ∧ (∀ i b : Nat, ¬ (i = 2 ∧ ((1 ≤ b ∧ b ≤ 5) ∨ b = 12)) → ¬ (i = 41 ∧ b = A) → σ'.1 i b = σ.1 i b) ∧ (∀ i b : Nat, ¬ (i = 0 ∧ ((18 ≤ b ∧ b ≤ 23) ∨ b = 15)) → ¬ (i = 5 ∧ b = 7 + A) → τ'.1 i b = τ.1 i b) ∧ σ.1 2 1 ≤ σ'.1 2 1 ∧ (σ'.1 2 4 = 0 → yRD σ' τ' ∧ σ.1 2 4 = 0 ∧ (¬ σ'.1 2 2 = 0 → ¬ σ.1 2 2 = 0)) := by
  intro c
  induction c with
  | zero =>
      intro m i σ τ hi E ok
      have fe := yE_f E
      have hi2 : i = 161 := by omega
      refine ⟨σ, τ, ?_, ?_, E, rfl, fun _ _ _ _ => rfl, fun _ _ _ _ => rfl, Int.le_refl _, fun z => ⟨(ok z).1, z, fun q => q⟩⟩
      · rw [q_X1_readHouse_b37, ycP_ge, decide_eq_true (by omega), cond_true]
        rfl
      · rw [q_X8_readCan_b0]
        by_cases f0 : σ.1 2 4 = 0
        · obtain ⟨⟨T, f7, f8, hap, hp0, hp1⟩, ⟨b, t, -⟩⟩ := yE_ok E f0
          have ok2 := (ok f0).2
          have T1 := T.2.1
          have T2 := T.2.2.1
          have n2 : ¬ τ.1 0 20 = 2 := fun q => by
            have := ok2 (t.trans q)
            omega
          rw [f8, ybz2, ycP_ne, decide_eq_true n2, cond_true]
          rfl
        · rw [ycP_ne, decide_eq_true (by rw [← fe.1]; exact f0), cond_true]
          rfl
  | succ c ih =>
      intro m i σ τ hi E ok
      have fe := yE_f E
      by_cases f0 : σ.1 2 4 = 0
      · have HH := yE_ok E f0
        obtain ⟨R, ok2⟩ := ok f0
        have H0 := HH
        obtain ⟨⟨T, f7, f8, hap, hp0, hp1⟩, ⟨b, t, -⟩⟩ := H0
        have T1 := T.2.1
        have T2 := T.2.2.1
        by_cases k2 : τ.1 0 20 = 2
        · have i1 := ok2 (t.trans k2)
          have i160 : ¬ (160 : Int) ≤ (i : Int) := by omega
          have iA : yin (A : Int) 7 = true := by rw [yin_d]; exact decide_eq_true (by omega)
          have ei : yad (i : Int) 1 = ((i + 1 : Nat) : Int) := by rw [yad_e (by omega) (by omega)]; omega
          obtain ⟨a, v, u, σ1, σ3, σ2, τ2, n7, hu, o7, t7, r8, E2, rr, V7, V8, mo, st, ok3⟩ := p_can1 (N := N) hN hA HH R
          have nx : σ2.1 2 4 = 0 → yRD σ2 τ2 ∧ (σ2.1 2 2 = 2 → ((i + 1 : Nat) : Int) < σ2.1 2 1) := fun z => ⟨ok3 z, fun q => by
            have s := st z (by rw [q]; decide)
            have i2 : ((i + 1 : Nat) : Int) = (i : Int) + 1 := by omega
            rw [i2]
            exact Int.lt_of_le_of_lt i1 s⟩
          obtain ⟨σ', τ', g7, g8, E', r', W7, W8, mo', ok'⟩ := ih m (i + 1) σ2 τ2 (by omega) E2 nx
          refine ⟨σ', τ', ?_, ?_, E', r'.trans rr, fun j b h1 h2 => (W7 j b h1 h2).trans (V7 j b h1 h2), fun j b h1 h2 => (W8 j b h1 h2).trans (V8 j b h1 h2), Int.le_trans mo mo', fun z => ⟨(ok' z).1, f0, fun _ => ?_⟩⟩
          · rw [show m + (c + 1) + 1 = (m + c + 1) + 1 from rfl, q_X1_readHouse_b37, ycP_ge, decide_eq_false i160, cond_false, f7, ybz2, ycP_ne, decide_eq_false (show ¬ ¬ σ.1 2 2 = 2 from fun q => q (t.trans k2)), cond_false, n7]
            show (match f_X1_noteDeed N σ1 a with
              | none => none
              | some r6 => _) = _
            unfold f_X1_noteDeed
            rw [hu]
            show (bif yin (A : Int) 7 then match f_X1_tellOnce N (yw σ1 2 12 u) ((yw σ1 2 12 u).1 (38 + 3) (A : Int).toNat) a with
                | none => none
                | some r7 => match f_X1_readToken N (yw r7.2 (38 + 3) (A : Int).toNat r7.1) with
                  | none => none
                  | some r8 => f_X1_readHouse_b37 N (m + c + 1) r8.2 38 (A : Int) (yad (i : Int) 1) else none) = _
            rw [iA, cond_true, Int.toNat_natCast, o7]
            show (match f_X1_readToken N (yw σ3 (38 + 3) A v) with
                  | none => none
                  | some r8 => f_X1_readHouse_b37 N (m + c + 1) r8.2 38 (A : Int) (yad (i : Int) 1)) = _
            rw [t7, ei]
            exact g7
          · rw [show m + (c + 1) + 1 = (m + c + 1) + 1 from rfl, q_X8_readCan_b0, f8, ybz2, ycP_ne, decide_eq_false (show ¬ ¬ τ.1 0 20 = 2 from fun q => q k2), cond_false]
            exact (r8 (f_X8_readCan_b0 N (m + c + 1))).trans g8
          · rw [t, k2]; decide
        · refine ⟨σ, τ, ?_, ?_, E, rfl, fun _ _ _ _ => rfl, fun _ _ _ _ => rfl, Int.le_refl _, fun z => ⟨R, z, fun q => q⟩⟩
          · rw [q_X1_readHouse_b37, f7, ybz2, ycP_ne, decide_eq_true (show ¬ σ.1 2 2 = 2 from fun q => k2 (t.symm.trans q)), cond_true, Bool.cond_self]
            rfl
          · rw [q_X8_readCan_b0, f8, ybz2, ycP_ne, decide_eq_true k2, cond_true]
            rfl
      · refine ⟨σ, τ, ?_, ?_, E, rfl, fun _ _ _ _ => rfl, fun _ _ _ _ => rfl, Int.le_refl _, fun z => absurd z f0⟩
        · rw [q_X1_readHouse_b37, ycP_ne, decide_eq_true f0, cond_true, Bool.cond_self]
          rfl
        · rw [q_X8_readCan_b0, ycP_ne, decide_eq_true (show ¬ τ.1 0 22 = 0 by rw [← fe.1]; exact f0), cond_true]
          rfl
/-- the class behind the house of a house's line, a fault told -/
theorem x1_bhouse2 {N : Nat} (hN : 400 ≤ N) {S0 S : yS} {a : Int} (ha : 0 ≤ a ∧ a ≤ 6) (hr : f_X1_readToken N S0 = some (0, S)) (B2 : yB7 S) (Q2 : yQ7 S) : yRB N S (match f_X1_needNumber N S0 0 99 with
      | none => none
      | some r3 => bif yin a 7 then
          match f_X1_readToken N (yw r3.2 (38 + 2) a.toNat r3.1) with
          | none => none
          | some r4 => f_X1_readHouse_b37 N N r4.2 38 a 0
        else none) := by
  obtain ⟨M, hM⟩ : ∃ M, N = M + 1 := ⟨N - 1, by omega⟩
  have B3 : yB7 (yw S (38 + 2) a.toNat 0) := yB7_z (yZB_w yZB_r (by omega)) B2
  have i0 : yin a 7 = true := by rw [yin_d]; exact decide_eq_true (by omega)
  have lp := q_X1_readHouse_b37 N M (yw S (38 + 2) a.toNat 0) 38 a 0
  rw [show M + 1 = N by omega, ycP_ge, decide_eq_false (by decide), cond_false, ycP_ne, decide_eq_true B3.1, cond_true] at lp
  refine ⟨0, yw S (38 + 2) a.toNat 0, ?_, yZB_w yZB_r (by omega), yQ7_w Q2 (by omega)⟩
  rw [x1_msame hr B2]
  simp only [x1_mbad hN B2, i0, cond_true, x1_tbad B3]
  exact lp
end
section
theorem yho7 {σ σ1 σ3 σ5 σ6 σ7 : yS} {A : Nat} {v n : Int} (k7 : yK7 σ σ1) (r3 : σ3.2 = σ1.2) (w7 : ∀ i k : Nat, ¬ (i = 2 ∧ (1 ≤ k ∧ k ≤ 5 ∨ k = 11)) → σ3.1 i k = σ1.1 i k) (i7 : yK7 (yw σ3 2 8 v) σ5) (l7 : yK7 σ5 σ6) (j7 : yK7 (yw σ6 40 A n) σ7) : σ7.2 = σ.2 ∧ (∀ i b : Nat, ¬ (i = 2 ∧ ((1 ≤ b ∧ b ≤ 5) ∨ b = 8 ∨ b = 11)) → ¬ (i = 40 ∧ b = A) → σ7.1 i b = σ.1 i b) ∧ σ7.1 2 8 = v ∧ σ7.1 2 11 = σ3.1 2 11 ∧ σ7.1 40 A = n ∧ (yw σ6 40 A n).1 2 4 = σ6.1 2 4 ∧ (yw σ6 40 A n).1 2 1 = σ6.1 2 1 := by
  refine ⟨j7.1.trans (l7.1.trans (i7.1.trans (r3.trans k7.1))), fun i b h1 h2 => ?_, ?_, ?_, ?_, yw_n (by omega), yw_n (by omega)⟩
  · rw [j7.2 i b (by omega), yw_n (by omega), l7.2 i b (by omega), i7.2 i b (by omega), yw_n (by omega), w7 i b (by omega), k7.2 i b (by omega)]
  · rw [j7.2 2 8 (by decide), yw_n (by omega), l7.2 2 8 (by decide), i7.2 2 8 (by decide), yw_p]
  · rw [j7.2 2 11 (by decide), yw_n (by omega), l7.2 2 11 (by decide), i7.2 2 11 (by decide), yw_n (by decide)]
  · rw [j7.2 40 A (by omega), yw_p]
theorem yho8 {τ τ1 τ4 τ5 τ6 τ7 : yS} {B : Nat} {z : Int} (u8 : ∀ i k : Nat, ¬ (i = 0 ∧ 18 ≤ k ∧ k ≤ 23) → τ1.1 i k = τ.1 i k) (w8 : ∀ i k : Nat, ¬ (i = 0 ∧ (18 ≤ k ∧ k ≤ 23 ∨ k = 14)) → ¬ (i = 7 ∧ k = 0) → τ4.1 i k = τ1.1 i k) (i8 : yK8 τ4 τ5) (l8 : yK8 τ5 τ6) (j8 : yK8 τ6 τ7) : (∀ i b : Nat, ¬ (i = 0 ∧ ((18 ≤ b ∧ b ≤ 23) ∨ b = 14)) → ¬ (i = 7 ∧ b = 0) → ¬ (i = 5 ∧ b = B) → (yw τ7 5 B z).1 i b = τ.1 i b) ∧ (yw τ7 5 B z).1 7 0 = τ4.1 7 0 ∧ (yw τ7 5 B z).1 0 14 = τ4.1 0 14 := by
  refine ⟨fun i b h1 h2 h3 => ?_, ?_, ?_⟩
  · rw [yw_n (by omega), j8 i b (by omega), l8 i b (by omega), i8 i b (by omega), w8 i b (by omega) h2, u8 i b (by omega)]
  · rw [yw_n (by omega), j8 7 0 (by decide), l8 7 0 (by decide), i8 7 0 (by decide)]
  · rw [yw_n (by omega), j8 0 14 (by decide), l8 0 14 (by decide), i8 0 14 (by decide)]
theorem x1_hexit {N : Nat} (hN : 400 ≤ N) {σ : yS} {a : Int} (z : ¬ σ.1 2 4 = 0) : f_X1_readHouse_b37 N N σ 38 a 0 = some (0, σ) := by
  obtain ⟨M, hM⟩ : ∃ M, N = M + 1 := ⟨N - 1, by omega⟩
  have lp := q_X1_readHouse_b37 N M σ 38 a 0
  rw [show M + 1 = N by omega, ycP_ge, decide_eq_false (by decide), cond_false, ycP_ne, decide_eq_true z, cond_true] at lp
  exact lp
theorem x8_cexit {N : Nat} (hN : 400 ≤ N) {τ : yS} {a : Int} (z : ¬ τ.1 0 22 = 0) : f_X8_readCan N τ a = some (0, τ) := by
  obtain ⟨M, hM⟩ : ∃ M, N = M + 1 := ⟨N - 1, by omega⟩
  have lp := q_X8_readCan_b0 N M τ a
  rw [show M + 1 = N by omega, ycP_ne, decide_eq_true z, cond_true] at lp
  exact lp
theorem p_lhouse {N : Nat} (hN : 400 ≤ N) {σ τ : yS} (HH : yLx σ τ ∧ yTk σ τ) (R : yRD σ τ) : yLL N σ τ (f_X1_readHouse N σ 38) (f_X8_readLine_b156 N τ 0 (τ.1 0 10)) := by
  have s23 := R.2.2.2.2.2.1.2
  have E0 : yE σ (yw τ 0 10 (τ.1 0 10)) := yE_w8 (Or.inl HH) (by decide)
  have p0 : 0 ≤ σ.1 2 1 := by rw [HH.1.2.2.2.1]; exact HH.1.2.2.2.2.1
  obtain ⟨σ1, τ1, g7, g8, E1, k7, k8, mo1, z1, st1, nb1⟩ := p_next (N := N) hN E0
  have u8 := y8_0 k8 rfl
  by_cases f1 : τ1.1 0 22 = 0
  · have told := R.2.2.2.2.2.2.1.1
    have tb := R.2.2.2.2.2.2.2.1 0 (by decide)
    have gr := R.2.2.2.2.2.2.2.2.1
    have gd := R.2.2.2.2.2.2.2.2.2
    obtain ⟨a, b, v, σ2, σ3, τ4, h7, o7, r8, E4, ha, hb, s3, w7, w8, mo3, ok⟩ := p_fresh (N := N) hN (j := 8) (by decide) g7 E1 (fun _ => by rw [k7.2 2 11 (by decide), u8 0 14 (by decide)]; exact gr) (fun _ => by rw [k7.2 2 8 (by decide), u8 7 0 (by decide)]; exact ⟨told, tb⟩)
    obtain ⟨A, hA⟩ : ∃ A : Nat, a = (A : Int) := ⟨a.toNat, by omega⟩
    obtain ⟨B, hB⟩ : ∃ A : Nat, b = (A : Int) := ⟨b.toNat, by omega⟩
    have A7 : A < 7 := by omega
    have B7 : B < 7 := by omega
    have iA : yin (A : Int) 7 = true := by rw [yin_d]; exact decide_eq_true (by omega)
    have e0 : yad 0 (B : Int) = (B : Int) := by rw [yad_e (by omega) (by omega)]; omega
    have j0 : yin (B : Int) 131 = true := by rw [yin_d]; exact decide_eq_true (by omega)
    obtain ⟨M, hM⟩ : ∃ M : Nat, N = M + 161 + 1 := ⟨N - 162, by omega⟩
    obtain ⟨σ5, τ5, t7, t8, E5, i7, i8, mo5, z5, st5, nb5⟩ := p_next (N := N) hN E4
    have rf : f_X8_readFresh N τ1 0 = some (b, τ5) := by
      have q : f_X8_readFresh N τ1 0 = _ := r8
      rw [q, t8]
    have ro : ∀ r : Int × yS, f_X8_readOfHouse N τ1 0 = some r → f_X8_readLineOf N τ1 0 = some (0, r.2) := fun r q => by
      unfold f_X8_readLineOf
      rw [yeq_d, decide_eq_false (by decide), cond_false, yeq_d, decide_eq_false (by decide), cond_false, yeq_d, decide_eq_false (by decide), cond_false, yeq_d, decide_eq_false (by decide), cond_false, yeq_d, decide_eq_false (by decide), cond_false, q]
      rfl
    have n21 : (yw σ3 2 8 v).1 2 1 = σ3.1 2 1 := yw_n (by decide)
    have m5 : σ.1 2 1 ≤ σ5.1 2 1 := yle4 mo1 mo3 mo5 n21
    have fe5 := yE_f E5
    by_cases f5 : τ5.1 0 22 = 0
    · obtain ⟨n, z, σ6, τ6, n7, n8, E6, l7, l8, hn, hz, okn, mo6⟩ := p_needNumber (N := N) hN (lo := 0) (hi := 99) t7 (by decide) E5
      have E6w : yE (yw σ6 40 A n) τ6 := yE_w7 E6 ⟨fun q => absurd q.1 (by decide), by decide, by decide⟩
      obtain ⟨σ7, τ7, p7, p8, E7, j7, j8, mo7, z7, st7, nb7⟩ := p_next (N := N) hN E6w
      have E7w : yE σ7 (yw τ7 5 B z) := yE_w8 E7 ⟨fun q => absurd q.1 (by decide), by decide⟩
      obtain ⟨P1, P2, P3, P4, P5, P6, P7⟩ := yho7 k7 s3 w7 i7 l7 j7
      obtain ⟨H1, H2, H3⟩ := yho8 (B := B) (z := z) u8 w8 i8 l8 j8
      have m7 : σ.1 2 1 ≤ σ7.1 2 1 := yle4 m5 mo6 mo7 P7
      have rn : f_X8_readNumber N τ5 0 99 = some (z, τ7) := by
        unfold f_X8_readNumber
        rw [n8]
        show (match f_X8_next N τ6 with
          | none => none
          | some r2 => some (z, r2.2)) = _
        rw [p8]
      have cl : ∀ σ' : yS, f_X1_readHouse_b37 N N σ7 38 (A : Int) 0 = some (0, σ') → f_X1_readHouse N σ 38 = some (0, σ') := fun σ' q => by
        have p7' : f_X1_readToken N (yw σ6 (38 + 2) A n) = some (0, σ7) := p7
        simp only [f_X1_readHouse, h7, o7, n7]
        simp only [hA, iA, cond_true, Int.toNat_natCast, p7', q]
      have rl : ∀ τ' : yS, f_X8_readCan N (yw τ7 5 B z) (B : Int) = some (0, τ') → f_X8_readOfHouse N τ1 0 = some (0, τ') := fun τ' q => by
        unfold f_X8_readOfHouse
        rw [rf]
        show (bif ycP .le (τ5.1 0 22) 0 then bif ycP .ne 0 1 then bif ycP .ne 0 0 then _ else _ else _ else _) = _
        rw [f5, ycP_le, decide_eq_true (by decide), cond_true, ycP_ne, decide_eq_true (by decide), cond_true, ybz2]
        simp only [rn, hB, e0, j0, cond_true, Int.toNat_natCast, q]
        rfl
      have fe7 := yE_f E7w
      by_cases f7 : σ7.1 2 4 = 0
      · have z6 : σ6.1 2 4 = 0 := P6.symm.trans (z7 f7)
        obtain ⟨w1, w2, w3⟩ := okn z6
        have z3 : σ3.1 2 4 = 0 := (yw_n (by decide)).symm.trans (z5 (w2 ▸ z6))
        obtain ⟨y1, y2, y3, y4, y5, y6⟩ := ok z3
        have AB : A = B := Int.ofNat.inj (hA.symm.trans (y1.trans hB))
        subst AB
        have p14 : τ1.1 0 14 = τ.1 0 14 := u8 0 14 (by decide)
        have sk : τ.1 5 (7 + A) = σ.1 41 A := (R.2.1.1 A A7).2.1.symm
        have sb := (R.2.2.1.2.1 A A7).1
        have RD : yRD σ7 (yw τ7 5 A z) := by
          refine yRD_hs (A := A) (v := v) (n := n) (s := τ.1 5 (7 + A)) R A7 P1 (fun i c q1 q2 => P2 i c (fun q => q1 ⟨q.1, q.2.elim Or.inl (fun w => w.elim (fun w => Or.inr (Or.inl w)) (fun w => Or.inr (Or.inr (Or.inl w))))⟩) (fun q => q2 ⟨by rw [q.1]; decide, by rw [q.1]; decide, q.2⟩)) (fun i c q1 q2 q3 => H1 i c (fun q => q1 ⟨q.1, q.2.elim Or.inl (fun w => Or.inr (Or.inl w))⟩) q2 (fun q => q3 ⟨q.1, Or.inl q.2⟩)) P3 (H2.trans y3.symm) y4 P5 (by rw [yw_p, w1]) ((P2 41 A (fun q => absurd q.1 (by decide)) (fun q => absurd q.1 (by decide))).trans sk.symm) (H1 5 (7 + A) (fun q => absurd q.1 (by decide)) (fun q => absurd q.1 (by decide)) (fun q => by have := q.2; exact absurd this (Nat.ne_of_gt (Nat.lt_add_of_pos_left (by decide))))) sb ⟨?_, ?_⟩ ⟨?_, ?_⟩
          · rw [P4, H3]; exact Or.inr ⟨y6.1, y6.2.2.2.1, y6.2.2.2.2⟩
          · rw [H3, ← p14]; exact y6.2.1
          · rw [P2 2 12 (by decide) (fun q => absurd q.1 (by decide)), H1 0 15 (by decide) (by decide) (fun q => absurd q.1 (by decide))]; exact gd
          · rw [H1 0 15 (by decide) (by decide) (fun q => absurd q.1 (by decide))]; exact Int.le_refl _
        obtain ⟨σ', τ', c7, c8, E', r', W7, W8, mo', ok'⟩ := p_lcan (N := N) hN A7 161 M 0 σ7 (yw τ7 5 A z) rfl E7w (fun _ => ⟨RD, fun q => by
          have s := st7 f7 (by rw [q]; decide)
          rw [P7, mo6] at s
          exact Int.lt_of_le_of_lt (Int.le_trans p0 m5) s⟩)
        rw [← hM] at c7 c8
        have V7 : ∀ i c : Nat, ¬ i = 2 → ¬ (40 ≤ i ∧ i ≤ 41) → σ'.1 i c = σ.1 i c := fun i c q1 q2 => (W7 i c (fun q => q1 q.1) (fun q => q2 ⟨by rw [q.1]; decide, by rw [q.1]; decide⟩)).trans (P2 i c (fun q => q1 q.1) (fun q => q2 ⟨by rw [q.1]; decide, by rw [q.1]; decide⟩))
        have rr : σ'.2 = σ.2 := r'.trans P1
        refine ⟨0, σ', τ', cl σ' c7, (x8_b156 s23 g8).2 f1 _ (ro _ (rl τ' c8)), E', ⟨rr, fun i c h1 h2 => V7 i c h1 (fun q => h2 ⟨Nat.le_trans (by decide) q.1, Nat.lt_of_le_of_lt q.2 (by decide)⟩)⟩, fun i c h1 h2 h3 h4 => ?_, ?_, fun zz => ⟨(ok' zz).1, Int.le_trans m7 mo', fun q => ?_⟩, fun _ => yQ7_fr (yRD_Q R) rr (fun i c q => V7 i c (by omega) (by omega))⟩
        · refine (W8 i c (fun q => h4 ⟨q.1, ?_⟩) (fun q => h1 q.1)).trans (H1 i c (fun q => h4 ⟨q.1, ?_⟩) (fun q => h3 q.1) (fun q => h1 q.1))
          · exact q.2.elim (fun w => Or.inr (Or.inr (Or.inr w))) (fun w => Or.inr (Or.inr (Or.inl w)))
          · exact q.2.elim (fun w => Or.inr (Or.inr (Or.inr w))) (fun w => Or.inr (Or.inl w))
        · exact (W7 2 6 (by decide) (fun q => absurd q.1 (by decide))).trans (P2 2 6 (by decide) (fun q => absurd q.1 (by decide)))
        · have s := st7 f7 ((ok' zz).2.2 (by rw [q]; decide))
          rw [P7, mo6] at s
          exact Int.lt_of_le_of_lt m5 (Int.lt_of_lt_of_le s mo')
      · have f22 : ¬ (yw τ7 5 B z).1 0 22 = 0 := by rw [← fe7.1]; exact f7
        refine ⟨0, σ7, yw τ7 5 B z, cl σ7 (x1_hexit hN f7), (x8_b156 s23 g8).2 f1 _ (ro _ (rl _ (x8_cexit hN f22))), E7w, ⟨P1, fun i c h1 h2 => P2 i c (fun q => h1 q.1) (fun q => h2 ⟨by rw [q.1]; decide, by rw [q.1]; decide⟩)⟩, fun i c h1 h2 h3 h4 => H1 i c (fun q => h4 ⟨q.1, ?_⟩) (fun q => h3 q.1) (fun q => h1 q.1), P2 2 6 (by decide) (fun q => absurd q.1 (by decide)), fun zz => absurd zz f7, fun _ => ?_⟩
        · exact q.2.elim (fun w => Or.inr (Or.inr (Or.inr w))) (fun w => Or.inr (Or.inl w))
        · exact yQ7_f (yRD_Q R) P1 ⟨P2 _ _ (by decide) (fun q => absurd q.1 (by decide)), P2 _ _ (by decide) (fun q => absurd q.1 (by decide)), P2 _ _ (by decide) (fun q => absurd q.1 (by decide)), P2 _ _ (by decide) (fun q => absurd q.1 (by decide))⟩
    · have rh : f_X8_readOfHouse N τ1 0 = some (0, τ5) := by
        unfold f_X8_readOfHouse
        rw [rf]
        show (bif ycP .le (τ5.1 0 22) 0 then _ else some ((0 : Int), τ5)) = _
        rw [ycP_le, decide_eq_false (show ¬ τ5.1 0 22 ≤ 0 by omega), cond_false]
      have n5 : ¬ σ5.1 2 4 = 0 := by rw [fe5.1]; exact f5
      have P1 : ∀ i c : Nat, ¬ (i = 2 ∧ ((1 ≤ c ∧ c ≤ 5) ∨ c = 8 ∨ c = 11)) → σ5.1 i c = σ.1 i c := fun i c q => by rw [i7.2 i c (by omega), yw_n (by omega), w7 i c (by omega), k7.2 i c (by omega)]
      have rr : σ5.2 = σ.2 := i7.1.trans (s3.trans k7.1)
      have Q5 : yQ7 σ5 := yQ7_fr (yRD_Q R) rr (fun i c q => P1 i c (by omega))
      have B5 : yB7 σ5 := yB7_e E5 n5
      obtain ⟨r, σ', cc, Z, Q⟩ := x1_bhouse2 (N := N) hN (a := a) ha t7 B5 Q5
      have n7 : ¬ σ'.1 2 4 = 0 := by rw [Z.2 2 4 (by omega) (by omega)]; exact n5
      refine ⟨r, σ', τ5, ?_, (x8_b156 s23 g8).2 f1 _ (ro _ rh), yE_zb E5 n5 Z, yZ7_t ⟨rr, fun i c h1 h2 => P1 i c (fun q => h1 q.1)⟩ (yZ7_b Z), fun i c h1 h2 h3 h4 => ?_, ?_, fun zz => absurd zz n7, fun _ => Q⟩
      · simp only [f_X1_readHouse, h7, o7]
        exact cc
      · rw [i8 i c (by omega), w8 i c (by omega) (fun q => h3 q.1), u8 i c (by omega)]
      · rw [Z.2 2 6 (by omega) (by omega)]; exact P1 2 6 (by decide)
  · have fe := yE_f E1
    have B1 : yB7 σ1 := yB7_e E1 (by omega)
    have Q1 : yQ7 σ1 := yQ7_f (yRD_Q R) k7.1 ⟨k7.2 _ _ (by decide), k7.2 _ _ (by decide), k7.2 _ _ (by decide), k7.2 _ _ (by decide)⟩
    have F := x1_bhouse hN B1 Q1
    have eq : f_X1_readHouse N σ 38 = f_X1_readHouse N σ1 38 := by
      simp only [f_X1_readHouse, x1_hsame g7 B1]
    rw [eq]
    exact p_lfirst s23 g8 E1 f1 F (yZ7_k k7) k8 (k7.2 _ _ (by decide))
end
section
theorem yLL_l {N : Nat} {σ τ : yS} {f g : Option (Int × yS)} : yLL N σ τ f g → yLL N σ τ (match f with
    | none => none
    | some r => f_X1_readLine_b147 N r.2) g := by
  rintro ⟨r, σ', τ', e, rest⟩
  refine ⟨0, σ', τ', ?_, rest⟩
  rw [e]
  rfl
/-- a line at whose first word a fault is found -/
theorem yLL_f {N : Nat} {σ τ : yS} {k : Int} {f g : Option (Int × yS)} (h : yLL N (yw (yw σ 2 4 k) 2 5 (σ.1 2 3)) (yw (yw τ 0 22 k) 0 23 (τ.1 0 19)) f g) (hk : 0 < k) (n : ∀ (r : Int) (σ' : yS), f = some (r, σ') → ¬ σ'.1 2 4 = 0) : yLL N σ τ f g := by
  obtain ⟨r, σ', τ', e, e8, E, Z7, Z8, l6, ok, bd⟩ := h
  have nb := n r σ' e
  refine ⟨r, σ', τ', e, e8, E, yZ7_t (yZ7_w (yZ7_w yZ7_r (by omega)) (by omega)) Z7, yZ8_t (yZ8_w (yZ8_w yZ8_r (by omega)) (by omega)) Z8, ?_, fun z => absurd z nb, bd⟩
  rw [l6, yw_n (by decide), yw_n (by decide)]
/-- the flag of the row, told or not -/
theorem x8_rowf {N : Nat} {τ : yS} {k : Int} (h : 0 ≤ τ.1 0 10 ∧ τ.1 0 10 ≤ 1) : f_X8_readLine_b135 N τ k 0 1 = f_X8_readLine_b156 N τ k (τ.1 0 10) := by
  unfold f_X8_readLine_b135
  rw [x8_ngood]
  show (bif ycP .ne (τ.1 0 10) 0 then f_X8_readLine_b151 N τ k else bif ycP .eq 0 0 then f_X8_readLine_b156 N τ k 0 else f_X8_readLine_b151 N τ k) = _
  by_cases h0 : τ.1 0 10 = 0
  · rw [h0, ybz2, ybz]
  · have h1 : τ.1 0 10 = 1 := by omega
    rw [h1, ybo2]
    rfl
/-- a line of another kind than row and ring, full or not -/
theorem x8_other {N : Nat} {τ : yS} {k : Int} (h : 0 ≤ τ.1 0 10 ∧ τ.1 0 10 ≤ 1) (h3 : ¬ k = 3) (h4 : ¬ k = 4) (hm : ¬ k = -4) : f_X8_readLine_b70 N τ k = f_X8_readLine_b156 N τ k (τ.1 0 10) ∧ ∀ τ' : yS, f_X8_needs N τ 0 5 = some (0, τ') → τ'.1 0 10 = τ.1 0 10 → f_X8_readLine_b66 N τ k = f_X8_readLine_b156 N τ' k (τ'.1 0 10) := by
  refine ⟨?_, fun τ' g e => ?_⟩
  · unfold f_X8_readLine_b70 f_X8_readLine_b71
    rw [ycP_eq, decide_eq_false h3, cond_false, ycP_ne, decide_eq_true h4, cond_true]
    unfold f_X8_readLine_b87
    rw [ycP_eq, decide_eq_false hm, cond_false]
    unfold f_X8_readLine_b100
    rw [x8_ngood]
    show (bif ycP .ne 0 0 then f_X8_readLine_b114 N τ k 0 0 else f_X8_readLine_b114 N τ k 0 1) = _
    rw [ybz2]
    unfold f_X8_readLine_b114
    rw [x8_ngood]
    show (bif ycP .eq 0 0 then f_X8_readLine_b130 N τ k 0 else _) = _
    rw [ybz]
    exact x8_rowf h
  · unfold f_X8_readLine_b66 f_X8_readLine_b71
    rw [ycP_eq, decide_eq_false h3, cond_false, ycP_ne, decide_eq_true h4, cond_true]
    unfold f_X8_readLine_b87
    rw [ycP_eq, decide_eq_false hm, cond_false]
    unfold f_X8_readLine_b100
    rw [x8_ngood]
    show (bif ycP .ne 1 0 then f_X8_readLine_b114 N τ k 0 0 else f_X8_readLine_b114 N τ k 0 1) = _
    rw [ybo2]
    unfold f_X8_readLine_b114
    rw [g]
    show (bif ycP .eq 0 0 then f_X8_readLine_b130 N τ' k 0 else _) = _
    rw [ybz]
    exact x8_rowf (by rw [e]; exact h)
/-- row and ring -/
theorem x8_shape {N : Nat} {τ : yS} {k : Int} (h3 : k = 3 ∨ k = 4) : (τ.1 0 10 = 0 → f_X8_readLine_b70 N τ k = f_X8_readLine_b156 N τ k 1) ∧ (¬ τ.1 0 10 = 0 → ∀ τ' : yS, f_X8_needs N τ 0 4 = some (0, τ') → τ'.1 0 10 = τ.1 0 10 → f_X8_readLine_b70 N τ k = f_X8_readLine_b156 N τ' k 1) := by
  have hm : ¬ k = -4 := by omega
  have a : f_X8_readLine_b70 N τ k = f_X8_readLine_b114 N τ k 1 1 := by
    unfold f_X8_readLine_b70 f_X8_readLine_b71
    have b : f_X8_readLine_b82 N τ k 0 = f_X8_readLine_b114 N τ k 1 1 := by
      unfold f_X8_readLine_b82 f_X8_readLine_b87
      rw [ycP_eq, decide_eq_false hm, cond_false]
      unfold f_X8_readLine_b100
      rw [x8_ngood]
      show (bif ycP .ne 0 0 then f_X8_readLine_b114 N τ k 1 0 else f_X8_readLine_b114 N τ k 1 1) = _
      rw [ybz2]
    rcases h3 with rfl | rfl
    · rw [ycP_eq, decide_eq_true rfl, cond_true]; exact b
    · rw [ycP_eq, decide_eq_false (by decide), cond_false, ycP_ne, decide_eq_false (by decide), cond_false]; exact b
  refine ⟨fun h0 => ?_, fun h0 τ' g e => ?_⟩
  · rw [a]
    unfold f_X8_readLine_b114
    rw [x8_ngood]
    show (bif ycP .eq 1 0 then _ else bif ycP .ne (τ.1 0 10) 0 then f_X8_readLine_b135 N τ k 1 0 else f_X8_readLine_b130 N τ k 1) = _
    rw [ybo, h0, ybz2]
    unfold f_X8_readLine_b130 f_X8_readLine_b135
    rw [x8_ngood]
    show (bif ycP .ne (τ.1 0 10) 0 then _ else bif ycP .eq 1 0 then _ else f_X8_readLine_b151 N τ k) = _
    rw [h0, ybz2, ybo]
    rfl
  · rw [a]
    unfold f_X8_readLine_b114
    rw [x8_ngood]
    show (bif ycP .eq 1 0 then _ else bif ycP .ne (τ.1 0 10) 0 then f_X8_readLine_b135 N τ k 1 0 else f_X8_readLine_b130 N τ k 1) = _
    rw [ybo, ycP_ne, decide_eq_true h0, cond_true]
    unfold f_X8_readLine_b135
    rw [g]
    show (bif ycP .ne (τ'.1 0 10) 0 then f_X8_readLine_b151 N τ' k else _) = _
    rw [ycP_ne, decide_eq_true (by rw [e]; exact h0), cond_true]
    rfl
/-- no line begins so -/
theorem x8_none {N : Nat} {τ τ' : yS} (h : 0 ≤ τ.1 0 10 ∧ τ.1 0 10 ≤ 1) (g : f_X8_needs N τ 0 2 = some (0, τ')) (e : τ'.1 0 10 = τ.1 0 10) : f_X8_readLine_b17 N τ (-4) = f_X8_readLine_b156 N τ' (-4) (τ'.1 0 10) := by
  unfold f_X8_readLine_b17
  rw [ycP_ne, decide_eq_true (by decide), cond_true]
  unfold f_X8_readLine_b31
  rw [ycP_ne, decide_eq_true (by decide), cond_true]
  unfold f_X8_readLine_b49
  rw [ycP_ne, decide_eq_true (by decide), cond_true]
  unfold f_X8_readLine_b70 f_X8_readLine_b71
  rw [ycP_eq, decide_eq_false (by decide), cond_false, ycP_ne, decide_eq_true (by decide), cond_true]
  unfold f_X8_readLine_b87
  rw [ycP_eq, decide_eq_true rfl, cond_true]
  unfold f_X8_readLine_b100
  rw [g]
  show (bif ycP .ne 0 0 then f_X8_readLine_b114 N τ' (-4) 0 0 else f_X8_readLine_b114 N τ' (-4) 0 1) = _
  rw [ybz2]
  unfold f_X8_readLine_b114
  rw [x8_ngood]
  show (bif ycP .eq 0 0 then f_X8_readLine_b130 N τ' (-4) 0 else _) = _
  rw [ybz]
  exact x8_rowf (by rw [e]; exact h)
/-- which line of the reference's it is -/
theorem x8_b17 {N : Nat} {τ : yS} : (∀ k : Int, ¬ k = 5 → ¬ k = 6 → ¬ k = 7 → f_X8_readLine_b17 N τ k = f_X8_readLine_b70 N τ k) ∧ f_X8_readLine_b17 N τ 5 = (if τ.1 0 11 = 5 then f_X8_readLine_b66 N τ 5 else f_X8_readLine_b70 N τ 5) ∧ f_X8_readLine_b17 N τ 6 = (if τ.1 5 77 = 10 then f_X8_readLine_b66 N τ 6 else f_X8_readLine_b70 N τ 6) ∧ f_X8_readLine_b17 N τ 7 = (if τ.1 5 118 = 4 then f_X8_readLine_b66 N τ 7 else f_X8_readLine_b70 N τ 7) := by
  refine ⟨fun k h5 h6 h7 => ?_, ?_, ?_, ?_⟩
  · unfold f_X8_readLine_b17
    rw [ycP_ne, decide_eq_true h5, cond_true]
    unfold f_X8_readLine_b31
    rw [ycP_ne, decide_eq_true h6, cond_true]
    unfold f_X8_readLine_b49
    rw [ycP_ne, decide_eq_true h7, cond_true]
  · unfold f_X8_readLine_b17
    rw [ycP_ne, decide_eq_false (by decide), cond_false, ycP_eq]
    by_cases h : τ.1 0 11 = 5
    · rw [decide_eq_true h, cond_true, if_pos h]
    · rw [decide_eq_false h, cond_false, if_neg h]
      unfold f_X8_readLine_b31
      rw [ycP_ne, decide_eq_true (by decide), cond_true]
      unfold f_X8_readLine_b49
      rw [ycP_ne, decide_eq_true (by decide), cond_true]
  · unfold f_X8_readLine_b17
    rw [ycP_ne, decide_eq_true (by decide), cond_true]
    unfold f_X8_readLine_b31
    rw [ycP_ne, decide_eq_false (by decide), cond_false, ycP_eq]
    by_cases h : τ.1 5 77 = 10
    · rw [decide_eq_true h, cond_true, if_pos h]
    · rw [decide_eq_false h, cond_false, if_neg h]
      unfold f_X8_readLine_b49
      rw [ycP_ne, decide_eq_true (by decide), cond_true]
  · unfold f_X8_readLine_b17
    rw [ycP_ne, decide_eq_true (by decide), cond_true]
    unfold f_X8_readLine_b31
    rw [ycP_ne, decide_eq_true (by decide), cond_true]
    unfold f_X8_readLine_b49
    rw [ycP_ne, decide_eq_false (by decide), cond_false, ycP_ne]
    by_cases h : τ.1 5 118 = 4
    · rw [decide_eq_false (fun q => q h), cond_false, if_pos h]
    · rw [decide_eq_true h, cond_true, if_neg h]
/-- a line that is full, or told twice: the class goes on behind its fault -/
theorem p_lpre {N : Nat} (hN : 400 ≤ N) {σ τ : yS} {k x s0 : Int} {F : yS → Option (Int × yS)} (HH : yLx σ τ ∧ yTk σ τ) (R : yRD σ τ) (hk : 0 < k) (h0 : 0 ≤ s0 ∧ s0 ≤ 1) (B : ∀ S : yS, yB7 S → yQ7 S → yRB N S (F S)) : yLL N σ τ (F (yw (yw σ 2 4 k) 2 5 (σ.1 2 3))) (f_X8_readLine_b156 N (yw (yw τ 0 22 k) 0 23 (τ.1 0 19)) x s0) := by
  obtain ⟨-, -, p3⟩ := p_fail (N := N) HH hk
  have n1 : ¬ (yw (yw σ 2 4 k) 2 5 (σ.1 2 3)).1 2 4 = 0 := by rw [yw_n (by decide), yw_p]; omega
  obtain ⟨b1, b2⟩ := yE_Q p3 n1
  have Q : yQ7 (yw (yw σ 2 4 k) 2 5 (σ.1 2 3)) := yQ7_w (yQ7_w (yRD_Q R) (by decide)) (by decide)
  have rb := B _ (yB7_e p3 n1) Q
  refine yLL_f (k := k) (p_lbad hN h0 b1 b2 rb) hk (fun r σ' e => ?_)
  obtain ⟨r', s', e', Z, -⟩ := rb
  rw [e'] at e
  have e2 : s' = σ' := congrArg Prod.snd (Option.some.inj e)
  rw [← e2, Z.2 2 4 (by decide) (by decide)]
  exact n1
end
section
/-- all lines -/
theorem p_line {N : Nat} (hN : 400 ≤ N) {σ τ : yS} (HH : yLx σ τ ∧ yTk σ τ) (R : yRD σ τ) : yLL N σ τ (f_X1_readLine N σ 38) (f_X8_readLine N τ) := by
  have s23 := R.2.2.2.2.2.1.2
  have s27 : σ.1 2 7 = τ.1 0 10 := R.2.2.2.2.2.1.1
  have H0 := HH
  obtain ⟨⟨T, f7, f8, hap, hp0, hp1⟩, ⟨b, t, s0, t0, tz, tn, tv⟩⟩ := H0
  have l160 := T.2.1
  have t17 := T.2.2.1
  obtain ⟨s, hs⟩ : ∃ s : Nat, τ.1 0 19 = (s : Int) := ⟨(τ.1 0 19).toNat, by omega⟩
  obtain ⟨P, hP⟩ : ∃ s : Nat, τ.1 0 18 = (s : Int) := ⟨(τ.1 0 18).toNat, by omega⟩
  have sP : s ≤ P := by omega
  have h2 : (P : Int) ≤ τ.1 0 17 := by omega
  have h3 : τ.1 0 17 ≤ 160 := by omega
  have p2 := (p_fail (N := N) HH (show (0 : Int) < 2 by decide))
  have p4 := (p_fail (N := N) HH (show (0 : Int) < 4 by decide))
  have p5 := (p_fail (N := N) HH (show (0 : Int) < 5 by decide))
  have e10 : ∀ k : Int, (yw (yw τ 0 22 k) 0 23 (τ.1 0 19)).1 0 10 = τ.1 0 10 := fun k => by rw [yw_n (by decide), yw_n (by decide)]
  have none7 : yLL N σ τ (match f_X1_complain N σ 2 (σ.1 2 3) with
      | none => none
      | some r9 => f_X1_readLine_b147 N r9.2) (f_X8_readLine_b17 N τ (-4)) := by
    rw [x8_none s23 p2.2.1 (e10 2), p2.1]
    exact p_lpre (F := fun S => some (0, S)) hN HH R (by decide) (by rw [e10]; exact s23) (fun S B Q => ⟨0, S, rfl, yZB_r, Q⟩)
  by_cases h1 : τ.1 0 20 = 1
  · have r8 : ∀ k : Int, f_X8_lineNow N τ = some (k, τ) → f_X8_readLine N τ = f_X8_readLine_b17 N τ k := fun k q => by
      unfold f_X8_readLine
      rw [h1, ycP_ne, decide_eq_false (by decide), cond_false, q]
    have n1 := x1_nm HH hs hP [114, 111, 119]
    have n2 := x1_nm HH hs hP [114, 105, 110, 103]
    have n3 := x1_nm HH hs hP [100, 101, 101, 100]
    have n4 := x1_nm HH hs hP [104, 111, 117, 115, 101]
    have n5 := x1_nm HH hs hP [108, 97, 119, 121, 101, 114]
    have n6 := x1_nm HH hs hP [104, 97, 98, 105, 116]
    have n7 := x1_nm HH hs hP [118, 111, 119]
    have n8 := x1_nm HH hs hP [119, 97, 110, 116]
    have k1 := x8_w3 (N := N) (a := 114) (b := 111) (c := 119) hs hP sP h2 h3 (fun t => match f_X8_is N t 4 114 105 110 with
      | none => none
      | some r2 => bif ycP .eq r2.1 0 then
          f_X8_lineNow_b43 N r2.2
        else
          match f_X8_ends N r2.2 103 0 0 with
          | none => none
          | some r9 => bif ycP .eq r9.1 0 then
              f_X8_lineNow_b43 N r9.2
            else
              some (4, r9.2)) (fun t => some (3, t))
    have k2 := x8_w4 (N := N) (a := 114) (b := 105) (c := 110) (d := 103) hs hP sP h2 h3 (fun t => f_X8_lineNow_b43 N t) (fun t => some (4, t))
    have k3 := x8_w4 (N := N) (a := 100) (b := 101) (c := 101) (d := 100) hs hP sP h2 h3 (fun t => f_X8_lineNow_b70 N t) (fun t => some (5, t))
    have k4 := x8_w5 (N := N) (a := 104) (b := 111) (c := 117) (d := 115) (e := 101) hs hP sP h2 h3 (by decide) (fun t => f_X8_ofHouses_b28 N t) (fun t => some (0, t))
    have k5 := x8_w6 (N := N) (a := 108) (b := 97) (c := 119) (d := 121) (e := 101) (f := 114) hs hP sP h2 h3 (by decide) (by decide) (fun t => f_X8_ofHouses_b58 N t) (fun t => some (1, t))
    have k6 := x8_w5 (N := N) (a := 104) (b := 97) (c := 98) (d := 105) (e := 116) hs hP sP h2 h3 (by decide) (fun t => f_X8_ofHouses_b88 N t) (fun t => f_X8_ofHouses_b90 N t 2)
    have k7 := x8_w3 (N := N) (a := 118) (b := 111) (c := 119) hs hP sP h2 h3 (fun t => match f_X8_is N t 4 119 97 110 with
      | none => none
      | some r5 => bif ycP .eq r5.1 0 then
          f_X8_lineNow_b117 N r5.2
        else
          match f_X8_ends N r5.2 116 0 0 with
          | none => none
          | some r7 => bif ycP .eq r7.1 0 then
              f_X8_lineNow_b117 N r7.2
            else
              f_X8_lineNow_b121 N r7.2 7) (fun t => some (6, t))
    have k8 := x8_w4 (N := N) (a := 119) (b := 97) (c := 110) (d := 116) hs hP sP h2 h3 (fun t => f_X8_lineNow_b117 N t) (fun t => f_X8_lineNow_b121 N t 7)
    have nt : ∀ w : List Int, ¬ yWd τ w s P → ¬ (τ.1 0 20 = 1 ∧ yWd τ w s P) := fun w q r => q r.2
    have ln : ∀ (w : List Int) (n : Nat), w.length = n → yWd τ w s P → P = s + n := fun w n q r => by rw [← q]; exact r.1
    clear s0 t0 tz tn tv hap hp0 hp1 b
    by_cases w1 : yWd τ [114, 111, 119] s P
    · rw [r8 3 (k1.1 w1), x8_b17.1 3 (by decide) (by decide) (by decide)]
      unfold f_X1_readLine
      rw [n1.1 h1 w1]
      show yLL N σ τ (bif ycP .eq 1 0 then _ else match f_X1_readShape N σ 38 0 with
        | none => none
        | some r17 => f_X1_readLine_b147 N r17.2) _
      rw [ybo]
      refine yLL_l ?_
      by_cases h0 : τ.1 0 10 = 0
      · rw [(x8_shape (Or.inl rfl)).1 h0]
        exact p_lshape hN HH R (Or.inl rfl) h0
      · rw [(x8_shape (Or.inl rfl)).2 h0 _ p4.2.1 (e10 4)]
        unfold f_X1_readShape
        rw [s27, ycP_eq, decide_eq_false h0, cond_false, p4.1]
        exact p_lpre (F := fun S => f_X1_readShape_b16 N S 38 0) hN HH R (by decide) (by decide) (fun S B Q => x1_bshape hN (by decide) B Q)
    have a1 := n1.2 (nt _ w1)
    have b1 := k1.2 w1
    by_cases w2 : yWd τ [114, 105, 110, 103] s P
    · rw [r8 4 (b1.trans (k2.1 w2)), x8_b17.1 4 (by decide) (by decide) (by decide)]
      unfold f_X1_readLine
      rw [a1]
      show yLL N σ τ (bif ycP .eq 0 0 then match f_X1_isName [114, 105, 110, 103] σ 2 with
        | none => none
        | some r2 => _ else _) _
      rw [ybz, n2.1 h1 w2]
      show yLL N σ τ (bif ycP .eq 1 0 then _ else match f_X1_readShape N σ 38 1 with
        | none => none
        | some r17 => f_X1_readLine_b147 N r17.2) _
      rw [ybo]
      refine yLL_l ?_
      by_cases h0 : τ.1 0 10 = 0
      · rw [(x8_shape (Or.inr rfl)).1 h0]
        exact p_lshape hN HH R (Or.inr rfl) h0
      · rw [(x8_shape (Or.inr rfl)).2 h0 _ p4.2.1 (e10 4)]
        unfold f_X1_readShape
        rw [s27, ycP_eq, decide_eq_false h0, cond_false, p4.1]
        exact p_lpre (F := fun S => f_X1_readShape_b16 N S 38 1) hN HH R (by decide) (by decide) (fun S B Q => x1_bshape hN (by decide) B Q)
    have a2 := n2.2 (nt _ w2)
    have b2 : f_X8_lineNow N τ = f_X8_lineNow_b43 N τ := b1.trans (k2.2 w2)
    have c2 : f_X1_readLine N σ 38 = (match f_X1_isName [100, 101, 101, 100] σ 2 with
          | none => none
          | some r3 => bif ycP .eq r3.1 0 then
              match f_X1_isName [104, 111, 117, 115, 101] r3.2 2 with
              | none => none
              | some r4 => bif ycP .eq r4.1 0 then
                  match f_X1_isName [108, 97, 119, 121, 101, 114] r4.2 2 with
                  | none => none
                  | some r5 => bif ycP .eq r5.1 0 then
                      match f_X1_isName [104, 97, 98, 105, 116] r5.2 2 with
                      | none => none
                      | some r6 => bif ycP .eq r6.1 0 then
                          match f_X1_isName [118, 111, 119] r6.2 2 with
                          | none => none
                          | some r7 => bif ycP .eq r7.1 0 then
                              match f_X1_isName [119, 97, 110, 116] r7.2 2 with
                              | none => none
                              | some r8 => bif ycP .eq r8.1 0 then
                                  match f_X1_complain N r8.2 2 (r8.2.1 2 3) with
                                  | none => none
                                  | some r9 => f_X1_readLine_b147 N r9.2
                                else
                                  match f_X1_readWant N r8.2 38 with
                                  | none => none
                                  | some r10 => f_X1_readLine_b147 N r10.2
                            else
                              match f_X1_readVow N r7.2 38 with
                              | none => none
                              | some r11 => f_X1_readLine_b147 N r11.2
                        else
                          match f_X1_readHabit N r6.2 38 with
                          | none => none
                          | some r12 => f_X1_readLine_b147 N r12.2
                    else
                      match f_X1_readLawyer N r5.2 38 with
                      | none => none
                      | some r13 => f_X1_readLine_b147 N r13.2
                else
                  match f_X1_readHouse N r4.2 38 with
                  | none => none
                  | some r14 => f_X1_readLine_b147 N r14.2
            else
              match f_X1_readDeed N r3.2 38 with
              | none => none
              | some r15 => f_X1_readLine_b147 N r15.2) := by
      unfold f_X1_readLine
      rw [a1]
      show (bif ycP .eq 0 0 then match f_X1_isName [114, 105, 110, 103] σ 2 with
        | none => none
        | some r2 => _ else _) = _
      rw [ybz, a2]
      show (bif ycP .eq 0 0 then _ else _) = _
      rw [ybz]
      rfl
    by_cases w3 : yWd τ [100, 101, 101, 100] s P
    · rw [r8 5 (b2.trans (k3.1 w3)), x8_b17.2.1, c2]
      simp only [n3.1 h1 w3, ybo]
      refine yLL_l ?_
      have ho := x8_other (N := N) (τ := τ) (k := 5) s23 (by decide) (by decide) (by decide)
      by_cases h0 : τ.1 0 11 = 5
      · rw [if_pos h0, ho.2 _ p5.2.1 (e10 5)]
        unfold f_X1_readDeed
        rw [R.1.2.2.1, ycP_lt, decide_eq_false (by omega), cond_false, p5.1]
        exact p_lpre (F := fun S => f_X1_readDeed_b17 N S 38) hN HH R (by decide) (by rw [e10]; exact s23) (fun S B Q => x1_bdeed hN B Q)
      · rw [if_neg h0, ho.1]
        exact p_ldeed hN HH R h0
    have a3 := n3.2 (nt _ w3)
    have b3 : f_X8_lineNow N τ = f_X8_lineNow_b70 N τ := b2.trans (k3.2 w3)
    by_cases w4 : yWd τ [104, 111, 117, 115, 101] s P
    · have l := ln _ 5 rfl w4
      have q7 : ¬ yWd τ [118, 111, 119] s P := fun q => by have := ln _ 3 rfl q; omega
      have q8 : ¬ yWd τ [119, 97, 110, 116] s P := fun q => by have := ln _ 4 rfl q; omega
      have b4 : f_X8_lineNow_b70 N τ = f_X8_lineNow_b117 N τ := (k7.2 q7).trans (k8.2 q8)
      have b5 : f_X8_lineNow_b117 N τ = some (0, τ) := by
        unfold f_X8_lineNow_b117
        rw [show f_X8_ofHouses N τ = some (0, τ) from k4.1 w4]
        rfl
      rw [r8 0 (b3.trans (b4.trans b5)), x8_b17.1 0 (by decide) (by decide) (by decide), c2]
      simp only [a3, n4.1 h1 w4, ybz, ybo]
      rw [(x8_other (N := N) (τ := τ) (k := 0) s23 (by decide) (by decide) (by decide)).1]
      exact yLL_l (p_lhouse hN HH R)
    have a4 := n4.2 (nt _ w4)
    have o4 : f_X8_ofHouses N τ = f_X8_ofHouses_b28 N τ := k4.2 w4
    by_cases w5 : yWd τ [108, 97, 119, 121, 101, 114] s P
    · have l := ln _ 6 rfl w5
      have q7 : ¬ yWd τ [118, 111, 119] s P := fun q => by have := ln _ 3 rfl q; omega
      have q8 : ¬ yWd τ [119, 97, 110, 116] s P := fun q => by have := ln _ 4 rfl q; omega
      have b4 : f_X8_lineNow_b70 N τ = f_X8_lineNow_b117 N τ := (k7.2 q7).trans (k8.2 q8)
      have b5 : f_X8_lineNow_b117 N τ = some (1, τ) := by
        unfold f_X8_lineNow_b117
        rw [show f_X8_ofHouses N τ = some (1, τ) from o4.trans (k5.1 w5)]
        rfl
      rw [r8 1 (b3.trans (b4.trans b5)), x8_b17.1 1 (by decide) (by decide) (by decide), c2]
      simp only [a3, a4, n5.1 h1 w5, ybz, ybo]
      rw [(x8_other (N := N) (τ := τ) (k := 1) s23 (by decide) (by decide) (by decide)).1]
      exact yLL_l (p_llaw hN HH R)
    have a5 := n5.2 (nt _ w5)
    have o5 : f_X8_ofHouses N τ = f_X8_ofHouses_b58 N τ := o4.trans (k5.2 w5)
    by_cases w6 : yWd τ [104, 97, 98, 105, 116] s P
    · have l := ln _ 5 rfl w6
      have q7 : ¬ yWd τ [118, 111, 119] s P := fun q => by have := ln _ 3 rfl q; omega
      have q8 : ¬ yWd τ [119, 97, 110, 116] s P := fun q => by have := ln _ 4 rfl q; omega
      have b4 : f_X8_lineNow_b70 N τ = f_X8_lineNow_b117 N τ := (k7.2 q7).trans (k8.2 q8)
      have b5 : f_X8_lineNow_b117 N τ = some (2, τ) := by
        unfold f_X8_lineNow_b117
        rw [show f_X8_ofHouses N τ = some (2, τ) from o5.trans (k6.1 w6)]
        rfl
      rw [r8 2 (b3.trans (b4.trans b5)), x8_b17.1 2 (by decide) (by decide) (by decide), c2]
      simp only [a3, a4, a5, n6.1 h1 w6, ybz, ybo]
      rw [(x8_other (N := N) (τ := τ) (k := 2) s23 (by decide) (by decide) (by decide)).1]
      exact yLL_l (p_lhabit hN HH R)
    have a6 := n6.2 (nt _ w6)
    have o6 : f_X8_ofHouses N τ = some (-4, τ) := o5.trans (k6.2 w6)
    by_cases w7 : yWd τ [118, 111, 119] s P
    · rw [r8 6 (b3.trans (k7.1 w7)), x8_b17.2.2.1, c2]
      simp only [a3, a4, a5, a6, n7.1 h1 w7, ybz, ybo]
      refine yLL_l ?_
      have ho := x8_other (N := N) (τ := τ) (k := 6) s23 (by decide) (by decide) (by decide)
      by_cases h0 : τ.1 5 77 = 10
      · rw [if_pos h0, ho.2 _ p5.2.1 (e10 5)]
        have s77 : σ.1 (σ.2 38 11) 0 = τ.1 5 77 := R.2.1.2.2.1.1
        unfold f_X1_readVow
        rw [s77, ycP_lt, decide_eq_false (by omega), cond_false, p5.1]
        exact p_lpre (F := fun S => f_X1_readVow_b21 N S 38) hN HH R (by decide) (by rw [e10]; exact s23) (fun S B Q => x1_bvow hN B Q)
      · rw [if_neg h0, ho.1]
        exact p_lvow hN HH R h0
    have a7 := n7.2 (nt _ w7)
    have b7 := b3.trans (k7.2 w7)
    by_cases w8 : yWd τ [119, 97, 110, 116] s P
    · rw [r8 7 (b7.trans (k8.1 w8)), x8_b17.2.2.2, c2]
      simp only [a3, a4, a5, a6, a7, n8.1 h1 w8, ybz, ybo]
      refine yLL_l ?_
      have ho := x8_other (N := N) (τ := τ) (k := 7) s23 (by decide) (by decide) (by decide)
      by_cases h0 : τ.1 5 118 = 4
      · rw [if_pos h0, ho.2 _ p5.2.1 (e10 5)]
        have s118 : σ.1 (38 + 18) 0 = τ.1 5 118 := R.2.1.2.2.2.1.1
        unfold f_X1_readWant
        rw [s118, ycP_lt, decide_eq_false (by omega), cond_false, p5.1]
        exact p_lpre (F := fun S => f_X1_readWant_b20 N S 38) hN HH R (by decide) (by rw [e10]; exact s23) (fun S B Q => x1_bwant hN B Q)
      · rw [if_neg h0, ho.1]
        exact p_lwant hN HH R h0
    have a8 := n8.2 (nt _ w8)
    have b8 : f_X8_lineNow N τ = f_X8_lineNow_b117 N τ := b7.trans (k8.2 w8)
    have b9 : f_X8_lineNow_b117 N τ = some (-4, τ) := by
      unfold f_X8_lineNow_b117
      rw [o6]
      rfl
    rw [r8 (-4) (b8.trans b9), c2]
    simp only [a3, a4, a5, a6, a7, a8, ybz]
    exact none7
  · have z : ∀ w : List Int, f_X1_isName w σ 2 = some (0, σ) := fun w => (x1_nm HH hs hP w).2 (fun q => h1 q.1)
    have e8 : f_X8_readLine N τ = f_X8_readLine_b17 N τ (-4) := by
      unfold f_X8_readLine
      rw [ycP_ne, decide_eq_true h1, cond_true]
    rw [e8]
    simp only [f_X1_readLine, z, ybz]
    exact none7
end
section
theorem yRD_k6 {σ τ σ' τ' : yS} (H : yRD σ τ) (r : σ'.2 = σ.2) (k7 : ∀ a b : Nat, ¬ (a = 2 ∧ 1 ≤ b ∧ b ≤ 6) → σ'.1 a b = σ.1 a b) (k8 : yK8 τ τ') : yRD σ' τ' := by
  have c : ∀ a b : Nat, ¬ a = 2 → σ'.1 a b = σ.1 a b := fun a b h => k7 a b (by omega)
  refine yRD_mk H ?_ (fun b => by rw [r]) (fun a b h => c a b (by omega)) (fun j => k8 _ _ (by omega)) ⟨k8 _ _ (by omega), k8 _ _ (by omega)⟩ ?_ (fun b h => k7 _ _ (by omega)) (fun b => k8 _ _ (by omega))
  · obtain ⟨⟨a1, a2, a3, a4, a5, a6, a7⟩, -⟩ := H
    refine ⟨by rw [c _ _ (by omega), k8 _ _ (by omega)]; exact a1, by rw [c _ _ (by omega), k8 _ _ (by omega)]; exact a2, by rw [c _ _ (by omega), k8 _ _ (by omega)]; exact a3, by rw [k8 _ _ (by omega)]; exact a4, by rw [k8 _ _ (by omega)]; exact a5, by rw [k8 _ _ (by omega)]; exact a6, fun d hd => ?_⟩
    rw [k8 0 11 (by omega)] at hd
    rw [c _ _ (by omega), k8 _ _ (by omega)]
    exact a7 d hd
  · have q := H.2.2.2.2.2.1
    rw [k7 _ _ (by omega), k8 _ _ (by omega)]
    exact q
theorem p_rd {N : Nat} (hN : 400 ≤ N) : ∀ (c m i : Nat) (σ τ : yS), i + c = 161 → yE σ τ → σ.1 2 6 = (i : Int) → (σ.1 2 4 = 0 → yRD σ τ ∧ (¬ τ.1 0 20 = 0 → (i : Int) < σ.1 2 1)) → ∃ (j : Int) (σ' τ' : yS), f_X1_readInto_b60 N (m + c + 1) σ 38 (i : Int) = f_X1_readInto_b110 N σ' 38 ∧ f_X8_text_b20 N (m + c + 1) τ (i : Int) = f_X8_text_b44 N τ' j ∧ yE σ' τ' ∧ yZ7 σ σ' ∧ yZ8 τ τ' ∧ (σ'.1 2 4 = 0 → yRD σ' τ' ∧ τ'.1 0 20 = 0 ∧ σ'.1 2 6 = j) := by
  intro c
  induction c with
  | zero =>
      intro m i σ τ hi E h6 ok
      have fe := yE_f E
      have hi2 : i = 161 := by omega
      have n20 : σ.1 2 4 = 0 → τ.1 0 20 = 0 := fun f0 => by
        obtain ⟨⟨T, f7, f8, hap, hp0, hp1⟩, ⟨b, t, -⟩⟩ := yE_ok E f0
        have ok2 := (ok f0).2
        have T1 := T.2.1
        have T2 := T.2.2.1
        by_cases k : τ.1 0 20 = 0
        · exact k
        · have := ok2 k
          omega
      refine ⟨(i : Int), σ, τ, ?_, ?_, E, yZ7_r, yZ8_r, fun z => ⟨(ok z).1, n20 z, h6⟩⟩
      · rw [q_X1_readInto_b60, ycP_ge, decide_eq_true (by omega), cond_true]
      · rw [q_X8_text_b20]
        by_cases f0 : σ.1 2 4 = 0
        · rw [← fe.1, f0, ybz2, n20 f0, ybz]
        · rw [ycP_ne, decide_eq_true (show ¬ τ.1 0 22 = 0 by rw [← fe.1]; exact f0), cond_true]
  | succ c ih =>
      intro m i σ τ hi E h6 ok
      have fe := yE_f E
      by_cases f0 : σ.1 2 4 = 0
      · have HH := yE_ok E f0
        obtain ⟨R, ok2⟩ := ok f0
        have H0 := HH
        obtain ⟨⟨T, f7, f8, hap, hp0, hp1⟩, ⟨b, t, -⟩⟩ := H0
        have T1 := T.2.1
        have T2 := T.2.2.1
        by_cases k0 : τ.1 0 20 = 0
        · refine ⟨(i : Int), σ, τ, ?_, ?_, E, yZ7_r, yZ8_r, fun z => ⟨R, k0, h6⟩⟩
          · rw [q_X1_readInto_b60, f7, ybz2, t, k0, ybz, Bool.cond_self]
          · rw [q_X8_text_b20, f8, ybz2, k0, ybz]
        · have i1 := ok2 k0
          have i160 : ¬ (160 : Int) ≤ (i : Int) := by omega
          have ei : yad (i : Int) 1 = ((i + 1 : Nat) : Int) := by rw [yad_e (by omega) (by omega)]; omega
          have i2 : ((i + 1 : Nat) : Int) = (i : Int) + 1 := by omega
          have ib : 0 ≤ (i : Int) ∧ (i : Int) ≤ 1000 := by omega
          have i3 : i + 1 + c = 161 := by omega
          obtain ⟨r, σ1, τ1, e7, e8, E1, Z7, Z8, l6, okl, bdl⟩ := p_line (N := N) hN HH R
          have h61 : σ1.1 2 6 = (i : Int) := l6.trans h6
          obtain ⟨σ2, τ2, g7, g8, E2, r2, W7, W8, mo, l62, ok3⟩ := p_tail (N := N) hN E1 (by rw [h61]; exact ib)
          have nx : σ2.1 2 4 = 0 → yRD σ2 τ2 ∧ (¬ τ2.1 0 20 = 0 → ((i + 1 : Nat) : Int) < σ2.1 2 1) := fun z => by
            obtain ⟨y1, y2⟩ := ok3 z
            obtain ⟨y3, y4, y5⟩ := okl y1
            refine ⟨yRD_k6 y3 r2 W7 W8, fun _ => ?_⟩
            rw [i2]
            exact Int.lt_of_le_of_lt i1 (Int.lt_of_lt_of_le (y5 y2) mo)
          obtain ⟨j, σ', τ', c7, c8, E', Y7, Y8, ok'⟩ := ih m (i + 1) σ2 τ2 i3 E2 (by rw [l62, h61, i2]) nx
          refine ⟨j, σ', τ', ?_, ?_, E', yZ7_t (yZ7_t Z7 ⟨r2, fun a b h1 _ => W7 a b (fun q => h1 q.1)⟩) Y7, yZ8_t (yZ8_t Z8 (yZ8_k W8)) Y8, ok'⟩
          · have hs : ∃ r5 : Int × yS, f_X1_needStroke N σ1 = some r5 ∧ f_X1_readToken N (yw r5.2 2 6 (yad (r5.2.1 2 6) 1)) = some (0, σ2) := by
              unfold yTl7 at g7
              cases hq : f_X1_needStroke N σ1 with
              | none =>
                rw [hq] at g7
                exact absurd g7 (by simp)
              | some r5 =>
                rw [hq] at g7
                exact ⟨r5, rfl, g7⟩
            obtain ⟨r5, d1, d2⟩ := hs
            rw [show m + (c + 1) + 1 = (m + c + 1) + 1 from rfl, q_X1_readInto_b60, ycP_ge, decide_eq_false i160, cond_false, f7, ybz2, ycP_eq, decide_eq_false (show ¬ σ.1 2 2 = 0 from fun q => k0 (t.symm.trans q)), cond_false, e7]
            show (match f_X1_needStroke N σ1 with
              | none => none
              | some r5 => match f_X1_readToken N (yw r5.2 2 6 (yad (r5.2.1 2 6) 1)) with
                | none => none
                | some r6 => f_X1_readInto_b60 N (m + c + 1) r6.2 38 (yad (i : Int) 1)) = _
            rw [d1]
            show (match f_X1_readToken N (yw r5.2 2 6 (yad (r5.2.1 2 6) 1)) with
                | none => none
                | some r6 => f_X1_readInto_b60 N (m + c + 1) r6.2 38 (yad (i : Int) 1)) = _
            rw [d2, ei]
            exact c7
          · rw [show m + (c + 1) + 1 = (m + c + 1) + 1 from rfl, q_X8_text_b20, f8, ybz2, ycP_eq, decide_eq_false k0, cond_false, e8, g8, ei]
            exact c8
      · refine ⟨(i : Int), σ, τ, ?_, ?_, E, yZ7_r, yZ8_r, fun z => absurd z f0⟩
        · rw [q_X1_readInto_b60, ycP_ne, decide_eq_true f0, cond_true, Bool.cond_self]
        · rw [q_X8_text_b20, ycP_ne, decide_eq_true (show ¬ τ.1 0 22 = 0 by rw [← fe.1]; exact f0), cond_true]
/-- the last look: houses and deeds that are not -/
theorem p_last {N : Nat} {σ τ : yS} {j : Int} (E : yE σ τ) (ok : σ.1 2 4 = 0 → yRD σ τ ∧ τ.1 0 20 = 0 ∧ σ.1 2 6 = j) : ∃ (σ' τ' : yS), f_X1_readInto_b110 N σ 38 = some (0, σ') ∧ f_X8_text_b44 N τ j = f_X8_text_b90 N (yw τ' 0 17 0) j ∧ yE σ' τ' ∧ yK7 σ σ' ∧ yK8 τ τ' ∧ (σ'.1 2 4 = 0 → yRD σ' τ' ∧ σ'.1 2 6 = j ∧ τ'.1 0 14 < τ'.1 0 8 ∧ τ'.1 0 15 < τ'.1 0 11) := by
  have fe := yE_f E
  by_cases f0 : σ.1 2 4 = 0
  · have HH := yE_ok E f0
    obtain ⟨R, t0, l6⟩ := ok f0
    obtain ⟨⟨T, f7, f8, hap, hp0, hp1⟩, ⟨b, t, s0, t1, tz, tn, tv⟩⟩ := id HH
    have T2 := T.2.2.1
    have g1 : yGr (σ.1 2 11) (τ.1 0 14) 6 := R.2.2.2.2.2.2.2.2.1
    have g2 : yGr (σ.1 2 12) (τ.1 0 15) 4 := R.2.2.2.2.2.2.2.2.2
    have h0 : σ.1 38 0 = τ.1 0 8 := R.1.1
    have h2 : σ.1 38 2 = τ.1 0 11 := R.1.2.2.1
    have b0 := R.1.2.2.2.1
    have b2 := R.1.2.2.2.2.2.1
    unfold yGr at g1 g2
    have sz : σ.1 3 0 = σ.1 2 3 := by rw [T2, b]; exact (tz t0).symm
    by_cases hh : σ.1 2 11 < σ.1 38 0 ∧ σ.1 2 12 < σ.1 38 2
    · have u1 : ¬ σ.1 38 0 ≤ σ.1 2 11 := by omega
      have u2 : ¬ τ.1 0 8 ≤ τ.1 0 14 := by omega
      have u3 : ¬ τ.1 0 11 ≤ τ.1 0 15 := by omega
      refine ⟨σ, τ, ?_, ?_, E, yK7_r, yK8_r, fun _ => ⟨R, l6, Int.not_le.mp u2, Int.not_le.mp u3⟩⟩
      · unfold f_X1_readInto_b110
        rw [ycP_ge, decide_eq_false u1, cond_false, ycP_lt, decide_eq_true hh.2, cond_true]
        rfl
      · unfold f_X8_text_b44
        rw [f8, ybz2, ycP_ge, decide_eq_false u2, cond_false, ycP_ge, decide_eq_false u3, cond_false]
        unfold f_X8_text_b79
        rw [x8_ngood]
        rfl
    · obtain ⟨p1, p2, p3⟩ := p_fail (N := N) HH (show (0 : Int) < 6 by decide)
      refine ⟨_, _, ?_, ?_, p3, yK7_w (yK7_w yK7_r (by decide)) (by decide), yK8_w (yK8_w yK8_r (by decide)) (by decide), fun z => ?_⟩
      · have e : f_X1_readInto_b110 N σ 38 = f_X1_readInto_b132 N σ := by
          unfold f_X1_readInto_b110
          by_cases q : σ.1 38 0 ≤ σ.1 2 11
          · rw [ycP_ge, decide_eq_true q, cond_true]
          · rw [ycP_ge, decide_eq_false q, cond_false, ycP_lt, decide_eq_false (show ¬ σ.1 2 12 < σ.1 38 2 from fun w => hh ⟨Int.not_le.mp q, w⟩), cond_false]
        rw [e]
        unfold f_X1_readInto_b132
        rw [sz, p1]
        rfl
      · have e : f_X8_text_b44 N τ j = f_X8_text_b78 N τ j := by
          unfold f_X8_text_b44
          rw [f8, ybz2]
          by_cases q : τ.1 0 8 ≤ τ.1 0 14
          · rw [ycP_ge, decide_eq_true q, cond_true]
          · rw [ycP_ge, decide_eq_false q, cond_false, ycP_ge, decide_eq_true (show τ.1 0 11 ≤ τ.1 0 15 by omega), cond_true]
        rw [e]
        unfold f_X8_text_b78 f_X8_text_b79
        rw [p2]
        rfl
      · rw [yw_n (by decide), yw_p] at z
        exact absurd z (by decide)
  · refine ⟨σ, τ, ?_, ?_, E, yK7_r, yK8_r, fun z => absurd z f0⟩
    · have e : f_X1_readInto_b132 N σ = some (0, σ) := by
        unfold f_X1_readInto_b132
        rw [x1_cbad f0]
        rfl
      unfold f_X1_readInto_b110
      rw [e, show f_X1_readInto_b145 N σ = some (0, σ) from rfl, Bool.cond_self, Bool.cond_self]
    · unfold f_X8_text_b44
      rw [ycP_ne, decide_eq_true (show ¬ τ.1 0 22 = 0 by rw [← fe.1]; exact f0), cond_true]
      rfl
end
section
theorem x4_new22 {N : Nat} : ∀ (c m i : Nat) (σ : yS), i + c = 7 → ∃ σ' : yS, f_X4_makeNew_b22 N (m + c + 1) σ 38 (i : Int) = f_X4_makeNew_b58 N N σ' 38 0 ∧ σ'.2 = σ.2 ∧ (∀ a b : Nat, ¬ (40 ≤ a ∧ a ≤ 44 ∧ i ≤ b ∧ b < 7) → σ'.1 a b = σ.1 a b) ∧ (∀ a b : Nat, 40 ≤ a → a ≤ 44 → i ≤ b → b < 7 → σ'.1 a b = 0)
  | 0, m, i, σ, hi => ⟨σ, by rw [q_X4_makeNew_b22, ycP_ge, decide_eq_true (by omega), cond_true], rfl, fun _ _ _ => rfl, fun a b _ _ h3 h4 => by omega⟩
  | c + 1, m, i, σ, hi => by
    obtain ⟨σ', g, r, w, z⟩ := x4_new22 c m (i + 1) (yw (yw (yw (yw (yw σ (38 + 2) i 0) (38 + 3) i 0) (38 + 4) i 0) (38 + 5) i 0) (38 + 6) i 0) (by omega)
    have ei : yad (i : Int) 1 = ((i + 1 : Nat) : Int) := by rw [yad_e (by omega) (by omega)]; omega
    have ii : yin (i : Int) 7 = true := by rw [yin_d]; exact decide_eq_true (by omega)
    refine ⟨σ', ?_, r, fun a b h => ?_, fun a b h1 h2 h3 h4 => ?_⟩
    · rw [show m + (c + 1) + 1 = (m + c + 1) + 1 from rfl, q_X4_makeNew_b22, ycP_ge, decide_eq_false (by omega), cond_false, ii, cond_true]
      simp only [f_X4_setHabit, ii, cond_true, Int.toNat_natCast, ei]
      exact g
    · rw [w a b (by omega), yw_n (by omega), yw_n (by omega), yw_n (by omega), yw_n (by omega), yw_n (by omega)]
    · by_cases e : b = i
      · subst e
        rw [w a b (by omega)]
        have : a = 40 ∨ a = 41 ∨ a = 42 ∨ a = 43 ∨ a = 44 := by omega
        rcases this with rfl | rfl | rfl | rfl | rfl
        · rw [yw_n (by omega), yw_n (by omega), yw_n (by omega), yw_n (by omega)]; exact yw_p
        · rw [yw_n (by omega), yw_n (by omega), yw_n (by omega)]; exact yw_p
        · rw [yw_n (by omega), yw_n (by omega)]; exact yw_p
        · rw [yw_n (by omega)]; exact yw_p
        · exact yw_p
      · exact z a b h1 h2 (by omega) h4
theorem x4_new58 {N : Nat} : ∀ (c m i : Nat) (σ : yS), i + c = 35 → ∃ σ' : yS, f_X4_makeNew_b58 N (m + c + 1) σ 38 (i : Int) = some (0, yw (yw (yw (yw (yw (yw σ' (σ'.2 38 11) 0 0) (38 + 18) 0 0) 38 14 0) 38 15 0) 38 16 0) 38 17 0) ∧ σ'.2 = σ.2 ∧ (∀ a b : Nat, ¬ (a = 45 ∧ i ≤ b ∧ b < 35) → σ'.1 a b = σ.1 a b) ∧ (∀ b : Nat, i ≤ b → b < 35 → σ'.1 45 b = 0)
  | 0, m, i, σ, hi => ⟨σ, by rw [q_X4_makeNew_b58, ycP_ge, decide_eq_true (by omega), cond_true], rfl, fun _ _ _ => rfl, fun b h3 h4 => by omega⟩
  | c + 1, m, i, σ, hi => by
    obtain ⟨σ', g, r, w, z⟩ := x4_new58 c m (i + 1) (yw σ (38 + 7) i 0) (by omega)
    have ei : yad (i : Int) 1 = ((i + 1 : Nat) : Int) := by rw [yad_e (by omega) (by omega)]; omega
    have ii : yin (i : Int) 35 = true := by rw [yin_d]; exact decide_eq_true (by omega)
    refine ⟨σ', ?_, r, fun a b h => ?_, fun b h3 h4 => ?_⟩
    · rw [show m + (c + 1) + 1 = (m + c + 1) + 1 from rfl, q_X4_makeNew_b58, ycP_ge, decide_eq_false (by omega), cond_false, ii, cond_true, Int.toNat_natCast, ei]
      exact g
    · rw [w a b (by omega), yw_n (by omega)]
    · by_cases e : b = i
      · subst e
        rw [w 45 b (by omega)]; exact yw_p
      · exact z b (by omega) h4
/-- a new terrace -/
theorem x4_new {N : Nat} (hN : 400 ≤ N) {σ : yS} {v : Nat} (hv : σ.2 38 11 = v) (hv2 : v = 46 ∨ v = 51) : ∃ σ' : yS, f_X4_makeNew N σ 38 = some (0, σ') ∧ σ'.2 = σ.2 ∧ (∀ a b : Nat, a < 38 ∨ 59 ≤ a → σ'.1 a b = σ.1 a b) ∧ (σ'.1 38 0 = 3 ∧ σ'.1 38 1 = 0 ∧ σ'.1 38 2 = 0 ∧ σ'.1 38 6 = 0) ∧ (σ'.1 v 0 = 0 ∧ σ'.1 56 0 = 0 ∧ σ'.1 38 14 = 0 ∧ σ'.1 38 15 = 0 ∧ σ'.1 38 16 = 0 ∧ σ'.1 38 17 = 0) ∧ (∀ a b : Nat, 40 ≤ a → a ≤ 44 → b < 7 → σ'.1 a b = 0) ∧ (∀ b : Nat, b < 35 → σ'.1 45 b = 0) := by
  obtain ⟨σ1, g1, r1, w1, z1⟩ := x4_new22 (N := N) 7 (N - 8) 0 (yw (yw (yw (yw σ 38 0 3) 38 1 0) 38 2 0) 38 6 0) rfl
  obtain ⟨σ2, g2, r2, w2, z2⟩ := x4_new58 (N := N) 35 (N - 36) 0 σ1 rfl
  rw [show N - 8 + 7 + 1 = N by omega] at g1
  rw [show N - 36 + 35 + 1 = N by omega] at g2
  have rr : σ2.2 = σ.2 := r2.trans r1
  rw [rr, hv] at g2
  refine ⟨yw (yw (yw (yw (yw (yw σ2 v 0 0) (38 + 18) 0 0) 38 14 0) 38 15 0) 38 16 0) 38 17 0, g1.trans g2, rr, fun a b h => ?_, ⟨?_, ?_, ?_, ?_⟩, ⟨?_, ?_, ?_, ?_, ?_, ?_⟩, fun a b h1 h2 h3 => ?_, fun b h => ?_⟩
  · rw [yw_n (by omega), yw_n (by omega), yw_n (by omega), yw_n (by omega), yw_n (by omega), yw_n (by omega), w2 a b (by omega), w1 a b (by omega), yw_n (by omega), yw_n (by omega), yw_n (by omega), yw_n (by omega)]
  · rw [yw_n (by omega), yw_n (by omega), yw_n (by omega), yw_n (by omega), yw_n (by omega), yw_n (by omega), w2 _ _ (by omega), w1 _ _ (by omega), yw_n (by omega), yw_n (by omega), yw_n (by omega), yw_p]
  · rw [yw_n (by omega), yw_n (by omega), yw_n (by omega), yw_n (by omega), yw_n (by omega), yw_n (by omega), w2 _ _ (by omega), w1 _ _ (by omega), yw_n (by omega), yw_n (by omega), yw_p]
  · rw [yw_n (by omega), yw_n (by omega), yw_n (by omega), yw_n (by omega), yw_n (by omega), yw_n (by omega), w2 _ _ (by omega), w1 _ _ (by omega), yw_n (by omega), yw_p]
  · rw [yw_n (by omega), yw_n (by omega), yw_n (by omega), yw_n (by omega), yw_n (by omega), yw_n (by omega), w2 _ _ (by omega), w1 _ _ (by omega), yw_p]
  · rw [yw_n (by omega), yw_n (by omega), yw_n (by omega), yw_n (by omega), yw_n (by omega), yw_p]
  · rw [yw_n (by omega), yw_n (by omega), yw_n (by omega), yw_n (by omega)]; exact yw_p
  · rw [yw_n (by omega), yw_n (by omega), yw_n (by omega), yw_p]
  · rw [yw_n (by omega), yw_n (by omega), yw_p]
  · rw [yw_n (by omega), yw_p]
  · exact yw_p
  · rw [yw_n (by omega), yw_n (by omega), yw_n (by omega), yw_n (by omega), yw_n (by omega), yw_n (by omega), w2 a b (by omega)]
    exact z1 a b h1 h2 (by omega) h3
  · rw [yw_n (by omega), yw_n (by omega), yw_n (by omega), yw_n (by omega), yw_n (by omega), yw_n (by omega)]
    exact z2 b (by omega) h
theorem x8_first2 {N : Nat} : ∀ (c m i : Nat) (τ : yS), i + c = 131 → ∃ τ' : yS, f_X8_firstDraft_b2 N (m + c + 1) τ (i : Int) = f_X8_firstDraft_b24 N N τ' 0 ∧ (∀ a b : Nat, ¬ (a = 5 ∧ i ≤ b ∧ b < 131) → τ'.1 a b = τ.1 a b) ∧ (∀ b : Nat, i ≤ b → b < 131 → τ'.1 5 b = 0)
  | 0, m, i, τ, hi => ⟨τ, by rw [q_X8_firstDraft_b2, ycP_ge, decide_eq_true (by omega), cond_true], fun _ _ _ => rfl, fun b h3 h4 => by omega⟩
  | c + 1, m, i, τ, hi => by
    obtain ⟨τ', g, w, z⟩ := x8_first2 c m (i + 1) (yw τ 5 i 0) (by omega)
    have ei : yad (i : Int) 1 = ((i + 1 : Nat) : Int) := by rw [yad_e (by omega) (by omega)]; omega
    have ii : yin (i : Int) 131 = true := by rw [yin_d]; exact decide_eq_true (by omega)
    refine ⟨τ', ?_, fun a b h => ?_, fun b h3 h4 => ?_⟩
    · rw [show m + (c + 1) + 1 = (m + c + 1) + 1 from rfl, q_X8_firstDraft_b2, ycP_ge, decide_eq_false (by omega), cond_false, ii, cond_true, Int.toNat_natCast, ei]
      exact g
    · rw [w a b (by omega), yw_n (by omega)]
    · by_cases e : b = i
      · subst e
        rw [w 5 b (by omega)]; exact yw_p
      · exact z b (by omega) h4
theorem x8_first24 {N : Nat} : ∀ (c m i : Nat) (τ : yS), i + c = 3 → ∃ τ' : yS, f_X8_firstDraft_b24 N (m + c + 1) τ (i : Int) = some (0, yw (yw (yw (yw (yw (yw τ' 0 8 3) 0 9 0) 0 10 0) 0 11 0) 0 14 (-4)) 0 15 (-4)) ∧ (∀ a b : Nat, ¬ (a = 7 ∧ i ≤ b ∧ b < 3) → τ'.1 a b = τ.1 a b) ∧ (∀ b : Nat, i ≤ b → b < 3 → τ'.1 7 b = 0)
  | 0, m, i, τ, hi => ⟨τ, by rw [q_X8_firstDraft_b24, ycP_ge, decide_eq_true (by omega), cond_true], fun _ _ _ => rfl, fun b h3 h4 => by omega⟩
  | c + 1, m, i, τ, hi => by
    obtain ⟨τ', g, w, z⟩ := x8_first24 c m (i + 1) (yw τ 7 i 0) (by omega)
    have ei : yad (i : Int) 1 = ((i + 1 : Nat) : Int) := by rw [yad_e (by omega) (by omega)]; omega
    have ii : yin (i : Int) 3 = true := by rw [yin_d]; exact decide_eq_true (by omega)
    refine ⟨τ', ?_, fun a b h => ?_, fun b h3 h4 => ?_⟩
    · rw [show m + (c + 1) + 1 = (m + c + 1) + 1 from rfl, q_X8_firstDraft_b24, ycP_ge, decide_eq_false (by omega), cond_false, ii, cond_true, Int.toNat_natCast, ei]
      exact g
    · rw [w a b (by omega), yw_n (by omega)]
    · by_cases e : b = i
      · subst e
        rw [w 7 b (by omega)]; exact yw_p
      · exact z b (by omega) h4
/-- a new draft -/
theorem x8_first {N : Nat} (hN : 400 ≤ N) {τ : yS} : ∃ τ' : yS, f_X8_firstDraft N τ = some (0, τ') ∧ (∀ a b : Nat, ¬ (a = 5 ∧ b < 131) → ¬ (a = 7 ∧ b < 3) → ¬ (a = 0 ∧ ((8 ≤ b ∧ b ≤ 11) ∨ b = 14 ∨ b = 15)) → τ'.1 a b = τ.1 a b) ∧ (∀ b : Nat, b < 131 → τ'.1 5 b = 0) ∧ (∀ b : Nat, b < 3 → τ'.1 7 b = 0) ∧ τ'.1 0 8 = 3 ∧ τ'.1 0 9 = 0 ∧ τ'.1 0 10 = 0 ∧ τ'.1 0 11 = 0 ∧ τ'.1 0 14 = -4 ∧ τ'.1 0 15 = -4 := by
  obtain ⟨τ1, g1, w1, z1⟩ := x8_first2 (N := N) 131 (N - 132) 0 τ rfl
  obtain ⟨τ2, g2, w2, z2⟩ := x8_first24 (N := N) 3 (N - 4) 0 τ1 rfl
  rw [show N - 132 + 131 + 1 = N by omega] at g1
  rw [show N - 4 + 3 + 1 = N by omega] at g2
  refine ⟨_, g1.trans g2, fun a b h1 h2 h3 => ?_, fun b h => ?_, fun b h => ?_, ?_, ?_, ?_, ?_, ?_, yw_p⟩
  · rw [yw_n (by omega), yw_n (by omega), yw_n (by omega), yw_n (by omega), yw_n (by omega), yw_n (by omega), w2 a b (by omega), w1 a b (by omega)]
  · rw [yw_n (by omega), yw_n (by omega), yw_n (by omega), yw_n (by omega), yw_n (by omega), yw_n (by omega), w2 5 b (by omega)]; exact z1 b (by omega) h
  · rw [yw_n (by omega), yw_n (by omega), yw_n (by omega), yw_n (by omega), yw_n (by omega), yw_n (by omega)]; exact z2 b (by omega) h
  · rw [yw_n (by omega), yw_n (by omega), yw_n (by omega), yw_n (by omega), yw_n (by omega), yw_p]
  · rw [yw_n (by omega), yw_n (by omega), yw_n (by omega), yw_n (by omega), yw_p]
  · rw [yw_n (by omega), yw_n (by omega), yw_n (by omega), yw_p]
  · rw [yw_n (by omega), yw_n (by omega), yw_p]
  · rw [yw_n (by omega), yw_p]
theorem ybit0 : ∀ h : Nat, h < 7 → yan (ysr 0 (h : Int)) 1 = 0 := fun h hh => by
  have q : ∀ i : Fin 7, yan (ysr 0 ((i.val : Nat) : Int)) 1 = 0 := by decide +kernel
  exact q ⟨h, hh⟩
/-- both begin alike -/
theorem yRD_0 {σ τ : yS} {v : Nat} (hv : σ.2 38 11 = v) (ht : yTr σ) (a0 : σ.1 38 0 = 3 ∧ σ.1 38 1 = 0 ∧ σ.1 38 2 = 0 ∧ σ.1 38 6 = 0) (a1 : σ.1 v 0 = 0 ∧ σ.1 56 0 = 0 ∧ σ.1 38 14 = 0 ∧ σ.1 38 15 = 0 ∧ σ.1 38 16 = 0 ∧ σ.1 38 17 = 0) (a2 : ∀ a b : Nat, 40 ≤ a → a ≤ 44 → b < 7 → σ.1 a b = 0) (a3 : ∀ b : Nat, b < 35 → σ.1 45 b = 0) (a4 : ∀ b : Nat, 7 ≤ b → b ≤ 10 → σ.1 2 b = 0) (a5 : σ.1 2 11 = -1 ∧ σ.1 2 12 = -1) (b0 : ∀ b : Nat, b < 131 → τ.1 5 b = 0) (b1 : ∀ b : Nat, b < 3 → τ.1 7 b = 0) (b2 : τ.1 0 8 = 3 ∧ τ.1 0 9 = 0 ∧ τ.1 0 10 = 0 ∧ τ.1 0 11 = 0 ∧ τ.1 0 14 = -4 ∧ τ.1 0 15 = -4) : yRD σ τ := by
  obtain ⟨c0, c1, c2, c3, c4, c5⟩ := b2
  refine ⟨⟨?_, ?_, ?_, ?_, ?_, ?_, fun d hd => ?_⟩, ⟨fun i hi => ⟨?_, ?_, ?_, ?_, ?_, ?_⟩, fun j hj => ?_, ⟨?_, fun i hi => ?_⟩, ⟨?_, fun i hi => ?_⟩, ⟨?_, ?_, ?_, ?_⟩, ht⟩, ⟨?_, fun i hi => ?_, ?_, fun i hi => ?_, ?_, fun i hi => ?_⟩, ⟨fun j hj => ?_, fun i hi q => ?_, fun i hi q => ?_⟩, b0 127 (by decide), ⟨?_, ?_⟩, ⟨?_, ?_, ?_, ?_⟩, fun k hk => ?_, Or.inl ⟨a5.1, c4⟩, Or.inl ⟨a5.2, c5⟩⟩
  all_goals try dsimp only
  · rw [a0.1, c0]
  · rw [a0.2.1, c1]
  · rw [a0.2.2.1, c3]
  · rw [c0]; decide
  · rw [c1]; decide
  · rw [c3]; decide
  · rw [c3] at hd; omega
  · rw [a2 (38 + 2) i (by decide) (by decide) hi, b0 i (by omega)]
  · rw [a2 (38 + 3) i (by decide) (by decide) hi, b0 _ (by omega)]
  · rw [a0.2.2.2, ybit0 i hi, b0 _ (by omega)]
  · rw [a2 (38 + 4) i (by decide) (by decide) hi, b0 _ (by omega)]
  · rw [a2 (38 + 5) i (by decide) (by decide) hi, b0 _ (by omega)]
  · rw [a2 (38 + 6) i (by decide) (by decide) hi, b0 _ (by omega)]
  · rw [a3 j hj, b0 _ (by omega)]
  · rw [hv, a1.1, b0 77 (by decide)]
  · dsimp only at hi
    rw [b0 77 (by decide)] at hi; omega
  · rw [a1.2.1, b0 118 (by decide)]
  · dsimp only at hi
    rw [b0 118 (by decide)] at hi; omega
  · rw [a1.2.2.1, b0 127 (by decide)]
  · rw [a1.2.2.2.1, b0 128 (by decide)]
  · rw [a1.2.2.2.2.1, b0 129 (by decide)]
  · rw [a1.2.2.2.2.2, b0 130 (by decide)]
  · rw [a0.2.2.2]; decide
  · rw [b0 (7 + i) (by omega), b0 (14 + i) (by omega), b0 (21 + i) (by omega), b0 (28 + i) (by omega), b0 (35 + i) (by omega)]; decide
  · rw [b0 77 (by decide)]; decide
  · dsimp only at hi
    rw [b0 77 (by decide)] at hi; omega
  · rw [b0 118 (by decide)]; decide
  · dsimp only at hi
    rw [b0 118 (by decide)] at hi; omega
  · rw [b0 _ (by omega)]; decide
  · dsimp only at q
    exact absurd (b0 _ (by omega)) q
  · rw [b0 _ (by omega)]
  · rw [a4 7 (by decide) (by decide), c2]
  · rw [c2]; decide
  · rw [a4 8 (by decide) (by decide), b1 0 (by decide)]
  · rw [a4 9 (by decide) (by decide), b1 1 (by decide)]
  · rw [a4 10 (by decide) (by decide), b1 2 (by decide)]
  · rw [a0.2.2.2, a4 9 (by decide) (by decide)]
  · rw [b1 k hk]; decide
end
section
theorem x8_kd2 {N : Nat} : ∀ (c m i : Nat) (τ : yS), i + c = 131 → ∃ τ' : yS, f_X8_keepDraft_b2 N (m + c + 1) τ (i : Int) = f_X8_keepDraft_b37 N (yw τ' 0 3 (τ'.1 0 8)) ∧ (∀ a b : Nat, ¬ (a = 1 ∧ i ≤ b ∧ b < 131) → τ'.1 a b = τ.1 a b) ∧ (∀ b : Nat, i ≤ b → b < 131 → τ'.1 1 b = τ.1 5 b)
  | 0, m, i, τ, hi => ⟨τ, by rw [q_X8_keepDraft_b2, ycP_ge, decide_eq_true (by omega), cond_true], fun _ _ _ => rfl, fun b h3 h4 => by omega⟩
  | c + 1, m, i, τ, hi => by
    obtain ⟨τ', g, w, z⟩ := x8_kd2 c m (i + 1) (yw τ 1 i (τ.1 5 i)) (by omega)
    have ei : yad (i : Int) 1 = ((i + 1 : Nat) : Int) := by rw [yad_e (by omega) (by omega)]; omega
    have ii : yin (i : Int) 131 = true := by rw [yin_d]; exact decide_eq_true (by omega)
    have i2 : yin (i : Int) 393 = true := by rw [yin_d]; exact decide_eq_true (by omega)
    refine ⟨τ', ?_, fun a b h => ?_, fun b h3 h4 => ?_⟩
    · rw [show m + (c + 1) + 1 = (m + c + 1) + 1 from rfl, q_X8_keepDraft_b2, ycP_ge, decide_eq_false (by omega), cond_false, ii, cond_true, i2, cond_true, Int.toNat_natCast, ei]
      exact g
    · rw [w a b (by omega), yw_n (by omega)]
    · by_cases e : b = i
      · subst e
        rw [w 1 b (by omega)]; exact yw_p
      · rw [z b (by omega) h4, yw_n (by omega)]
theorem x8_kd53 {N : Nat} : ∀ (c m i : Nat) (τ : yS), (i : Int) + c = τ.1 0 5 → i + c ≤ 5 → ∃ τ' : yS, f_X8_keepDraft_b53 N (m + c + 1) τ (i : Int) = some (0, yw (yw τ' 3 0 0) 3 1 0) ∧ (∀ a b : Nat, ¬ a = 4 → τ'.1 a b = τ.1 a b) ∧ (∀ b : Nat, b < i → τ'.1 4 b = τ.1 4 b) ∧ (∀ b : Nat, i ≤ b → b < i + c → τ'.1 4 b = τ.1 6 b)
  | 0, m, i, τ, hi, h5 => ⟨τ, by rw [q_X8_keepDraft_b53, ycP_ge, decide_eq_true (by omega), cond_true], fun _ _ _ => rfl, fun _ _ => rfl, fun b h3 h4 => by omega⟩
  | c + 1, m, i, τ, hi, h5 => by
    obtain ⟨τ', g, w, k, z⟩ := x8_kd53 c m (i + 1) (yw τ 4 i (τ.1 6 i)) (by rw [yw_n (by omega)]; omega) (by omega)
    have ei : yad (i : Int) 1 = ((i + 1 : Nat) : Int) := by rw [yad_e (by omega) (by omega)]; omega
    have ii : yin (i : Int) 5 = true := by rw [yin_d]; exact decide_eq_true (by omega)
    refine ⟨τ', ?_, fun a b h => ?_, fun b h => ?_, fun b h3 h4 => ?_⟩
    · rw [show m + (c + 1) + 1 = (m + c + 1) + 1 from rfl, q_X8_keepDraft_b53, ycP_ge, decide_eq_false (by omega), cond_false, ii, cond_true, Int.toNat_natCast, ei]
      exact g
    · rw [w a b h, yw_n (by omega)]
    · rw [k b (by omega), yw_n (by omega)]
    · by_cases e : b = i
      · subst e
        rw [k b (by omega)]; exact yw_p
      · rw [z b (by omega) (by omega), yw_n (by omega)]
/-- the draft is kept -/
theorem x8_keepd {N : Nat} (hN : 400 ≤ N) {τ : yS} (h9 : 0 ≤ τ.1 0 9 ∧ τ.1 0 9 ≤ 1) (h11 : 0 ≤ τ.1 0 11 ∧ τ.1 0 11 ≤ 5) : ∃ τ' : yS, f_X8_keepDraft N τ = some (0, τ') ∧ (∀ a b : Nat, ¬ (a = 1 ∧ b < 131) → ¬ a = 3 → ¬ a = 4 → ¬ (a = 0 ∧ 3 ≤ b ∧ b ≤ 5) → τ'.1 a b = τ.1 a b) ∧ (∀ b : Nat, b < 131 → τ'.1 1 b = τ.1 5 b) ∧ τ'.1 0 3 = τ.1 0 8 ∧ τ'.1 0 4 = τ.1 0 9 ∧ τ'.1 0 5 = τ.1 0 11 ∧ (∀ d : Nat, (d : Int) < τ.1 0 11 → τ'.1 4 d = τ.1 6 d) ∧ τ'.1 3 0 = 0 ∧ τ'.1 3 1 = 0 := by
  obtain ⟨τ1, g1, w1, z1⟩ := x8_kd2 (N := N) 131 (N - 132) 0 τ rfl
  rw [show N - 132 + 131 + 1 = N by omega] at g1
  have e8 : τ1.1 0 8 = τ.1 0 8 := w1 0 8 (by omega)
  have e9 : τ1.1 0 9 = τ.1 0 9 := w1 0 9 (by omega)
  have e11 : τ1.1 0 11 = τ.1 0 11 := w1 0 11 (by omega)
  obtain ⟨n, hn⟩ : ∃ n : Nat, τ.1 0 11 = (n : Int) := ⟨(τ.1 0 11).toNat, by omega⟩
  obtain ⟨τ2, g2, w2, k2, z2⟩ := x8_kd53 (N := N) n (N - n - 1) 0 (yw (yw (yw τ1 0 3 (τ1.1 0 8)) 0 4 (τ1.1 0 9)) 0 5 (τ1.1 0 11)) (by rw [yw_p, e11, hn]; omega) (by omega)
  rw [show N - n - 1 + n + 1 = N by omega] at g2
  refine ⟨yw (yw τ2 3 0 0) 3 1 0, ?_, fun a b h1 h3 h4 h0 => ?_, fun b h => ?_, ?_, ?_, ?_, fun d hd => ?_, ?_, yw_p⟩
  · refine g1.trans ?_
    unfold f_X8_keepDraft_b37
    rw [yw_n (by omega), yb1_d, decide_eq_true (by rw [e9]; exact h9), cond_true]
    unfold f_X8_keepDraft_b45
    rw [yw_n (by omega), yw_n (by omega)]
    exact g2
  · rw [yw_n (by omega), yw_n (by omega), w2 a b h4, yw_n (by omega), yw_n (by omega), yw_n (by omega), w1 a b (by omega)]
  · rw [yw_n (by omega), yw_n (by omega), w2 1 b (by omega), yw_n (by omega), yw_n (by omega), yw_n (by omega)]
    exact z1 b (by omega) h
  · rw [yw_n (by omega), yw_n (by omega), w2 _ _ (by omega), yw_n (by omega), yw_n (by omega), yw_p, e8]
  · rw [yw_n (by omega), yw_n (by omega), w2 _ _ (by omega), yw_n (by omega), yw_p, e9]
  · rw [yw_n (by omega), yw_n (by omega), w2 _ _ (by omega), yw_p, e11]
  · rw [yw_n (by omega), yw_n (by omega), z2 d (by omega) (by omega), yw_n (by omega), yw_n (by omega), yw_n (by omega), w1 6 d (by omega)]
  · rw [yw_n (by omega)]; exact yw_p
theorem ybk0 : ∀ k : Nat, k < 2 → yan (ysr 0 (k : Int)) 1 = 0 := fun k h => ybit0 k (by omega)
/-- the text is read alike: to the last look -/
theorem p_readin {N : Nat} (hN : 400 ≤ N) {σ τ : yS} (ht : yTr σ) (T : yTp σ τ) : ∃ (j : Int) (σ' τ' : yS), f_X1_readInto N σ 38 = some (0, σ') ∧ f_X8_text N τ = f_X8_text_b90 N (yw τ' 0 17 0) j ∧ yE σ' τ' ∧ yZ7 σ σ' ∧ yZ8 τ τ' ∧ (σ'.1 2 4 = 0 → yRD σ' τ' ∧ σ'.1 2 6 = j ∧ τ'.1 0 14 < τ'.1 0 8 ∧ τ'.1 0 15 < τ'.1 0 11) := by
  obtain ⟨v, hv, hv2⟩ : ∃ v : Nat, σ.2 38 11 = v ∧ (v = 46 ∨ v = 51) := ⟨σ.2 38 11, rfl, by unfold yTr at ht; omega⟩
  obtain ⟨σ1, g1, r1, w1, n0, n1, n2, n3⟩ := x4_new (N := N) hN hv hv2
  obtain ⟨τ1, k1, u1, z5, z7, z8⟩ := x8_first (N := N) hN (τ := yw (yw τ 0 22 0) 0 18 0)
  have T1 : yTp (yw (yw (yw (yw (yw (yw (yw (yw (yw (yw σ1 2 1 0) 2 4 0) 2 5 0) 2 6 0) 2 7 0) 2 8 0) 2 9 0) 2 10 0) 2 11 (-1)) 2 12 (-1)) τ1 := by
    obtain ⟨t1, t2, t3, t4⟩ := T
    have c : ∀ a b : Nat, a = 3 ∨ a = 4 → (yw (yw (yw (yw (yw (yw (yw (yw (yw (yw σ1 2 1 0) 2 4 0) 2 5 0) 2 6 0) 2 7 0) 2 8 0) 2 9 0) 2 10 0) 2 11 (-1)) 2 12 (-1)).1 a b = σ.1 a b := fun a b h => by
      rw [yw_n (by omega), yw_n (by omega), yw_n (by omega), yw_n (by omega), yw_n (by omega), yw_n (by omega), yw_n (by omega), yw_n (by omega), yw_n (by omega), yw_n (by omega), w1 a b (by omega)]
    have o : ∀ a b : Nat, (a = 0 ∧ b = 17) ∨ a = 8 → τ1.1 a b = τ.1 a b := fun a b h => by
      rw [u1 a b (by omega) (by omega) (by omega), yw_n (by omega), yw_n (by omega)]
    refine ⟨by rw [c _ _ (by omega)]; exact t1, by rw [c _ _ (by omega)]; exact t2, by rw [c _ _ (by omega), o _ _ (by omega)]; exact t3, fun j hj => ?_⟩
    rw [c _ _ (by omega)] at hj
    rw [c _ _ (by omega), o _ _ (by omega)]
    exact t4 j hj
  have p1 : (yw (yw (yw (yw (yw (yw (yw (yw (yw (yw σ1 2 1 0) 2 4 0) 2 5 0) 2 6 0) 2 7 0) 2 8 0) 2 9 0) 2 10 0) 2 11 (-1)) 2 12 (-1)).1 2 1 = 0 := by
    rw [yw_n (by omega), yw_n (by omega), yw_n (by omega), yw_n (by omega), yw_n (by omega), yw_n (by omega), yw_n (by omega), yw_n (by omega), yw_n (by omega), yw_p]
  have p4 : (yw (yw (yw (yw (yw (yw (yw (yw (yw (yw σ1 2 1 0) 2 4 0) 2 5 0) 2 6 0) 2 7 0) 2 8 0) 2 9 0) 2 10 0) 2 11 (-1)) 2 12 (-1)).1 2 4 = 0 := by
    rw [yw_n (by omega), yw_n (by omega), yw_n (by omega), yw_n (by omega), yw_n (by omega), yw_n (by omega), yw_n (by omega), yw_n (by omega), yw_p]
  have p6 : (yw (yw (yw (yw (yw (yw (yw (yw (yw (yw σ1 2 1 0) 2 4 0) 2 5 0) 2 6 0) 2 7 0) 2 8 0) 2 9 0) 2 10 0) 2 11 (-1)) 2 12 (-1)).1 2 6 = 0 := by
    rw [yw_n (by omega), yw_n (by omega), yw_n (by omega), yw_n (by omega), yw_n (by omega), yw_n (by omega), yw_p]
  have q7 : ∀ b : Nat, 7 ≤ b → b ≤ 10 → (yw (yw (yw (yw (yw (yw (yw (yw (yw (yw σ1 2 1 0) 2 4 0) 2 5 0) 2 6 0) 2 7 0) 2 8 0) 2 9 0) 2 10 0) 2 11 (-1)) 2 12 (-1)).1 2 b = 0 := fun b h1 h2 => by
    rw [yw_n (by omega), yw_n (by omega)]
    have : b = 7 ∨ b = 8 ∨ b = 9 ∨ b = 10 := by omega
    rcases this with rfl | rfl | rfl | rfl
    · rw [yw_n (by omega), yw_n (by omega), yw_n (by omega)]; exact yw_p
    · rw [yw_n (by omega), yw_n (by omega)]; exact yw_p
    · rw [yw_n (by omega)]; exact yw_p
    · exact yw_p
  have c3 : ∀ a b : Nat, ¬ a = 2 → (yw (yw (yw (yw (yw (yw (yw (yw (yw (yw σ1 2 1 0) 2 4 0) 2 5 0) 2 6 0) 2 7 0) 2 8 0) 2 9 0) 2 10 0) 2 11 (-1)) 2 12 (-1)).1 a b = σ1.1 a b := fun a b h => by
    rw [yw_n (by omega), yw_n (by omega), yw_n (by omega), yw_n (by omega), yw_n (by omega), yw_n (by omega), yw_n (by omega), yw_n (by omega), yw_n (by omega), yw_n (by omega)]
  have q11 : (yw (yw (yw (yw (yw (yw (yw (yw (yw (yw σ1 2 1 0) 2 4 0) 2 5 0) 2 6 0) 2 7 0) 2 8 0) 2 9 0) 2 10 0) 2 11 (-1)) 2 12 (-1)).1 2 11 = -1 := by
    rw [yw_n (by omega)]; exact yw_p
  have R1 : ∀ a b : Nat, (yw (yw (yw (yw (yw (yw (yw (yw (yw (yw σ1 2 1 0) 2 4 0) 2 5 0) 2 6 0) 2 7 0) 2 8 0) 2 9 0) 2 10 0) 2 11 (-1)) 2 12 (-1)).2 a b = σ.2 a b := fun a b => by
    show σ1.2 a b = σ.2 a b
    rw [r1]
  have q12 : (yw (yw (yw (yw (yw (yw (yw (yw (yw (yw σ1 2 1 0) 2 4 0) 2 5 0) 2 6 0) 2 7 0) 2 8 0) 2 9 0) 2 10 0) 2 11 (-1)) 2 12 (-1)).1 2 12 = -1 := yw_p
  have q2 : (yw (yw (yw (yw (yw (yw (yw (yw (yw (yw σ1 2 1 0) 2 4 0) 2 5 0) 2 6 0) 2 7 0) 2 8 0) 2 9 0) 2 10 0) 2 11 (-1)) 2 12 (-1)).2 = σ.2 := r1
  generalize hs : (yw (yw (yw (yw (yw (yw (yw (yw (yw (yw σ1 2 1 0) 2 4 0) 2 5 0) 2 6 0) 2 7 0) 2 8 0) 2 9 0) 2 10 0) 2 11 (-1)) 2 12 (-1)) = σ2 at *
  have D : yRD σ2 τ1 := by
    refine yRD_0 (v := v) (by rw [q2]; exact hv) (by unfold yTr at ht ⊢; rw [q2]; exact ht) ?_ ?_ (fun a b h1 h2 h3 => ?_) (fun b h => ?_) q7 ⟨q11, q12⟩ z5 z7 z8
    · rw [c3 _ _ (by omega), c3 _ _ (by omega), c3 _ _ (by omega), c3 _ _ (by omega)]; exact n0
    · rw [c3 _ _ (by omega), c3 _ _ (by omega), c3 _ _ (by omega), c3 _ _ (by omega), c3 _ _ (by omega), c3 _ _ (by omega)]; exact n1
    · rw [c3 _ _ (by omega)]; exact n2 a b h1 h2 h3
    · rw [c3 _ _ (by omega)]; exact n3 b h
  have o22 : τ1.1 0 22 = 0 := by rw [u1 _ _ (by omega) (by omega) (by omega), yw_n (by omega)]; exact yw_p
  have o18 : τ1.1 0 18 = 0 := by rw [u1 _ _ (by omega) (by omega) (by omega)]; exact yw_p
  have Lx : yLx σ2 τ1 := ⟨T1, p4, o22, by rw [p1, o18], by rw [o18]; decide, by rw [o18, ← T1.2.2.1]; exact T1.1⟩
  obtain ⟨σ3, τ3, g3, k3, K7, K8, mo, cs⟩ := p_token (N := N) hN Lx
  have T3 : yTp σ3 τ3 := yTp_k K7 K8 T1
  have E3 : yE σ3 τ3 := by
    rcases cs with ⟨c1, c2, -⟩ | c1
    · exact Or.inl ⟨c1, c2⟩
    · exact Or.inr ⟨c1, T3⟩
  have l6 : σ3.1 2 6 = ((0 : Nat) : Int) := by rw [K7.2 2 6 (by omega), p6]; rfl
  have ok3 : σ3.1 2 4 = 0 → yRD σ3 τ3 ∧ (¬ τ3.1 0 20 = 0 → ((0 : Nat) : Int) < σ3.1 2 1) := fun z => by
    refine ⟨yRD_k6 D K7.1 (fun a b h => K7.2 a b (by omega)) K8, fun k => ?_⟩
    rcases cs with ⟨c1, c2, c4⟩ | c1
    · have := c4 (by rw [c2.2.1]; exact k)
      rw [p1] at this
      exact this
    · have q1 := c1.1
      have q3 := c1.2.1
      omega
  obtain ⟨j, σ4, τ4, g4, k4, E4, Y7, Y8, ok4⟩ := p_rd (N := N) hN 161 (N - 162) 0 σ3 τ3 rfl E3 l6 ok3
  rw [show N - 162 + 161 + 1 = N by omega] at g4 k4
  obtain ⟨σ5, τ5, g5, k5, E5, V7, V8, ok5⟩ := p_last (N := N) E4 ok4
  have Za : yZ7 σ σ2 := ⟨q2, fun a b h1 h2 => by rw [c3 a b h1, w1 a b (by omega)]⟩
  have Zb : yZ8 τ τ1 := fun a b x y z w => by rw [u1 a b (by omega) (by omega) (by omega), yw_n (by omega), yw_n (by omega)]
  refine ⟨j, σ5, τ5, ?_, ?_, E5, yZ7_t (yZ7_t (yZ7_t Za (yZ7_k K7)) Y7) (yZ7_k V7), yZ8_t (yZ8_t (yZ8_t Zb (yZ8_k K8)) Y8) (yZ8_k V8), ok5⟩
  · unfold f_X1_readInto
    rw [g1]
    dsimp only
    rw [hs, g3]
    exact g4.trans g5
  · unfold f_X8_text
    rw [k1]
    dsimp only
    rw [k3]
    exact k4.trans k5
end
section
/-- both read a text alike -/
theorem P_text {N : Nat} (hN : 400 ≤ N) {σ τ : yS} (H : yRR σ τ) : ∃ (a : Int) (σ' τ' : yS), f_X7_text N σ = some (a, σ') ∧ f_X8_text N τ = some (a, τ') ∧ yRR σ' τ' := by
  have ht : yTr σ := H.2.2.2.2.2.2
  obtain ⟨j, σ1, τ1, g1, k1, E, Z7, Z8, ok⟩ := p_readin (N := N) hN ht H.1.1
  have fe := yE_f E
  have ht1 : yTr (yw σ1 3 0 0) := by
    unfold yTr at ht ⊢
    show (σ1.2 38 11 = _ ∧ σ1.2 38 12 = _) ∨ (σ1.2 38 11 = _ ∧ σ1.2 38 12 = _)
    rw [Z7.1]; exact ht
  have c : ∀ a b : Nat, ¬ a = 2 → ¬ a = 3 → ¬ (38 ≤ a ∧ a < 59) → (yw σ1 3 0 0).1 a b = σ.1 a b := fun a b h1 h2 h3 => by rw [yw_n (by omega), Z7.2 a b h1 h3]
  have o : ∀ a b : Nat, ¬ a = 5 → ¬ a = 6 → ¬ a = 7 → ¬ (a = 0 ∧ ((8 ≤ b ∧ b ≤ 11) ∨ b = 14 ∨ b = 15 ∨ (17 ≤ b ∧ b ≤ 23))) → (yw τ1 0 17 0).1 a b = τ.1 a b := fun a b h1 h2 h3 h4 => by rw [yw_n (by omega), Z8 a b h1 h2 h3 (by omega)]
  have rf : ∀ a b : Nat, (yw σ1 3 0 0).2 a b = σ.2 a b := fun a b => by
    show σ1.2 a b = σ.2 a b
    rw [Z7.1]
  have s0 : (yw σ1 3 0 0).1 3 0 = 0 := yw_p
  have t0 : (yw τ1 0 17 0).1 0 17 = 0 := yw_p
  by_cases f0 : σ1.1 2 4 = 0
  · obtain ⟨⟨d1, d2, d3, d4, d5, d6, d7⟩, dT, dG, dK, d127, -, -, -, -, -⟩ := (ok f0).1
    obtain ⟨-, ej, lt1, lt2⟩ := ok f0
    obtain ⟨τ2, k2, u2, v2, a3, a4, a5, a6, a7, a8⟩ := x8_keepd (N := N) hN (τ := yw τ1 0 17 0) (by rw [yw_n (by omega)]; exact d5) (by rw [yw_n (by omega)]; exact d6)
    rw [yw_n (by omega)] at a3 a4 a5
    have v3 : ∀ b : Nat, b < 131 → τ2.1 1 b = τ1.1 5 b := fun b h => by rw [v2 b h, yw_n (by omega)]
    have G1 : yGd (τ1.1 0 14 + 1) (τ1.1 0 15 + 1) (σ1.1 38 6) (fun j => τ1.1 5 j) := yGe_d dG (by rw [d127]; decide)
    have G2 : yGd (τ1.1 0 8) (τ1.1 0 11) (σ1.1 38 6) (fun j => τ1.1 5 j) := yGe_d (yGe_m (by omega) (by omega) dG) (by rw [d127]; decide)
    have K2 : yGk (τ1.1 0 8) (τ1.1 0 11) (fun j => τ1.1 5 j) := yGk_m (by omega) (by omega) dK
    have dT1 : yRT (yw σ1 3 0 0) 38 (fun j => τ1.1 5 j) := yRT_fr (σ := σ1) (fun b => rfl) (fun a b h1 h2 => yw_n (by omega)) dT
    have h17 := H.1.2.2.2.1.2.2.2.2.2
    obtain ⟨σ2, g2, r2, w2, T2, e6, e0, e1, e2, e7⟩ := yRT_copy (N := N) (x := 17) (y := 38) (hs := τ1.1 0 8) (ds := τ1.1 0 11) (Or.inl (by decide)) (by rw [rf, rf]; exact h17) (by rw [yw_n (by omega), d2]; exact d5) dT1 (by rw [yw_n (by omega)]; exact G2)
    have hh : τ2.1 0 22 = τ1.1 0 22 := by rw [u2 _ _ (by omega) (by omega) (by omega) (by omega), yw_n (by omega)]
    refine ⟨j, yw σ2 0 7 0, τ2, ?_, ?_, ⟨⟨?_, ?_, ?_, fun i hi => ?_⟩, ?_, ⟨?_, ?_, ?_, ?_, ?_, ?_, fun d hd => ?_⟩, ?_, ?_⟩, ?_, ⟨?_, ?_⟩, fun k hk => ⟨?_, ?_, ?_, ?_, fun z => ?_⟩, fun k hk z => ?_, fun k hk => ?_, ?_⟩
    · unfold f_X7_text
      rw [g1]
      dsimp only
      unfold f_X7_text_b23
      rw [yw_n (by omega), f0, ybz, g2]
      dsimp only
      unfold f_X7_text_b60
      rw [yw_n (by omega), w2 2 6 (by omega), yw_n (by omega), ej]
    · rw [k1]
      unfold f_X8_text_b90
      rw [yw_n (by omega), ← fe.1, f0, ycP_le, decide_eq_true (by decide), cond_true, k2]
    · rw [yw_n (by omega), w2 3 0 (by omega), s0]; decide
    · rw [yw_n (by omega), w2 3 0 (by omega), s0]; decide
    · rw [yw_n (by omega), w2 3 0 (by omega), s0, u2 _ _ (by omega) (by omega) (by omega) (by omega), t0]
    · rw [yw_n (by omega), w2 3 0 (by omega), s0] at hi
      omega
    · rw [yw_n (by omega), w2 2 4 (by omega), yw_n (by omega), hh]; exact fe.1
    · rw [yw_n (by omega), e0, yw_n (by omega), a3]; exact d1
    · rw [yw_n (by omega), e1, yw_n (by omega), a4]; exact d2
    · rw [yw_n (by omega), e2, yw_n (by omega), a5]; exact d3
    · rw [a3]; exact d4
    · rw [a4]; exact d5
    · rw [a5]; exact d6
    · rw [a5] at hd
      rw [yw_n (by omega), e7 d (by omega), yw_n (by omega), a6 d (by rw [yw_n (by omega)]; exact hd), yw_n (by omega)]
      exact d7 d hd
    · exact yRT_fr (σ := σ2) (fun b => rfl) (fun a b h1 h2 => yw_n (by omega)) (yRT_cong (fun b h => v3 b h) G1 T2)
    · rw [yw_n (by omega), e6, yw_n (by omega), a3, a5]
      exact yGd_cong (fun b h => v3 b h) G2
    · rw [a3, a5]
      exact yGk_cong (fun b h => v3 b (by omega)) K2
    · rw [yw_p]; decide
    · rw [yw_p]; decide
    · show σ2.2 1 k = _
      rw [r2, rf]; exact (H.2.2.2.1 k hk).1
    · show (σ2.2 (59 + 21 * k) 11 = _ ∧ σ2.2 (59 + 21 * k) 12 = _) ∨ (σ2.2 (59 + 21 * k) 11 = _ ∧ σ2.2 (59 + 21 * k) 12 = _)
      rw [r2, rf, rf]; exact (H.2.2.2.1 k hk).2.1
    · have : k = 0 ∨ k = 1 := by omega
      rcases this with rfl | rfl
      · rw [a7]; decide
      · rw [a8]; decide
    · rw [yw_p, ybk0 k hk]
      have : k = 0 ∨ k = 1 := by omega
      rcases this with rfl | rfl
      · rw [a7]
      · rw [a8]
    · have : k = 0 ∨ k = 1 := by omega
      rcases this with rfl | rfl
      · rw [a7] at z; exact absurd z (by decide)
      · rw [a8] at z; exact absurd z (by decide)
    · have : k = 0 ∨ k = 1 := by omega
      rcases this with rfl | rfl
      · rw [a7] at z; exact absurd z (by decide)
      · rw [a8] at z; exact absurd z (by decide)
    · refine yRS_fr hk (fun b => ?_) (fun a b h1 h2 => ?_) (fun a b h => ?_) (H.2.2.2.2.2.1 k hk)
      · show σ2.2 8 b = _
        rw [r2, rf]
      · rw [yw_n (by omega), w2 a b (by omega), c a b (by omega) (by omega) (by omega)]
      · rw [u2 a b (by omega) (by omega) (by omega) (by omega), o a b (by omega) (by omega) (by omega) (by omega)]
    · unfold yTr at ht1 ⊢
      show (σ2.2 38 11 = _ ∧ σ2.2 38 12 = _) ∨ (σ2.2 38 11 = _ ∧ σ2.2 38 12 = _)
      rw [r2]; exact ht1
  · obtain ⟨⟨b1, b2, b3, -⟩, -⟩ := yE_Q E f0
    refine ⟨ysu (-10) (σ1.1 2 5), yw σ1 3 0 0, yw τ1 0 17 0, ?_, ?_, yRR_fr H ⟨⟨?_, ?_, ?_, fun i hi => ?_⟩, ?_, ?_, ?_, ?_⟩ ?_ (fun a b _ _ => rf a b) ht1 (c 0 7 (by omega) (by omega) (by omega)) (fun a b h => c a b (by omega) (by omega) (by omega)) (fun a b h => o a b (by omega) (by omega) (by omega) (by omega))⟩
    · unfold f_X7_text
      rw [g1]
      dsimp only
      unfold f_X7_text_b23
      rw [yw_n (by omega), ycP_eq, decide_eq_false f0, cond_false, yw_n (by omega)]
    · rw [k1]
      unfold f_X8_text_b90
      rw [yw_n (by omega), ycP_le, decide_eq_false (by omega), cond_false, yw_n (by omega), b3]
    · rw [s0]; decide
    · rw [s0]; decide
    · rw [s0, t0]
    · rw [s0] at hi; omega
    · rw [yw_n (by omega), yw_n (by omega)]; exact fe.1
    · exact yRH_f ⟨c _ _ (by omega) (by omega) (by omega), c _ _ (by omega) (by omega) (by omega), c _ _ (by omega) (by omega) (by omega)⟩ (fun b => c _ _ (by omega) (by omega) (by omega)) ⟨o _ _ (by omega) (by omega) (by omega) (by omega), o _ _ (by omega) (by omega) (by omega) (by omega), o _ _ (by omega) (by omega) (by omega) (by omega)⟩ (fun b => o _ _ (by omega) (by omega) (by omega) (by omega)) H.1.2.2.1
    · have e : (fun j => (yw τ1 0 17 0).1 1 j) = (fun j => τ.1 1 j) := funext fun j => o 1 j (by omega) (by omega) (by omega) (by omega)
      rw [e]
      exact yRT_fr (fun b => rf _ b) (fun a b h1 h2 => c a b (by omega) (by omega) (by omega)) H.1.2.2.2.1
    · have e : (fun j => (yw τ1 0 17 0).1 1 j) = (fun j => τ.1 1 j) := funext fun j => o 1 j (by omega) (by omega) (by omega) (by omega)
      rw [e, c 17 6 (by omega) (by omega) (by omega), o 0 3 (by omega) (by omega) (by omega) (by omega), o 0 5 (by omega) (by omega) (by omega) (by omega)]
      exact H.1.2.2.2.2
    · have e : (fun j => (yw τ1 0 17 0).1 1 j) = (fun j => τ.1 1 j) := funext fun j => o 1 j (by omega) (by omega) (by omega) (by omega)
      rw [e, o 0 3 (by omega) (by omega) (by omega) (by omega), o 0 5 (by omega) (by omega) (by omega) (by omega)]
      exact H.2.1
end
section
/-- the planner's rows alone may be others -/
def yC7 (σ σ' : yS) : Prop := σ'.2 = σ.2 ∧ ∀ a b : Nat, ¬ a = 6 → ¬ a = 7 → σ'.1 a b = σ.1 a b
theorem yC7_r {σ : yS} : yC7 σ σ := ⟨rfl, fun _ _ _ _ => rfl⟩
theorem yC7_t {σ1 σ2 σ3 : yS} (h : yC7 σ1 σ2) (k : yC7 σ2 σ3) : yC7 σ1 σ3 := ⟨k.1.trans h.1, fun a b x y => by rw [k.2 a b x y, h.2 a b x y]⟩
theorem yC7_w {σ1 σ2 : yS} {i k : Nat} {z : Int} (h : yC7 σ1 σ2) (hi : i = 6 ∨ i = 7) : yC7 σ1 (yw σ2 i k z) := ⟨h.1, fun a b x y => by rw [yw_n (by omega), h.2 a b x y]⟩
theorem yRR_c7 {σ τ σ' : yS} (H : yRR σ τ) (C : yC7 σ σ') : yRR σ' τ := by
  refine yRR_scr H (fun a b _ => by rw [C.1]) ?_ (fun a b h => C.2 a b (by omega) (by omega)) (fun a b _ _ _ _ _ => rfl)
  have q := H.2.2.2.2.2.2
  unfold yTr at q ⊢
  rw [C.1]; exact q
theorem ywb16 : ∀ A : Fin 16, ∀ i : Fin 4, (0 ≤ yan ((A.val : Nat) : Int) (yxo (ysl 1 ((i.val : Nat) : Int)) (-1)) ∧ yan ((A.val : Nat) : Int) (yxo (ysl 1 ((i.val : Nat) : Int)) (-1)) < 16) ∧ (0 ≤ yor ((A.val : Nat) : Int) (ysl 1 ((i.val : Nat) : Int)) ∧ yor ((A.val : Nat) : Int) (ysl 1 ((i.val : Nat) : Int)) < 16) := by decide +kernel
theorem ywb16n {A i : Nat} (hA : A < 16) (hi : i < 4) (z : Int) : ∃ B : Nat, B < 16 ∧ (if z = 0 then yan (A : Int) (yxo (ysl 1 (i : Int)) (-1)) else yor (A : Int) (ysl 1 (i : Int))) = (B : Int) := by
  have q := ywb16 ⟨A, hA⟩ ⟨i, hi⟩
  dsimp only at q
  by_cases h : z = 0
  · rw [if_pos h]
    generalize yan (A : Int) (yxo (ysl 1 (i : Int)) (-1)) = y at q
    exact ⟨y.toNat, by omega, by omega⟩
  · rw [if_neg h]
    generalize yor (A : Int) (ysl 1 (i : Int)) = y at q
    exact ⟨y.toNat, by omega, by omega⟩
theorem x0_wb25 {N W : Nat} {σ : yS} {n S : Int} (hW : σ.1 (17 + 18) 0 = (W : Int)) (W4 : W ≤ 4) : ∀ (c m i A : Nat), i + c = W → A < 16 → ∃ B : Nat, B < 16 ∧ f_X0_wantsBrought_b25 N (m + c + 1) σ 17 n S A i = some ((B : Int), σ)
  | 0, m, i, A, hi, hA => ⟨A, hA, by rw [q_X0_wantsBrought_b25, ycP_ge, hW, decide_eq_true (by omega), cond_true]⟩
  | c + 1, m, i, A, hi, hA => by
    have ei : yad (i : Int) 1 = ((i + 1 : Nat) : Int) := by rw [yad_e (by omega) (by omega)]; omega
    have ii : yin (i : Int) 4 = true := by rw [yin_d]; exact decide_eq_true (by omega)
    have st : ∀ z : Int, ∃ B : Nat, B < 16 ∧ f_X0_wantsBrought_b76 N (f_X0_wantsBrought_b25 N (m + c + 1)) σ 17 n S A i z = some ((B : Int), σ) := fun z => by
      obtain ⟨A', hA', e⟩ := ywb16n hA (show i < 4 by omega) z
      obtain ⟨B, hB, g⟩ := x0_wb25 hW W4 c m (i + 1) A' (by omega) hA'
      refine ⟨B, hB, ?_⟩
      unfold f_X0_wantsBrought_b76
      rw [x7_withBit, e]
      dsimp only
      rw [ei]
      exact g
    rw [show m + (c + 1) + 1 = (m + c + 1) + 1 from rfl, q_X0_wantsBrought_b25, ycP_ge, hW, decide_eq_false (by omega), cond_false, ii, cond_true]
    cases ycP .ne (σ.1 (17 + 18 + 2) (i : Int).toNat) (yrm n 5) with
    | true => exact st 0
    | false =>
      rw [cond_false]
      show ∃ B : Nat, B < 16 ∧ (bif ycP .ne (yan (ysr S (σ.1 (17 + 18 + 1) (i : Int).toNat)) 1) 1 then f_X0_wantsBrought_b75 N (f_X0_wantsBrought_b25 N (m + c + 1)) σ 17 n S A i else f_X0_wantsBrought_b76 N (f_X0_wantsBrought_b25 N (m + c + 1)) σ 17 n S A i 1) = some ((B : Int), σ)
      cases ycP .ne (yan (ysr S (σ.1 (17 + 18 + 1) (i : Int).toNat)) 1) 1 with
      | true => exact st 0
      | false => exact st 1
/-- how many are wanted -/
theorem yWm {σ τ : yS} (HR : yRR σ τ) : ∃ W : Nat, W ≤ 4 ∧ σ.1 (17 + 18) 0 = (W : Int) ∧ τ.1 1 118 = (W : Int) := by
  have q : σ.1 (17 + 18) 0 = τ.1 1 118 := HR.1.2.2.2.1.2.2.2.1.1
  have g : 0 ≤ τ.1 1 118 ∧ τ.1 1 118 ≤ 4 := HR.1.2.2.2.2.2.2.2.2.1
  exact ⟨(τ.1 1 118).toNat, by omega, by omega, by omega⟩
theorem x0_wb {N : Nat} (hN : 132 ≤ N) {σ τ : yS} {H n : Nat} (HR : yRR σ τ) (hH : τ.1 0 3 = (H : Int)) (hn : n < 100 * H) : ∃ B : Nat, B < 16 ∧ f_X0_wantsBrought N σ 17 (n : Int) = some ((B : Int), σ) := by
  obtain ⟨W, W4, hW, -⟩ := yWm HR
  have lp : ∀ S : Int, ∃ B : Nat, B < 16 ∧ f_X0_wantsBrought_b19 N σ 17 (n : Int) S = some ((B : Int), σ) := fun S => by
    obtain ⟨B, hB, g⟩ := x0_wb25 (N := N) (n := (n : Int)) (S := S) hW W4 W (N - W - 1) 0 0 (by omega) (by decide)
    rw [show N - W - 1 + W + 1 = N by omega] at g
    exact ⟨B, hB, g⟩
  unfold f_X0_wantsBrought
  cases ycP .ge (yrm (n : Int) 5) (σ.1 17 2) with
  | true => exact lp 0
  | false =>
    rw [cond_false]
    obtain ⟨S, -, g, -⟩ := p_bring (N := N) hN (x := n / 100) (k := n / 20 % 5) (p := n / 5 % 4) (d := n % 5) HR hH (by omega) (by omega) (by omega) (by omega)
    rw [show 100 * (n / 100) + 20 * (n / 20 % 5) + 5 * (n / 5 % 4) + n % 5 = n by omega] at g
    rw [g]
    exact lp S
theorem yC7_W {σ σ' : yS} {W : Nat} (C : yC7 σ σ') (h : σ.1 (17 + 18) 0 = (W : Int)) : σ'.1 (17 + 18) 0 = (W : Int) := by
  rw [C.2 _ _ (by decide) (by decide)]; exact h
theorem x0_fv2 {N : Nat} : ∀ (c m i : Nat) (σ : yS), i + c = 16 → ∃ σ' : yS, f_X0_fewestVows_b2 N (m + c + 1) σ 17 i = f_X0_fewestVows_b23 N N σ' 17 0 ∧ yC7 σ σ'
  | 0, m, i, σ, hi => ⟨σ, by rw [q_X0_fewestVows_b2, ycP_ge, decide_eq_true (by omega), cond_true], yC7_r⟩
  | c + 1, m, i, σ, hi => by
    obtain ⟨σ', g, C⟩ := x0_fv2 (N := N) c m (i + 1) (yw σ 6 i 0) (by omega)
    have ei : yad (i : Int) 1 = ((i + 1 : Nat) : Int) := by rw [yad_e (by omega) (by omega)]; omega
    have ii : yinb (i : Int) 16 0 = true := by
      unfold yinb
      rw [yin_d, decide_eq_true (by omega)]; rfl
    refine ⟨σ', ?_, yC7_t (yC7_w yC7_r (by omega)) C⟩
    rw [show m + (c + 1) + 1 = (m + c + 1) + 1 from rfl, q_X0_fewestVows_b2, ycP_ge, decide_eq_false (by omega), cond_false, ii, cond_true, Int.toNat_natCast, ei]
    exact g
theorem yan16 : ∀ A : Fin 16, ∀ B : Fin 16, 0 ≤ yan ((A.val : Nat) : Int) (yxo ((B.val : Nat) : Int) (-1)) ∧ yan ((A.val : Nat) : Int) (yxo ((B.val : Nat) : Int) (-1)) < 16 := by decide +kernel
theorem yan16n {A B : Nat} (hA : A < 16) (hB : B < 16) : ∃ C : Nat, C < 16 ∧ yan (A : Int) (yxo (B : Int) (-1)) = (C : Int) := by
  have q := yan16 ⟨A, hA⟩ ⟨B, hB⟩
  dsimp only at q
  generalize yan (A : Int) (yxo (B : Int) (-1)) = y at q
  exact ⟨y.toNat, by omega, by omega⟩
theorem x0_fv76 {N : Nat} (k60 : yS → Nat → Int → Option (Int × yS)) {s : Nat} (hs : s < 16) : ∀ (c m p : Nat) (σ : yS), p + c = 16 → ∃ σ' : yS, f_X0_fewestVows_b76 N k60 (m + c + 1) σ 17 s p = k60 σ' 17 ((s + 1 : Nat) : Int) ∧ yC7 σ σ'
  | 0, m, p, σ, hp => ⟨σ, by
      rw [q_X0_fewestVows_b76, ycP_ge, decide_eq_true (by omega), cond_true, yad_e (by omega) (by omega)]; rfl, yC7_r⟩
  | c + 1, m, p, σ, hp => by
    have ei : yad (p : Int) 1 = ((p + 1 : Nat) : Int) := by rw [yad_e (by omega) (by omega)]; omega
    have ii : yin (p : Int) 16 = true := by rw [yin_d]; exact decide_eq_true (by omega)
    have i2 : yin (s : Int) 16 = true := by rw [yin_d]; exact decide_eq_true (by omega)
    obtain ⟨q, hq, eq⟩ := yan16n hs (show p < 16 by omega)
    have i3 : yin (q : Int) 16 = true := by rw [yin_d]; exact decide_eq_true (by omega)
    have st : ∀ σ1 : yS, yC7 σ σ1 → ∃ σ' : yS, f_X0_fewestVows_b124 N k60 (f_X0_fewestVows_b76 N k60 (m + c + 1)) σ1 17 s p = k60 σ' 17 ((s + 1 : Nat) : Int) ∧ yC7 σ σ' := fun σ1 C1 => by
      obtain ⟨σ', g, C⟩ := x0_fv76 k60 hs c m (p + 1) σ1 (by omega)
      refine ⟨σ', ?_, yC7_t C1 C⟩
      unfold f_X0_fewestVows_b124
      rw [ei]
      exact g
    rw [show m + (c + 1) + 1 = (m + c + 1) + 1 from rfl, q_X0_fewestVows_b76, ycP_ge, decide_eq_false (by omega), cond_false, ii, cond_true, i2, eq, i3, cond_true, cond_true]
    cases ycP .eq (σ.1 6 (p : Int).toNat) 0 with
    | true => exact st σ yC7_r
    | false =>
      rw [cond_false]
      cases ycP .eq (yan (p : Int) (s : Int)) 0 with
      | true => exact st σ yC7_r
      | false => exact st _ (yC7_w yC7_r (by omega))
theorem yall4 : ∀ W : Fin 5, 0 ≤ ysu (ysl 1 ((W.val : Nat) : Int)) 1 ∧ ysu (ysl 1 ((W.val : Nat) : Int)) 1 < 16 := by decide +kernel
theorem yall4n {W : Nat} (hW : W ≤ 4) : ∃ C : Nat, C < 16 ∧ ysu (ysl 1 (W : Int)) 1 = (C : Int) := by
  have q := yall4 ⟨W, by omega⟩
  dsimp only at q
  generalize ysu (ysl 1 (W : Int)) 1 = y at q
  exact ⟨y.toNat, by omega, by omega⟩
theorem x0_fv60 {N W : Nat} (hN : 132 ≤ N) (W4 : W ≤ 4) : ∀ (c m s : Nat) (σ : yS), s + c = 16 → σ.1 (17 + 18) 0 = (W : Int) → ∃ (a : Int) (σ' : yS), f_X0_fewestVows_b60 N (m + c + 1) σ 17 s = some (a, σ') ∧ yC7 σ σ'
  | 0, m, s, σ, hs, hW => by
    obtain ⟨C, hC, eC⟩ := yall4n W4
    have ii : yin (C : Int) 16 = true := by rw [yin_d]; exact decide_eq_true (by omega)
    rw [q_X0_fewestVows_b60, ycP_ge, decide_eq_true (by omega), cond_true]
    unfold f_X0_allWants
    rw [hW, eC]
    dsimp only
    rw [ii, cond_true]
    cases ycP .ge (σ.1 7 (C : Int).toNat) 99 with
    | true => exact ⟨_, σ, rfl, yC7_r⟩
    | false => exact ⟨_, σ, rfl, yC7_r⟩
  | c + 1, m, s, σ, hs, hW => by
    have i2 : yin (s : Int) 16 = true := by rw [yin_d]; exact decide_eq_true (by omega)
    obtain ⟨σ1, g1, C1⟩ := x0_fv76 (N := N) (f_X0_fewestVows_b60 N (m + c + 1)) (show s < 16 by omega) 15 (N - 16) 1 (yw σ 7 s 99) rfl
    rw [show N - 16 + 15 + 1 = N by omega] at g1
    have C2 : yC7 σ σ1 := yC7_t (yC7_w yC7_r (by omega)) C1
    obtain ⟨a, σ', g, C⟩ := x0_fv60 hN W4 c m (s + 1) σ1 (by omega) (yC7_W C2 hW)
    refine ⟨a, σ', ?_, yC7_t C2 C⟩
    rw [show m + (c + 1) + 1 = (m + c + 1) + 1 from rfl, q_X0_fewestVows_b60, ycP_ge, decide_eq_false (by omega), cond_false, i2, cond_true, Int.toNat_natCast]
    exact g1.trans g
theorem x0_num {N H : Nat} (h7 : H ≤ 7) {σ : yS} : f_X7_numbersOf N σ (H : Int) = some (((100 * H : Nat) : Int), σ) := by
  have q : ∀ i : Fin 8, ∀ σ : yS, f_X7_numbersOf N σ ((i.val : Nat) : Int) = some (((100 * i.val : Nat) : Int), σ) := by
    intro i σ
    unfold f_X7_numbersOf
    have e : ymu 100 ((i.val : Nat) : Int) = ((100 * i.val : Nat) : Int) := by
      have := i.isLt
      rw [ymu_e (by omega) (by omega)]; omega
    rw [e]
  exact q ⟨H, by omega⟩ σ
theorem x0_fv23 {N : Nat} (hN : 1000 ≤ N) {τ : yS} {H : Nat} (hH : τ.1 0 3 = (H : Int)) (h7 : H ≤ 7) : ∀ (c m n : Nat) (σ : yS), n + c = 100 * H → yRR σ τ → ∃ σ' : yS, f_X0_fewestVows_b23 N (m + c + 1) σ 17 n = f_X0_fewestVows_b60 N N (yw σ' 7 0 0) 17 1 ∧ yC7 σ σ'
  | 0, m, n, σ, hn, HR => by
    have e0 : σ.1 17 0 = (H : Int) := HR.1.2.2.1.1.trans hH
    refine ⟨σ, ?_, yC7_r⟩
    rw [q_X0_fewestVows_b23, e0, x0_num h7]
    dsimp only
    rw [ycP_ge, decide_eq_true (by omega), cond_true]
  | c + 1, m, n, σ, hn, HR => by
    have e0 : σ.1 17 0 = (H : Int) := HR.1.2.2.1.1.trans hH
    obtain ⟨B, hB, w⟩ := x0_wb (N := N) (by omega) HR hH (show n < 100 * H by omega)
    have C1 : yC7 σ (yw σ 6 B 1) := yC7_w yC7_r (by omega)
    obtain ⟨σ', g, C⟩ := x0_fv23 hN hH h7 c m (n + 1) (yw σ 6 B 1) (by omega) (yRR_c7 HR C1)
    have ei : yad (n : Int) 1 = ((n + 1 : Nat) : Int) := by rw [yad_e (by omega) (by omega)]; omega
    have ii : yinb (B : Int) 16 1 = true := by
      unfold yinb
      rw [yin_d, decide_eq_true (by omega)]; rfl
    refine ⟨σ', ?_, yC7_t C1 C⟩
    rw [show m + (c + 1) + 1 = (m + c + 1) + 1 from rfl, q_X0_fewestVows_b23, e0, x0_num h7]
    dsimp only
    rw [ycP_ge, decide_eq_false (by omega), cond_false, w]
    dsimp only
    rw [ii, cond_true, Int.toNat_natCast, ei]
    exact g
theorem x0_fv {N : Nat} (hN : 1000 ≤ N) {σ τ : yS} (HR : yRR σ τ) : ∃ (a : Int) (σ' : yS), f_X0_fewestVows N σ 17 = some (a, σ') ∧ yC7 σ σ' := by
  have b0 := HR.1.2.2.1.2.2.2.1
  obtain ⟨H, hH⟩ : ∃ m : Nat, τ.1 0 3 = (m : Int) := ⟨(τ.1 0 3).toNat, by omega⟩
  obtain ⟨W, W4, hW, -⟩ := yWm HR
  obtain ⟨σ1, g1, C1⟩ := x0_fv2 (N := N) 16 (N - 17) 0 σ rfl
  obtain ⟨σ2, g2, C2⟩ := x0_fv23 (N := N) hN hH (by omega) (100 * H) (N - 100 * H - 1) 0 σ1 (by omega) (yRR_c7 HR C1)
  have C3 : yC7 σ (yw σ2 7 0 0) := yC7_w (yC7_t C1 C2) (by omega)
  obtain ⟨a, σ3, g3, C4⟩ := x0_fv60 (N := N) (by omega) W4 15 (N - 16) 1 (yw σ2 7 0 0) rfl (yC7_W C3 hW)
  rw [show N - 17 + 16 + 1 = N by omega] at g1
  rw [show N - 100 * H - 1 + 100 * H + 1 = N by omega] at g2
  rw [show N - 16 + 15 + 1 = N by omega] at g3
  exact ⟨a, σ3, g1.trans (g2.trans g3), yC7_t C3 C4⟩
theorem x0_v11 {N : Nat} (hN : 1000 ≤ N) {σ τ : yS} {H : Nat} {w : Int} (HR : yRR σ τ) (hH : τ.1 0 3 = (H : Int)) (h7 : H ≤ 7) : ∀ (c m n L : Nat) (x4 : Int), n + c = 100 * H → L < 16 → ∃ a : Int, f_X0_vowOfFirstSet_b11 N (m + c + 1) σ 17 w L x4 n = some (a, σ)
  | 0, m, n, L, x4, hn, hL => by
    have e0 : σ.1 17 0 = (H : Int) := HR.1.2.2.1.1.trans hH
    refine ⟨-4, ?_⟩
    rw [q_X0_vowOfFirstSet_b11, e0, x0_num h7]
    dsimp only
    rw [ycP_ge, decide_eq_true (by omega), cond_true]
  | c + 1, m, n, L, x4, hn, hL => by
    have e0 : σ.1 17 0 = (H : Int) := HR.1.2.2.1.1.trans hH
    obtain ⟨B, hB, w'⟩ := x0_wb (N := N) (by omega) HR hH (show n < 100 * H by omega)
    obtain ⟨q, hq, eq⟩ := yan16n hL hB
    have ei : yad (n : Int) 1 = ((n + 1 : Nat) : Int) := by rw [yad_e (by omega) (by omega)]; omega
    have i2 : yin (L : Int) 16 = true := by rw [yin_d]; exact decide_eq_true (by omega)
    have i3 : yin (q : Int) 16 = true := by rw [yin_d]; exact decide_eq_true (by omega)
    have st : ∀ (L' : Nat) (y : Int), L' < 16 → ∃ a : Int, f_X0_vowOfFirstSet_b66 N (f_X0_vowOfFirstSet_b11 N (m + c + 1)) σ 17 w L' y n = some (a, σ) := fun L' y hL' => by
      obtain ⟨a, g⟩ := x0_v11 hN HR hH h7 c m (n + 1) L' y (by omega) hL'
      refine ⟨a, ?_⟩
      unfold f_X0_vowOfFirstSet_b66
      rw [ei]
      exact g
    rw [show m + (c + 1) + 1 = (m + c + 1) + 1 from rfl, q_X0_vowOfFirstSet_b11, e0, x0_num h7]
    dsimp only
    rw [ycP_ge, decide_eq_false (by omega), cond_false, w']
    dsimp only
    rw [eq, i3, cond_true, i2, cond_true]
    cases ycP .ge (σ.1 7 (q : Int).toNat) (σ.1 7 (L : Int).toNat) with
    | true => exact st L x4 hL
    | false =>
      rw [cond_false]
      cases ycP .ne x4 w with
      | true => exact st q (yad x4 1) hq
      | false => exact ⟨_, rfl⟩
/-- the class's plan comes to an end -/
theorem x7_plan {N : Nat} (hN : 1000 ≤ N) {σ τ : yS} {w : Int} (HR : yRR σ τ) : ∃ (a : Int) (σ' : yS), f_X7_plan N σ w = some (a, σ') ∧ yC7 σ σ' := by
  have b0 := HR.1.2.2.1.2.2.2.1
  obtain ⟨H, hH⟩ : ∃ m : Nat, τ.1 0 3 = (m : Int) := ⟨(τ.1 0 3).toNat, by omega⟩
  have st : ∃ (a : Int) (σ' : yS), f_X7_plan_b12 N σ w = some (a, σ') ∧ yC7 σ σ' := by
    obtain ⟨a, σ1, g1, C1⟩ := x0_fv (N := N) hN HR
    have HR1 := yRR_c7 HR C1
    obtain ⟨W, W4, hW, -⟩ := yWm HR1
    obtain ⟨C, hC, eC⟩ := yall4n W4
    unfold f_X7_plan_b12
    rw [g1]
    dsimp only
    cases ycP .eq w 0 with
    | true => exact ⟨_, σ1, rfl, C1⟩
    | false =>
      rw [cond_false]
      cases ycP .ne a (-4) with
      | false => exact ⟨_, σ1, rfl, C1⟩
      | true =>
        rw [cond_true]
        cases ycP .ge (ysu w 10) a with
        | true => exact ⟨_, σ1, rfl, C1⟩
        | false =>
          rw [cond_false]
          obtain ⟨z, g2⟩ := x0_v11 (N := N) (w := ysu w 10) hN HR1 hH (by omega) (100 * H) (N - 100 * H - 1) 0 C 0 (by omega) hC
          rw [show N - 100 * H - 1 + 100 * H + 1 = N by omega] at g2
          refine ⟨z, σ1, ?_, C1⟩
          have e : f_X0_vowOfFirstSet N σ1 17 (ysu w 10) = some (z, σ1) := by
            unfold f_X0_vowOfFirstSet f_X0_allWants
            rw [hW, eC]
            exact g2
          rw [e]
          rfl
  unfold f_X7_plan
  cases ycP .eq w 0 with
  | true => exact st
  | false =>
    rw [cond_false]
    cases ycP .ge w 10 with
    | true => exact st
    | false => exact ⟨_, σ, rfl, yC7_r⟩
end
