theorem x1_ksame {N : Nat} {σ σ1 : yS} (h : f_X1_readToken N σ = some (0, σ1)) (B : yB7 σ1) : f_X1_needKind N σ = f_X1_needKind N σ1 := by
  simp only [f_X1_needKind, h, x1_tbad B]
/-- the class behind the house of a habit's line, a fault told -/
theorem x1_bhab2 {N : Nat} (hN : 400 ≤ N) {S0 S : yS} {a : Int} (ha : 0 ≤ a ∧ a ≤ 6) (hr : f_X1_readToken N S0 = some (0, S)) (B2 : yB7 S) (Q2 : yQ7 S) : yRB N S (match f_X1_needKind N S0 with
      | none => none
      | some r3 => match f_X1_needDeed N r3.2 with
        | none => none
        | some r4 => match f_X1_needNumber N r4.2 0 10 with
          | none => none
          | some r5 => match f_X4_setHabit N r5.2 38 a r3.1 r4.1 r5.1 with
            | none => none
            | some r6 => match f_X1_readToken N r6.2 with
              | none => none
              | some r7 => some (0, r7.2)) := by
  obtain ⟨k, hk, gk⟩ := x1_kbad (N := N) B2
  have B3 : yB7 (yw S 2 12 (ymx (S.1 2 12) 0)) := yB7_z (yZB_w yZB_r (by omega)) B2
  have B4 : yB7 (yw (yw (yw (yw S 2 12 (ymx (S.1 2 12) 0)) (38 + 4) a.toNat k) (38 + 5) a.toNat 0) (38 + 6) a.toNat 0) := yB7_z (yZB_w (yZB_w (yZB_w (yZB_w yZB_r (by omega)) (by omega)) (by omega)) (by omega)) B2
  have i0 : yin a 7 = true := by rw [yin_d]; exact decide_eq_true (by omega)
  refine ⟨0, yw (yw (yw (yw S 2 12 (ymx (S.1 2 12) 0)) (38 + 4) a.toNat k) (38 + 5) a.toNat 0) (38 + 6) a.toNat 0, ?_, yZB_w (yZB_w (yZB_w (yZB_w yZB_r (by omega)) (by omega)) (by omega)) (by omega), yQ7_w (yQ7_w (yQ7_w (yQ7_w Q2 (by omega)) (by omega)) (by omega)) (by omega)⟩
  rw [x1_ksame hr B2]
  simp only [gk, x1_dbad hN B2, x1_mbad hN B3, f_X4_setHabit, i0, cond_true, x1_tbad B4]
theorem yQ7_fr {σ σ' : yS} (Q : yQ7 σ) (r : σ'.2 = σ.2) (h : ∀ i k : Nat, (i = 38 ∧ k = 2) ∨ (45 < i ∧ k = 0) → σ'.1 i k = σ.1 i k) : yQ7 σ' := yQ7_f Q r ⟨h _ _ (by omega), h _ _ (by omega), h _ _ (by omega), h _ _ (by omega)⟩
theorem yhf7 {σ σ1 σ3 σ5 σ' : yS} {A : Nat} {v : Int} (k7 : yK7 σ σ1) (w7 : ∀ i k : Nat, ¬ (i = 2 ∧ (1 ≤ k ∧ k ≤ 5 ∨ k = 11)) → σ3.1 i k = σ1.1 i k) (i7 : yK7 (yw σ3 2 10 v) σ5) (f7 : ∀ i b : Nat, ¬ (i = 2 ∧ ((1 ≤ b ∧ b ≤ 5) ∨ b = 12)) → ¬ (42 ≤ i ∧ i ≤ 44 ∧ b = A) → σ'.1 i b = σ5.1 i b) : (∀ i b : Nat, ¬ (i = 2 ∧ ((1 ≤ b ∧ b ≤ 5) ∨ (10 ≤ b ∧ b ≤ 12))) → ¬ (42 ≤ i ∧ i ≤ 44 ∧ b = A) → σ'.1 i b = σ.1 i b) ∧ σ'.1 2 10 = v ∧ σ'.1 2 11 = σ3.1 2 11 := by
  refine ⟨fun i b h1 h2 => ?_, ?_, ?_⟩
  · rw [f7 i b (by omega) h2, i7.2 i b (by omega), yw_n (by omega), w7 i b (by omega), k7.2 i b (by omega)]
  · rw [f7 2 10 (by decide) (by omega), i7.2 2 10 (by decide), yw_p]
  · rw [f7 2 11 (by decide) (by omega), i7.2 2 11 (by decide), yw_n (by decide)]
theorem yhf8 {τ τ1 τ4 τ5 τ' : yS} {B : Nat} (u8 : ∀ i k : Nat, ¬ (i = 0 ∧ 18 ≤ k ∧ k ≤ 23) → τ1.1 i k = τ.1 i k) (w8 : ∀ i k : Nat, ¬ (i = 0 ∧ (18 ≤ k ∧ k ≤ 23 ∨ k = 14)) → ¬ (i = 7 ∧ k = 2) → τ4.1 i k = τ1.1 i k) (i8 : yK8 τ4 τ5) (f8 : ∀ i k : Nat, ¬ (i = 0 ∧ ((18 ≤ k ∧ k ≤ 23) ∨ k = 15)) → ¬ (i = 5 ∧ (k = 21 + B ∨ k = 28 + B ∨ k = 35 + B)) → τ'.1 i k = τ5.1 i k) : (∀ i b : Nat, ¬ (i = 0 ∧ ((18 ≤ b ∧ b ≤ 23) ∨ b = 14 ∨ b = 15)) → ¬ (i = 7 ∧ b = 2) → ¬ (i = 5 ∧ (b = 21 + B ∨ b = 28 + B ∨ b = 35 + B)) → τ'.1 i b = τ.1 i b) ∧ τ'.1 7 2 = τ4.1 7 2 ∧ τ'.1 0 14 = τ4.1 0 14 ∧ τ5.1 0 15 = τ.1 0 15 := by
  refine ⟨fun i b h1 h2 h3 => ?_, ?_, ?_, ?_⟩
  · rw [f8 i b (by omega) h3, i8 i b (by omega), w8 i b (by omega) h2, u8 i b (by omega)]
  · rw [f8 7 2 (by decide) (by omega), i8 7 2 (by decide)]
  · rw [f8 0 14 (by decide) (by omega), i8 0 14 (by decide)]
  · rw [i8 0 15 (by decide), w8 0 15 (by decide) (by decide), u8 0 15 (by decide)]
theorem p_lhabit {N : Nat} (hN : 400 ≤ N) {σ τ : yS} (HH : yLx σ τ ∧ yTk σ τ) (R : yRD σ τ) : yLL N σ τ (f_X1_readHabit N σ 38) (f_X8_readLine_b156 N τ 2 (τ.1 0 10)) := by
  have s23 := R.2.2.2.2.2.1.2
  have E0 : yE σ (yw τ 0 10 (τ.1 0 10)) := yE_w8 (Or.inl HH) (by decide)
  obtain ⟨σ1, τ1, g7, g8, E1, k7, k8, mo1, z1, st1, nb1⟩ := p_next (N := N) hN E0
  have u8 := y8_0 k8 rfl
  by_cases f1 : τ1.1 0 22 = 0
  · have told := R.2.2.2.2.2.2.1.2.2.1
    have tb := R.2.2.2.2.2.2.2.1 2 (by decide)
    have gr := R.2.2.2.2.2.2.2.2.1
    have gd := R.2.2.2.2.2.2.2.2.2
    obtain ⟨a, b, v, σ2, σ3, τ4, h7, o7, r8, E4, ha, hb, s3, w7, w8, mo3, ok⟩ := p_fresh (N := N) hN (j := 10) (by decide) g7 E1 (fun _ => by rw [k7.2 2 11 (by decide), u8 0 14 (by decide)]; exact gr) (fun _ => by rw [k7.2 2 10 (by decide), u8 7 2 (by decide)]; exact ⟨told, tb⟩)
    obtain ⟨A, hA⟩ : ∃ A : Nat, a = (A : Int) := ⟨a.toNat, by omega⟩
    obtain ⟨B, hB⟩ : ∃ A : Nat, b = (A : Int) := ⟨b.toNat, by omega⟩
    have A7 : A < 7 := by omega
    have B7 : B < 7 := by omega
    obtain ⟨σ5, τ5, t7, t8, E5, i7, i8, mo5, z5, st5, nb5⟩ := p_next (N := N) hN E4
    have rf : f_X8_readFresh N τ1 2 = some (b, τ5) := by
      have q : f_X8_readFresh N τ1 2 = _ := r8
      rw [q, t8]
    have ro : ∀ r : Int × yS, f_X8_readOfHouse N τ1 2 = some r → f_X8_readLineOf N τ1 2 = some (0, r.2) := fun r q => by
      unfold f_X8_readLineOf
      rw [yeq_d, decide_eq_false (by decide), cond_false, yeq_d, decide_eq_false (by decide), cond_false, yeq_d, decide_eq_false (by decide), cond_false, yeq_d, decide_eq_false (by decide), cond_false, yeq_d, decide_eq_false (by decide), cond_false, q]
      rfl
    have fe := yE_f E5
    have n21 : (yw σ3 2 10 v).1 2 1 = σ3.1 2 1 := yw_n (by decide)
    have m5 : σ.1 2 1 ≤ σ5.1 2 1 := yle4 mo1 mo3 mo5 n21
    have iA : yin (A : Int) 7 = true := by rw [yin_d]; exact decide_eq_true (by omega)
    by_cases f5 : τ5.1 0 22 = 0
    · have e21 : yad 21 (B : Int) = ((21 + B : Nat) : Int) := by rw [yad_e (by omega) (by omega)]; omega
      have e28 : yad 28 (B : Int) = ((28 + B : Nat) : Int) := by rw [yad_e (by omega) (by omega)]; omega
      have e35 : yad 35 (B : Int) = ((35 + B : Nat) : Int) := by rw [yad_e (by omega) (by omega)]; omega
      have j21 : yin ((21 + B : Nat) : Int) 131 = true := by rw [yin_d]; exact decide_eq_true (by omega)
      have j28 : yin ((28 + B : Nat) : Int) 131 = true := by rw [yin_d]; exact decide_eq_true (by omega)
      have j35 : yin ((35 + B : Nat) : Int) 131 = true := by rw [yin_d]; exact decide_eq_true (by omega)
      have gd5 : yGr (σ5.1 2 12) (τ5.1 0 15) 4 := by
        rw [i7.2 2 12 (by decide), yw_n (by decide), w7 2 12 (by decide), k7.2 2 12 (by decide), i8 0 15 (by decide), w8 0 15 (by decide) (by decide), u8 0 15 (by decide)]
        exact gd
      obtain ⟨k, d, n, x, y, z, σ6, σ8, σ10, σ', τ7, τ9, τ11, c1, c2, c3, c4, d1, d2, d3, E', r', F7, F8, ⟨x1, x2, x3⟩, ⟨y1, y2, y3⟩, ⟨hk, hd, hn⟩, ok', mo', st'⟩ := p_hab2 (N := N) hN A7 B7 t7 E5 (fun _ => gd5)
      obtain ⟨P1, P2, P3⟩ := yhf7 k7 w7 i7 F7
      obtain ⟨P4, P5, P6, P7⟩ := yhf8 u8 w8 i8 F8
      have cc : f_X1_readHabit N σ 38 = some (0, σ') := by
        have c4' : f_X1_readToken N (yw (yw (yw σ10 (38 + 4) A k) (38 + 5) A d) (38 + 6) A n) = some (0, σ') := c4
        simp only [f_X1_readHabit, h7, o7, c1, c2, c3]
        simp only [f_X4_setHabit, hA, iA, cond_true, Int.toNat_natCast, c4']
      have rh : f_X8_readOfHouse N τ1 2 = some (0, yw τ11 5 (35 + B) z) := by
        unfold f_X8_readOfHouse
        rw [rf]
        show (bif ycP .le (τ5.1 0 22) 0 then bif ycP .ne 2 1 then bif ycP .ne 2 0 then _ else _ else _ else _) = _
        rw [f5, ycP_le, decide_eq_true (by decide), cond_true, ycP_ne, decide_eq_true (by decide), cond_true, ycP_ne, decide_eq_true (by decide), cond_true]
        simp only [d1, hB, e21, j21, cond_true, Int.toNat_natCast, d2, e28, j28, d3, e35, j35]
        rfl
      have rr : σ'.2 = σ.2 := r'.trans (i7.1.trans (s3.trans k7.1))
      refine ⟨0, σ', yw τ11 5 (35 + B) z, cc, (x8_b156 s23 g8).2 f1 _ (ro _ rh), E', ⟨rr, fun i c h1 h2 => P1 i c (fun q => h1 q.1) (fun q => h2 (by omega))⟩, fun i c h1 h2 h3 h4 => P4 i c (by omega) (fun q => h3 q.1) (fun q => h1 q.1), P1 2 6 (by decide) (by omega), fun zz => ⟨?_, Int.le_trans m5 mo', fun q => Int.lt_of_le_of_lt m5 (st' zz (by rw [q]; decide))⟩, fun _ => yQ7_fr (yRD_Q R) rr (fun i c q => P1 i c (by omega) (by omega))⟩
      obtain ⟨v1, v2, v3, v4, v5⟩ := ok' zz
      have z3 : σ3.1 2 4 = 0 := (yw_n (by decide)).symm.trans (z5 v4)
      obtain ⟨u1, u2, u3, u4, u5, u6⟩ := ok z3
      have AB : A = B := by omega
      subst AB
      have p14 : τ1.1 0 14 = τ.1 0 14 := u8 0 14 (by decide)
      refine yRD_hab R A7 rr P1 P4 P2 x1 x2 x3 (P5.trans u3.symm) (y1.trans v1.symm) (y2.trans v2.symm) (y3.trans v3.symm) u4 hk hd hn ?_ ?_
      · rw [P3, P6, ← p14]
        exact ⟨u6.1, u6.2.1, u6.2.2.2⟩
      · rw [P7] at v5
        exact v5
    · have rh : f_X8_readOfHouse N τ1 2 = some (0, τ5) := by
        unfold f_X8_readOfHouse
        rw [rf]
        show (bif ycP .le (τ5.1 0 22) 0 then _ else some ((0 : Int), τ5)) = _
        rw [ycP_le, decide_eq_false (show ¬ τ5.1 0 22 ≤ 0 by omega), cond_false]
      have n5 : ¬ σ5.1 2 4 = 0 := by omega
      have P1 : ∀ i c : Nat, ¬ (i = 2 ∧ ((1 ≤ c ∧ c ≤ 5) ∨ (10 ≤ c ∧ c ≤ 12))) → σ5.1 i c = σ.1 i c := fun i c q => by rw [i7.2 i c (by omega), yw_n (by omega), w7 i c (by omega), k7.2 i c (by omega)]
      have rr : σ5.2 = σ.2 := i7.1.trans (s3.trans k7.1)
      have Q5 : yQ7 σ5 := yQ7_fr (yRD_Q R) rr (fun i c q => P1 i c (by omega))
      have B5 : yB7 σ5 := yB7_e E5 n5
      obtain ⟨r, σ', cc, Z, Q⟩ := x1_bhab2 (N := N) hN (a := a) ha t7 B5 Q5
      have n7 : ¬ σ'.1 2 4 = 0 := by rw [Z.2 2 4 (by omega) (by omega)]; exact n5
      refine ⟨r, σ', τ5, ?_, (x8_b156 s23 g8).2 f1 _ (ro _ rh), yE_zb E5 n5 Z, yZ7_t ⟨rr, fun i c h1 h2 => P1 i c (fun q => h1 q.1)⟩ (yZ7_b Z), fun i c h1 h2 h3 h4 => ?_, ?_, fun zz => absurd zz n7, fun _ => Q⟩
      · simp only [f_X1_readHabit, h7, o7]
        exact cc
      · rw [i8 i c (by omega), w8 i c (by omega) (fun q => h3 q.1), u8 i c (by omega)]
      · rw [Z.2 2 6 (by omega) (by omega)]; exact P1 2 6 (by decide)
  · have fe := yE_f E1
    have B1 : yB7 σ1 := yB7_e E1 (by omega)
    have Q1 : yQ7 σ1 := yQ7_f (yRD_Q R) k7.1 ⟨k7.2 _ _ (by decide), k7.2 _ _ (by decide), k7.2 _ _ (by decide), k7.2 _ _ (by decide)⟩
    have F := x1_bhabit hN B1 Q1
    have eq : f_X1_readHabit N σ 38 = f_X1_readHabit N σ1 38 := by
      simp only [f_X1_readHabit, x1_hsame g7 B1]
    rw [eq]
    exact p_lfirst s23 g8 E1 f1 F (yZ7_k k7) k8 (k7.2 _ _ (by decide))
