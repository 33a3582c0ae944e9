theorem yho7 {σ σ1 σ3 σ5 σ6 σ7 : yS} {A : Nat} {v n : Int} (k7 : yK7 σ σ1) (r3 : σ3.2 = σ1.2) (w7 : ∀ i k : Nat, ¬ (i = 2 ∧ (1 ≤ k ∧ k ≤ 5 ∨ k = 11)) → σ3.1 i k = σ1.1 i k) (i7 : yK7 (yw σ3 2 8 v) σ5) (l7 : yK7 σ5 σ6) (j7 : yK7 (yw σ6 40 A n) σ7) : σ7.2 = σ.2 ∧ (∀ i b : Nat, ¬ (i = 2 ∧ ((1 ≤ b ∧ b ≤ 5) ∨ b = 8 ∨ b = 11)) → ¬ (i = 40 ∧ b = A) → σ7.1 i b = σ.1 i b) ∧ σ7.1 2 8 = v ∧ σ7.1 2 11 = σ3.1 2 11 ∧ σ7.1 40 A = n ∧ (yw σ6 40 A n).1 2 4 = σ6.1 2 4 ∧ (yw σ6 40 A n).1 2 1 = σ6.1 2 1 := by
  refine ⟨j7.1.trans (l7.1.trans (i7.1.trans (r3.trans k7.1))), fun i b h1 h2 => ?_, ?_, ?_, ?_, yw_n (by omega), yw_n (by omega)⟩
  · rw [j7.2 i b (by omega), yw_n (by omega), l7.2 i b (by omega), i7.2 i b (by omega), yw_n (by omega), w7 i b (by omega), k7.2 i b (by omega)]
  · rw [j7.2 2 8 (by decide), yw_n (by omega), l7.2 2 8 (by decide), i7.2 2 8 (by decide), yw_p]
  · rw [j7.2 2 11 (by decide), yw_n (by omega), l7.2 2 11 (by decide), i7.2 2 11 (by decide), yw_n (by decide)]
  · rw [j7.2 40 A (by omega), yw_p]
theorem yho8 {τ τ1 τ4 τ5 τ6 τ7 : yS} {B : Nat} {z : Int} (u8 : ∀ i k : Nat, ¬ (i = 0 ∧ 18 ≤ k ∧ k ≤ 23) → τ1.1 i k = τ.1 i k) (w8 : ∀ i k : Nat, ¬ (i = 0 ∧ (18 ≤ k ∧ k ≤ 23 ∨ k = 14)) → ¬ (i = 7 ∧ k = 0) → τ4.1 i k = τ1.1 i k) (i8 : yK8 τ4 τ5) (l8 : yK8 τ5 τ6) (j8 : yK8 τ6 τ7) : (∀ i b : Nat, ¬ (i = 0 ∧ ((18 ≤ b ∧ b ≤ 23) ∨ b = 14)) → ¬ (i = 7 ∧ b = 0) → ¬ (i = 5 ∧ b = B) → (yw τ7 5 B z).1 i b = τ.1 i b) ∧ (yw τ7 5 B z).1 7 0 = τ4.1 7 0 ∧ (yw τ7 5 B z).1 0 14 = τ4.1 0 14 := by
  refine ⟨fun i b h1 h2 h3 => ?_, ?_, ?_⟩
  · rw [yw_n (by omega), j8 i b (by omega), l8 i b (by omega), i8 i b (by omega), w8 i b (by omega) h2, u8 i b (by omega)]
  · rw [yw_n (by omega), j8 7 0 (by decide), l8 7 0 (by decide), i8 7 0 (by decide)]
  · rw [yw_n (by omega), j8 0 14 (by decide), l8 0 14 (by decide), i8 0 14 (by decide)]
theorem x1_hexit {N : Nat} (hN : 400 ≤ N) {σ : yS} {a : Int} (z : ¬ σ.1 2 4 = 0) : f_X1_readHouse_b37 N N σ 38 a 0 = some (0, σ) := by
  obtain ⟨M, hM⟩ : ∃ M, N = M + 1 := ⟨N - 1, by omega⟩
  have lp := q_X1_readHouse_b37 N M σ 38 a 0
  rw [show M + 1 = N by omega, ycP_ge, decide_eq_false (by decide), cond_false, ycP_ne, decide_eq_true z, cond_true] at lp
  exact lp
theorem x8_cexit {N : Nat} (hN : 400 ≤ N) {τ : yS} {a : Int} (z : ¬ τ.1 0 22 = 0) : f_X8_readCan N τ a = some (0, τ) := by
  obtain ⟨M, hM⟩ : ∃ M, N = M + 1 := ⟨N - 1, by omega⟩
  have lp := q_X8_readCan_b0 N M τ a
  rw [show M + 1 = N by omega, ycP_ne, decide_eq_true z, cond_true] at lp
  exact lp
theorem p_lhouse {N : Nat} (hN : 400 ≤ N) {σ τ : yS} (HH : yLx σ τ ∧ yTk σ τ) (R : yRD σ τ) : yLL N σ τ (f_X1_readHouse N σ 38) (f_X8_readLine_b156 N τ 0 (τ.1 0 10)) := by
  have s23 := R.2.2.2.2.2.1.2
  have E0 : yE σ (yw τ 0 10 (τ.1 0 10)) := yE_w8 (Or.inl HH) (by decide)
  have p0 : 0 ≤ σ.1 2 1 := by rw [HH.1.2.2.2.1]; exact HH.1.2.2.2.2.1
  obtain ⟨σ1, τ1, g7, g8, E1, k7, k8, mo1, z1, st1, nb1⟩ := p_next (N := N) hN E0
  have u8 := y8_0 k8 rfl
  by_cases f1 : τ1.1 0 22 = 0
  · have told := R.2.2.2.2.2.2.1.1
    have tb := R.2.2.2.2.2.2.2.1 0 (by decide)
    have gr := R.2.2.2.2.2.2.2.2.1
    have gd := R.2.2.2.2.2.2.2.2.2
    obtain ⟨a, b, v, σ2, σ3, τ4, h7, o7, r8, E4, ha, hb, s3, w7, w8, mo3, ok⟩ := p_fresh (N := N) hN (j := 8) (by decide) g7 E1 (fun _ => by rw [k7.2 2 11 (by decide), u8 0 14 (by decide)]; exact gr) (fun _ => by rw [k7.2 2 8 (by decide), u8 7 0 (by decide)]; exact ⟨told, tb⟩)
    obtain ⟨A, hA⟩ : ∃ A : Nat, a = (A : Int) := ⟨a.toNat, by omega⟩
    obtain ⟨B, hB⟩ : ∃ A : Nat, b = (A : Int) := ⟨b.toNat, by omega⟩
    have A7 : A < 7 := by omega
    have B7 : B < 7 := by omega
    have iA : yin (A : Int) 7 = true := by rw [yin_d]; exact decide_eq_true (by omega)
    have e0 : yad 0 (B : Int) = (B : Int) := by rw [yad_e (by omega) (by omega)]; omega
    have j0 : yin (B : Int) 131 = true := by rw [yin_d]; exact decide_eq_true (by omega)
    obtain ⟨M, hM⟩ : ∃ M : Nat, N = M + 161 + 1 := ⟨N - 162, by omega⟩
    obtain ⟨σ5, τ5, t7, t8, E5, i7, i8, mo5, z5, st5, nb5⟩ := p_next (N := N) hN E4
    have rf : f_X8_readFresh N τ1 0 = some (b, τ5) := by
      have q : f_X8_readFresh N τ1 0 = _ := r8
      rw [q, t8]
    have ro : ∀ r : Int × yS, f_X8_readOfHouse N τ1 0 = some r → f_X8_readLineOf N τ1 0 = some (0, r.2) := fun r q => by
      unfold f_X8_readLineOf
      rw [yeq_d, decide_eq_false (by decide), cond_false, yeq_d, decide_eq_false (by decide), cond_false, yeq_d, decide_eq_false (by decide), cond_false, yeq_d, decide_eq_false (by decide), cond_false, yeq_d, decide_eq_false (by decide), cond_false, q]
      rfl
    have n21 : (yw σ3 2 8 v).1 2 1 = σ3.1 2 1 := yw_n (by decide)
    have m5 : σ.1 2 1 ≤ σ5.1 2 1 := yle4 mo1 mo3 mo5 n21
    have fe5 := yE_f E5
    by_cases f5 : τ5.1 0 22 = 0
    · obtain ⟨n, z, σ6, τ6, n7, n8, E6, l7, l8, hn, hz, okn, mo6⟩ := p_needNumber (N := N) hN (lo := 0) (hi := 99) t7 (by decide) E5
      have E6w : yE (yw σ6 40 A n) τ6 := yE_w7 E6 ⟨fun q => absurd q.1 (by decide), by decide, by decide⟩
      obtain ⟨σ7, τ7, p7, p8, E7, j7, j8, mo7, z7, st7, nb7⟩ := p_next (N := N) hN E6w
      have E7w : yE σ7 (yw τ7 5 B z) := yE_w8 E7 ⟨fun q => absurd q.1 (by decide), by decide⟩
      obtain ⟨P1, P2, P3, P4, P5, P6, P7⟩ := yho7 k7 s3 w7 i7 l7 j7
      obtain ⟨H1, H2, H3⟩ := yho8 (B := B) (z := z) u8 w8 i8 l8 j8
      have m7 : σ.1 2 1 ≤ σ7.1 2 1 := yle4 m5 mo6 mo7 P7
      have rn : f_X8_readNumber N τ5 0 99 = some (z, τ7) := by
        unfold f_X8_readNumber
        rw [n8]
        show (match f_X8_next N τ6 with
          | none => none
          | some r2 => some (z, r2.2)) = _
        rw [p8]
      have cl : ∀ σ' : yS, f_X1_readHouse_b37 N N σ7 38 (A : Int) 0 = some (0, σ') → f_X1_readHouse N σ 38 = some (0, σ') := fun σ' q => by
        have p7' : f_X1_readToken N (yw σ6 (38 + 2) A n) = some (0, σ7) := p7
        simp only [f_X1_readHouse, h7, o7, n7]
        simp only [hA, iA, cond_true, Int.toNat_natCast, p7', q]
      have rl : ∀ τ' : yS, f_X8_readCan N (yw τ7 5 B z) (B : Int) = some (0, τ') → f_X8_readOfHouse N τ1 0 = some (0, τ') := fun τ' q => by
        unfold f_X8_readOfHouse
        rw [rf]
        show (bif ycP .le (τ5.1 0 22) 0 then bif ycP .ne 0 1 then bif ycP .ne 0 0 then _ else _ else _ else _) = _
        rw [f5, ycP_le, decide_eq_true (by decide), cond_true, ycP_ne, decide_eq_true (by decide), cond_true, ybz2]
        simp only [rn, hB, e0, j0, cond_true, Int.toNat_natCast, q]
        rfl
      have fe7 := yE_f E7w
      by_cases f7 : σ7.1 2 4 = 0
      · have z6 : σ6.1 2 4 = 0 := P6.symm.trans (z7 f7)
        obtain ⟨w1, w2, w3⟩ := okn z6
        have z3 : σ3.1 2 4 = 0 := (yw_n (by decide)).symm.trans (z5 (w2 ▸ z6))
        obtain ⟨y1, y2, y3, y4, y5, y6⟩ := ok z3
        have AB : A = B := Int.ofNat.inj (hA.symm.trans (y1.trans hB))
        subst AB
        have p14 : τ1.1 0 14 = τ.1 0 14 := u8 0 14 (by decide)
        have sk : τ.1 5 (7 + A) = σ.1 41 A := (R.2.1.1 A A7).2.1.symm
        have sb := (R.2.2.1.2.1 A A7).1
        have RD : yRD σ7 (yw τ7 5 A z) := by
          refine yRD_hs (A := A) (v := v) (n := n) (s := τ.1 5 (7 + A)) R A7 P1 (fun i c q1 q2 => P2 i c (fun q => q1 ⟨q.1, q.2.elim Or.inl (fun w => w.elim (fun w => Or.inr (Or.inl w)) (fun w => Or.inr (Or.inr (Or.inl w))))⟩) (fun q => q2 ⟨by rw [q.1]; decide, by rw [q.1]; decide, q.2⟩)) (fun i c q1 q2 q3 => H1 i c (fun q => q1 ⟨q.1, q.2.elim Or.inl (fun w => Or.inr (Or.inl w))⟩) q2 (fun q => q3 ⟨q.1, Or.inl q.2⟩)) P3 (H2.trans y3.symm) y4 P5 (by rw [yw_p, w1]) ((P2 41 A (fun q => absurd q.1 (by decide)) (fun q => absurd q.1 (by decide))).trans sk.symm) (H1 5 (7 + A) (fun q => absurd q.1 (by decide)) (fun q => absurd q.1 (by decide)) (fun q => by have := q.2; exact absurd this (Nat.ne_of_gt (Nat.lt_add_of_pos_left (by decide))))) sb ⟨?_, ?_⟩ ⟨?_, ?_⟩
          · rw [P4, H3]; exact Or.inr ⟨y6.1, y6.2.2.2.1, y6.2.2.2.2⟩
          · rw [H3, ← p14]; exact y6.2.1
          · rw [P2 2 12 (by decide) (fun q => absurd q.1 (by decide)), H1 0 15 (by decide) (by decide) (fun q => absurd q.1 (by decide))]; exact gd
          · rw [H1 0 15 (by decide) (by decide) (fun q => absurd q.1 (by decide))]; exact Int.le_refl _
        obtain ⟨σ', τ', c7, c8, E', r', W7, W8, mo', ok'⟩ := p_lcan (N := N) hN A7 161 M 0 σ7 (yw τ7 5 A z) rfl E7w (fun _ => ⟨RD, fun q => by
          have s := st7 f7 (by rw [q]; decide)
          rw [P7, mo6] at s
          exact Int.lt_of_le_of_lt (Int.le_trans p0 m5) s⟩)
        rw [← hM] at c7 c8
        have V7 : ∀ i c : Nat, ¬ i = 2 → ¬ (40 ≤ i ∧ i ≤ 41) → σ'.1 i c = σ.1 i c := fun i c q1 q2 => (W7 i c (fun q => q1 q.1) (fun q => q2 ⟨by rw [q.1]; decide, by rw [q.1]; decide⟩)).trans (P2 i c (fun q => q1 q.1) (fun q => q2 ⟨by rw [q.1]; decide, by rw [q.1]; decide⟩))
        have rr : σ'.2 = σ.2 := r'.trans P1
        refine ⟨0, σ', τ', cl σ' c7, (x8_b156 s23 g8).2 f1 _ (ro _ (rl τ' c8)), E', ⟨rr, fun i c h1 h2 => V7 i c h1 (fun q => h2 ⟨Nat.le_trans (by decide) q.1, Nat.lt_of_le_of_lt q.2 (by decide)⟩)⟩, fun i c h1 h2 h3 h4 => ?_, ?_, fun zz => ⟨(ok' zz).1, Int.le_trans m7 mo', fun q => ?_⟩, fun _ => yQ7_fr (yRD_Q R) rr (fun i c q => V7 i c (by omega) (by omega))⟩
        · refine (W8 i c (fun q => h4 ⟨q.1, ?_⟩) (fun q => h1 q.1)).trans (H1 i c (fun q => h4 ⟨q.1, ?_⟩) (fun q => h3 q.1) (fun q => h1 q.1))
          · exact q.2.elim (fun w => Or.inr (Or.inr (Or.inr w))) (fun w => Or.inr (Or.inr (Or.inl w)))
          · exact q.2.elim (fun w => Or.inr (Or.inr (Or.inr w))) (fun w => Or.inr (Or.inl w))
        · exact (W7 2 6 (by decide) (fun q => absurd q.1 (by decide))).trans (P2 2 6 (by decide) (fun q => absurd q.1 (by decide)))
        · have s := st7 f7 ((ok' zz).2.2 (by rw [q]; decide))
          rw [P7, mo6] at s
          exact Int.lt_of_le_of_lt m5 (Int.lt_of_lt_of_le s mo')
      · have f22 : ¬ (yw τ7 5 B z).1 0 22 = 0 := by rw [← fe7.1]; exact f7
        refine ⟨0, σ7, yw τ7 5 B z, cl σ7 (x1_hexit hN f7), (x8_b156 s23 g8).2 f1 _ (ro _ (rl _ (x8_cexit hN f22))), E7w, ⟨P1, fun i c h1 h2 => P2 i c (fun q => h1 q.1) (fun q => h2 ⟨by rw [q.1]; decide, by rw [q.1]; decide⟩)⟩, fun i c h1 h2 h3 h4 => H1 i c (fun q => h4 ⟨q.1, ?_⟩) (fun q => h3 q.1) (fun q => h1 q.1), P2 2 6 (by decide) (fun q => absurd q.1 (by decide)), fun zz => absurd zz f7, fun _ => ?_⟩
        · exact q.2.elim (fun w => Or.inr (Or.inr (Or.inr w))) (fun w => Or.inr (Or.inl w))
        · exact yQ7_f (yRD_Q R) P1 ⟨P2 _ _ (by decide) (fun q => absurd q.1 (by decide)), P2 _ _ (by decide) (fun q => absurd q.1 (by decide)), P2 _ _ (by decide) (fun q => absurd q.1 (by decide)), P2 _ _ (by decide) (fun q => absurd q.1 (by decide))⟩
    · have rh : f_X8_readOfHouse N τ1 0 = some (0, τ5) := by
        unfold f_X8_readOfHouse
        rw [rf]
        show (bif ycP .le (τ5.1 0 22) 0 then _ else some ((0 : Int), τ5)) = _
        rw [ycP_le, decide_eq_false (show ¬ τ5.1 0 22 ≤ 0 by omega), cond_false]
      have n5 : ¬ σ5.1 2 4 = 0 := by rw [fe5.1]; exact f5
      have P1 : ∀ i c : Nat, ¬ (i = 2 ∧ ((1 ≤ c ∧ c ≤ 5) ∨ c = 8 ∨ c = 11)) → σ5.1 i c = σ.1 i c := fun i c q => by rw [i7.2 i c (by omega), yw_n (by omega), w7 i c (by omega), k7.2 i c (by omega)]
      have rr : σ5.2 = σ.2 := i7.1.trans (s3.trans k7.1)
      have Q5 : yQ7 σ5 := yQ7_fr (yRD_Q R) rr (fun i c q => P1 i c (by omega))
      have B5 : yB7 σ5 := yB7_e E5 n5
      obtain ⟨r, σ', cc, Z, Q⟩ := x1_bhouse2 (N := N) hN (a := a) ha t7 B5 Q5
      have n7 : ¬ σ'.1 2 4 = 0 := by rw [Z.2 2 4 (by omega) (by omega)]; exact n5
      refine ⟨r, σ', τ5, ?_, (x8_b156 s23 g8).2 f1 _ (ro _ rh), yE_zb E5 n5 Z, yZ7_t ⟨rr, fun i c h1 h2 => P1 i c (fun q => h1 q.1)⟩ (yZ7_b Z), fun i c h1 h2 h3 h4 => ?_, ?_, fun zz => absurd zz n7, fun _ => Q⟩
      · simp only [f_X1_readHouse, h7, o7]
        exact cc
      · rw [i8 i c (by omega), w8 i c (by omega) (fun q => h3 q.1), u8 i c (by omega)]
      · rw [Z.2 2 6 (by omega) (by omega)]; exact P1 2 6 (by decide)
  · have fe := yE_f E1
    have B1 : yB7 σ1 := yB7_e E1 (by omega)
    have Q1 : yQ7 σ1 := yQ7_f (yRD_Q R) k7.1 ⟨k7.2 _ _ (by decide), k7.2 _ _ (by decide), k7.2 _ _ (by decide), k7.2 _ _ (by decide)⟩
    have F := x1_bhouse hN B1 Q1
    have eq : f_X1_readHouse N σ 38 = f_X1_readHouse N σ1 38 := by
      simp only [f_X1_readHouse, x1_hsame g7 B1]
    rw [eq]
    exact p_lfirst s23 g8 E1 f1 F (yZ7_k k7) k8 (k7.2 _ _ (by decide))
