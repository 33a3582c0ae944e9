theorem yRD_k6 {σ τ σ' τ' : yS} (H : yRD σ τ) (r : σ'.2 = σ.2) (k7 : ∀ a b : Nat, ¬ (a = 2 ∧ 1 ≤ b ∧ b ≤ 6) → σ'.1 a b = σ.1 a b) (k8 : yK8 τ τ') : yRD σ' τ' := by
  have c : ∀ a b : Nat, ¬ a = 2 → σ'.1 a b = σ.1 a b := fun a b h => k7 a b (by omega)
  refine yRD_mk H ?_ (fun b => by rw [r]) (fun a b h => c a b (by omega)) (fun j => k8 _ _ (by omega)) ⟨k8 _ _ (by omega), k8 _ _ (by omega)⟩ ?_ (fun b h => k7 _ _ (by omega)) (fun b => k8 _ _ (by omega))
  · obtain ⟨⟨a1, a2, a3, a4, a5, a6, a7⟩, -⟩ := H
    refine ⟨by rw [c _ _ (by omega), k8 _ _ (by omega)]; exact a1, by rw [c _ _ (by omega), k8 _ _ (by omega)]; exact a2, by rw [c _ _ (by omega), k8 _ _ (by omega)]; exact a3, by rw [k8 _ _ (by omega)]; exact a4, by rw [k8 _ _ (by omega)]; exact a5, by rw [k8 _ _ (by omega)]; exact a6, fun d hd => ?_⟩
    rw [k8 0 11 (by omega)] at hd
    rw [c _ _ (by omega), k8 _ _ (by omega)]
    exact a7 d hd
  · have q := H.2.2.2.2.2.1
    rw [k7 _ _ (by omega), k8 _ _ (by omega)]
    exact q
theorem p_rd {N : Nat} (hN : 400 ≤ N) : ∀ (c m i : Nat) (σ τ : yS), i + c = 161 → yE σ τ → σ.1 2 6 = (i : Int) → (σ.1 2 4 = 0 → yRD σ τ ∧ (¬ τ.1 0 20 = 0 → (i : Int) < σ.1 2 1)) → ∃ (j : Int) (σ' τ' : yS), f_X1_readInto_b60 N (m + c + 1) σ 38 (i : Int) = f_X1_readInto_b110 N σ' 38 ∧ f_X8_text_b20 N (m + c + 1) τ (i : Int) = f_X8_text_b44 N τ' j ∧ yE σ' τ' ∧ yZ7 σ σ' ∧ yZ8 τ τ' ∧ (σ'.1 2 4 = 0 → yRD σ' τ' ∧ τ'.1 0 20 = 0 ∧ σ'.1 2 6 = j) := by
  intro c
  induction c with
  | zero =>
      intro m i σ τ hi E h6 ok
      have fe := yE_f E
      have hi2 : i = 161 := by omega
      have n20 : σ.1 2 4 = 0 → τ.1 0 20 = 0 := fun f0 => by
        obtain ⟨⟨T, f7, f8, hap, hp0, hp1⟩, ⟨b, t, -⟩⟩ := yE_ok E f0
        have ok2 := (ok f0).2
        have T1 := T.2.1
        have T2 := T.2.2.1
        by_cases k : τ.1 0 20 = 0
        · exact k
        · have := ok2 k
          omega
      refine ⟨(i : Int), σ, τ, ?_, ?_, E, yZ7_r, yZ8_r, fun z => ⟨(ok z).1, n20 z, h6⟩⟩
      · rw [q_X1_readInto_b60, ycP_ge, decide_eq_true (by omega), cond_true]
      · rw [q_X8_text_b20]
        by_cases f0 : σ.1 2 4 = 0
        · rw [← fe.1, f0, ybz2, n20 f0, ybz]
        · rw [ycP_ne, decide_eq_true (show ¬ τ.1 0 22 = 0 by rw [← fe.1]; exact f0), cond_true]
  | succ c ih =>
      intro m i σ τ hi E h6 ok
      have fe := yE_f E
      by_cases f0 : σ.1 2 4 = 0
      · have HH := yE_ok E f0
        obtain ⟨R, ok2⟩ := ok f0
        have H0 := HH
        obtain ⟨⟨T, f7, f8, hap, hp0, hp1⟩, ⟨b, t, -⟩⟩ := H0
        have T1 := T.2.1
        have T2 := T.2.2.1
        by_cases k0 : τ.1 0 20 = 0
        · refine ⟨(i : Int), σ, τ, ?_, ?_, E, yZ7_r, yZ8_r, fun z => ⟨R, k0, h6⟩⟩
          · rw [q_X1_readInto_b60, f7, ybz2, t, k0, ybz, Bool.cond_self]
          · rw [q_X8_text_b20, f8, ybz2, k0, ybz]
        · have i1 := ok2 k0
          have i160 : ¬ (160 : Int) ≤ (i : Int) := by omega
          have ei : yad (i : Int) 1 = ((i + 1 : Nat) : Int) := by rw [yad_e (by omega) (by omega)]; omega
          have i2 : ((i + 1 : Nat) : Int) = (i : Int) + 1 := by omega
          have ib : 0 ≤ (i : Int) ∧ (i : Int) ≤ 1000 := by omega
          have i3 : i + 1 + c = 161 := by omega
          obtain ⟨r, σ1, τ1, e7, e8, E1, Z7, Z8, l6, okl, bdl⟩ := p_line (N := N) hN HH R
          have h61 : σ1.1 2 6 = (i : Int) := l6.trans h6
          obtain ⟨σ2, τ2, g7, g8, E2, r2, W7, W8, mo, l62, ok3⟩ := p_tail (N := N) hN E1 (by rw [h61]; exact ib)
          have nx : σ2.1 2 4 = 0 → yRD σ2 τ2 ∧ (¬ τ2.1 0 20 = 0 → ((i + 1 : Nat) : Int) < σ2.1 2 1) := fun z => by
            obtain ⟨y1, y2⟩ := ok3 z
            obtain ⟨y3, y4, y5⟩ := okl y1
            refine ⟨yRD_k6 y3 r2 W7 W8, fun _ => ?_⟩
            rw [i2]
            exact Int.lt_of_le_of_lt i1 (Int.lt_of_lt_of_le (y5 y2) mo)
          obtain ⟨j, σ', τ', c7, c8, E', Y7, Y8, ok'⟩ := ih m (i + 1) σ2 τ2 i3 E2 (by rw [l62, h61, i2]) nx
          refine ⟨j, σ', τ', ?_, ?_, E', yZ7_t (yZ7_t Z7 ⟨r2, fun a b h1 _ => W7 a b (fun q => h1 q.1)⟩) Y7, yZ8_t (yZ8_t Z8 (yZ8_k W8)) Y8, ok'⟩
          · have hs : ∃ r5 : Int × yS, f_X1_needStroke N σ1 = some r5 ∧ f_X1_readToken N (yw r5.2 2 6 (yad (r5.2.1 2 6) 1)) = some (0, σ2) := by
              unfold yTl7 at g7
              cases hq : f_X1_needStroke N σ1 with
              | none =>
                rw [hq] at g7
                exact absurd g7 (by simp)
              | some r5 =>
                rw [hq] at g7
                exact ⟨r5, rfl, g7⟩
            obtain ⟨r5, d1, d2⟩ := hs
            rw [show m + (c + 1) + 1 = (m + c + 1) + 1 from rfl, q_X1_readInto_b60, ycP_ge, decide_eq_false i160, cond_false, f7, ybz2, ycP_eq, decide_eq_false (show ¬ σ.1 2 2 = 0 from fun q => k0 (t.symm.trans q)), cond_false, e7]
            show (match f_X1_needStroke N σ1 with
              | none => none
              | some r5 => match f_X1_readToken N (yw r5.2 2 6 (yad (r5.2.1 2 6) 1)) with
                | none => none
                | some r6 => f_X1_readInto_b60 N (m + c + 1) r6.2 38 (yad (i : Int) 1)) = _
            rw [d1]
            show (match f_X1_readToken N (yw r5.2 2 6 (yad (r5.2.1 2 6) 1)) with
                | none => none
                | some r6 => f_X1_readInto_b60 N (m + c + 1) r6.2 38 (yad (i : Int) 1)) = _
            rw [d2, ei]
            exact c7
          · rw [show m + (c + 1) + 1 = (m + c + 1) + 1 from rfl, q_X8_text_b20, f8, ybz2, ycP_eq, decide_eq_false k0, cond_false, e8, g8, ei]
            exact c8
      · refine ⟨(i : Int), σ, τ, ?_, ?_, E, yZ7_r, yZ8_r, fun z => absurd z f0⟩
        · rw [q_X1_readInto_b60, ycP_ne, decide_eq_true f0, cond_true, Bool.cond_self]
        · rw [q_X8_text_b20, ycP_ne, decide_eq_true (show ¬ τ.1 0 22 = 0 by rw [← fe.1]; exact f0), cond_true]
/-- the last look: houses and deeds that are not -/
theorem p_last {N : Nat} {σ τ : yS} {j : Int} (E : yE σ τ) (ok : σ.1 2 4 = 0 → yRD σ τ ∧ τ.1 0 20 = 0 ∧ σ.1 2 6 = j) : ∃ (σ' τ' : yS), f_X1_readInto_b110 N σ 38 = some (0, σ') ∧ f_X8_text_b44 N τ j = f_X8_text_b90 N (yw τ' 0 17 0) j ∧ yE σ' τ' ∧ yK7 σ σ' ∧ yK8 τ τ' ∧ (σ'.1 2 4 = 0 → yRD σ' τ' ∧ σ'.1 2 6 = j ∧ τ'.1 0 14 < τ'.1 0 8 ∧ τ'.1 0 15 < τ'.1 0 11) := by
  have fe := yE_f E
  by_cases f0 : σ.1 2 4 = 0
  · have HH := yE_ok E f0
    obtain ⟨R, t0, l6⟩ := ok f0
    obtain ⟨⟨T, f7, f8, hap, hp0, hp1⟩, ⟨b, t, s0, t1, tz, tn, tv⟩⟩ := id HH
    have T2 := T.2.2.1
    have g1 : yGr (σ.1 2 11) (τ.1 0 14) 6 := R.2.2.2.2.2.2.2.2.1
    have g2 : yGr (σ.1 2 12) (τ.1 0 15) 4 := R.2.2.2.2.2.2.2.2.2
    have h0 : σ.1 38 0 = τ.1 0 8 := R.1.1
    have h2 : σ.1 38 2 = τ.1 0 11 := R.1.2.2.1
    have b0 := R.1.2.2.2.1
    have b2 := R.1.2.2.2.2.2.1
    unfold yGr at g1 g2
    have sz : σ.1 3 0 = σ.1 2 3 := by rw [T2, b]; exact (tz t0).symm
    by_cases hh : σ.1 2 11 < σ.1 38 0 ∧ σ.1 2 12 < σ.1 38 2
    · have u1 : ¬ σ.1 38 0 ≤ σ.1 2 11 := by omega
      have u2 : ¬ τ.1 0 8 ≤ τ.1 0 14 := by omega
      have u3 : ¬ τ.1 0 11 ≤ τ.1 0 15 := by omega
      refine ⟨σ, τ, ?_, ?_, E, yK7_r, yK8_r, fun _ => ⟨R, l6, Int.not_le.mp u2, Int.not_le.mp u3⟩⟩
      · unfold f_X1_readInto_b110
        rw [ycP_ge, decide_eq_false u1, cond_false, ycP_lt, decide_eq_true hh.2, cond_true]
        rfl
      · unfold f_X8_text_b44
        rw [f8, ybz2, ycP_ge, decide_eq_false u2, cond_false, ycP_ge, decide_eq_false u3, cond_false]
        unfold f_X8_text_b79
        rw [x8_ngood]
        rfl
    · obtain ⟨p1, p2, p3⟩ := p_fail (N := N) HH (show (0 : Int) < 6 by decide)
      refine ⟨_, _, ?_, ?_, p3, yK7_w (yK7_w yK7_r (by decide)) (by decide), yK8_w (yK8_w yK8_r (by decide)) (by decide), fun z => ?_⟩
      · have e : f_X1_readInto_b110 N σ 38 = f_X1_readInto_b132 N σ := by
          unfold f_X1_readInto_b110
          by_cases q : σ.1 38 0 ≤ σ.1 2 11
          · rw [ycP_ge, decide_eq_true q, cond_true]
          · rw [ycP_ge, decide_eq_false q, cond_false, ycP_lt, decide_eq_false (show ¬ σ.1 2 12 < σ.1 38 2 from fun w => hh ⟨Int.not_le.mp q, w⟩), cond_false]
        rw [e]
        unfold f_X1_readInto_b132
        rw [sz, p1]
        rfl
      · have e : f_X8_text_b44 N τ j = f_X8_text_b78 N τ j := by
          unfold f_X8_text_b44
          rw [f8, ybz2]
          by_cases q : τ.1 0 8 ≤ τ.1 0 14
          · rw [ycP_ge, decide_eq_true q, cond_true]
          · rw [ycP_ge, decide_eq_false q, cond_false, ycP_ge, decide_eq_true (show τ.1 0 11 ≤ τ.1 0 15 by omega), cond_true]
        rw [e]
        unfold f_X8_text_b78 f_X8_text_b79
        rw [p2]
        rfl
      · rw [yw_n (by decide), yw_p] at z
        exact absurd z (by decide)
  · refine ⟨σ, τ, ?_, ?_, E, yK7_r, yK8_r, fun z => absurd z f0⟩
    · have e : f_X1_readInto_b132 N σ = some (0, σ) := by
        unfold f_X1_readInto_b132
        rw [x1_cbad f0]
        rfl
      unfold f_X1_readInto_b110
      rw [e, show f_X1_readInto_b145 N σ = some (0, σ) from rfl, Bool.cond_self, Bool.cond_self]
    · unfold f_X8_text_b44
      rw [ycP_ne, decide_eq_true (show ¬ τ.1 0 22 = 0 by rw [← fe.1]; exact f0), cond_true]
      rfl
