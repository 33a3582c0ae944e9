theorem x8_kd2 {N : Nat} : ∀ (c m i : Nat) (τ : yS), i + c = 131 → ∃ τ' : yS, f_X8_keepDraft_b2 N (m + c + 1) τ (i : Int) = f_X8_keepDraft_b37 N (yw τ' 0 3 (τ'.1 0 8)) ∧ (∀ a b : Nat, ¬ (a = 1 ∧ i ≤ b ∧ b < 131) → τ'.1 a b = τ.1 a b) ∧ (∀ b : Nat, i ≤ b → b < 131 → τ'.1 1 b = τ.1 5 b)
  | 0, m, i, τ, hi => ⟨τ, by rw [q_X8_keepDraft_b2, ycP_ge, decide_eq_true (by omega), cond_true], fun _ _ _ => rfl, fun b h3 h4 => by omega⟩
  | c + 1, m, i, τ, hi => by
    obtain ⟨τ', g, w, z⟩ := x8_kd2 c m (i + 1) (yw τ 1 i (τ.1 5 i)) (by omega)
    have ei : yad (i : Int) 1 = ((i + 1 : Nat) : Int) := by rw [yad_e (by omega) (by omega)]; omega
    have ii : yin (i : Int) 131 = true := by rw [yin_d]; exact decide_eq_true (by omega)
    have i2 : yin (i : Int) 393 = true := by rw [yin_d]; exact decide_eq_true (by omega)
    refine ⟨τ', ?_, fun a b h => ?_, fun b h3 h4 => ?_⟩
    · rw [show m + (c + 1) + 1 = (m + c + 1) + 1 from rfl, q_X8_keepDraft_b2, ycP_ge, decide_eq_false (by omega), cond_false, ii, cond_true, i2, cond_true, Int.toNat_natCast, ei]
      exact g
    · rw [w a b (by omega), yw_n (by omega)]
    · by_cases e : b = i
      · subst e
        rw [w 1 b (by omega)]; exact yw_p
      · rw [z b (by omega) h4, yw_n (by omega)]
theorem x8_kd53 {N : Nat} : ∀ (c m i : Nat) (τ : yS), (i : Int) + c = τ.1 0 5 → i + c ≤ 5 → ∃ τ' : yS, f_X8_keepDraft_b53 N (m + c + 1) τ (i : Int) = some (0, yw (yw τ' 3 0 0) 3 1 0) ∧ (∀ a b : Nat, ¬ a = 4 → τ'.1 a b = τ.1 a b) ∧ (∀ b : Nat, b < i → τ'.1 4 b = τ.1 4 b) ∧ (∀ b : Nat, i ≤ b → b < i + c → τ'.1 4 b = τ.1 6 b)
  | 0, m, i, τ, hi, h5 => ⟨τ, by rw [q_X8_keepDraft_b53, ycP_ge, decide_eq_true (by omega), cond_true], fun _ _ _ => rfl, fun _ _ => rfl, fun b h3 h4 => by omega⟩
  | c + 1, m, i, τ, hi, h5 => by
    obtain ⟨τ', g, w, k, z⟩ := x8_kd53 c m (i + 1) (yw τ 4 i (τ.1 6 i)) (by rw [yw_n (by omega)]; omega) (by omega)
    have ei : yad (i : Int) 1 = ((i + 1 : Nat) : Int) := by rw [yad_e (by omega) (by omega)]; omega
    have ii : yin (i : Int) 5 = true := by rw [yin_d]; exact decide_eq_true (by omega)
    refine ⟨τ', ?_, fun a b h => ?_, fun b h => ?_, fun b h3 h4 => ?_⟩
    · rw [show m + (c + 1) + 1 = (m + c + 1) + 1 from rfl, q_X8_keepDraft_b53, ycP_ge, decide_eq_false (by omega), cond_false, ii, cond_true, Int.toNat_natCast, ei]
      exact g
    · rw [w a b h, yw_n (by omega)]
    · rw [k b (by omega), yw_n (by omega)]
    · by_cases e : b = i
      · subst e
        rw [k b (by omega)]; exact yw_p
      · rw [z b (by omega) (by omega), yw_n (by omega)]
/-- the draft is kept -/
theorem x8_keepd {N : Nat} (hN : 400 ≤ N) {τ : yS} (h9 : 0 ≤ τ.1 0 9 ∧ τ.1 0 9 ≤ 1) (h11 : 0 ≤ τ.1 0 11 ∧ τ.1 0 11 ≤ 5) : ∃ τ' : yS, f_X8_keepDraft N τ = some (0, τ') ∧ (∀ a b : Nat, ¬ (a = 1 ∧ b < 131) → ¬ a = 3 → ¬ a = 4 → ¬ (a = 0 ∧ 3 ≤ b ∧ b ≤ 5) → τ'.1 a b = τ.1 a b) ∧ (∀ b : Nat, b < 131 → τ'.1 1 b = τ.1 5 b) ∧ τ'.1 0 3 = τ.1 0 8 ∧ τ'.1 0 4 = τ.1 0 9 ∧ τ'.1 0 5 = τ.1 0 11 ∧ (∀ d : Nat, (d : Int) < τ.1 0 11 → τ'.1 4 d = τ.1 6 d) ∧ τ'.1 3 0 = 0 ∧ τ'.1 3 1 = 0 := by
  obtain ⟨τ1, g1, w1, z1⟩ := x8_kd2 (N := N) 131 (N - 132) 0 τ rfl
  rw [show N - 132 + 131 + 1 = N by omega] at g1
  have e8 : τ1.1 0 8 = τ.1 0 8 := w1 0 8 (by omega)
  have e9 : τ1.1 0 9 = τ.1 0 9 := w1 0 9 (by omega)
  have e11 : τ1.1 0 11 = τ.1 0 11 := w1 0 11 (by omega)
  obtain ⟨n, hn⟩ : ∃ n : Nat, τ.1 0 11 = (n : Int) := ⟨(τ.1 0 11).toNat, by omega⟩
  obtain ⟨τ2, g2, w2, k2, z2⟩ := x8_kd53 (N := N) n (N - n - 1) 0 (yw (yw (yw τ1 0 3 (τ1.1 0 8)) 0 4 (τ1.1 0 9)) 0 5 (τ1.1 0 11)) (by rw [yw_p, e11, hn]; omega) (by omega)
  rw [show N - n - 1 + n + 1 = N by omega] at g2
  refine ⟨yw (yw τ2 3 0 0) 3 1 0, ?_, fun a b h1 h3 h4 h0 => ?_, fun b h => ?_, ?_, ?_, ?_, fun d hd => ?_, ?_, yw_p⟩
  · refine g1.trans ?_
    unfold f_X8_keepDraft_b37
    rw [yw_n (by omega), yb1_d, decide_eq_true (by rw [e9]; exact h9), cond_true]
    unfold f_X8_keepDraft_b45
    rw [yw_n (by omega), yw_n (by omega)]
    exact g2
  · rw [yw_n (by omega), yw_n (by omega), w2 a b h4, yw_n (by omega), yw_n (by omega), yw_n (by omega), w1 a b (by omega)]
  · rw [yw_n (by omega), yw_n (by omega), w2 1 b (by omega), yw_n (by omega), yw_n (by omega), yw_n (by omega)]
    exact z1 b (by omega) h
  · rw [yw_n (by omega), yw_n (by omega), w2 _ _ (by omega), yw_n (by omega), yw_n (by omega), yw_p, e8]
  · rw [yw_n (by omega), yw_n (by omega), w2 _ _ (by omega), yw_n (by omega), yw_p, e9]
  · rw [yw_n (by omega), yw_n (by omega), w2 _ _ (by omega), yw_p, e11]
  · rw [yw_n (by omega), yw_n (by omega), z2 d (by omega) (by omega), yw_n (by omega), yw_n (by omega), yw_n (by omega), w1 6 d (by omega)]
  · rw [yw_n (by omega)]; exact yw_p
theorem ybk0 : ∀ k : Nat, k < 2 → yan (ysr 0 (k : Int)) 1 = 0 := fun k h => ybit0 k (by omega)
/-- the text is read alike: to the last look -/
theorem p_readin {N : Nat} (hN : 400 ≤ N) {σ τ : yS} (ht : yTr σ) (T : yTp σ τ) : ∃ (j : Int) (σ' τ' : yS), f_X1_readInto N σ 38 = some (0, σ') ∧ f_X8_text N τ = f_X8_text_b90 N (yw τ' 0 17 0) j ∧ yE σ' τ' ∧ yZ7 σ σ' ∧ yZ8 τ τ' ∧ (σ'.1 2 4 = 0 → yRD σ' τ' ∧ σ'.1 2 6 = j ∧ τ'.1 0 14 < τ'.1 0 8 ∧ τ'.1 0 15 < τ'.1 0 11) := by
  obtain ⟨v, hv, hv2⟩ : ∃ v : Nat, σ.2 38 11 = v ∧ (v = 46 ∨ v = 51) := ⟨σ.2 38 11, rfl, by unfold yTr at ht; omega⟩
  obtain ⟨σ1, g1, r1, w1, n0, n1, n2, n3⟩ := x4_new (N := N) hN hv hv2
  obtain ⟨τ1, k1, u1, z5, z7, z8⟩ := x8_first (N := N) hN (τ := yw (yw τ 0 22 0) 0 18 0)
  have T1 : yTp (yw (yw (yw (yw (yw (yw (yw (yw (yw (yw σ1 2 1 0) 2 4 0) 2 5 0) 2 6 0) 2 7 0) 2 8 0) 2 9 0) 2 10 0) 2 11 (-1)) 2 12 (-1)) τ1 := by
    obtain ⟨t1, t2, t3, t4⟩ := T
    have c : ∀ a b : Nat, a = 3 ∨ a = 4 → (yw (yw (yw (yw (yw (yw (yw (yw (yw (yw σ1 2 1 0) 2 4 0) 2 5 0) 2 6 0) 2 7 0) 2 8 0) 2 9 0) 2 10 0) 2 11 (-1)) 2 12 (-1)).1 a b = σ.1 a b := fun a b h => by
      rw [yw_n (by omega), yw_n (by omega), yw_n (by omega), yw_n (by omega), yw_n (by omega), yw_n (by omega), yw_n (by omega), yw_n (by omega), yw_n (by omega), yw_n (by omega), w1 a b (by omega)]
    have o : ∀ a b : Nat, (a = 0 ∧ b = 17) ∨ a = 8 → τ1.1 a b = τ.1 a b := fun a b h => by
      rw [u1 a b (by omega) (by omega) (by omega), yw_n (by omega), yw_n (by omega)]
    refine ⟨by rw [c _ _ (by omega)]; exact t1, by rw [c _ _ (by omega)]; exact t2, by rw [c _ _ (by omega), o _ _ (by omega)]; exact t3, fun j hj => ?_⟩
    rw [c _ _ (by omega)] at hj
    rw [c _ _ (by omega), o _ _ (by omega)]
    exact t4 j hj
  have p1 : (yw (yw (yw (yw (yw (yw (yw (yw (yw (yw σ1 2 1 0) 2 4 0) 2 5 0) 2 6 0) 2 7 0) 2 8 0) 2 9 0) 2 10 0) 2 11 (-1)) 2 12 (-1)).1 2 1 = 0 := by
    rw [yw_n (by omega), yw_n (by omega), yw_n (by omega), yw_n (by omega), yw_n (by omega), yw_n (by omega), yw_n (by omega), yw_n (by omega), yw_n (by omega), yw_p]
  have p4 : (yw (yw (yw (yw (yw (yw (yw (yw (yw (yw σ1 2 1 0) 2 4 0) 2 5 0) 2 6 0) 2 7 0) 2 8 0) 2 9 0) 2 10 0) 2 11 (-1)) 2 12 (-1)).1 2 4 = 0 := by
    rw [yw_n (by omega), yw_n (by omega), yw_n (by omega), yw_n (by omega), yw_n (by omega), yw_n (by omega), yw_n (by omega), yw_n (by omega), yw_p]
  have p6 : (yw (yw (yw (yw (yw (yw (yw (yw (yw (yw σ1 2 1 0) 2 4 0) 2 5 0) 2 6 0) 2 7 0) 2 8 0) 2 9 0) 2 10 0) 2 11 (-1)) 2 12 (-1)).1 2 6 = 0 := by
    rw [yw_n (by omega), yw_n (by omega), yw_n (by omega), yw_n (by omega), yw_n (by omega), yw_n (by omega), yw_p]
  have q7 : ∀ b : Nat, 7 ≤ b → b ≤ 10 → (yw (yw (yw (yw (yw (yw (yw (yw (yw (yw σ1 2 1 0) 2 4 0) 2 5 0) 2 6 0) 2 7 0) 2 8 0) 2 9 0) 2 10 0) 2 11 (-1)) 2 12 (-1)).1 2 b = 0 := fun b h1 h2 => by
    rw [yw_n (by omega), yw_n (by omega)]
    have : b = 7 ∨ b = 8 ∨ b = 9 ∨ b = 10 := by omega
    rcases this with rfl | rfl | rfl | rfl
    · rw [yw_n (by omega), yw_n (by omega), yw_n (by omega)]; exact yw_p
    · rw [yw_n (by omega), yw_n (by omega)]; exact yw_p
    · rw [yw_n (by omega)]; exact yw_p
    · exact yw_p
  have c3 : ∀ a b : Nat, ¬ a = 2 → (yw (yw (yw (yw (yw (yw (yw (yw (yw (yw σ1 2 1 0) 2 4 0) 2 5 0) 2 6 0) 2 7 0) 2 8 0) 2 9 0) 2 10 0) 2 11 (-1)) 2 12 (-1)).1 a b = σ1.1 a b := fun a b h => by
    rw [yw_n (by omega), yw_n (by omega), yw_n (by omega), yw_n (by omega), yw_n (by omega), yw_n (by omega), yw_n (by omega), yw_n (by omega), yw_n (by omega), yw_n (by omega)]
  have q11 : (yw (yw (yw (yw (yw (yw (yw (yw (yw (yw σ1 2 1 0) 2 4 0) 2 5 0) 2 6 0) 2 7 0) 2 8 0) 2 9 0) 2 10 0) 2 11 (-1)) 2 12 (-1)).1 2 11 = -1 := by
    rw [yw_n (by omega)]; exact yw_p
  have R1 : ∀ a b : Nat, (yw (yw (yw (yw (yw (yw (yw (yw (yw (yw σ1 2 1 0) 2 4 0) 2 5 0) 2 6 0) 2 7 0) 2 8 0) 2 9 0) 2 10 0) 2 11 (-1)) 2 12 (-1)).2 a b = σ.2 a b := fun a b => by
    show σ1.2 a b = σ.2 a b
    rw [r1]
  have q12 : (yw (yw (yw (yw (yw (yw (yw (yw (yw (yw σ1 2 1 0) 2 4 0) 2 5 0) 2 6 0) 2 7 0) 2 8 0) 2 9 0) 2 10 0) 2 11 (-1)) 2 12 (-1)).1 2 12 = -1 := yw_p
  have q2 : (yw (yw (yw (yw (yw (yw (yw (yw (yw (yw σ1 2 1 0) 2 4 0) 2 5 0) 2 6 0) 2 7 0) 2 8 0) 2 9 0) 2 10 0) 2 11 (-1)) 2 12 (-1)).2 = σ.2 := r1
  generalize hs : (yw (yw (yw (yw (yw (yw (yw (yw (yw (yw σ1 2 1 0) 2 4 0) 2 5 0) 2 6 0) 2 7 0) 2 8 0) 2 9 0) 2 10 0) 2 11 (-1)) 2 12 (-1)) = σ2 at *
  have D : yRD σ2 τ1 := by
    refine yRD_0 (v := v) (by rw [q2]; exact hv) (by unfold yTr at ht ⊢; rw [q2]; exact ht) ?_ ?_ (fun a b h1 h2 h3 => ?_) (fun b h => ?_) q7 ⟨q11, q12⟩ z5 z7 z8
    · rw [c3 _ _ (by omega), c3 _ _ (by omega), c3 _ _ (by omega), c3 _ _ (by omega)]; exact n0
    · rw [c3 _ _ (by omega), c3 _ _ (by omega), c3 _ _ (by omega), c3 _ _ (by omega), c3 _ _ (by omega), c3 _ _ (by omega)]; exact n1
    · rw [c3 _ _ (by omega)]; exact n2 a b h1 h2 h3
    · rw [c3 _ _ (by omega)]; exact n3 b h
  have o22 : τ1.1 0 22 = 0 := by rw [u1 _ _ (by omega) (by omega) (by omega), yw_n (by omega)]; exact yw_p
  have o18 : τ1.1 0 18 = 0 := by rw [u1 _ _ (by omega) (by omega) (by omega)]; exact yw_p
  have Lx : yLx σ2 τ1 := ⟨T1, p4, o22, by rw [p1, o18], by rw [o18]; decide, by rw [o18, ← T1.2.2.1]; exact T1.1⟩
  obtain ⟨σ3, τ3, g3, k3, K7, K8, mo, cs⟩ := p_token (N := N) hN Lx
  have T3 : yTp σ3 τ3 := yTp_k K7 K8 T1
  have E3 : yE σ3 τ3 := by
    rcases cs with ⟨c1, c2, -⟩ | c1
    · exact Or.inl ⟨c1, c2⟩
    · exact Or.inr ⟨c1, T3⟩
  have l6 : σ3.1 2 6 = ((0 : Nat) : Int) := by rw [K7.2 2 6 (by omega), p6]; rfl
  have ok3 : σ3.1 2 4 = 0 → yRD σ3 τ3 ∧ (¬ τ3.1 0 20 = 0 → ((0 : Nat) : Int) < σ3.1 2 1) := fun z => by
    refine ⟨yRD_k6 D K7.1 (fun a b h => K7.2 a b (by omega)) K8, fun k => ?_⟩
    rcases cs with ⟨c1, c2, c4⟩ | c1
    · have := c4 (by rw [c2.2.1]; exact k)
      rw [p1] at this
      exact this
    · have q1 := c1.1
      have q3 := c1.2.1
      omega
  obtain ⟨j, σ4, τ4, g4, k4, E4, Y7, Y8, ok4⟩ := p_rd (N := N) hN 161 (N - 162) 0 σ3 τ3 rfl E3 l6 ok3
  rw [show N - 162 + 161 + 1 = N by omega] at g4 k4
  obtain ⟨σ5, τ5, g5, k5, E5, V7, V8, ok5⟩ := p_last (N := N) E4 ok4
  have Za : yZ7 σ σ2 := ⟨q2, fun a b h1 h2 => by rw [c3 a b h1, w1 a b (by omega)]⟩
  have Zb : yZ8 τ τ1 := fun a b x y z w => by rw [u1 a b (by omega) (by omega) (by omega), yw_n (by omega), yw_n (by omega)]
  refine ⟨j, σ5, τ5, ?_, ?_, E5, yZ7_t (yZ7_t (yZ7_t Za (yZ7_k K7)) Y7) (yZ7_k V7), yZ8_t (yZ8_t (yZ8_t Zb (yZ8_k K8)) Y8) (yZ8_k V8), ok5⟩
  · unfold f_X1_readInto
    rw [g1]
    dsimp only
    rw [hs, g3]
    exact g4.trans g5
  · unfold f_X8_text
    rw [k1]
    dsimp only
    rw [k3]
    exact k4.trans k5
