/-- what both have read so far -/
def yRD (σ τ : yS) : Prop :=
  (σ.1 38 0 = τ.1 0 8 ∧ σ.1 38 1 = τ.1 0 9 ∧ σ.1 38 2 = τ.1 0 11 ∧ (2 ≤ τ.1 0 8 ∧ τ.1 0 8 ≤ 7) ∧ (0 ≤ τ.1 0 9 ∧ τ.1 0 9 ≤ 1) ∧ (0 ≤ τ.1 0 11 ∧ τ.1 0 11 ≤ 5) ∧ ∀ d : Nat, (d : Int) < τ.1 0 11 → σ.1 39 d = τ.1 6 d ∧ 0 ≤ τ.1 6 d ∧ τ.1 6 d ≤ 9) ∧
  yRT σ 38 (fun j => τ.1 5 j) ∧ yGe (τ.1 0 14 + 1) (τ.1 0 15 + 1) (σ.1 38 6) (fun j => τ.1 5 j) ∧ yGk (τ.1 0 14 + 1) (τ.1 0 15 + 1) (fun j => τ.1 5 j) ∧ τ.1 5 127 = 0 ∧
  (σ.1 2 7 = τ.1 0 10 ∧ 0 ≤ τ.1 0 10 ∧ τ.1 0 10 ≤ 1) ∧
  (σ.1 2 8 = τ.1 7 0 ∧ σ.1 2 9 = τ.1 7 1 ∧ σ.1 2 10 = τ.1 7 2 ∧ σ.1 38 6 = σ.1 2 9) ∧ (∀ k : Nat, k < 3 → 0 ≤ τ.1 7 k ∧ τ.1 7 k < 128) ∧
  yGr (σ.1 2 11) (τ.1 0 14) 6 ∧ yGr (σ.1 2 12) (τ.1 0 15) 4
theorem yGe_m {hs ds hs' ds' L : Int} {g : Nat → Int} (h1 : hs ≤ hs') (h2 : ds ≤ ds') (G : yGe hs ds L g) : yGe hs' ds' L g := by
  obtain ⟨g0, g1, g2, g3, g4, g5⟩ := G
  refine ⟨g0, g1, g2, fun i hi => ?_, g4, fun i hi => ?_⟩
  · have q := g3 i hi
    omega
  · have q := g5 i hi
    omega
theorem yGk_m {hs ds hs' ds' : Int} {g : Nat → Int} (h1 : hs ≤ hs') (h2 : ds ≤ ds') (G : yGk hs ds g) : yGk hs' ds' g := by
  obtain ⟨g0, g1, g2⟩ := G
  refine ⟨g0, fun i hi z => ?_, fun i hi z => g2 i hi (by omega)⟩
  have q := g1 i hi z
  omega
/-- all but houses, ring, deeds and the row's flag as it was -/
theorem yRD_mk {σ τ σ' τ' : yS} (H : yRD σ τ) (h1 : σ'.1 38 0 = τ'.1 0 8 ∧ σ'.1 38 1 = τ'.1 0 9 ∧ σ'.1 38 2 = τ'.1 0 11 ∧ (2 ≤ τ'.1 0 8 ∧ τ'.1 0 8 ≤ 7) ∧ (0 ≤ τ'.1 0 9 ∧ τ'.1 0 9 ≤ 1) ∧ (0 ≤ τ'.1 0 11 ∧ τ'.1 0 11 ≤ 5) ∧ ∀ d : Nat, (d : Int) < τ'.1 0 11 → σ'.1 39 d = τ'.1 6 d ∧ 0 ≤ τ'.1 6 d ∧ τ'.1 6 d ≤ 9) (r : ∀ b : Nat, σ'.2 38 b = σ.2 38 b) (c : ∀ a b : Nat, (a = 38 ∧ 6 ≤ b) ∨ (40 ≤ a ∧ a < 59) → σ'.1 a b = σ.1 a b) (d5 : ∀ j : Nat, τ'.1 5 j = τ.1 5 j) (hs : τ'.1 0 14 = τ.1 0 14 ∧ τ'.1 0 15 = τ.1 0 15) (sh : σ'.1 2 7 = τ'.1 0 10 ∧ 0 ≤ τ'.1 0 10 ∧ τ'.1 0 10 ≤ 1) (t7 : ∀ b : Nat, 8 ≤ b ∧ b ≤ 12 → σ'.1 2 b = σ.1 2 b) (t8 : ∀ b : Nat, τ'.1 7 b = τ.1 7 b) : yRD σ' τ' := by
  obtain ⟨-, T, G, K, z, -, ⟨a1, a2, a3, a4⟩, b, g1, g2⟩ := H
  have e : (fun j => τ'.1 5 j) = (fun j => τ.1 5 j) := funext d5
  have T' : yRT σ' 38 (fun j => τ.1 5 j) := by
    obtain ⟨t1, t2, ⟨t3, t4⟩, ⟨t5, t6⟩, ⟨x0, x1, x2, x3⟩, x7⟩ := T
    refine ⟨fun i hi => ?_, fun j hj => ?_, ⟨?_, fun i hi => ?_⟩, ⟨?_, fun i hi => ?_⟩, ⟨?_, ?_, ?_, ?_⟩, ?_⟩
    · rw [c (38 + 2) _ (by omega), c (38 + 3) _ (by omega), c 38 _ (by omega), c (38 + 4) _ (by omega), c (38 + 5) _ (by omega), c (38 + 6) _ (by omega)]
      exact t1 i hi
    · rw [c _ _ (by omega)]; exact t2 j hj
    · rw [r, c _ _ (by omega)]; exact t3
    · rw [r, c _ _ (by omega), c _ _ (by omega), c _ _ (by omega), c _ _ (by omega)]; exact t4 i hi
    · rw [c _ _ (by omega)]; exact t5
    · rw [c _ _ (by omega), c _ _ (by omega)]; exact t6 i hi
    · rw [c _ _ (by omega)]; exact x0
    · rw [c _ _ (by omega)]; exact x1
    · rw [c _ _ (by omega)]; exact x2
    · rw [c _ _ (by omega)]; exact x3
    · rw [r, r]; exact x7
  refine ⟨h1, by rw [e]; exact T', by rw [e, hs.1, hs.2, c _ _ (by omega)]; exact G, by rw [e, hs.1, hs.2]; exact K, by rw [d5]; exact z, sh, ⟨by rw [t7 _ (by omega), t8]; exact a1, by rw [t7 _ (by omega), t8]; exact a2, by rw [t7 _ (by omega), t8]; exact a3, by rw [c _ _ (by omega), t7 _ (by omega)]; exact a4⟩, fun k hk => by rw [t8]; exact b k hk, by rw [t7 _ (by omega), hs.1]; exact g1, by rw [t7 _ (by omega), hs.2]; exact g2⟩
theorem yRD_k {σ τ σ' τ' : yS} (H : yRD σ τ) (k7 : yK7 σ σ') (k8 : yK8 τ τ') : yRD σ' τ' := by
  have c : ∀ a b : Nat, ¬ a = 2 → σ'.1 a b = σ.1 a b := fun a b h => k7.2 a b (by omega)
  refine yRD_mk H ?_ (fun b => by rw [k7.1]) (fun a b h => c a b (by omega)) (fun j => k8 _ _ (by omega)) ⟨k8 _ _ (by omega), k8 _ _ (by omega)⟩ ?_ (fun b h => k7.2 _ _ (by omega)) (fun b => k8 _ _ (by omega))
  · obtain ⟨⟨a1, a2, a3, a4, a5, a6, a7⟩, -⟩ := H
    refine ⟨by rw [c _ _ (by omega), k8 _ _ (by omega)]; exact a1, by rw [c _ _ (by omega), k8 _ _ (by omega)]; exact a2, by rw [c _ _ (by omega), k8 _ _ (by omega)]; exact a3, by rw [k8 _ _ (by omega)]; exact a4, by rw [k8 _ _ (by omega)]; exact a5, by rw [k8 _ _ (by omega)]; exact a6, fun d hd => ?_⟩
    rw [k8 0 11 (by omega)] at hd
    rw [c _ _ (by omega), k8 _ _ (by omega)]
    exact a7 d hd
  · have q := H.2.2.2.2.2.1
    rw [k7.2 _ _ (by omega), k8 _ _ (by omega)]
    exact q
theorem yRD_Q {σ τ : yS} (H : yRD σ τ) : yQ7 σ := by
  obtain ⟨⟨-, -, a3, -, -, a6, -⟩, ⟨-, -, ⟨t3, -⟩, ⟨t5, -⟩, -, t7⟩, ⟨-, -, g2, -, g4, -⟩, -⟩ := H
  refine ⟨t7, by rw [a3]; exact a6, ?_, ?_⟩
  · rw [t3]; exact g2
  · have t5 : σ.1 56 0 = τ.1 5 118 := t5
    rw [t5]; exact g4
/-- what a line leaves alone -/
def yZ7 (σ σ' : yS) : Prop := σ'.2 = σ.2 ∧ ∀ a b : Nat, ¬ a = 2 → ¬ (38 ≤ a ∧ a < 59) → σ'.1 a b = σ.1 a b
def yZ8 (τ τ' : yS) : Prop := ∀ a b : Nat, ¬ a = 5 → ¬ a = 6 → ¬ a = 7 → ¬ (a = 0 ∧ ((8 ≤ b ∧ b ≤ 11) ∨ b = 14 ∨ b = 15 ∨ (18 ≤ b ∧ b ≤ 23))) → τ'.1 a b = τ.1 a b
theorem yZ7_r {σ : yS} : yZ7 σ σ := ⟨rfl, fun _ _ _ _ => rfl⟩
theorem yZ7_t {σ1 σ2 σ3 : yS} (h : yZ7 σ1 σ2) (k : yZ7 σ2 σ3) : yZ7 σ1 σ3 := ⟨k.1.trans h.1, fun a b x y => by rw [k.2 a b x y, h.2 a b x y]⟩
theorem yZ7_w {σ1 σ2 : yS} {i k : Nat} {z : Int} (h : yZ7 σ1 σ2) (hi : i = 2 ∨ (38 ≤ i ∧ i < 59)) : yZ7 σ1 (yw σ2 i k z) := ⟨h.1, fun a b x y => by rw [yw_n (by omega), h.2 a b x y]⟩
theorem yZ7_k {σ σ' : yS} (h : yK7 σ σ') : yZ7 σ σ' := ⟨h.1, fun a b x _ => h.2 a b (by omega)⟩
theorem yZ7_b {σ σ' : yS} (h : yZB σ σ') : yZ7 σ σ' := ⟨h.1, fun a b x y => h.2 a b (by omega) y⟩
theorem yZ8_r {τ : yS} : yZ8 τ τ := fun _ _ _ _ _ _ => rfl
theorem yZ8_t {τ1 τ2 τ3 : yS} (h : yZ8 τ1 τ2) (k : yZ8 τ2 τ3) : yZ8 τ1 τ3 := fun a b x y z w => by rw [k a b x y z w, h a b x y z w]
theorem yZ8_w {τ1 τ2 : yS} {i k : Nat} {z : Int} (h : yZ8 τ1 τ2) (hi : i = 5 ∨ i = 6 ∨ i = 7 ∨ (i = 0 ∧ ((8 ≤ k ∧ k ≤ 11) ∨ k = 14 ∨ k = 15 ∨ (18 ≤ k ∧ k ≤ 23)))) : yZ8 τ1 (yw τ2 i k z) := fun a b x y q w => by rw [yw_n (by omega), h a b x y q w]
theorem yZ8_k {τ τ' : yS} (h : yK8 τ τ') : yZ8 τ τ' := fun a b _ _ _ w => h a b (by omega)
/-- the end of a line: the stroke, and the next token -/
noncomputable def yTl7 (N : Nat) (σ : yS) : Option (Int × yS) := match f_X1_needStroke N σ with
  | none => none
  | some r5 => f_X1_readToken N (yw r5.2 2 6 (yad (r5.2.1 2 6) 1))
noncomputable def yTl8 (N : Nat) (τ : yS) : Option (Int × yS) := bif ycP .ne (τ.1 0 22) 0 then f_X8_readLine_b201 N τ else bif ycP .ne (τ.1 0 20) 3 then f_X8_readLine_b197 N τ 0 else f_X8_readLine_b197 N τ 1
theorem x8_tlbad {N : Nat} {τ : yS} (h : 0 < τ.1 0 22) : yTl8 N τ = some (0, τ) := by
  unfold yTl8
  rw [ycP_ne, decide_eq_true (show ¬ τ.1 0 22 = 0 by omega), cond_true]
  unfold f_X8_readLine_b201 f_X8_next
  rw [ycP_le, decide_eq_false (show ¬ τ.1 0 22 ≤ 0 by omega), cond_false]
theorem p_tail {N : Nat} (hN : 400 ≤ N) {σ τ : yS} (H : yE σ τ) (hl : 0 ≤ σ.1 2 6 ∧ σ.1 2 6 ≤ 1000) : ∃ (σ' τ' : yS), yTl7 N σ = some (0, σ') ∧ yTl8 N τ = some (0, τ') ∧ yE σ' τ' ∧ σ'.2 = σ.2 ∧ (∀ a b : Nat, ¬ (a = 2 ∧ 1 ≤ b ∧ b ≤ 6) → σ'.1 a b = σ.1 a b) ∧ yK8 τ τ' ∧ σ.1 2 1 ≤ σ'.1 2 1 ∧ σ'.1 2 6 = σ.1 2 6 + 1 ∧ (σ'.1 2 4 = 0 → σ.1 2 4 = 0 ∧ σ.1 2 2 = 3) := by
  have el : ∀ S : yS, S.1 2 6 = σ.1 2 6 → yad (S.1 2 6) 1 = σ.1 2 6 + 1 := fun S h => by rw [h]; exact yad_e (by omega) (by omega)
  rcases H with HH | ⟨B, T⟩
  · have H0 := HH
    obtain ⟨⟨T, f7, f8, hap, hp0, hp1⟩, ⟨b, t, s0, t0, tz, tn, tv⟩⟩ := H0
    by_cases h3 : τ.1 0 20 = 3
    · have E1 : yE (yw σ 2 6 (σ.1 2 6 + 1)) τ := yE_w7 (Or.inl HH) (by omega)
      obtain ⟨σ', τ', g7, g8, E2, k7, k8, mo, z1, z2, -⟩ := p_next (N := N) hN E1
      refine ⟨σ', τ', ?_, ?_, E2, k7.1, fun i k q => ?_, k8, ?_, ?_, fun z => ⟨f7, by rw [t]; exact h3⟩⟩
      · unfold yTl7 f_X1_needStroke
        rw [t, h3, ycP_eq, decide_eq_true rfl, cond_true]
        show f_X1_readToken N (yw σ 2 6 (yad (σ.1 2 6) 1)) = _
        rw [el σ rfl]
        exact g7
      · unfold yTl8
        rw [f8, ybz2, h3, ycP_ne, decide_eq_false (by decide), cond_false]
        unfold f_X8_readLine_b197
        rw [x8_ngood]
        show f_X8_readLine_b201 N τ = _
        unfold f_X8_readLine_b201
        rw [g8]
      · rw [k7.2 i k (by omega), yw_n (by omega)]
      · rw [yw_n (by omega)] at mo; exact mo
      · rw [k7.2 2 6 (by omega), yw_p]
    · obtain ⟨p1, p2, p3⟩ := p_fail (N := N) HH (show (0 : Int) < 2 by decide)
      have E1 : yE (yw (yw (yw σ 2 4 2) 2 5 (σ.1 2 3)) 2 6 (σ.1 2 6 + 1)) (yw (yw τ 0 22 2) 0 23 (τ.1 0 19)) := yE_w7 p3 (by omega)
      obtain ⟨σ', τ', g7, g8, E2, k7, k8, mo, z1, z2, nb⟩ := p_next (N := N) hN E1
      obtain ⟨e1, e2⟩ := nb (by rw [yw_n (by omega), yw_n (by omega), yw_p]; decide)
      subst e1
      subst e2
      refine ⟨_, _, ?_, ?_, E1, rfl, fun i k q => ?_, yK8_w (yK8_w yK8_r (by omega)) (by omega), ?_, yw_p, fun z => ?_⟩
      · unfold yTl7 f_X1_needStroke
        rw [t, ycP_eq, decide_eq_false h3, cond_false, p1]
        show f_X1_readToken N (yw (yw (yw σ 2 4 2) 2 5 (σ.1 2 3)) 2 6 (yad ((yw (yw σ 2 4 2) 2 5 (σ.1 2 3)).1 2 6) 1)) = _
        rw [el _ (by rw [yw_n (by omega), yw_n (by omega)])]
        exact g7
      · unfold yTl8
        rw [f8, ybz2, ycP_ne, decide_eq_true h3, cond_true]
        unfold f_X8_readLine_b197
        rw [p2]
        show f_X8_readLine_b201 N _ = _
        unfold f_X8_readLine_b201
        rw [g8]
      · rw [yw_n (by omega), yw_n (by omega), yw_n (by omega)]
      · rw [yw_n (by omega), yw_n (by omega), yw_n (by omega)]; exact Int.le_refl _
      · rw [yw_n (by omega), yw_n (by omega), yw_p] at z
        exact absurd z (by decide)
  · have b1 := B.1
    have b2 := B.2.1
    have n7 : ¬ σ.1 2 4 = 0 := by omega
    have E1 : yE (yw σ 2 6 (σ.1 2 6 + 1)) τ := yE_w7 (Or.inr ⟨B, T⟩) (by omega)
    obtain ⟨σ', τ', g7, g8, E2, k7, k8, mo, z1, z2, nb⟩ := p_next (N := N) hN E1
    obtain ⟨e1, e2⟩ := nb (by rw [yw_n (by omega)]; exact n7)
    subst e1
    subst e2
    refine ⟨_, _, ?_, x8_tlbad b2, E1, rfl, fun i k q => yw_n (by omega), yK8_r, ?_, yw_p, fun z => ?_⟩
    · have ns : f_X1_needStroke N σ = some (0, σ) := by
        unfold f_X1_needStroke
        by_cases h3 : σ.1 2 2 = 3
        · rw [ycP_eq, decide_eq_true h3, cond_true]
          rfl
        · rw [ycP_eq, decide_eq_false h3, cond_false, x1_cbad n7]
          rfl
      unfold yTl7
      rw [ns]
      show f_X1_readToken N (yw σ 2 6 (yad (σ.1 2 6) 1)) = _
      rw [el σ rfl]
      exact g7
    · rw [yw_n (by omega)]; exact Int.le_refl _
    · rw [yw_n (by omega)] at z
      exact absurd z n7
/-- a line, up to its stroke -/
def yLL (N : Nat) (σ τ : yS) (f7 f8 : Option (Int × yS)) : Prop := ∃ (r : Int) (σ' τ' : yS), f7 = some (r, σ') ∧ f8 = yTl8 N τ' ∧ yE σ' τ' ∧ yZ7 σ σ' ∧ yZ8 τ τ' ∧ σ'.1 2 6 = σ.1 2 6 ∧ (σ'.1 2 4 = 0 → yRD σ' τ' ∧ σ.1 2 1 ≤ σ'.1 2 1 ∧ (σ'.1 2 2 = 3 → σ.1 2 1 < σ'.1 2 1)) ∧ (¬ σ'.1 2 4 = 0 → yQ7 σ')
theorem x8_b156 {N : Nat} {τ τ1 : yS} {k s0 : Int} (h0 : 0 ≤ s0 ∧ s0 ≤ 1) (hn : f_X8_next N (yw τ 0 10 s0) = some (0, τ1)) : (0 < τ1.1 0 22 → f_X8_readLine_b156 N τ k s0 = yTl8 N τ1) ∧ (τ1.1 0 22 = 0 → ∀ r5 : Int × yS, f_X8_readLineOf N τ1 k = some r5 → f_X8_readLine_b156 N τ k s0 = yTl8 N r5.2) := by
  refine ⟨fun h => ?_, fun h r5 g => ?_⟩
  · rw [x8_tlbad h]
    unfold f_X8_readLine_b156
    rw [yb1_d, decide_eq_true h0, cond_true, hn]
    show (bif ycP .le (τ1.1 0 22) 0 then _ else some ((0 : Int), τ1)) = _
    rw [ycP_le, decide_eq_false (show ¬ τ1.1 0 22 ≤ 0 by omega), cond_false]
  · unfold f_X8_readLine_b156
    rw [yb1_d, decide_eq_true h0, cond_true, hn]
    show (bif ycP .le (τ1.1 0 22) 0 then _ else some ((0 : Int), τ1)) = _
    rw [ycP_le, decide_eq_true (show τ1.1 0 22 ≤ 0 by omega), cond_true, g]
    rfl
/-- a line whose fault is told at its first word -/
theorem p_lbad {N : Nat} (hN : 400 ≤ N) {σ τ : yS} {k s0 : Int} {f7 : Option (Int × yS)} (h0 : 0 ≤ s0 ∧ s0 ≤ 1) (B : yBd σ τ) (T : yTp σ τ) (F : yRB N σ f7) : yLL N σ τ f7 (f_X8_readLine_b156 N τ k s0) := by
  obtain ⟨r, σ', g, Z, Q⟩ := F
  have b2 := B.2.1
  have hn : f_X8_next N (yw τ 0 10 s0) = some (0, yw τ 0 10 s0) := by
    unfold f_X8_next
    rw [yw_n (by omega), ycP_le, decide_eq_false (show ¬ τ.1 0 22 ≤ 0 by omega), cond_false]
  have E : yE σ' (yw τ 0 10 s0) := by
    obtain ⟨b1, -, b3, b4, b5, b6, b7⟩ := B
    have z : ∀ b : Nat, b ≤ 5 → σ'.1 2 b = σ.1 2 b := fun b hb => Z.2 2 b (by omega) (by omega)
    have z3 : σ'.1 3 0 = σ.1 3 0 := Z.2 3 0 (by omega) (by omega)
    refine yE_w8 (Or.inr ⟨⟨by rw [z _ (by omega)]; exact b1, b2, by rw [z _ (by omega)]; exact b3, b4, b5, by rw [z _ (by omega), z _ (by omega), z3]; exact b6, by rw [z3]; exact b7⟩, ?_⟩) (by omega)
    obtain ⟨a0, a1, a2, a3⟩ := T
    refine ⟨by rw [z3]; exact a0, by rw [z3]; exact a1, by rw [z3]; exact a2, fun j hj => ?_⟩
    rw [z3] at hj
    rw [Z.2 4 j (by omega) (by omega)]
    exact a3 j hj
  have n7 : ¬ σ'.1 2 4 = 0 := by
    have := (yE_f E).1
    rw [yw_n (by omega)] at this
    omega
  exact ⟨r, σ', yw τ 0 10 s0, g, (x8_b156 h0 hn).1 (by rw [yw_n (by omega)]; exact b2), E, yZ7_b Z, yZ8_w yZ8_r (by omega), Z.2 2 6 (by omega) (by omega), fun z => absurd z n7, fun _ => Q⟩
/-- rest of a line's proof: from the last states on both sides -/
theorem yE_Q {σ τ : yS} (H : yE σ τ) (z : ¬ σ.1 2 4 = 0) : yBd σ τ ∧ yTp σ τ := by
  rcases H with ⟨⟨-, f7, -⟩, -⟩ | h
  · exact absurd f7 z
  · exact h
theorem yE_ok {σ τ : yS} (H : yE σ τ) (z : σ.1 2 4 = 0) : yLx σ τ ∧ yTk σ τ := by
  rcases H with h | ⟨⟨b1, b2, -⟩, -⟩
  · exact h
  · omega
theorem yB7_e {σ τ : yS} (H : yE σ τ) (z : ¬ σ.1 2 4 = 0) : yB7 σ := by
  obtain ⟨⟨b1, b2, b3, b4, b5, b6, b7⟩, T⟩ := yE_Q H z
  exact ⟨z, by omega, by omega, by omega⟩
theorem yQ7_f {σ σ' : yS} (Q : yQ7 σ) (r : σ'.2 = σ.2) (h : σ'.1 38 2 = σ.1 38 2 ∧ σ'.1 46 0 = σ.1 46 0 ∧ σ'.1 51 0 = σ.1 51 0 ∧ σ'.1 56 0 = σ.1 56 0) : yQ7 σ' := by
  obtain ⟨q1, q2, q3, q4⟩ := Q
  have t := q1
  unfold yTr at t
  refine ⟨by unfold yTr; rw [r]; exact q1, by rw [h.1]; exact q2, ?_, by rw [h.2.2.2]; exact q4⟩
  rw [r]
  rcases t with ⟨t, -⟩ | ⟨t, -⟩
  · rw [t] at q3 ⊢
    rw [show (38 + 8 : Nat) = 46 from rfl, h.2.1]; exact q3
  · rw [t] at q3 ⊢
    rw [show (38 + 13 : Nat) = 51 from rfl, h.2.2.1]; exact q3
theorem yE_zb {σ σ' τ : yS} (H : yE σ τ) (z : ¬ σ.1 2 4 = 0) (Z : yZB σ σ') : yE σ' τ := by
  obtain ⟨⟨b1, b2, b3, b4, b5, b6, b7⟩, T⟩ := yE_Q H z
  have y : ∀ b : Nat, b ≤ 5 → σ'.1 2 b = σ.1 2 b := fun b hb => Z.2 2 b (by omega) (by omega)
  have z3 : σ'.1 3 0 = σ.1 3 0 := Z.2 3 0 (by omega) (by omega)
  refine Or.inr ⟨⟨by rw [y _ (by omega)]; exact b1, b2, by rw [y _ (by omega)]; exact b3, b4, b5, by rw [y _ (by omega), y _ (by omega), z3]; exact b6, by rw [z3]; exact b7⟩, ?_⟩
  obtain ⟨a0, a1, a2, a3⟩ := T
  refine ⟨by rw [z3]; exact a0, by rw [z3]; exact a1, by rw [z3]; exact a2, fun j hj => ?_⟩
  rw [z3] at hj
  rw [Z.2 4 j (by omega) (by omega)]
  exact a3 j hj
/-- a line whose fault is found at its second token -/
theorem p_lfirst {N : Nat} {σ τ σ1 τ1 : yS} {k s0 : Int} {f7 : Option (Int × yS)} (h0 : 0 ≤ s0 ∧ s0 ≤ 1) (g8 : f_X8_next N (yw τ 0 10 s0) = some (0, τ1)) (E1 : yE σ1 τ1) (f1 : ¬ τ1.1 0 22 = 0) (F : yRB N σ1 f7) (Z7 : yZ7 σ σ1) (k8 : yK8 (yw τ 0 10 s0) τ1) (l6 : σ1.1 2 6 = σ.1 2 6) : yLL N σ τ f7 (f_X8_readLine_b156 N τ k s0) := by
  obtain ⟨r, σ', g, Z, Q⟩ := F
  have e := yE_f E1
  have n1 : ¬ σ1.1 2 4 = 0 := by omega
  have n7 : ¬ σ'.1 2 4 = 0 := by rw [Z.2 2 4 (by omega) (by omega)]; exact n1
  exact ⟨r, σ', τ1, g, (x8_b156 h0 g8).1 (by omega), yE_zb E1 n1 Z, yZ7_t Z7 (yZ7_b Z), yZ8_t (yZ8_w yZ8_r (by omega)) (yZ8_k k8), by rw [Z.2 2 6 (by omega) (by omega)]; exact l6, fun z => absurd z n7, fun _ => Q⟩
theorem x1_hsame {N : Nat} {σ σ1 : yS} (h : f_X1_readToken N σ = some (0, σ1)) (B : yB7 σ1) : f_X1_needHouse N σ = f_X1_needHouse N σ1 := by
  simp only [f_X1_needHouse, h, x1_tbad B]
theorem x1_msame {N : Nat} {σ σ1 : yS} {lo hi : Int} (h : f_X1_readToken N σ = some (0, σ1)) (B : yB7 σ1) : f_X1_needNumber N σ lo hi = f_X1_needNumber N σ1 lo hi := by
  simp only [f_X1_needNumber, h, x1_tbad B]
theorem p_lshape {N : Nat} (hN : 400 ≤ N) {σ τ : yS} {x : Int} (HH : yLx σ τ ∧ yTk σ τ) (R : yRD σ τ) (hx : x = 0 ∨ x = 1) (h10 : τ.1 0 10 = 0) : yLL N σ τ (f_X1_readShape N σ 38 x) (f_X8_readLine_b156 N τ (3 + x) 1) := by
  have E0 : yE (yw σ 2 7 1) (yw τ 0 10 1) := yE_w8 (yE_w7 (Or.inl HH) (by omega)) (by omega)
  have s27 : σ.1 2 7 = 0 := by rw [R.2.2.2.2.2.1.1]; exact h10
  obtain ⟨σ1, τ1, g7, g8, E1, k7, k8, mo1, z1, st1, nb1⟩ := p_next (N := N) hN E0
  obtain ⟨a, b, σ2, τ2, n7, n8, E2, j7, j8, ha, hb, ok, mo2⟩ := p_needNumber (N := N) hN (lo := 2) (hi := 7) g7 (by omega) E1
  have E3 : yE (yw (yw σ2 38 0 a) 38 1 x) τ2 := yE_w7 (yE_w7 E2 (by omega)) (by omega)
  obtain ⟨σ3, τ3, t7, t8, E4, i7, i8, mo3, z3, st3, nb3⟩ := p_next (N := N) hN E3
  have c7 : f_X1_readShape N σ 38 x = some (0, σ3) := by
    unfold f_X1_readShape
    rw [s27, ybz]
    simp only [f_X1_readShape_b16, n7, yb1_d, decide_eq_true (show 0 ≤ x ∧ x ≤ 1 by omega), cond_true, t7]
  have Z7 : yZ7 σ σ3 := yZ7_t (yZ7_w yZ7_r (by omega)) (yZ7_t (yZ7_k k7) (yZ7_t (yZ7_k j7) (yZ7_t (yZ7_w (yZ7_w yZ7_r (by omega)) (by omega)) (yZ7_k i7))))
  have m1 : (yw σ 2 7 1).1 2 1 = σ.1 2 1 := yw_n (by omega)
  have m3 : (yw (yw σ2 38 0 a) 38 1 x).1 2 1 = σ2.1 2 1 := by rw [yw_n (by omega), yw_n (by omega)]
  have m4 : (yw (yw σ2 38 0 a) 38 1 x).1 2 4 = σ2.1 2 4 := by rw [yw_n (by omega), yw_n (by omega)]
  have l6 : σ3.1 2 6 = σ.1 2 6 := by rw [i7.2 _ _ (by omega), yw_n (by omega), yw_n (by omega), j7.2 _ _ (by omega), k7.2 _ _ (by omega), yw_n (by omega)]
  by_cases f1 : τ1.1 0 22 = 0
  · have r8 : f_X8_readLineOf N τ1 (3 + x) = some (0, yw (yw τ3 0 8 b) 0 9 x) := by
      have rn : f_X8_readNumber N τ1 2 7 = some (b, τ3) := by
        simp only [f_X8_readNumber, n8, t8]
      unfold f_X8_readLineOf
      rcases hx with rfl | rfl
      · rw [yeq_d, decide_eq_true (show (3 : Int) + 0 = 3 by decide), cond_true, rn]
        show (bif ycP .ne (3 + 0) 4 then f_X8_readLineOf_b58 N (yw τ3 0 8 b) 0 else f_X8_readLineOf_b58 N (yw τ3 0 8 b) 1) = _
        rw [ycP_ne, decide_eq_true (by decide), cond_true]
        rfl
      · rw [yeq_d, decide_eq_false (show ¬ (3 : Int) + 1 = 3 by decide), cond_false, yeq_d, decide_eq_true (show (3 : Int) + 1 = 4 by decide), cond_true, rn]
        show (bif ycP .ne (3 + 1) 4 then f_X8_readLineOf_b58 N (yw τ3 0 8 b) 0 else f_X8_readLineOf_b58 N (yw τ3 0 8 b) 1) = _
        rw [ycP_ne, decide_eq_false (by decide), cond_false]
        rfl
    have E5 : yE σ3 (yw (yw τ3 0 8 b) 0 9 x) := yE_w8 (yE_w8 E4 (by omega)) (by omega)
    refine ⟨0, σ3, yw (yw τ3 0 8 b) 0 9 x, c7, (x8_b156 (by omega) g8).2 f1 _ r8, E5, Z7, yZ8_t (yZ8_w yZ8_r (by omega)) (yZ8_t (yZ8_k k8) (yZ8_t (yZ8_k j8) (yZ8_t (yZ8_k i8) (yZ8_w (yZ8_w yZ8_r (by omega)) (by omega))))), l6, fun z => ⟨?_, by omega, fun q => ?_⟩, fun z => ?_⟩
    · have z2 : σ2.1 2 4 = 0 := by rw [← m4]; exact z3 z
      obtain ⟨e1, e2, e3⟩ := ok z2
      subst e2
      subst e3
      have R0 := R
      obtain ⟨⟨q1, q2, q3, q4, q5, q6, q7⟩, -⟩ := R
      have w7 : ∀ i k : Nat, ¬ (i = 2 ∧ 1 ≤ k ∧ k ≤ 5) → ¬ (i = 2 ∧ k = 7) → ¬ (i = 38 ∧ k ≤ 1) → σ3.1 i k = σ.1 i k := fun i k x1 x2 x3 => by rw [i7.2 _ _ x1, yw_n (by omega), yw_n (by omega), k7.2 _ _ x1, yw_n (by omega)]
      have w8 : ∀ i k : Nat, ¬ (i = 0 ∧ 18 ≤ k ∧ k ≤ 23) → ¬ (i = 0 ∧ 8 ≤ k ∧ k ≤ 10) → (yw (yw τ3 0 8 b) 0 9 x).1 i k = τ.1 i k := fun i k x1 x2 => by rw [yw_n (by omega), yw_n (by omega), i8 _ _ x1, k8 _ _ x1, yw_n (by omega)]
      refine yRD_mk (σ := σ) (τ := τ) R0 ⟨?_, ?_, ?_, ?_, ?_, ?_, fun d hd => ?_⟩ (fun k => by rw [Z7.1]) (fun i k h => w7 _ _ (by omega) (by omega) (by omega)) (fun j => w8 _ _ (by omega) (by omega)) ⟨w8 _ _ (by omega) (by omega), w8 _ _ (by omega) (by omega)⟩ ?_ (fun k h => w7 _ _ (by omega) (by omega) (by omega)) (fun k => w8 _ _ (by omega) (by omega))
      · rw [i7.2 _ _ (by omega), yw_n (by omega), yw_p, yw_n (by omega), yw_p]; exact e1
      · rw [i7.2 _ _ (by omega), yw_p, yw_p]
      · rw [w7 _ _ (by omega) (by omega) (by omega), w8 _ _ (by omega) (by omega)]; exact q3
      · rw [yw_n (by omega), yw_p]; omega
      · rw [yw_p]; omega
      · rw [w8 _ _ (by omega) (by omega)]; exact q6
      · rw [w8 _ _ (by omega) (by omega)] at hd
        rw [w7 _ _ (by omega) (by omega) (by omega), w8 _ _ (by omega) (by omega)]
        exact q7 d hd
      · rw [i7.2 _ _ (by omega), yw_n (by omega), yw_n (by omega), k7.2 _ _ (by omega), yw_p, yw_n (by omega), yw_n (by omega), i8 _ _ (by omega), k8 _ _ (by omega), yw_p]
        decide
    · have := st3 z (by omega)
      omega
    · refine yQ7_f (yRD_Q R) Z7.1 ⟨?_, ?_, ?_, ?_⟩
      · rw [i7.2 _ _ (by omega), yw_n (by omega), yw_n (by omega), j7.2 _ _ (by omega), k7.2 _ _ (by omega), yw_n (by omega)]
      · rw [i7.2 _ _ (by omega), yw_n (by omega), yw_n (by omega), j7.2 _ _ (by omega), k7.2 _ _ (by omega), yw_n (by omega)]
      · rw [i7.2 _ _ (by omega), yw_n (by omega), yw_n (by omega), j7.2 _ _ (by omega), k7.2 _ _ (by omega), yw_n (by omega)]
      · rw [i7.2 _ _ (by omega), yw_n (by omega), yw_n (by omega), j7.2 _ _ (by omega), k7.2 _ _ (by omega), yw_n (by omega)]
  · have fe := yE_f E1
    have B1 : yB7 σ1 := yB7_e E1 (by omega)
    have Q1 : yQ7 σ1 := yQ7_f (yRD_Q R) (by rw [k7.1]; rfl) ⟨by rw [k7.2 _ _ (by omega), yw_n (by omega)], by rw [k7.2 _ _ (by omega), yw_n (by omega)], by rw [k7.2 _ _ (by omega), yw_n (by omega)], by rw [k7.2 _ _ (by omega), yw_n (by omega)]⟩
    have B2 : yB7 (yw (yw σ1 38 0 2) 38 1 x) := yB7_z (yZB_w (yZB_w yZB_r (by omega)) (by omega)) B1
    refine p_lfirst (by omega) g8 E1 f1 ⟨0, yw (yw σ1 38 0 2) 38 1 x, ?_, yZB_w (yZB_w yZB_r (by omega)) (by omega), yQ7_w (yQ7_w Q1 (by omega)) (by omega)⟩ (yZ7_t (yZ7_w yZ7_r (by omega)) (yZ7_k k7)) k8 (by rw [k7.2 _ _ (by omega), yw_n (by omega)])
    unfold f_X1_readShape
    rw [s27, ybz]
    simp only [f_X1_readShape_b16, x1_msame g7 B1, x1_mbad hN B1, yb1_d, decide_eq_true (show 0 ≤ x ∧ x ≤ 1 by omega), cond_true, x1_tbad B2]
