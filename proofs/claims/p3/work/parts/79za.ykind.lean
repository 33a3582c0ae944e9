theorem ybz {α : Type} {A B : α} : (bif ycP .eq 0 0 then A else B) = A := by
  rw [ycP_eq, decide_eq_true rfl, cond_true]
theorem ybo {α : Type} {A B : α} : (bif ycP .eq 1 0 then A else B) = B := by
  rw [ycP_eq, decide_eq_false (by decide), cond_false]
theorem ybz2 {α : Type} {A B : α} : (bif ycP .ne 0 0 then A else B) = B := by
  rw [ycP_ne, decide_eq_false (by decide), cond_false]
theorem ybo2 {α : Type} {A B : α} : (bif ycP .ne 1 0 then A else B) = A := by
  rw [ycP_ne, decide_eq_true (by decide), cond_true]
theorem yMt_c {g g' : Nat → Int} : ∀ (w : List Int) (s : Nat), (∀ i : Nat, s ≤ i → i < s + w.length → g i = g' i) → (yMt g w s ↔ yMt g' w s)
  | [], _, _ => Iff.rfl
  | c :: cs, s, h => by
    have h : ∀ i : Nat, s ≤ i → i < s + (cs.length + 1) → g i = g' i := h
    have ih := yMt_c (g := g) (g' := g') cs (s + 1) (fun i h1 h2 => h i (by omega) (by omega))
    unfold yMt
    rw [h s (by omega) (by omega), ih]
/-- a word asked for, where no fault is -/
theorem x1_nm {σ τ : yS} {s P : Nat} (H : yLx σ τ ∧ yTk σ τ) (hs : τ.1 0 19 = (s : Int)) (hP : τ.1 0 18 = (P : Int)) (w : List Int) : (τ.1 0 20 = 1 → yWd τ w s P → f_X1_isName w σ 2 = some (1, σ)) ∧ (¬ (τ.1 0 20 = 1 ∧ yWd τ w s P) → f_X1_isName w σ 2 = some (0, σ)) := by
  obtain ⟨⟨T, f7, f8, hap, hp0, hp1⟩, ⟨b, t, s0, t0, tz, tn, tv⟩⟩ := H
  have l160 := T.2.1
  have t17 := T.2.2.1
  obtain ⟨e, g, e01, ei⟩ := x1_isName (σ := σ) (s := s) (P := P) w (by omega) (by omega) (by omega) (by omega)
  have key : (σ.1 2 2 = 1 ∧ P = s + w.length ∧ yMt (fun i => σ.1 4 i) w s) ↔ (τ.1 0 20 = 1 ∧ yWd τ w s P) := by
    rw [t]
    unfold yWd
    refine ⟨fun ⟨q1, q2, q3⟩ => ⟨q1, q2, (yMt_c w s (fun i h1 h2 => (T.2.2.2 i (by omega)).1)).1 q3⟩, fun ⟨q1, q2, q3⟩ => ⟨q1, q2, (yMt_c w s (fun i h1 h2 => (T.2.2.2 i (by omega)).1)).2 q3⟩⟩
  refine ⟨fun q1 q2 => ?_, fun q => ?_⟩
  · rw [g, ei.2 (key.2 ⟨q1, q2⟩)]
  · rcases e01 with rfl | rfl
    · exact g
    · exact absurd (key.1 (ei.1 rfl)) q
/-- which kind the token names -/
theorem p_kind {N : Nat} {σ0 σ τ : yS} (hr : f_X1_readToken N σ0 = some (0, σ)) (H : yE σ τ) : ∃ (a b : Int) (σ' τ' : yS), f_X1_needKind N σ0 = some (a, σ') ∧ f_X8_readKind N τ = (match f_X8_next N τ' with
    | none => none
    | some r2 => some (b, r2.2)) ∧ yE σ' τ' ∧ yK7 σ σ' ∧ yK8 τ τ' ∧ (0 ≤ a ∧ a ≤ 4) ∧ (b = -4 ∨ (0 ≤ b ∧ b ≤ 4)) ∧ (σ'.1 2 4 = 0 → a = b ∧ σ' = σ ∧ τ' = τ) ∧ σ'.1 2 1 = σ.1 2 1 ∧ (¬ σ.1 2 4 = 0 → σ' = σ ∧ τ' = τ) := by
  rcases H with HH | ⟨B, T⟩
  · have H0 := HH
    obtain ⟨⟨T, f7, f8, hap, hp0, hp1⟩, ⟨b, t, s0, t0, tz, tn, tv⟩⟩ := H0
    have l160 := T.2.1
    have t17 := T.2.2.1
    obtain ⟨s, hs⟩ : ∃ s : Nat, τ.1 0 19 = (s : Int) := ⟨(τ.1 0 19).toNat, by omega⟩
    obtain ⟨P, hP⟩ : ∃ s : Nat, τ.1 0 18 = (s : Int) := ⟨(τ.1 0 18).toNat, by omega⟩
    have sP : s ≤ P := by omega
    have h2 : (P : Int) ≤ τ.1 0 17 := by omega
    have h3 : τ.1 0 17 ≤ 160 := by omega
    have good : ∀ k : Int, 0 ≤ k ∧ k ≤ 4 → f_X1_needKind N σ0 = some (k, σ) → f_X8_readKind N τ = (match f_X8_next N τ with
      | none => none
      | some r2 => some (k, r2.2)) → ∃ (a b : Int) (σ' τ' : yS), f_X1_needKind N σ0 = some (a, σ') ∧ f_X8_readKind N τ = (match f_X8_next N τ' with
      | none => none
      | some r2 => some (b, r2.2)) ∧ yE σ' τ' ∧ yK7 σ σ' ∧ yK8 τ τ' ∧ (0 ≤ a ∧ a ≤ 4) ∧ (b = -4 ∨ (0 ≤ b ∧ b ≤ 4)) ∧ (σ'.1 2 4 = 0 → a = b ∧ σ' = σ ∧ τ' = τ) ∧ σ'.1 2 1 = σ.1 2 1 ∧ (¬ σ.1 2 4 = 0 → σ' = σ ∧ τ' = τ) := fun k hk g7 g8 => ⟨k, k, σ, τ, g7, g8, Or.inl HH, yK7_r, yK8_r, hk, Or.inr hk, fun _ => ⟨rfl, rfl, rfl⟩, rfl, fun _ => ⟨rfl, rfl⟩⟩
    have bad : f_X1_needKind N σ0 = some (4, yw (yw σ 2 4 2) 2 5 (σ.1 2 3)) → f_X8_readKind N τ = f_X8_readKind_b24 N τ (-4) → ∃ (a b : Int) (σ' τ' : yS), f_X1_needKind N σ0 = some (a, σ') ∧ f_X8_readKind N τ = (match f_X8_next N τ' with
      | none => none
      | some r2 => some (b, r2.2)) ∧ yE σ' τ' ∧ yK7 σ σ' ∧ yK8 τ τ' ∧ (0 ≤ a ∧ a ≤ 4) ∧ (b = -4 ∨ (0 ≤ b ∧ b ≤ 4)) ∧ (σ'.1 2 4 = 0 → a = b ∧ σ' = σ ∧ τ' = τ) ∧ σ'.1 2 1 = σ.1 2 1 ∧ (¬ σ.1 2 4 = 0 → σ' = σ ∧ τ' = τ) := fun g7 g8 => by
      refine ⟨4, -4, _, yw (yw τ 0 22 2) 0 23 (τ.1 0 19), g7, ?_, (p_fail (N := N) HH (show (0 : Int) < 2 by decide)).2.2, yK7_w (yK7_w yK7_r (by omega)) (by omega), yK8_w (yK8_w yK8_r (by omega)) (by omega), by decide, Or.inl rfl, fun z => ?_, ?_, fun z => absurd f7 z⟩
      · rw [g8]
        unfold f_X8_readKind_b24
        rw [ycP_eq, decide_eq_true rfl, cond_true]
        unfold f_X8_readKind_b37
        rw [(p_fail (N := N) HH (show (0 : Int) < 2 by decide)).2.1]
        rfl
      · rw [yw_n (by omega), yw_p] at z
        exact absurd z (by decide)
      · rw [yw_n (by omega), yw_n (by omega)]
    by_cases h1 : τ.1 0 20 = 1
    · have r8 : f_X8_readKind N τ = (match f_X8_kindNow N τ with
          | none => none
          | some r3 => f_X8_readKind_b24 N r3.2 r3.1) := by
        unfold f_X8_readKind
        rw [f8, h1, ybz2, ycP_ne, decide_eq_false (by decide), cond_false]
        rfl
      have fin : ∀ k : Int, 0 ≤ k ∧ k ≤ 4 → f_X8_kindNow N τ = some (k, τ) → f_X8_readKind N τ = (match f_X8_next N τ with
          | none => none
          | some r2 => some (k, r2.2)) := fun k hk q => by
        rw [r8, q]
        show f_X8_readKind_b24 N τ k = _
        unfold f_X8_readKind_b24
        rw [ycP_eq, decide_eq_false (show ¬ k = -4 by omega), cond_false]
        unfold f_X8_readKind_b37
        rw [x8_ngood]
        rfl
      have n1 := x1_nm HH hs hP [112, 108, 97, 105, 110]
      have n2 := x1_nm HH hs hP [108, 101, 102, 116]
      have n3 := x1_nm HH hs hP [100, 114, 117, 110, 107]
      have n4 := x1_nm HH hs hP [106, 111, 105, 110, 116]
      have n5 := x1_nm HH hs hP [116, 104, 114, 101, 97, 116]
      have k1 := x8_w5 (N := N) (a := 112) (b := 108) (c := 97) (d := 105) (e := 110) hs hP sP h2 h3 (by decide) (fun t => f_X8_kindNow_b28 N t) (fun t => some (0, t))
      have k2 := x8_w4 (N := N) (a := 108) (b := 101) (c := 102) (d := 116) hs hP sP h2 h3 (fun t => f_X8_kindNow_b55 N t) (fun t => some (1, t))
      have k3 := x8_w5 (N := N) (a := 100) (b := 114) (c := 117) (d := 110) (e := 107) hs hP sP h2 h3 (by decide) (fun t => f_X8_kindNow_b83 N t) (fun t => some (2, t))
      have k4 := x8_w5 (N := N) (a := 106) (b := 111) (c := 105) (d := 110) (e := 116) hs hP sP h2 h3 (by decide) (fun t => f_X8_kindNow_b113 N t) (fun t => f_X8_kindNow_b147 N t 3)
      have k5 := x8_w6 (N := N) (a := 116) (b := 104) (c := 114) (d := 101) (e := 97) (f := 116) hs hP sP h2 h3 (by decide) (by decide) (fun t => f_X8_kindNow_b145 N t) (fun t => f_X8_kindNow_b147 N t 4)
      have nt : ∀ w : List Int, ¬ yWd τ w s P → ¬ (τ.1 0 20 = 1 ∧ yWd τ w s P) := fun w q r => q r.2
      by_cases w1 : yWd τ [112, 108, 97, 105, 110] s P
      · refine good 0 (by decide) ?_ (fin 0 (by decide) (k1.1 w1))
        unfold f_X1_needKind
        rw [hr]
        simp only [n1.1 h1 w1, ybo]
      have a1 := n1.2 (nt _ w1)
      have b1 : f_X8_kindNow N τ = f_X8_kindNow_b28 N τ := k1.2 w1
      by_cases w2 : yWd τ [108, 101, 102, 116] s P
      · refine good 1 (by decide) ?_ (fin 1 (by decide) (b1.trans (k2.1 w2)))
        unfold f_X1_needKind
        rw [hr]
        simp only [a1, n2.1 h1 w2, ybz, ybo]
      have a2 := n2.2 (nt _ w2)
      have b2 : f_X8_kindNow N τ = f_X8_kindNow_b55 N τ := b1.trans (k2.2 w2)
      by_cases w3 : yWd τ [100, 114, 117, 110, 107] s P
      · refine good 2 (by decide) ?_ (fin 2 (by decide) (b2.trans (k3.1 w3)))
        unfold f_X1_needKind
        rw [hr]
        simp only [a1, a2, n3.1 h1 w3, ybz, ybo]
      have a3 := n3.2 (nt _ w3)
      have b3 : f_X8_kindNow N τ = f_X8_kindNow_b83 N τ := b2.trans (k3.2 w3)
      by_cases w4 : yWd τ [106, 111, 105, 110, 116] s P
      · refine good 3 (by decide) ?_ (fin 3 (by decide) (b3.trans (k4.1 w4)))
        unfold f_X1_needKind
        rw [hr]
        simp only [a1, a2, a3, n4.1 h1 w4, ybz, ybo]
      have a4 := n4.2 (nt _ w4)
      have b4 : f_X8_kindNow N τ = f_X8_kindNow_b113 N τ := b3.trans (k4.2 w4)
      by_cases w5 : yWd τ [116, 104, 114, 101, 97, 116] s P
      · refine good 4 (by decide) ?_ (fin 4 (by decide) (b4.trans (k5.1 w5)))
        unfold f_X1_needKind
        rw [hr]
        simp only [a1, a2, a3, a4, n5.1 h1 w5, ybz, ybo2, f_X1_needKind_b66]
      have a5 := n5.2 (nt _ w5)
      have b5 : f_X8_kindNow N τ = f_X8_kindNow_b145 N τ := b4.trans (k5.2 w5)
      refine bad ?_ ?_
      · unfold f_X1_needKind
        rw [hr]
        simp only [a1, a2, a3, a4, a5, ybz, ybz2, (p_fail (N := N) HH (show (0 : Int) < 2 by decide)).1, f_X1_needKind_b66]
      · rw [r8, b5]
        rfl
    · have z : ∀ w : List Int, f_X1_isName w σ 2 = some (0, σ) := fun w => (x1_nm HH hs hP w).2 (fun q => h1 q.1)
      refine bad ?_ ?_
      · unfold f_X1_needKind
        rw [hr]
        simp only [z, ybz, ybz2, (p_fail (N := N) HH (show (0 : Int) < 2 by decide)).1, f_X1_needKind_b66]
      · unfold f_X8_readKind
        rw [f8, ybz2, ycP_ne, decide_eq_true h1, cond_true]
        rfl
  · have b1 := B.1
    have b2 := B.2.1
    have b6 := B.2.2.2.2.2.1
    have n7 : ¬ σ.1 2 4 = 0 := by omega
    have n8 : ¬ τ.1 0 22 = 0 := by omega
    have l160 := T.2.1
    obtain ⟨s, hs⟩ : ∃ s : Nat, σ.1 2 3 = (s : Int) := ⟨(σ.1 2 3).toNat, by omega⟩
    obtain ⟨P, hP⟩ : ∃ s : Nat, σ.1 2 1 = (s : Int) := ⟨(σ.1 2 1).toNat, by omega⟩
    have nm : ∀ w : List Int, f_X1_isName w σ 2 = some (0, σ) ∨ f_X1_isName w σ 2 = some (1, σ) := fun w => by
      obtain ⟨e, g, e01, -⟩ := x1_isName (σ := σ) (s := s) (P := P) w hs hP (by omega) (by omega)
      rcases e01 with rfl | rfl
      · exact Or.inl g
      · exact Or.inr g
    have g8 : f_X8_readKind N τ = (match f_X8_next N τ with
        | none => none
        | some r2 => some (-4, r2.2)) := by
      unfold f_X8_readKind
      rw [ycP_ne, decide_eq_true n8, cond_true]
      unfold f_X8_readKind_b22 f_X8_readKind_b24
      rw [ycP_eq, decide_eq_true rfl, cond_true]
      unfold f_X8_readKind_b37
      rw [x8_nbad n8]
      rfl
    have fin : ∀ k : Int, 0 ≤ k ∧ k ≤ 4 → f_X1_needKind N σ0 = some (k, σ) → ∃ (a b : Int) (σ' τ' : yS), f_X1_needKind N σ0 = some (a, σ') ∧ f_X8_readKind N τ = (match f_X8_next N τ' with
      | none => none
      | some r2 => some (b, r2.2)) ∧ yE σ' τ' ∧ yK7 σ σ' ∧ yK8 τ τ' ∧ (0 ≤ a ∧ a ≤ 4) ∧ (b = -4 ∨ (0 ≤ b ∧ b ≤ 4)) ∧ (σ'.1 2 4 = 0 → a = b ∧ σ' = σ ∧ τ' = τ) ∧ σ'.1 2 1 = σ.1 2 1 ∧ (¬ σ.1 2 4 = 0 → σ' = σ ∧ τ' = τ) := fun k hk g7 => ⟨k, -4, σ, τ, g7, g8, Or.inr ⟨B, T⟩, yK7_r, yK8_r, hk, Or.inl rfl, fun z => absurd z n7, rfl, fun _ => ⟨rfl, rfl⟩⟩
    rcases nm [112, 108, 97, 105, 110] with a1 | a1
    · rcases nm [108, 101, 102, 116] with a2 | a2
      · rcases nm [100, 114, 117, 110, 107] with a3 | a3
        · rcases nm [106, 111, 105, 110, 116] with a4 | a4
          · rcases nm [116, 104, 114, 101, 97, 116] with a5 | a5
            · refine fin 4 (by decide) ?_
              unfold f_X1_needKind
              rw [hr]
              simp only [a1, a2, a3, a4, a5, ybz, ybz2, x1_cbad n7, f_X1_needKind_b66]
            · refine fin 4 (by decide) ?_
              unfold f_X1_needKind
              rw [hr]
              simp only [a1, a2, a3, a4, a5, ybz, ybo2, f_X1_needKind_b66]
          · refine fin 3 (by decide) ?_
            unfold f_X1_needKind
            rw [hr]
            simp only [a1, a2, a3, a4, ybz, ybo]
        · refine fin 2 (by decide) ?_
          unfold f_X1_needKind
          rw [hr]
          simp only [a1, a2, a3, ybz, ybo]
      · refine fin 1 (by decide) ?_
        unfold f_X1_needKind
        rw [hr]
        simp only [a1, a2, ybz, ybo]
    · refine fin 0 (by decide) ?_
      unfold f_X1_needKind
      rw [hr]
      simp only [a1, ybo]
