/-- whether some vow walks for ever -/
theorem p_has_l {N : Nat} (hN : 132 ≤ N) {σ τ : yS} {H L S : Nat} (HR : yRR σ τ) (hH : τ.1 0 3 = (H : Int)) (hL : L < 2 ^ H) (hS : τ.1 1 77 = (S : Int)) (h10 : S ≤ 10) : ∀ (c m q i A : Nat), i + c = S → A < 2 ^ i → ∃ A' : Nat, f_X8_endless_b4 N (q + c + 1) τ L A i = some ((A' : Int), τ) ∧ (¬ A = 0 → ¬ A' = 0) ∧ (A = 0 → f_X4_hasEndless_b2 N (m + c + 1) σ 17 L i = some (if A' = 0 then 0 else 1, σ)) ∧ (A = 0 → L = 2 ^ H - 1 → A' = 0)
  | 0, m, q, i, A, hi, hA => by
    have t3 : σ.1 (σ.2 17 11) 0 = τ.1 1 77 := HR.1.2.2.2.1.2.2.1.1
    refine ⟨A, ?_, fun h => h, fun h => ?_, fun h _ => h⟩
    · rw [q_X8_endless_b4, hS]
      simp [ycP_ge, show (S : Int) ≤ (i : Int) by omega]
    · rw [q_X4_hasEndless_b2, t3, hS]
      simp [ycP_ge, show (S : Int) ≤ (i : Int) by omega, h]
  | c + 1, m, q, i, A, hi, hA => by
    have t3 : σ.1 (σ.2 17 11) 0 = τ.1 1 77 := HR.1.2.2.2.1.2.2.1.1
    have e3 : yad (i : Int) 1 = ((i + 1 : Nat) : Int) := by rw [yad_e (by omega) (by omega)]; omega
    obtain ⟨e, he, g7, g8, ez⟩ := p_endl (N := N) hN (i := i) HR hH hL (by omega)
    have pw : (2 : Nat) ^ i ≤ 2 ^ 10 := Nat.pow_le_pow_right (by omega) (by omega)
    have ev := yev10 ⟨i, by omega⟩ ⟨A, by omega⟩ hA
    dsimp only at ev
    rcases he with rfl | rfl
    · have p2 : A < 2 ^ (i + 1) := Nat.lt_trans hA (Nat.pow_lt_pow_right (by omega) (by omega))
      obtain ⟨A', i8, j1, j2, j3⟩ := p_has_l hN HR hH hL hS h10 c m q (i + 1) A (by omega) p2
      refine ⟨A', ?_, j1, fun h => ?_, j3⟩
      · rw [show q + (c + 1) + 1 = (q + c + 1) + 1 by omega, q_X8_endless_b4, hS]
        simp only [ycP_ge, decide_eq_false (show ¬ (S : Int) ≤ (i : Int) by omega), cond_false, g8, x8_flag (show (0 : Int) ≤ 0 ∧ (0 : Int) ≤ 1 by omega), ev.2.1, e3, i8]
      · rw [show m + (c + 1) + 1 = (m + c + 1) + 1 by omega, q_X4_hasEndless_b2, t3, hS]
        simp only [ycP_ge, ycP_eq, decide_eq_false (show ¬ (S : Int) ≤ (i : Int) by omega), cond_false, g7, decide_true, cond_true, e3]
        exact j2 h
    · obtain ⟨B, hB⟩ : ∃ B : Nat, yor (A : Int) (ysl 1 (i : Int)) = (B : Int) := ⟨(yor (A : Int) (ysl 1 (i : Int))).toNat, by omega⟩
      rw [hB] at ev
      have p2 : B < 2 ^ (i + 1) := by omega
      obtain ⟨A', i8, j1, j2, j3⟩ := p_has_l hN HR hH hL hS h10 c m q (i + 1) B (by omega) p2
      have nz := j1 (by omega)
      refine ⟨A', ?_, fun _ => nz, fun h => ?_, fun _ hl => ?_⟩
      · rw [show q + (c + 1) + 1 = (q + c + 1) + 1 by omega, q_X8_endless_b4, hS]
        simp only [ycP_ge, decide_eq_false (show ¬ (S : Int) ≤ (i : Int) by omega), cond_false, g8, x8_flag (show (0 : Int) ≤ 1 ∧ (1 : Int) ≤ 1 by omega), hB, e3, i8]
      · rw [show m + (c + 1) + 1 = (m + c + 1) + 1 by omega, q_X4_hasEndless_b2, t3, hS, if_neg nz]
        simp only [ycP_ge, ycP_eq, decide_eq_false (show ¬ (S : Int) ≤ (i : Int) by omega), cond_false, g7, decide_eq_false (show ¬ (1 : Int) = 0 by omega)]
      · have := ez hl
        omega
theorem p_has {N : Nat} (hN : 132 ≤ N) {σ τ : yS} {H L : Nat} (HR : yRR σ τ) (hH : τ.1 0 3 = (H : Int)) (hL : L < 2 ^ H) : ∃ A : Nat, f_X8_endless N τ L = some ((A : Int), τ) ∧ f_X4_hasEndless N σ 17 L = some (if A = 0 then 0 else 1, σ) ∧ (L = 2 ^ H - 1 → A = 0) := by
  have g2 : 0 ≤ τ.1 1 77 ∧ τ.1 1 77 ≤ 10 := HR.1.2.2.2.2.2.2.1
  obtain ⟨S, hS⟩ : ∃ m : Nat, τ.1 1 77 = (m : Int) := ⟨(τ.1 1 77).toNat, by omega⟩
  obtain ⟨A, g8, -, g7, z⟩ := p_has_l (N := N) hN HR hH hL hS (by omega) S (N - S - 1) (N - S - 1) 0 0 (by omega) (by omega)
  have g7 := g7 rfl
  rw [show N - S - 1 + S + 1 = N by omega, show ((0 : Nat) : Int) = 0 from rfl] at g7 g8
  exact ⟨A, g8, g7, z rfl⟩
theorem ystN : ∀ a : Fin 128, ∀ b : Fin 128, yan ((a.val : Nat) : Int) ((b.val : Nat) : Int) = ((a.val &&& b.val : Nat) : Int) := by decide +kernel
theorem ybtN : ∀ a : Fin 128, 0 ≤ ybt ((a.val : Nat) : Int) ∧ ybt ((a.val : Nat) : Int) ≤ 7 := by decide +kernel
theorem yslN : ∀ H : Fin 8, ysl 1 ((H.val : Nat) : Int) = ((2 ^ H.val : Nat) : Int) := by decide +kernel
theorem ycmp : ∀ H : Fin 8, ∀ L : Fin 128, L.val < 2 ^ H.val → ∃ C : Fin 128, yan (ysu (ysl 1 ((H.val : Nat) : Int)) 1) (yxo ((L.val : Nat) : Int) (-1)) = ((C.val : Nat) : Int) ∧ C.val < 2 ^ H.val ∧ C.val &&& L.val = 0 ∧ L.val ||| C.val = 2 ^ H.val - 1 := by
  have q : ∀ H : Fin 8, ∀ L : Fin 128, L.val < 2 ^ H.val → (yan (ysu (ysl 1 ((H.val : Nat) : Int)) 1) (yxo ((L.val : Nat) : Int) (-1)) = (((2 ^ H.val - 1) ^^^ L.val : Nat) : Int) ∧ ((2 ^ H.val - 1) ^^^ L.val) < 2 ^ H.val ∧ ((2 ^ H.val - 1) ^^^ L.val) &&& L.val = 0 ∧ L.val ||| ((2 ^ H.val - 1) ^^^ L.val) = 2 ^ H.val - 1) := by decide +kernel
  intro H L h
  have p := q H L h
  have pw : (2 : Nat) ^ H.val ≤ 128 := Nat.pow_le_pow_right (n := 2) (by omega) (show H.val ≤ 7 by omega)
  exact ⟨⟨(2 ^ H.val - 1) ^^^ L.val, by omega⟩, p⟩
/-- the loop of stop: not yet found, or found the same -/
theorem p_stop_l {N : Nat} (hN : 132 ≤ N) {σ τ : yS} {H L C : Nat} {w : Int} (HR : yRR σ τ) (hH : τ.1 0 3 = (H : Int)) (hL : L < 2 ^ H) (h6 : σ.1 17 6 = (L : Int)) (h7 : H ≤ 7) (c1 : C < 2 ^ H) (c2 : C &&& L = 0) (c3 : L ||| C = 2 ^ H - 1) : ∀ (c m q s : Nat) (l7 f7 l8 f8 : Int), s + c = 2 ^ H → ((l7 = l8 ∧ f7 = f8 ∧ f7 = ybt l7 ∧ 0 ≤ l7 ∧ l7 < 128) ∨ (s ≤ C ∧ f7 = 8 ∧ f8 = 1000000)) → ∃ a : Int, f_X7_stop_b39 N (m + c + 1) σ w l7 f7 s = some (a, σ) ∧ f_X8_stop_b27 N (q + c + 1) τ w L f8 l8 s = some (a, τ)
  | 0, m, q, s, l7, f7, l8, f8, hs, hf => by
    have e0 := HR.1.2.2.1.1
    have y := yslN ⟨H, by omega⟩
    dsimp only at y
    have hle : ((2 ^ H : Nat) : Int) ≤ (s : Int) := by omega
    rcases hf with ⟨rfl, rfl, h1, h2⟩ | ⟨h1, -, -⟩
    · by_cases hw : w = 0
      · refine ⟨f7, ?_, ?_⟩
        · rw [q_X7_stop_b39, e0, hH, y]
          simp only [ycP_ge, ycP_ne, decide_eq_true hle, cond_true, hw, not_true_eq_false, decide_false, cond_false, x7_bits7 h2, f_X7_stop_b134, h1]
        · rw [q_X8_stop_b27, hH, y]
          simp only [ycP_ge, ycP_ne, decide_eq_true hle, cond_true, hw, not_true_eq_false, decide_false, cond_false, f_X8_stop_b117]
      · refine ⟨l7, ?_, ?_⟩
        · rw [q_X7_stop_b39, e0, hH, y]
          simp only [ycP_ge, ycP_ne, decide_eq_true hle, cond_true, hw, not_false_eq_true, decide_true, f_X7_stop_b134]
        · rw [q_X8_stop_b27, hH, y]
          simp only [ycP_ge, ycP_ne, decide_eq_true hle, cond_true, hw, not_false_eq_true, decide_true, f_X8_stop_b117]
    · omega
  | c + 1, m, q, s, l7, f7, l8, f8, hs, hf => by
    have e0 := HR.1.2.2.1.1
    have y := yslN ⟨H, by omega⟩
    dsimp only at y
    have pw : (2 : Nat) ^ H ≤ 128 := Nat.pow_le_pow_right (n := 2) (by omega) h7
    have hle : ¬ ((2 ^ H : Nat) : Int) ≤ (s : Int) := by omega
    have es : yad (s : Int) 1 = ((s + 1 : Nat) : Int) := by rw [yad_e (by omega) (by omega)]; omega
    have an := ystN ⟨s, by omega⟩ ⟨L, by omega⟩
    have bs := ybtN ⟨s, by omega⟩
    have b7 := x7_bits7 (N := N) (σ := σ) (x := (s : Int)) (by omega)
    have b8 := x8_bits (N := N) (by omega) (τ := τ) (x := (s : Int))
    have oN := yorN ⟨L, by omega⟩ ⟨s, by omega⟩
    dsimp only at an bs oN
    have lo : L ||| s < 2 ^ H := Nat.or_lt_two_pow hL (by omega)
    obtain ⟨A, a8, a7, az⟩ := p_has (N := N) hN (L := L ||| s) HR hH lo
    rw [show m + (c + 1) + 1 = (m + c + 1) + 1 by omega, show q + (c + 1) + 1 = (q + c + 1) + 1 by omega, q_X7_stop_b39, q_X8_stop_b27, e0, hH, y, h6, an]
    simp only [ycP_ge, ycP_ne, ycP_eq, decide_eq_false hle, cond_false, b7, b8, f_X7_stop_b79, f_X7_stop_b80, f_X7_stop_b116, f_X8_stop_b69, f_X8_stop_b70, f_X8_stop_b84, f_X8_stop_b100, h6, oN, a7, a8, es, decide_true, cond_true, decide_eq_false (show ¬ (1 : Int) = 0 by omega)]
    have keep : (s = C → ((l7 = l8 ∧ f7 = f8 ∧ f7 = ybt l7 ∧ 0 ≤ l7 ∧ l7 < 128))) → ∃ a : Int, f_X7_stop_b39 N (m + c + 1) σ w l7 f7 ((s + 1 : Nat) : Int) = some (a, σ) ∧ f_X8_stop_b27 N (q + c + 1) τ w L f8 l8 ((s + 1 : Nat) : Int) = some (a, τ) := fun hC =>
      p_stop_l hN HR hH hL h6 h7 c1 c2 c3 c m q (s + 1) l7 f7 l8 f8 (by omega) (by
        by_cases e : s = C
        · exact Or.inl (hC e)
        · rcases hf with h | ⟨h1, h2, h3⟩
          · exact Or.inl h
          · exact Or.inr ⟨by omega, h2, h3⟩)
    by_cases hz : s &&& L = 0
    · have dz : decide (¬ ((s &&& L : Nat) : Int) = 0) = false := decide_eq_false (by omega)
      simp only [dz, cond_false]
      have cmp : (f7 ≤ ybt (s : Int)) ↔ (f8 ≤ ybt (s : Int)) := by
        rcases hf with ⟨-, h, -⟩ | ⟨-, h2, h3⟩
        · rw [h]
        · omega
      by_cases hb : f7 ≤ ybt (s : Int)
      · simp only [decide_eq_true hb, decide_eq_true (cmp.1 hb), cond_true]
        exact keep (fun e => by
          rcases hf with h | ⟨h1, h2, h3⟩
          · exact h
          · omega)
      · simp only [decide_eq_false hb, decide_eq_false (fun x => hb (cmp.2 x)), cond_false]
        by_cases hA : A = 0
        · subst hA
          simp only [if_true, not_true_eq_false, decide_false, cond_false, show decide (¬ ((0 : Nat) : Int) = 0) = false from rfl]
          exact p_stop_l hN HR hH hL h6 h7 c1 c2 c3 c m q (s + 1) (s : Int) (ybt (s : Int)) (s : Int) (ybt (s : Int)) (by omega) (Or.inl ⟨rfl, rfl, rfl, by omega, by omega⟩)
        · have dA : decide (¬ ((A : Nat) : Int) = 0) = true := decide_eq_true (by omega)
          simp only [if_neg hA, dA, cond_true, decide_eq_true (show ¬ (1 : Int) = 0 by omega)]
          exact keep (fun e => by
            subst e
            exact absurd (az c3) hA)
    · have dz : decide (¬ ((s &&& L : Nat) : Int) = 0) = true := decide_eq_true (by omega)
      simp only [dz, cond_true]
      exact keep (fun e => by
        subst e
        exact absurd c2 hz)
theorem P_stop {N : Nat} (hN : 1000 ≤ N) {σ τ : yS} {w : Int} (HR : yRR σ τ) : ∃ (a : Int) (σ' τ' : yS), f_X7_stop N σ w = some (a, σ') ∧ f_X8_stop N τ w = some (a, τ') ∧ yRR σ' τ' := by
  obtain ⟨e0, e1, e2, b0, b1, b2, hc⟩ := HR.1.2.2.1
  obtain ⟨H, hH⟩ : ∃ m : Nat, τ.1 0 3 = (m : Int) := ⟨(τ.1 0 3).toNat, by omega⟩
  obtain ⟨L, h6, hL⟩ := yL_b HR hH
  have pw : (2 : Nat) ^ H ≤ 128 := Nat.pow_le_pow_right (n := 2) (by omega) (show H ≤ 7 by omega)
  obtain ⟨C, c0, c1, c2, c3⟩ := ycmp ⟨H, by omega⟩ ⟨L, by omega⟩ hL
  dsimp only at c0 c1 c2 c3
  have lw := x8_law (N := N) (by omega) HR
  rw [h6] at lw
  simp only [f_X7_stop, f_X8_stop, x7_within, x8_in, ycP_ne, e0, hH, h6, c0]
  by_cases hw : 0 ≤ w ∧ w ≤ 1
  · obtain ⟨a, g7, g8⟩ := p_stop_l (N := N) (by omega) (w := w) (C := C.val) HR hH hL h6 (by omega) c1 c2 c3 (2 ^ H) (N - 2 ^ H - 1) (N - 2 ^ H - 1) 0 ((C.val : Nat) : Int) 8 0 1000000 (by omega) (Or.inr ⟨by omega, rfl, rfl⟩)
    rw [show N - 2 ^ H - 1 + 2 ^ H + 1 = N by omega, show ((0 : Nat) : Int) = 0 from rfl] at g7 g8
    refine ⟨a, σ, τ, ?_, ?_, HR⟩
    · simp [hw, g7]
    · simp [hw, lw, g8]
  · exact ⟨-1, σ, τ, by simp [hw], by simp [hw], HR⟩
