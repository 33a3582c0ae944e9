theorem yw_c {σ : yS} {i k i' k' : Nat} {a b : Int} (h : i ≠ i') : yw (yw σ i k a) i' k' b = yw (yw σ i' k' b) i k a := by
  refine Prod.ext ?_ rfl
  funext x y
  simp only [yw_1]
  by_cases h1 : x = i
  · have h2 : ¬ x = i' := by omega
    simp [h2]
  · simp [h1]
noncomputable def ybt (x : Int) : Int := yad (yad (yad (yad (yad (yad (yad 0 (yan (ysr x 0) 1)) (yan (ysr x 1) 1)) (yan (ysr x 2) 1)) (yan (ysr x 3) 1)) (yan (ysr x 4) 1)) (yan (ysr x 5) 1)) (yan (ysr x 6) 1)
theorem x8_bits_s (N n : Nat) (τ : yS) (x a i : Int) (h : i < 7) : f_X8_bitsOf_b4 N (n + 1) τ x a i = f_X8_bitsOf_b4 N n τ x (yad a (yan (ysr x i) 1)) (yad i 1) := by
  rw [q_X8_bitsOf_b4]
  simp [ycP_ge, show ¬ 7 ≤ i by omega]
theorem x8_bits {N : Nat} (h8 : 8 ≤ N) {τ : yS} {x : Int} : f_X8_bitsOf N τ x = some (ybt x, τ) := by
  obtain ⟨n, hn⟩ : ∃ n, N = n + 8 := ⟨N - 8, by omega⟩
  have q : f_X8_bitsOf_b4 N (n + 8) τ x 0 0 = some (ybt x, τ) := by
    rw [x8_bits_s N (n + 7) τ x _ 0 (by omega), show yad 0 1 = 1 by decide +kernel, x8_bits_s N (n + 6) τ x _ 1 (by omega), show yad 1 1 = 2 by decide +kernel, x8_bits_s N (n + 5) τ x _ 2 (by omega), show yad 2 1 = 3 by decide +kernel, x8_bits_s N (n + 4) τ x _ 3 (by omega), show yad 3 1 = 4 by decide +kernel, x8_bits_s N (n + 3) τ x _ 4 (by omega), show yad 4 1 = 5 by decide +kernel, x8_bits_s N (n + 2) τ x _ 5 (by omega), show yad 5 1 = 6 by decide +kernel, x8_bits_s N (n + 1) τ x _ 6 (by omega), show yad 6 1 = 7 by decide +kernel, q_X8_bitsOf_b4]
    simp [ycP_ge, ybt]
  rw [← hn] at q
  exact q
theorem ybc5 : ∀ S : Fin 32, (f_J6_bitCount_0f7a4 0 (fun _ _ => 0, fun _ _ => 0) ((S.val : Nat) : Int)).map Prod.fst = some (ybt ((S.val : Nat) : Int)) := by decide +kernel
theorem x7_bits {N : Nat} {σ : yS} {x : Int} (h : 0 ≤ x ∧ x < 32) : f_J6_bitCount_0f7a4 N σ x = some (ybt x, σ) := by
  have q := ybc5 ⟨x.toNat, by omega⟩
  have e1 : ((x.toNat : Nat) : Int) = x := by omega
  simp only [e1, f_J6_bitCount_0f7a4, Option.map_some, Option.some.injEq] at q
  simp only [f_J6_bitCount_0f7a4, q]
theorem p_move {N : Nat} (h8 : 8 ≤ N) {σ τ : yS} {h k : Int} (H : yRN σ τ) : ∃ (a : Int) (σ' τ' : yS), f_X7_move N σ h k = some (a, σ') ∧ f_X8_move N τ h k = some (a, τ') ∧ yRN σ' τ' ∧ yFs σ σ' ∧ yFo τ τ' := by
  have H0 := H
  obtain ⟨-, -, ⟨e0, e1, e2, b0, b1, b2, hc⟩, ⟨t1, -⟩, ⟨-, g1, -⟩⟩ := H0
  simp only [f_X7_move, f_X7_move_b27, f_X4_changeHouses, f_X4_changeHouses_b31, f_X8_move, f_X8_move_b21, f_X8_moves, f_X8_swaps, x8_bits h8, x4_isHouse (show 2 ≤ σ.1 17 0 ∧ σ.1 17 0 ≤ 7 by rw [e0]; exact b0), x8_isHouse b0, ycP_eq, ycP_ne, yin_d, e0]
  by_cases hh : 0 ≤ h ∧ h < τ.1 0 3
  · by_cases hk : 0 ≤ k ∧ k < τ.1 0 3
    · by_cases hq : h = k
      · exact ⟨-1, σ, τ, by simp [hh, hk, hq], by simp [hh, hk, hq], H, yFs_r, yFo_r⟩
      · obtain ⟨n, rfl⟩ : ∃ n : Nat, h = (n : Int) := ⟨h.toNat, by omega⟩
        obtain ⟨m, rfl⟩ : ∃ m : Nat, k = (m : Int) := ⟨k.toNat, by omega⟩
        have hn : n < 7 := by omega
        have hm : m < 7 := by omega
        have hnm : ¬ n = m := by omega
        have p1 : σ.1 19 n = τ.1 1 n := (t1 n hn).1
        have p2 : σ.1 19 m = τ.1 1 m := (t1 m hm).1
        have q1 : σ.1 20 n = τ.1 1 (7 + n) := (t1 n hn).2.1
        have q2 : σ.1 20 m = τ.1 1 (7 + m) := (t1 m hm).2.1
        have r1 : 0 ≤ τ.1 1 (7 + n) ∧ τ.1 1 (7 + n) < 32 := (g1 n hn).1
        have r2 : 0 ≤ τ.1 1 (7 + m) ∧ τ.1 1 (7 + m) < 32 := (g1 m hm).1
        have a1 : yad 7 (n : Int) = 7 + (n : Int) := yad_e (by omega) (by omega)
        have a2 : yad 7 (m : Int) = 7 + (m : Int) := yad_e (by omega) (by omega)
        have a3 : yad 0 (n : Int) = (n : Int) := by rw [yad_e (by omega) (by omega)]; omega
        have a4 : yad 0 (m : Int) = (m : Int) := by rw [yad_e (by omega) (by omega)]; omega
        have c1 : (7 + (n : Int)).toNat = 7 + n := by omega
        have c2 : (7 + (m : Int)).toNat = 7 + m := by omega
        have K := yRN_purse (yRN_purse (yRN_can (yRN_can H hn r2) hm r1) hn (τ.1 1 m)) hm (τ.1 1 n)
        have es : yw (yw (yw (yw σ 20 n (τ.1 1 (7 + m))) 20 m (τ.1 1 (7 + n))) 19 n (τ.1 1 m)) 19 m (τ.1 1 n) = yw (yw (yw (yw σ 19 n (τ.1 1 m)) 19 m (τ.1 1 n)) 20 n (τ.1 1 (7 + m))) 20 m (τ.1 1 (7 + n)) := by
          rw [yw_c (σ := yw σ 20 n (τ.1 1 (7 + m))) (show 20 ≠ 19 by omega), yw_c (σ := σ) (show 20 ≠ 19 by omega), yw_c (show 20 ≠ 19 by omega), yw_c (σ := yw σ 19 n (τ.1 1 m)) (show 20 ≠ 19 by omega)]
        rw [es] at K
        refine ⟨ybt (τ.1 1 (7 + m)), _, _, ?_, ?_, K, (by repeat (first | exact yFs_r | refine yFs_w ?_ (by omega))), (by repeat (first | exact yFo_r | refine yFo_w ?_ (by omega)))⟩
        · simp [hh, hk, hn, hm, hnm, hq, show (n : Int) < 7 by omega, show (m : Int) < 7 by omega, yw_1, p1, p2, q1, q2, x7_bits r2]
        · simp [hh, hk, hnm, hq, a1, a2, a3, a4, c1, c2, yw_1, show (0 : Int) ≤ 7 + (n : Int) by omega, show (7 : Int) + (n : Int) < 393 by omega, show (0 : Int) ≤ 7 + (m : Int) by omega, show (7 : Int) + (m : Int) < 393 by omega, show (n : Int) < 393 by omega, show (m : Int) < 393 by omega, show ¬ n = 7 + m by omega, show ¬ m = 7 + n by omega, show ¬ m = 7 + m by omega, show ¬ n = 7 + n by omega, show ¬ 7 + n = m by omega, show ¬ 7 + m = n by omega]
    · exact ⟨-1, σ, τ, by simp [hh, hk], by simp [hh, hk], H, yFs_r, yFo_r⟩
  · exact ⟨-1, σ, τ, by simp [hh], by simp [hh], H, yFs_r, yFo_r⟩
