theorem ybs2 : ∀ (S : Fin 4) (k l : Fin 2), (0 ≤ yor ((S.val : Nat) : Int) (ysl 1 ((k.val : Nat) : Int)) ∧ yor ((S.val : Nat) : Int) (ysl 1 ((k.val : Nat) : Int)) < 4) ∧ yan (ysr (yor ((S.val : Nat) : Int) (ysl 1 ((k.val : Nat) : Int))) ((l.val : Nat) : Int)) 1 = (if l = k then 1 else yan (ysr ((S.val : Nat) : Int) ((l.val : Nat) : Int)) 1) := by decide +kernel
theorem p_keep {N : Nat} (hN : 132 ≤ N) {σ τ : yS} {n : Int} (H : yRN σ τ) (I : ∀ k : Nat, k < 2 → yRI σ τ k) : ∃ (a : Int) (σ' τ' : yS), f_X7_keep N σ n = some (a, σ') ∧ f_X8_keep N τ n = some (a, τ') ∧ yRN σ' τ' := by
  simp only [f_X7_keep, f_X8_keep, f_X7_bit, x7_withBit, x7_within, x8_in, ycP_ne, yinb, yin_d, yb1_d]
  by_cases hn : 0 ≤ n ∧ n ≤ 1
  · obtain ⟨k, rfl⟩ : ∃ k : Nat, n = (k : Int) := ⟨n.toNat, by omega⟩
    have hk : k < 2 := by omega
    obtain ⟨i1, i2, i3, i4, i5⟩ := I k hk
    have H0 := H
    obtain ⟨-, -, ⟨e0, e1, e2, b0, b1, b2, hc⟩, T, G⟩ := H0
    obtain ⟨σ', c, s2, fr, T', k6, k0, k1, k2, kc⟩ := yRT_copy (N := N) (x := 59 + 21 * k) (y := 17) (by omega) i2 (by rw [e1]; exact b1) T G
    have em : ymu 131 (yad (k : Int) 1) = ((131 * (k + 1) : Nat) : Int) := by
      rw [yad_e (by omega) (by omega), ymu_e (by omega) (by omega)]; omega
    have cc : f_X8_copies N (yw τ 3 k 1) ((131 * (k + 1) : Nat) : Int) 0 = some (0, ycp (yw τ 3 k 1) 1 1 0 (131 * (k + 1)) 131) := x8_copies hN (τ := yw τ 3 k 1) (a := 131 * (k + 1)) (b := 0) (by omega) (by omega) (by omega)
    have ct : ((k : Int)).toNat = k := by omega
    refine ⟨τ.1 3 k, yw σ' 0 7 (yor (σ'.1 0 7) (ysl 1 (k : Int))), ycp (yw τ 3 k 1) 1 1 0 (131 * (k + 1)) 131, ?_, ?_, ?_⟩
    · simp [hn, i4, show (k : Int) < 2 by omega, i1, c]
    · rw [em, ct, x8_flag i3]
      simp only [cc]
      simp [hn, show (k : Int) < 2 by omega]
    · refine yRN_fr (fun b => ?_) (fun b => ⟨?_, ?_, ?_⟩) (fun a b h1 h2 => ?_) (fun b => ⟨?_, ?_, ?_⟩) (fun j hj => ?_) H
      · rw [yw_2, s2]
      · rw [yw_n (by omega), fr _ _ (by omega)]
      · rw [yw_n (by omega), fr _ _ (by omega)]
      · rw [yw_n (by omega), fr _ _ (by omega)]
      · rw [yw_n (by omega), fr _ _ (by omega)]
      · rw [ycp_n (by omega), yw_n (by omega)]
      · rw [ycp_n (by omega), yw_n (by omega)]
      · rw [ycp_n (by omega), yw_n (by omega)]
      · rw [ycp_n (by omega), yw_n (by omega)]
  · exact ⟨-1, σ, τ, by simp [hn], by simp [hn], H⟩
