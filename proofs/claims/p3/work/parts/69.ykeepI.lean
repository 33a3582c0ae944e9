theorem p_keepI {N : Nat} (hN : 132 ≤ N) {σ τ : yS} {n : Int} (H : yRN σ τ) (hS : 0 ≤ σ.1 0 7 ∧ σ.1 0 7 < 4) (I : ∀ k : Nat, k < 2 → yRI σ τ k) : ∃ (a : Int) (σ' τ' : yS), f_X7_keep N σ n = some (a, σ') ∧ f_X8_keep N τ n = some (a, τ') ∧ yRN σ' τ' ∧ (0 ≤ σ'.1 0 7 ∧ σ'.1 0 7 < 4) ∧ (∀ k : Nat, k < 2 → yRI σ' τ' k) ∧ σ'.2 = σ.2 ∧ (∀ a b : Nat, a < 59 → ¬ a = 0 → σ'.1 a b = σ.1 a b) ∧ (∀ a b : Nat, ¬ a = 1 → ¬ a = 3 → τ'.1 a b = τ.1 a b) ∧ (∀ j : Nat, j < 131 → τ'.1 1 j = τ.1 1 j) ∧ (∀ l : Nat, l < 2 → (τ'.1 3 l = τ.1 3 l ∧ ∀ j : Nat, j < 131 → τ'.1 1 (131 * (l + 1) + j) = τ.1 1 (131 * (l + 1) + j)) ∨ (∀ j : Nat, j < 131 → τ'.1 1 (131 * (l + 1) + j) = τ.1 1 j)) := by
  simp only [f_X7_keep, f_X8_keep, f_X7_bit, x7_withBit, x7_within, x8_in, ycP_ne, yinb, yin_d, yb1_d]
  by_cases hn : 0 ≤ n ∧ n ≤ 1
  · obtain ⟨k, rfl⟩ : ∃ k : Nat, n = (k : Int) := ⟨n.toNat, by omega⟩
    have hk : k < 2 := by omega
    obtain ⟨i1, i2, i3, i4, i5⟩ := I k hk
    have H0 := H
    obtain ⟨-, -, ⟨e0, e1, e2, b0, b1, b2, hc⟩, T, G⟩ := H0
    obtain ⟨σ', c, s2, fr, T', k6, k0, k1, k2, kc⟩ := yRT_copy (N := N) (x := 59 + 21 * k) (y := 17) (by omega) i2 (by rw [e1]; exact b1) T G
    have em : ymu 131 (yad (k : Int) 1) = ((131 * (k + 1) : Nat) : Int) := by
      rw [yad_e (by omega) (by omega), ymu_e (by omega) (by omega)]; omega
    have cc : f_X8_copies N (yw τ 3 k 1) ((131 * (k + 1) : Nat) : Int) 0 = some (0, ycp (yw τ 3 k 1) 1 1 0 (131 * (k + 1)) 131) := x8_copies hN (τ := yw τ 3 k 1) (a := 131 * (k + 1)) (b := 0) (by omega) (by omega) (by omega)
    have ct : ((k : Int)).toNat = k := by omega
    refine ⟨τ.1 3 k, yw σ' 0 7 (yor (σ'.1 0 7) (ysl 1 (k : Int))), ycp (yw τ 3 k 1) 1 1 0 (131 * (k + 1)) 131, ?_, ?_, ?_, ?_, fun l hl => ?_, by rw [yw_2, s2], fun a b h1 h2 => by rw [yw_n (by omega), fr a b (by omega)], fun a b h1 h3 => by rw [ycp_n (by omega), yw_n (by omega)], fun j hj => by rw [ycp_n (by omega), yw_n (by omega)], fun l hl => ?_⟩
    · simp [hn, i4, show (k : Int) < 2 by omega, i1, c]
    · rw [em, ct, x8_flag i3]
      simp only [cc]
      simp [hn, show (k : Int) < 2 by omega]
    · refine yRN_fr (fun b => ?_) (fun b => ⟨?_, ?_, ?_⟩) (fun a b h1 h2 => ?_) (fun b => ⟨?_, ?_, ?_⟩) (fun j hj => ?_) H
      · rw [yw_2, s2]
      · rw [yw_n (by omega), fr _ _ (by omega)]
      · rw [yw_n (by omega), fr _ _ (by omega)]
      · rw [yw_n (by omega), fr _ _ (by omega)]
      · rw [yw_n (by omega), fr _ _ (by omega)]
      · rw [ycp_n (by omega), yw_n (by omega)]
      · rw [ycp_n (by omega), yw_n (by omega)]
      · rw [ycp_n (by omega), yw_n (by omega)]
      · rw [ycp_n (by omega), yw_n (by omega)]
    · rw [yw_p, fr 0 7 (by omega)]
      have q := (ybs2 ⟨(σ.1 0 7).toNat, by omega⟩ ⟨k, hk⟩ ⟨k, hk⟩).1
      simp only [show (((σ.1 0 7).toNat : Nat) : Int) = σ.1 0 7 by omega] at q
      exact q
    · have q := (ybs2 ⟨(σ.1 0 7).toNat, by omega⟩ ⟨k, hk⟩ ⟨l, hl⟩).2
      simp only [show (((σ.1 0 7).toNat : Nat) : Int) = σ.1 0 7 by omega, Fin.mk.injEq] at q
      have o3 : ∀ b : Nat, (ycp (yw τ 3 k 1) 1 1 0 (131 * (k + 1)) 131).1 3 b = (if b = k then 1 else τ.1 3 b) := fun b => by
        rw [ycp_n (by omega), yw_1]
        simp
      have o0 : ∀ a b : Nat, a ≠ 1 → a ≠ 3 → (ycp (yw τ 3 k 1) 1 1 0 (131 * (k + 1)) 131).1 a b = τ.1 a b := fun a b h1 h3 => by
        rw [ycp_n (by omega), yw_n (by omega)]
      have os : ∀ j : Nat, j < 131 → (ycp (yw τ 3 k 1) 1 1 0 (131 * (k + 1)) 131).1 1 (131 * (k + 1) + j) = τ.1 1 j := fun j hj => by
        rw [ycp_1, if_pos ⟨rfl, by omega, by omega⟩, yw_n (by omega), show 0 + (131 * (k + 1) + j - 131 * (k + 1)) = j by omega]
      have on : ∀ j : Nat, ¬ (131 * (k + 1) ≤ j ∧ j < 131 * (k + 1) + 131) → (ycp (yw τ 3 k 1) 1 1 0 (131 * (k + 1)) 131).1 1 j = τ.1 1 j := fun j hj => by
        rw [ycp_n (by omega), yw_n (by omega)]
      generalize ycp (yw τ 3 k 1) 1 1 0 (131 * (k + 1)) 131 = U at o3 o0 os on
      have cb : (yw σ' 0 7 (yor (σ'.1 0 7) (ysl 1 (k : Int)))).1 0 7 = yor (σ.1 0 7) (ysl 1 (k : Int)) := by rw [yw_p, fr 0 7 (by omega)]
      have ca : ∀ a b : Nat, a ≠ 0 → (yw σ' 0 7 (yor (σ'.1 0 7) (ysl 1 (k : Int)))).1 a b = σ'.1 a b := fun a b h => yw_n (by omega)
      have c2 : (yw σ' 0 7 (yor (σ'.1 0 7) (ysl 1 (k : Int)))).2 = σ.2 := by rw [yw_2, s2]
      generalize yw σ' 0 7 (yor (σ'.1 0 7) (ysl 1 (k : Int))) = V at cb ca c2
      by_cases hlk : l = k
      · subst hlk
        refine ⟨by rw [c2]; exact i1, by rw [c2]; exact i2, by rw [o3]; simp, ?_, fun _ => ⟨⟨?_, ?_, ?_, ?_, ?_, ?_, fun d hd => ?_⟩, ?_, ?_⟩⟩
        · rw [cb, q, o3]
          simp
        · rw [ca _ _ (by omega), k0, o0 _ _ (by omega) (by omega)]; exact e0
        · rw [ca _ _ (by omega), k1, o0 _ _ (by omega) (by omega)]; exact e1
        · rw [ca _ _ (by omega), k2, o0 _ _ (by omega) (by omega)]; exact e2
        · rw [o0 _ _ (by omega) (by omega)]; exact b0
        · rw [o0 _ _ (by omega) (by omega)]; exact b1
        · rw [o0 _ _ (by omega) (by omega)]; exact b2
        · rw [o0 _ _ (by omega) (by omega)] at hd
          rw [ca _ _ (by omega), kc d (by omega), o0 _ _ (by omega) (by omega)]; exact hc d hd
        · exact yRT_fr (fun b => by rw [c2, s2]) (fun a b h1 h2 => ca a b (by omega)) (yRT_cong os G T')
        · rw [ca _ _ (by omega), k6, o0 _ _ (by omega) (by omega), o0 _ _ (by omega) (by omega)]
          exact yGd_cong os G
      · obtain ⟨j1, j2, j3, j4, j5⟩ := I l hl
        rw [if_neg hlk] at q
        have ol : U.1 3 l = τ.1 3 l := by rw [o3, if_neg hlk]
        have cs : ∀ a b : Nat, 59 + 21 * l ≤ a → a < 59 + 21 * l + 21 → V.1 a b = σ.1 a b := fun a b h1 h2 => by
          rw [ca a b (by omega), fr a b (by omega)]
        refine ⟨by rw [c2]; exact j1, by rw [c2]; exact j2, by rw [ol]; exact j3, by rw [cb, q, ol]; exact j4, fun hz => ?_⟩
        rw [ol] at hz
        obtain ⟨⟨e0, e1, e2, -, -, -, hc⟩, T2, G2⟩ := j5 hz
        have os2 : ∀ j : Nat, j < 131 → U.1 1 (131 * (l + 1) + j) = τ.1 1 (131 * (l + 1) + j) := fun j hj => on _ (by omega)
        refine ⟨⟨?_, ?_, ?_, ?_, ?_, ?_, fun d hd => ?_⟩, ?_, ?_⟩
        · rw [cs _ _ (by omega) (by omega), o0 _ _ (by omega) (by omega)]; exact e0
        · rw [cs _ _ (by omega) (by omega), o0 _ _ (by omega) (by omega)]; exact e1
        · rw [cs _ _ (by omega) (by omega), o0 _ _ (by omega) (by omega)]; exact e2
        · rw [o0 _ _ (by omega) (by omega)]; exact b0
        · rw [o0 _ _ (by omega) (by omega)]; exact b1
        · rw [o0 _ _ (by omega) (by omega)]; exact b2
        · rw [o0 _ _ (by omega) (by omega)] at hd
          rw [cs _ _ (by omega) (by omega), o0 _ _ (by omega) (by omega)]; exact hc d hd
        · exact yRT_fr (fun b => by rw [c2]) cs (yRT_cong os2 G2 T2)
        · rw [cs _ _ (by omega) (by omega), o0 _ _ (by omega) (by omega), o0 _ _ (by omega) (by omega)]
          exact yGd_cong os2 G2
    · by_cases hlk : l = k
      · subst hlk
        exact Or.inr (fun j hj => by rw [ycp_1, if_pos ⟨rfl, by omega, by omega⟩, yw_n (by omega), show 0 + (131 * (l + 1) + j - 131 * (l + 1)) = j by omega])
      · exact Or.inl ⟨by rw [ycp_n (by omega), yw_n (by omega)], fun j hj => by rw [ycp_n (by omega), yw_n (by omega)]⟩
  · exact ⟨-1, σ, τ, by simp [hn], by simp [hn], H, hS, I, rfl, fun _ _ _ _ => rfl, fun _ _ _ _ => rfl, fun _ _ => rfl, fun _ _ => Or.inl ⟨rfl, fun _ _ => rfl⟩⟩
