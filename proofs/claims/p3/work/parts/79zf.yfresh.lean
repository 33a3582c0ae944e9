theorem ybw7 : ∀ S : Fin 128, ∀ a : Fin 7, (0 ≤ yor ((S.val : Nat) : Int) (ysl 1 ((a.val : Nat) : Int)) ∧ yor ((S.val : Nat) : Int) (ysl 1 ((a.val : Nat) : Int)) < 128) ∧ ∀ i : Fin 7, yan (ysr (yor ((S.val : Nat) : Int) (ysl 1 ((a.val : Nat) : Int))) ((i.val : Nat) : Int)) 1 = if i.val = a.val then 1 else yan (ysr ((S.val : Nat) : Int) ((i.val : Nat) : Int)) 1 := by decide +kernel
/-- told once: the class's part -/
theorem x1_once {N : Nat} {σ : yS} {x i : Int} : (¬ yan (ysr x i) 1 = 1 → f_X1_tellOnce N σ x i = some (yor x (ysl 1 i), σ)) ∧ (yan (ysr x i) 1 = 1 → ∀ σ' : yS, f_X1_complain N σ 4 (σ.1 2 3) = some (0, σ') → f_X1_tellOnce N σ x i = some (yor x (ysl 1 i), σ')) := by
  have n1 : ¬ (1 : Int) = 0 := by decide
  refine ⟨fun h => ?_, fun h σ' g => ?_⟩
  · simp only [f_X1_tellOnce, f_X1_tellOnce_b18, f_X7_bit, x7_withBit, ycP_ne]
    rw [decide_eq_true h, cond_true, if_neg n1]
  · simp only [f_X1_tellOnce, f_X1_tellOnce_b18, f_X7_bit, x7_withBit, ycP_ne, g]
    rw [decide_eq_false (fun q => q h), cond_false, if_neg n1]
/-- a house told for the first time on such a line -/
theorem p_fresh {N : Nat} (hN : 400 ≤ N) {σ0 σ τ : yS} {j : Nat} (hj : 8 ≤ j ∧ j ≤ 10) (hr : f_X1_readToken N σ0 = some (0, σ)) (H : yE σ τ) (G : σ.1 2 4 = 0 → yGr (σ.1 2 11) (τ.1 0 14) 6) (X : σ.1 2 4 = 0 → σ.1 2 j = τ.1 7 (j - 8) ∧ 0 ≤ τ.1 7 (j - 8) ∧ τ.1 7 (j - 8) < 128) : ∃ (a b v : Int) (σ2 σ3 τ4 : yS), f_X1_needHouse N σ0 = some (a, σ2) ∧ f_X1_tellOnce N σ2 (σ2.1 2 j) a = some (v, σ3) ∧ f_X8_readFresh N τ ((j - 8 : Nat) : Int) = (match f_X8_next N τ4 with
    | none => none
    | some r2 => some (b, r2.2)) ∧ yE (yw σ3 2 j v) τ4 ∧ (0 ≤ a ∧ a ≤ 6) ∧ (0 ≤ b ∧ b ≤ 6) ∧ σ3.2 = σ.2 ∧ (∀ i k : Nat, ¬ (i = 2 ∧ (1 ≤ k ∧ k ≤ 5 ∨ k = 11)) → σ3.1 i k = σ.1 i k) ∧ (∀ i k : Nat, ¬ (i = 0 ∧ (18 ≤ k ∧ k ≤ 23 ∨ k = 14)) → ¬ (i = 7 ∧ k = j - 8) → τ4.1 i k = τ.1 i k) ∧ σ3.1 2 1 = σ.1 2 1 ∧ (σ3.1 2 4 = 0 → a = b ∧ σ.1 2 4 = 0 ∧ v = τ4.1 7 (j - 8) ∧ (0 ≤ v ∧ v < 128) ∧ v = yor (σ.1 2 j) (ysl 1 a) ∧ (σ3.1 2 11 = τ4.1 0 14 ∧ τ.1 0 14 ≤ τ4.1 0 14 ∧ a ≤ τ4.1 0 14 ∧ 0 ≤ τ4.1 0 14 ∧ τ4.1 0 14 ≤ 6)) := by
  obtain ⟨a, b, σ2, τ2, g7, g8, E2, ha, hb, s2, w7, w8, mo, ok⟩ := p_needHouse (N := N) hN hr H G
  have ij : yin ((j - 8 : Nat) : Int) 3 = true := by rw [yin_d]; exact decide_eq_true (by omega)
  have j2 : σ2.1 2 j = σ.1 2 j := w7 2 j (by omega)
  have t2 : τ2.1 7 (j - 8) = τ.1 7 (j - 8) := w8 7 _ (by omega)
  by_cases f0 : σ2.1 2 4 = 0
  · obtain ⟨e1, e2, e3⟩ := ok f0
    subst e1
    obtain ⟨x1, x2, x3⟩ := X e2
    have fe := yE_f E2
    have f22 : τ2.1 0 22 = 0 := by omega
    obtain ⟨L, hL⟩ : ∃ L : Nat, τ.1 7 (j - 8) = (L : Int) := ⟨(τ.1 7 (j - 8)).toNat, by omega⟩
    obtain ⟨A, hA⟩ : ∃ A : Nat, a = (A : Int) := ⟨a.toNat, by omega⟩
    have bs := (ybw7 ⟨L, by omega⟩ ⟨A, by omega⟩).1
    have bb := ybit7 ⟨L, by omega⟩ ⟨A, by omega⟩
    dsimp only at bs bb
    rw [← hA, ← hL] at bs bb
    have HH := yE_ok E2 f0
    have rf : ∀ (fl : Int) (τ3 : yS), (∀ q : Int, q = yan (ysr (τ.1 7 (j - 8)) a) 1 → ((¬ q = 0 ∧ fl = 0) ∨ (q = 0 ∧ fl = 1))) → f_X8_needs N τ2 fl 4 = some (0, τ3) → τ3.1 7 (j - 8) = τ.1 7 (j - 8) → f_X8_readFresh N τ ((j - 8 : Nat) : Int) = (match f_X8_next N (yw τ3 7 (j - 8) (yor (τ.1 7 (j - 8)) (ysl 1 a))) with
        | none => none
        | some r2 => some (a, r2.2)) := fun fl τ3 hq hn ht => by
      have q := hq _ rfl
      unfold f_X8_readFresh
      rw [g8]
      show (bif ycP .ne (τ2.1 0 22) 0 then f_X8_readFresh_b47 N τ2 a else bif yin ((j - 8 : Nat) : Int) 3 then bif ycP .ne (yan (ysr (τ2.1 7 ((j - 8 : Nat) : Int).toNat) a) 1) 0 then f_X8_readFresh_b31 N τ2 ((j - 8 : Nat) : Int) a 0 else f_X8_readFresh_b31 N τ2 ((j - 8 : Nat) : Int) a 1 else none) = _
      rw [f22, ybz2, ij, cond_true, Int.toNat_natCast, t2, ycP_ne]
      have fin : f_X8_readFresh_b31 N τ2 ((j - 8 : Nat) : Int) a fl = (match f_X8_next N (yw τ3 7 (j - 8) (yor (τ.1 7 (j - 8)) (ysl 1 a))) with
        | none => none
        | some r2 => some (a, r2.2)) := by
        unfold f_X8_readFresh_b31
        rw [hn]
        show (bif yin ((j - 8 : Nat) : Int) 3 then f_X8_readFresh_b47 N (yw τ3 7 ((j - 8 : Nat) : Int).toNat (yor (τ3.1 7 ((j - 8 : Nat) : Int).toNat) (ysl 1 a))) a else none) = _
        rw [ij, cond_true, Int.toNat_natCast, ht]
        rfl
      rcases q with ⟨q1, q2⟩ | ⟨q1, q2⟩
      · rw [decide_eq_true q1, cond_true]
        rw [q2] at fin
        exact fin
      · rw [decide_eq_false (fun r => r q1), cond_false]
        rw [q2] at fin
        exact fin
    by_cases hd : yan (ysr (τ.1 7 (j - 8)) a) 1 = 1
    · obtain ⟨p1, p2, p3⟩ := p_fail (N := N) HH (show (0 : Int) < 4 by decide)
      refine ⟨a, a, yor (σ2.1 2 j) (ysl 1 a), σ2, _, _, g7, x1_once.2 (by rw [j2, x1]; exact hd) _ p1, rf 0 _ (fun q hq => Or.inl ⟨by rw [hq, hd]; decide, rfl⟩) p2 (by rw [yw_n (by omega), yw_n (by omega)]; exact t2), yE_w8 (yE_w7 p3 (by omega)) (by omega), ha, hb, s2, fun i k q => ?_, fun i k q1 q2 => ?_, ?_, fun z => ?_⟩
      · rw [yw_n (by omega), yw_n (by omega)]; exact w7 i k q
      · rw [yw_n (by omega), yw_n (by omega), yw_n (by omega)]; exact w8 i k q1
      · rw [yw_n (by decide), yw_n (by decide)]; exact mo
      · rw [yw_n (by decide), yw_p] at z
        exact absurd z (by decide)
    · have hz : yan (ysr (τ.1 7 (j - 8)) a) 1 = 0 := by
        rcases bb with h | h
        · exact h
        · exact absurd h hd
      refine ⟨a, a, yor (σ2.1 2 j) (ysl 1 a), σ2, σ2, _, g7, x1_once.1 (by rw [j2, x1]; exact hd), rf 1 τ2 (fun q hq => Or.inr ⟨by rw [hq]; exact hz, rfl⟩) x8_ngood t2, yE_w8 (yE_w7 E2 (by omega)) (by omega), ha, hb, s2, w7, fun i k q1 q2 => ?_, mo, fun z => ⟨rfl, e2, ?_, ?_, ?_, ?_⟩⟩
      · rw [yw_n (by omega)]; exact w8 i k q1
      · rw [yw_p, j2, x1]
      · rw [j2, x1]; exact bs
      · rw [j2]
      · rw [yw_n (by omega)]; exact e3
  · have fe := yE_f E2
    have f22 : ¬ τ2.1 0 22 = 0 := by omega
    obtain ⟨v, hv⟩ := x1_obad (N := N) (x := σ2.1 2 j) (i := a) (yB7_e E2 f0)
    refine ⟨a, b, v, σ2, σ2, τ2, g7, hv, ?_, yE_w7 E2 (by omega), ha, hb, s2, w7, fun i k q1 q2 => w8 i k q1, mo, fun z => absurd z f0⟩
    unfold f_X8_readFresh
    rw [g8]
    show (bif ycP .ne (τ2.1 0 22) 0 then f_X8_readFresh_b47 N τ2 b else _) = _
    rw [ycP_ne, decide_eq_true f22, cond_true]
    rfl
