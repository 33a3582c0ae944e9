theorem yLL_l {N : Nat} {σ τ : yS} {f g : Option (Int × yS)} : yLL N σ τ f g → yLL N σ τ (match f with
    | none => none
    | some r => f_X1_readLine_b147 N r.2) g := by
  rintro ⟨r, σ', τ', e, rest⟩
  refine ⟨0, σ', τ', ?_, rest⟩
  rw [e]
  rfl
/-- a line at whose first word a fault is found -/
theorem yLL_f {N : Nat} {σ τ : yS} {k : Int} {f g : Option (Int × yS)} (h : yLL N (yw (yw σ 2 4 k) 2 5 (σ.1 2 3)) (yw (yw τ 0 22 k) 0 23 (τ.1 0 19)) f g) (hk : 0 < k) (n : ∀ (r : Int) (σ' : yS), f = some (r, σ') → ¬ σ'.1 2 4 = 0) : yLL N σ τ f g := by
  obtain ⟨r, σ', τ', e, e8, E, Z7, Z8, l6, ok, bd⟩ := h
  have nb := n r σ' e
  refine ⟨r, σ', τ', e, e8, E, yZ7_t (yZ7_w (yZ7_w yZ7_r (by omega)) (by omega)) Z7, yZ8_t (yZ8_w (yZ8_w yZ8_r (by omega)) (by omega)) Z8, ?_, fun z => absurd z nb, bd⟩
  rw [l6, yw_n (by decide), yw_n (by decide)]
/-- the flag of the row, told or not -/
theorem x8_rowf {N : Nat} {τ : yS} {k : Int} (h : 0 ≤ τ.1 0 10 ∧ τ.1 0 10 ≤ 1) : f_X8_readLine_b135 N τ k 0 1 = f_X8_readLine_b156 N τ k (τ.1 0 10) := by
  unfold f_X8_readLine_b135
  rw [x8_ngood]
  show (bif ycP .ne (τ.1 0 10) 0 then f_X8_readLine_b151 N τ k else bif ycP .eq 0 0 then f_X8_readLine_b156 N τ k 0 else f_X8_readLine_b151 N τ k) = _
  by_cases h0 : τ.1 0 10 = 0
  · rw [h0, ybz2, ybz]
  · have h1 : τ.1 0 10 = 1 := by omega
    rw [h1, ybo2]
    rfl
/-- a line of another kind than row and ring, full or not -/
theorem x8_other {N : Nat} {τ : yS} {k : Int} (h : 0 ≤ τ.1 0 10 ∧ τ.1 0 10 ≤ 1) (h3 : ¬ k = 3) (h4 : ¬ k = 4) (hm : ¬ k = -4) : f_X8_readLine_b70 N τ k = f_X8_readLine_b156 N τ k (τ.1 0 10) ∧ ∀ τ' : yS, f_X8_needs N τ 0 5 = some (0, τ') → τ'.1 0 10 = τ.1 0 10 → f_X8_readLine_b66 N τ k = f_X8_readLine_b156 N τ' k (τ'.1 0 10) := by
  refine ⟨?_, fun τ' g e => ?_⟩
  · unfold f_X8_readLine_b70 f_X8_readLine_b71
    rw [ycP_eq, decide_eq_false h3, cond_false, ycP_ne, decide_eq_true h4, cond_true]
    unfold f_X8_readLine_b87
    rw [ycP_eq, decide_eq_false hm, cond_false]
    unfold f_X8_readLine_b100
    rw [x8_ngood]
    show (bif ycP .ne 0 0 then f_X8_readLine_b114 N τ k 0 0 else f_X8_readLine_b114 N τ k 0 1) = _
    rw [ybz2]
    unfold f_X8_readLine_b114
    rw [x8_ngood]
    show (bif ycP .eq 0 0 then f_X8_readLine_b130 N τ k 0 else _) = _
    rw [ybz]
    exact x8_rowf h
  · unfold f_X8_readLine_b66 f_X8_readLine_b71
    rw [ycP_eq, decide_eq_false h3, cond_false, ycP_ne, decide_eq_true h4, cond_true]
    unfold f_X8_readLine_b87
    rw [ycP_eq, decide_eq_false hm, cond_false]
    unfold f_X8_readLine_b100
    rw [x8_ngood]
    show (bif ycP .ne 1 0 then f_X8_readLine_b114 N τ k 0 0 else f_X8_readLine_b114 N τ k 0 1) = _
    rw [ybo2]
    unfold f_X8_readLine_b114
    rw [g]
    show (bif ycP .eq 0 0 then f_X8_readLine_b130 N τ' k 0 else _) = _
    rw [ybz]
    exact x8_rowf (by rw [e]; exact h)
/-- row and ring -/
theorem x8_shape {N : Nat} {τ : yS} {k : Int} (h3 : k = 3 ∨ k = 4) : (τ.1 0 10 = 0 → f_X8_readLine_b70 N τ k = f_X8_readLine_b156 N τ k 1) ∧ (¬ τ.1 0 10 = 0 → ∀ τ' : yS, f_X8_needs N τ 0 4 = some (0, τ') → τ'.1 0 10 = τ.1 0 10 → f_X8_readLine_b70 N τ k = f_X8_readLine_b156 N τ' k 1) := by
  have hm : ¬ k = -4 := by omega
  have a : f_X8_readLine_b70 N τ k = f_X8_readLine_b114 N τ k 1 1 := by
    unfold f_X8_readLine_b70 f_X8_readLine_b71
    have b : f_X8_readLine_b82 N τ k 0 = f_X8_readLine_b114 N τ k 1 1 := by
      unfold f_X8_readLine_b82 f_X8_readLine_b87
      rw [ycP_eq, decide_eq_false hm, cond_false]
      unfold f_X8_readLine_b100
      rw [x8_ngood]
      show (bif ycP .ne 0 0 then f_X8_readLine_b114 N τ k 1 0 else f_X8_readLine_b114 N τ k 1 1) = _
      rw [ybz2]
    rcases h3 with rfl | rfl
    · rw [ycP_eq, decide_eq_true rfl, cond_true]; exact b
    · rw [ycP_eq, decide_eq_false (by decide), cond_false, ycP_ne, decide_eq_false (by decide), cond_false]; exact b
  refine ⟨fun h0 => ?_, fun h0 τ' g e => ?_⟩
  · rw [a]
    unfold f_X8_readLine_b114
    rw [x8_ngood]
    show (bif ycP .eq 1 0 then _ else bif ycP .ne (τ.1 0 10) 0 then f_X8_readLine_b135 N τ k 1 0 else f_X8_readLine_b130 N τ k 1) = _
    rw [ybo, h0, ybz2]
    unfold f_X8_readLine_b130 f_X8_readLine_b135
    rw [x8_ngood]
    show (bif ycP .ne (τ.1 0 10) 0 then _ else bif ycP .eq 1 0 then _ else f_X8_readLine_b151 N τ k) = _
    rw [h0, ybz2, ybo]
    rfl
  · rw [a]
    unfold f_X8_readLine_b114
    rw [x8_ngood]
    show (bif ycP .eq 1 0 then _ else bif ycP .ne (τ.1 0 10) 0 then f_X8_readLine_b135 N τ k 1 0 else f_X8_readLine_b130 N τ k 1) = _
    rw [ybo, ycP_ne, decide_eq_true h0, cond_true]
    unfold f_X8_readLine_b135
    rw [g]
    show (bif ycP .ne (τ'.1 0 10) 0 then f_X8_readLine_b151 N τ' k else _) = _
    rw [ycP_ne, decide_eq_true (by rw [e]; exact h0), cond_true]
    rfl
/-- no line begins so -/
theorem x8_none {N : Nat} {τ τ' : yS} (h : 0 ≤ τ.1 0 10 ∧ τ.1 0 10 ≤ 1) (g : f_X8_needs N τ 0 2 = some (0, τ')) (e : τ'.1 0 10 = τ.1 0 10) : f_X8_readLine_b17 N τ (-4) = f_X8_readLine_b156 N τ' (-4) (τ'.1 0 10) := by
  unfold f_X8_readLine_b17
  rw [ycP_ne, decide_eq_true (by decide), cond_true]
  unfold f_X8_readLine_b31
  rw [ycP_ne, decide_eq_true (by decide), cond_true]
  unfold f_X8_readLine_b49
  rw [ycP_ne, decide_eq_true (by decide), cond_true]
  unfold f_X8_readLine_b70 f_X8_readLine_b71
  rw [ycP_eq, decide_eq_false (by decide), cond_false, ycP_ne, decide_eq_true (by decide), cond_true]
  unfold f_X8_readLine_b87
  rw [ycP_eq, decide_eq_true rfl, cond_true]
  unfold f_X8_readLine_b100
  rw [g]
  show (bif ycP .ne 0 0 then f_X8_readLine_b114 N τ' (-4) 0 0 else f_X8_readLine_b114 N τ' (-4) 0 1) = _
  rw [ybz2]
  unfold f_X8_readLine_b114
  rw [x8_ngood]
  show (bif ycP .eq 0 0 then f_X8_readLine_b130 N τ' (-4) 0 else _) = _
  rw [ybz]
  exact x8_rowf (by rw [e]; exact h)
/-- which line of the reference's it is -/
theorem x8_b17 {N : Nat} {τ : yS} : (∀ k : Int, ¬ k = 5 → ¬ k = 6 → ¬ k = 7 → f_X8_readLine_b17 N τ k = f_X8_readLine_b70 N τ k) ∧ f_X8_readLine_b17 N τ 5 = (if τ.1 0 11 = 5 then f_X8_readLine_b66 N τ 5 else f_X8_readLine_b70 N τ 5) ∧ f_X8_readLine_b17 N τ 6 = (if τ.1 5 77 = 10 then f_X8_readLine_b66 N τ 6 else f_X8_readLine_b70 N τ 6) ∧ f_X8_readLine_b17 N τ 7 = (if τ.1 5 118 = 4 then f_X8_readLine_b66 N τ 7 else f_X8_readLine_b70 N τ 7) := by
  refine ⟨fun k h5 h6 h7 => ?_, ?_, ?_, ?_⟩
  · unfold f_X8_readLine_b17
    rw [ycP_ne, decide_eq_true h5, cond_true]
    unfold f_X8_readLine_b31
    rw [ycP_ne, decide_eq_true h6, cond_true]
    unfold f_X8_readLine_b49
    rw [ycP_ne, decide_eq_true h7, cond_true]
  · unfold f_X8_readLine_b17
    rw [ycP_ne, decide_eq_false (by decide), cond_false, ycP_eq]
    by_cases h : τ.1 0 11 = 5
    · rw [decide_eq_true h, cond_true, if_pos h]
    · rw [decide_eq_false h, cond_false, if_neg h]
      unfold f_X8_readLine_b31
      rw [ycP_ne, decide_eq_true (by decide), cond_true]
      unfold f_X8_readLine_b49
      rw [ycP_ne, decide_eq_true (by decide), cond_true]
  · unfold f_X8_readLine_b17
    rw [ycP_ne, decide_eq_true (by decide), cond_true]
    unfold f_X8_readLine_b31
    rw [ycP_ne, decide_eq_false (by decide), cond_false, ycP_eq]
    by_cases h : τ.1 5 77 = 10
    · rw [decide_eq_true h, cond_true, if_pos h]
    · rw [decide_eq_false h, cond_false, if_neg h]
      unfold f_X8_readLine_b49
      rw [ycP_ne, decide_eq_true (by decide), cond_true]
  · unfold f_X8_readLine_b17
    rw [ycP_ne, decide_eq_true (by decide), cond_true]
    unfold f_X8_readLine_b31
    rw [ycP_ne, decide_eq_true (by decide), cond_true]
    unfold f_X8_readLine_b49
    rw [ycP_ne, decide_eq_false (by decide), cond_false, ycP_ne]
    by_cases h : τ.1 5 118 = 4
    · rw [decide_eq_false (fun q => q h), cond_false, if_pos h]
    · rw [decide_eq_true h, cond_true, if_neg h]
/-- a line that is full, or told twice: the class goes on behind its fault -/
theorem p_lpre {N : Nat} (hN : 400 ≤ N) {σ τ : yS} {k x s0 : Int} {F : yS → Option (Int × yS)} (HH : yLx σ τ ∧ yTk σ τ) (R : yRD σ τ) (hk : 0 < k) (h0 : 0 ≤ s0 ∧ s0 ≤ 1) (B : ∀ S : yS, yB7 S → yQ7 S → yRB N S (F S)) : yLL N σ τ (F (yw (yw σ 2 4 k) 2 5 (σ.1 2 3))) (f_X8_readLine_b156 N (yw (yw τ 0 22 k) 0 23 (τ.1 0 19)) x s0) := by
  obtain ⟨-, -, p3⟩ := p_fail (N := N) HH hk
  have n1 : ¬ (yw (yw σ 2 4 k) 2 5 (σ.1 2 3)).1 2 4 = 0 := by rw [yw_n (by decide), yw_p]; omega
  obtain ⟨b1, b2⟩ := yE_Q p3 n1
  have Q : yQ7 (yw (yw σ 2 4 k) 2 5 (σ.1 2 3)) := yQ7_w (yQ7_w (yRD_Q R) (by decide)) (by decide)
  have rb := B _ (yB7_e p3 n1) Q
  refine yLL_f (k := k) (p_lbad hN h0 b1 b2 rb) hk (fun r σ' e => ?_)
  obtain ⟨r', s', e', Z, -⟩ := rb
  rw [e'] at e
  have e2 : s' = σ' := congrArg Prod.snd (Option.some.inj e)
  rw [← e2, Z.2 2 4 (by decide) (by decide)]
  exact n1
