/-- a sheet against lanes, sizes, cells -/
def yRS (σ τ : yS) (k : Nat) : Prop := σ.2 8 k = 9 + 2 * k ∧ ((σ.1 (9 + 2 * k) 0 = -1 ∧ τ.1 12 k = -4) ∨ (σ.1 (9 + 2 * k) 0 = τ.1 12 k ∧ (0 ≤ τ.1 12 k ∧ τ.1 12 k ≤ 2) ∧ σ.1 (9 + 2 * k) 1 = τ.1 13 k ∧ (0 ≤ τ.1 13 k ∧ τ.1 13 k ≤ 40) ∧ ∀ i : Nat, i < 40 → σ.1 (10 + 2 * k) i = τ.1 14 (40 * k + i)))
def yTr (σ : yS) : Prop := (σ.2 38 11 = 38 + 8 ∧ σ.2 38 12 = 38 + 13) ∨ (σ.2 38 11 = 38 + 13 ∧ σ.2 38 12 = 38 + 8)
/-- all that the calls show of both objects -/
def yRR (σ τ : yS) : Prop := yRN σ τ ∧ yGk (τ.1 0 3) (τ.1 0 5) (fun j => τ.1 1 j) ∧ (0 ≤ σ.1 0 7 ∧ σ.1 0 7 < 4) ∧ (∀ k : Nat, k < 2 → yRI σ τ k) ∧ (∀ k : Nat, k < 2 → τ.1 3 k = 1 → yGk (τ.1 0 3) (τ.1 0 5) (fun j => τ.1 1 (131 * (k + 1) + j))) ∧ (∀ k : Nat, k < 4 → yRS σ τ k) ∧ yTr σ
theorem yRS_fr {σ τ σ' τ' : yS} {k : Nat} (hk : k < 4) (r : ∀ b : Nat, σ'.2 8 b = σ.2 8 b) (c : ∀ a b : Nat, 9 ≤ a → a < 17 → σ'.1 a b = σ.1 a b) (o : ∀ a b : Nat, a = 12 ∨ a = 13 ∨ a = 14 → τ'.1 a b = τ.1 a b) (H : yRS σ τ k) : yRS σ' τ' k := by
  obtain ⟨h1, h2⟩ := H
  refine ⟨by rw [r]; exact h1, ?_⟩
  rw [c _ _ (by omega) (by omega), c (9 + 2 * k) 1 (by omega) (by omega), o 12 _ (by omega), o 13 _ (by omega)]
  rcases h2 with h | ⟨a1, a2, a3, a4, a5⟩
  · exact Or.inl h
  · exact Or.inr ⟨a1, a2, a3, a4, fun i hi => by rw [c _ _ (by omega) (by omega), o 14 _ (by omega)]; exact a5 i hi⟩
theorem yRR_fr {σ τ σ' τ' : yS} (H : yRR σ τ) (N' : yRN σ' τ') (K' : yGk (τ'.1 0 3) (τ'.1 0 5) (fun j => τ'.1 1 j)) (r : ∀ a b : Nat, ¬ a = 17 → ¬ a = 38 → σ'.2 a b = σ.2 a b) (r38 : yTr σ') (c0 : σ'.1 0 7 = σ.1 0 7) (c : ∀ a b : Nat, (9 ≤ a ∧ a < 17) ∨ 59 ≤ a → σ'.1 a b = σ.1 a b) (o : ∀ a b : Nat, a = 3 ∨ a = 4 ∨ a = 12 ∨ a = 13 ∨ a = 14 ∨ (a = 0 ∧ 3 ≤ b ∧ b ≤ 5) ∨ (a = 1 ∧ 131 ≤ b) → τ'.1 a b = τ.1 a b) : yRR σ' τ' := by
  obtain ⟨-, -, B, I, Ik, S, -⟩ := H
  refine ⟨N', K', by rw [c0]; exact B, fun k hk => yRI_fr hk (r _ _ (by omega) (by omega)) (fun a b h => r _ _ (by omega) (by omega)) c0 (fun a b h => c a b (by omega)) (fun b => o _ _ (by omega)) (fun b => o _ _ (by omega)) ⟨o _ _ (by omega), o _ _ (by omega), o _ _ (by omega)⟩ (fun j h => o _ _ (by omega)) (I k hk), fun k hk h1 => ?_, fun k hk => yRS_fr hk (fun b => r _ _ (by omega) (by omega)) (fun a b h1 h2 => c a b (by omega)) (fun a b h => o a b (by omega)) (S k hk), r38⟩
  rw [o 3 k (by omega)] at h1
  rw [o 0 3 (by omega), o 0 5 (by omega)]
  exact yGk_cong (fun j hj => o 1 _ (by omega)) (Ik k hk h1)
theorem yRR_s {σ τ σ' τ' : yS} (H : yRR σ τ) (N' : yRN σ' τ') (F : yFs σ σ') (O : yFo τ τ') : yRR σ' τ' := by
  refine yRR_fr H N' ?_ (fun a b _ _ => by rw [F.1]) ?_ (F.2 0 7 (by omega)) (fun a b h => F.2 a b (by omega)) (fun a b h => O a b (by omega) (by omega) (by omega))
  · rw [O 0 3 (by omega) (by omega) (by omega), O 0 5 (by omega) (by omega) (by omega)]
    exact yGk_cong (fun j hj => O 1 j (by omega) (by omega) (by omega)) H.2.1
  · have q := H.2.2.2.2.2.2
    unfold yTr at q ⊢
    rw [F.1]
    exact q
/-- what changes scratch alone -/
theorem yRR_scr {σ τ σ' τ' : yS} (H : yRR σ τ) (r : ∀ a b : Nat, ¬ a = 38 → σ'.2 a b = σ.2 a b) (r38 : yTr σ') (c : ∀ a b : Nat, (a = 0 ∧ b = 7) ∨ (2 ≤ a ∧ a < 5) ∨ (9 ≤ a ∧ a < 38) ∨ 59 ≤ a → σ'.1 a b = σ.1 a b) (o : ∀ a b : Nat, ¬ a = 2 → ¬ a = 9 → ¬ a = 10 → ¬ a = 11 → ¬ (a = 0 ∧ 25 ≤ b) → τ'.1 a b = τ.1 a b) : yRR σ' τ' := by
  have e : (fun j => τ'.1 1 j) = (fun j => τ.1 1 j) := funext fun j => o 1 j (by omega) (by omega) (by omega) (by omega) (by omega)
  have o0 : ∀ b : Nat, b < 25 → 0 = 0 → τ'.1 0 b = τ.1 0 b := fun b h1 h2 => o 0 b (by omega) (by omega) (by omega) (by omega) (by omega)
  refine yRR_fr H ?_ ?_ (fun a b _ h => r a b h) r38 (c 0 7 (by omega)) (fun a b h => c a b (by omega)) (fun a b h => o a b (by omega) (by omega) (by omega) (by omega) (by omega))
  · obtain ⟨⟨a0, a1, a2, a3⟩, f0, R, T, G⟩ := H.1
    refine ⟨⟨?_, ?_, ?_, fun j hj => ?_⟩, ?_, yRH_f ⟨c _ _ (by omega), c _ _ (by omega), c _ _ (by omega)⟩ (fun b => c _ _ (by omega)) ⟨o0 _ (by omega) (by omega), o0 _ (by omega) (by omega), o0 _ (by omega) (by omega)⟩ (fun b => o _ _ (by omega) (by omega) (by omega) (by omega) (by omega)) R, ?_, ?_⟩
    · rw [c _ _ (by omega)]; exact a0
    · rw [c _ _ (by omega)]; exact a1
    · rw [c _ _ (by omega), o0 _ (by omega) (by omega)]; exact a2
    · rw [c _ _ (by omega)] at hj
      rw [c _ _ (by omega), o _ _ (by omega) (by omega) (by omega) (by omega) (by omega)]; exact a3 j hj
    · rw [c _ _ (by omega), o0 _ (by omega) (by omega)]; exact f0
    · rw [e]; exact yRT_fr (fun b => r _ _ (by omega)) (fun a b h1 h2 => c a b (by omega)) T
    · rw [e, c _ _ (by omega), o0 _ (by omega) (by omega), o0 _ (by omega) (by omega)]; exact G
  · rw [e, o0 3 (by omega) rfl, o0 5 (by omega) rfl]; exact H.2.1
theorem P_fault {N : Nat} {σ τ : yS} (H : yRR σ τ) : ∃ (a : Int) (σ' τ' : yS), f_X7_fault N σ = some (a, σ') ∧ f_X8_fault N τ = some (a, τ') ∧ yRR σ' τ' := by
  obtain ⟨a, h1, h2⟩ := p_fault (N := N) H.1
  exact ⟨a, σ, τ, h1, h2, H⟩
theorem P_cost {N : Nat} {σ τ : yS} {d : Int} (H : yRR σ τ) : ∃ (a : Int) (σ' τ' : yS), f_X7_cost N σ d = some (a, σ') ∧ f_X8_cost N τ d = some (a, τ') ∧ yRR σ' τ' := by
  obtain ⟨a, h1, h2⟩ := p_cost (N := N) (d := d) H.1
  exact ⟨a, σ, τ, h1, h2, H⟩
theorem P_rule {N : Nat} {σ τ : yS} {w : Int} (H : yRR σ τ) : ∃ (a : Int) (σ' τ' : yS), f_X7_rule N σ w = some (a, σ') ∧ f_X8_rule N τ w = some (a, τ') ∧ yRR σ' τ' := by
  obtain ⟨a, h1, h2⟩ := p_rule (N := N) (w := w) H.1
  exact ⟨a, σ, τ, h1, h2, H⟩
theorem P_want {N : Nat} {σ τ : yS} {i w : Int} (H : yRR σ τ) : ∃ (a : Int) (σ' τ' : yS), f_X7_want N σ i w = some (a, σ') ∧ f_X8_want N τ i w = some (a, τ') ∧ yRR σ' τ' := by
  obtain ⟨a, h1, h2⟩ := p_want (N := N) (i := i) (w := w) H.1
  exact ⟨a, σ, τ, h1, h2, H⟩
theorem P_vow {N : Nat} {σ τ : yS} {i w : Int} (H : yRR σ τ) : ∃ (a : Int) (σ' τ' : yS), f_X7_vow N σ i w = some (a, σ') ∧ f_X8_vow N τ i w = some (a, τ') ∧ yRR σ' τ' := by
  obtain ⟨a, h1, h2⟩ := p_vow (N := N) (i := i) (w := w) H.1
  exact ⟨a, σ, τ, h1, h2, H⟩
theorem P_house {N : Nat} {σ τ : yS} {h w : Int} (hw : yI w) (H : yRR σ τ) : ∃ (a : Int) (σ' τ' : yS), f_X7_house N σ h w = some (a, σ') ∧ f_X8_house N τ h w = some (a, τ') ∧ yRR σ' τ' := by
  obtain ⟨a, h1, h2⟩ := p_house (N := N) (h := h) hw H.1
  exact ⟨a, σ, τ, h1, h2, H⟩
theorem P_fund {N : Nat} {σ τ : yS} {h v : Int} (H : yRR σ τ) : ∃ (a : Int) (σ' τ' : yS), f_X7_fund N σ h v = some (a, σ') ∧ f_X8_fund N τ h v = some (a, τ') ∧ yRR σ' τ' := by
  obtain ⟨a, σ', τ', h1, h2, h3, h4, h5⟩ := p_fund (N := N) (h := h) (v := v) H.1
  exact ⟨a, σ', τ', h1, h2, yRR_s H h3 h4 h5⟩
theorem P_can {N : Nat} {σ τ : yS} {h d z : Int} (H : yRR σ τ) : ∃ (a : Int) (σ' τ' : yS), f_X7_can N σ h d z = some (a, σ') ∧ f_X8_can N τ h d z = some (a, τ') ∧ yRR σ' τ' := by
  obtain ⟨a, σ', τ', h1, h2, h3, h4, h5⟩ := p_can (N := N) (h := h) (d := d) (z := z) H.1
  exact ⟨a, σ', τ', h1, h2, yRR_s H h3 h4 h5⟩
theorem P_lawyer {N : Nat} {σ τ : yS} {h z : Int} (hz : 0 ≤ z ∧ z ≤ 1) (H : yRR σ τ) : ∃ (a : Int) (σ' τ' : yS), f_X7_lawyer N σ h z = some (a, σ') ∧ f_X8_lawyer N τ h z = some (a, τ') ∧ yRR σ' τ' := by
  obtain ⟨a, σ', τ', h1, h2, h3, h4, h5, h6⟩ := p_lawyer (N := N) (h := h) hz H.1
  refine ⟨a, σ', τ', h1, h2, yRR_fr H h3 ⟨fun j hj => ?_, fun i hi => ?_, fun i hi q => ?_⟩ (fun a b _ _ => by rw [h4.1]) ?_ (h4.2 0 7 (by omega)) (fun a b h => h4.2 a b (by omega)) (fun a b h => h5 a b (by omega))⟩
  · dsimp only
    rw [h5 1 (42 + j) (by omega)]
    exact H.2.1.1 j hj
  · dsimp only
    rw [h5 0 5 (by omega), h5 1 (35 + i) (by omega), h5 1 (28 + i) (by omega)]
    exact H.2.1.2.1 i hi
  · rw [h5 0 3 (by omega)] at q
    dsimp only
    rw [h6 i q]
    exact H.2.1.2.2 i hi q
  · have q := H.2.2.2.2.2.2
    unfold yTr at q ⊢
    rw [h4.1]
    exact q
theorem P_drop {N : Nat} {σ τ : yS} {w n : Int} (H : yRR σ τ) : ∃ (a : Int) (σ' τ' : yS), f_X7_drop N σ w n = some (a, σ') ∧ f_X8_drop N τ w n = some (a, τ') ∧ yRR σ' τ' := by
  obtain ⟨a, σ', τ', h1, h2, h3, h4, h5⟩ := p_drop (N := N) (w := w) (n := n) H.1
  exact ⟨a, σ', τ', h1, h2, yRR_s H h3 h4 h5⟩
theorem P_wish {N : Nat} {σ τ : yS} {h d : Int} (H : yRR σ τ) : ∃ (a : Int) (σ' τ' : yS), f_X7_wish N σ h d = some (a, σ') ∧ f_X8_wish N τ h d = some (a, τ') ∧ yRR σ' τ' := by
  obtain ⟨a, σ', τ', h1, h2, h3, h4, h5⟩ := p_wish (N := N) (h := h) (d := d) H.1
  exact ⟨a, σ', τ', h1, h2, yRR_s H h3 h4 h5⟩
theorem P_vows {N : Nat} {σ τ : yS} {h k p d : Int} (H : yRR σ τ) : ∃ (a : Int) (σ' τ' : yS), f_X7_vows N σ h k p d = some (a, σ') ∧ f_X8_vows N τ h k p d = some (a, τ') ∧ yRR σ' τ' := by
  obtain ⟨a, σ', τ', h1, h2, h3, h4, h5, -⟩ := p_vows (N := N) (h := h) (k := k) (p := p) (d := d) H.1
  exact ⟨a, σ', τ', h1, h2, yRR_s H h3 h4 h5⟩
theorem P_end {N : Nat} {σ τ : yS} {n : Int} (H : yRR σ τ) : ∃ (a : Int) (σ' τ' : yS), f_X7_end N σ n = some (a, σ') ∧ f_X8_end N τ n = some (a, τ') ∧ yRR σ' τ' := by
  obtain ⟨a, σ', τ', h1, h2, h3, h4, h5⟩ := p_end (N := N) (n := n) H.1
  exact ⟨a, σ', τ', h1, h2, yRR_s H h3 h4 h5⟩
theorem P_move {N : Nat} (h8 : 8 ≤ N) {σ τ : yS} {h k : Int} (H : yRR σ τ) : ∃ (a : Int) (σ' τ' : yS), f_X7_move N σ h k = some (a, σ') ∧ f_X8_move N τ h k = some (a, τ') ∧ yRR σ' τ' := by
  obtain ⟨a, σ', τ', h1, h2, h3, h4, h5⟩ := p_move (N := N) h8 (h := h) (k := k) H.1
  exact ⟨a, σ', τ', h1, h2, yRR_s H h3 h4 h5⟩
theorem P_habit {N : Nat} {σ τ : yS} {h k d o : Int} (H : yRR σ τ) : ∃ (a : Int) (σ' τ' : yS), f_X7_habit N σ h k d o = some (a, σ') ∧ f_X8_habit N τ h k d o = some (a, τ') ∧ yRR σ' τ' := by
  obtain ⟨a, σ', τ', h1, h2, h3, h4, h5, h6⟩ := p_habit (N := N) (h := h) (k := k) (d := d) (o := o) H.1
  refine ⟨a, σ', τ', h1, h2, yRR_fr H h3 ⟨fun j hj => ?_, fun i hi => ?_, fun i hi => ?_⟩ (fun a b _ _ => by rw [h4.1]) ?_ (h4.2 0 7 (by omega)) (fun a b h => h4.2 a b (by omega)) (fun a b h => h5 a b (by omega))⟩
  · dsimp only
    rw [h5 1 (42 + j) (by omega)]
    exact H.2.1.1 j hj
  · rw [h5 0 5 (by omega)]
    exact h6 (fun i hi => H.2.1.2.1 i hi) i hi
  · rw [h5 0 3 (by omega)]
    dsimp only
    rw [h5 1 (14 + i) (by omega)]
    exact H.2.1.2.2 i hi
  · have q := H.2.2.2.2.2.2
    unfold yTr at q ⊢
    rw [h4.1]
    exact q
theorem yRN_tp {σ τ σ' τ' : yS} (T' : yTp σ' τ') (r : ∀ b : Nat, σ'.2 17 b = σ.2 17 b) (c : ∀ a b : Nat, a = 2 ∨ (17 ≤ a ∧ a < 38) → σ'.1 a b = σ.1 a b) (o : ∀ a b : Nat, ¬ (a = 0 ∧ b = 17) → ¬ a = 8 → τ'.1 a b = τ.1 a b) (H : yRN σ τ) : yRN σ' τ' := by
  obtain ⟨-, f0, R, T, G⟩ := H
  have e : (fun j => τ'.1 1 j) = (fun j => τ.1 1 j) := funext fun j => o 1 j (by omega) (by omega)
  refine ⟨T', by rw [c _ _ (by omega), o 0 22 (by omega) (by omega)]; exact f0, yRH_f ⟨c _ _ (by omega), c _ _ (by omega), c _ _ (by omega)⟩ (fun b => c _ _ (by omega)) ⟨o _ _ (by omega) (by omega), o _ _ (by omega) (by omega), o _ _ (by omega) (by omega)⟩ (fun b => o _ _ (by omega) (by omega)) R, ?_, ?_⟩
  · rw [e]; exact yRT_fr r (fun a b h1 h2 => c a b (by omega)) T
  · rw [e, c _ _ (by omega), o 0 3 (by omega) (by omega), o 0 5 (by omega) (by omega)]; exact G
theorem P_feed {N : Nat} {σ τ : yS} {c : Int} (H : yRR σ τ) : ∃ (a : Int) (σ' τ' : yS), f_X7_feed N σ c = some (a, σ') ∧ f_X8_feed N τ c = some (a, τ') ∧ yRR σ' τ' := by
  obtain ⟨h0, h1, h2, h3⟩ := H.1.1
  rw [x7_feed h0 h1, x8_feed (h2 ▸ h0) (h2 ▸ h1), ← h2]
  by_cases hc : 0 ≤ c ∧ c ≤ 127
  · by_cases hf : σ.1 3 0 = 160
    · simp only [hc, hf, and_self, if_true]
      exact ⟨_, _, _, rfl, rfl, H⟩
    · simp only [hc, hf, and_self, if_true, if_false]
      refine ⟨_, _, _, rfl, rfl, yRR_s H (yRN_tp (σ := σ) (τ := τ) ⟨?_, ?_, ?_, fun j hj => ?_⟩ (fun b => rfl) (fun a b h => ?_) (fun a b x y => ?_) H.1) (by repeat (first | exact yFs_r | refine yFs_w ?_ (by omega))) (by repeat (first | exact yFo_r | refine yFo_w ?_ (by omega)))⟩
      · simp [yw_1]; omega
      · simp [yw_1]; omega
      · simp [yw_1]
      · simp [yw_1] at hj ⊢
        by_cases hjj : j = (σ.1 3 0).toNat
        · simp [hjj]
          exact hc.1
        · simp [hjj]
          exact h3 j (by omega)
      · rw [yw_n (by omega), yw_n (by omega)]
      · rw [yw_n (by omega), yw_n (by omega)]
  · simp only [hc, if_false]
    exact ⟨_, _, _, rfl, rfl, H⟩
