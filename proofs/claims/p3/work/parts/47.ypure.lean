theorem ycP_eq (a b : Int) : ycP .eq a b = decide (a = b) := by
  show (zle a b && zle b a) = decide (a = b)
  by_cases h : a = b
  · subst h
    rw [decide_eq_true rfl, show zle a a = true from decide_eq_true (Int.le_refl a)]
    rfl
  · rw [decide_eq_false h]
    cases hb : zle a b && zle b a with
    | false => rfl
    | true =>
      rw [Bool.and_eq_true] at hb
      exact absurd (Int.le_antisymm (zle_ok hb.1) (zle_ok hb.2)) h
theorem ycP_ne (a b : Int) : ycP .ne a b = decide (¬ a = b) := by
  show (!(ycP .eq a b)) = decide (¬ a = b)
  rw [ycP_eq]
  by_cases h : a = b
  · rw [decide_eq_true h, decide_eq_false (fun q => q h)]
    rfl
  · rw [decide_eq_false h, decide_eq_true h]
    rfl
theorem ycP_lt (a b : Int) : ycP .lt a b = decide (a < b) := decide_eq_decide.mpr ⟨fun h => by omega, fun h => by omega⟩
theorem ycP_ge (a b : Int) : ycP .ge a b = decide (b ≤ a) := rfl
theorem ycP_gt (a b : Int) : ycP .gt a b = decide (b < a) := decide_eq_decide.mpr ⟨fun h => by omega, fun h => by omega⟩
theorem ycP_le (a b : Int) : ycP .le a b = decide (a ≤ b) := rfl
theorem yeq_d (a b : Int) : (zle a b && zle b a) = decide (a = b) := ycP_eq a b
theorem yin_d (v : Int) (n : Nat) : yin v n = decide (0 ≤ v ∧ v < n) := by
  by_cases h : 0 ≤ v ∧ v < n
  · rw [decide_eq_true h]
    unfold yin
    rw [Bool.and_eq_true]
    exact ⟨decide_eq_true h.1, decide_eq_true (by omega)⟩
  · rw [decide_eq_false h]
    cases hb : yin v n with
    | false => rfl
    | true =>
      have := yin_ok hb
      exact absurd ⟨by omega, by omega⟩ h
theorem yb1_d (v : Int) : yb1 v = decide (0 ≤ v ∧ v ≤ 1) := by
  by_cases h : 0 ≤ v ∧ v ≤ 1
  · rw [decide_eq_true h]
    unfold yb1
    rw [Bool.and_eq_true]
    exact ⟨decide_eq_true h.1, decide_eq_true h.2⟩
  · rw [decide_eq_false h]
    cases hb : yb1 v with
    | false => rfl
    | true => exact absurd (yb1_ok hb) h
theorem ynz_d (b : Int) : ynz b = decide (¬ b = 0) := by
  by_cases h : b = 0
  · subst h
    rfl
  · rw [decide_eq_true h]
    unfold ynz
    rw [Bool.or_eq_true]
    by_cases q : b < 0
    · exact Or.inl (decide_eq_true (by omega))
    · exact Or.inr (decide_eq_true (by omega))
theorem yad_e {a b : Int} (h1 : -2147483648 ≤ a + b) (h2 : a + b ≤ 2147483647) : yad a b = a + b := by
  unfold yad
  rw [zq_addW, zq_of h1 h2]
theorem ysu_e {a b : Int} (h1 : -2147483648 ≤ a - b) (h2 : a - b ≤ 2147483647) : ysu a b = a - b := by
  unfold ysu
  rw [zq_subW, zq_of h1 h2]
theorem ymu_e {a b : Int} (h1 : -2147483648 ≤ a * b) (h2 : a * b ≤ 2147483647) : ymu a b = a * b := by
  unfold ymu
  rw [← Int32.ofInt_mul, zq_of h1 h2]
theorem yw_1 (σ : yS) (i k : Nat) (z : Int) (a b : Nat) : (yw σ i k z).1 a b = if b = k ∧ a = i then z else σ.1 a b := rfl
theorem yw_2 (σ : yS) (i k : Nat) (z : Int) : (yw σ i k z).2 = σ.2 := rfl
theorem yq_1 (σ : yS) (i k j : Nat) : (yq σ i k j).1 = σ.1 := rfl
theorem yq_2 (σ : yS) (i k j a b : Nat) : (yq σ i k j).2 a b = if b = k ∧ a = i then j else σ.2 a b := rfl
theorem ycp_1 (σ : yS) (i0 i1 s d n a b : Nat) : (ycp σ i0 i1 s d n).1 a b = if a = i1 ∧ d ≤ b ∧ b < d + n then σ.1 i0 (s + (b - d)) else σ.1 a b := rfl
theorem ycp_2 (σ : yS) (i0 i1 s d n : Nat) : (ycp σ i0 i1 s d n).2 = σ.2 := rfl
/-- the tapes are one -/
def yTp (σ τ : yS) : Prop := 0 ≤ σ.1 3 0 ∧ σ.1 3 0 ≤ 160 ∧ σ.1 3 0 = τ.1 0 17 ∧ ∀ j : Nat, (j : Int) < σ.1 3 0 → σ.1 4 j = τ.1 8 j ∧ 0 ≤ τ.1 8 j
theorem x8_in (N : Nat) (τ : yS) (a b c : Int) : f_X8_in N τ a b c = some (if b ≤ a ∧ a ≤ c then 1 else 0, τ) := by
  simp only [f_X8_in, f_X8_in_b17, f_X8_in_b18, ycP_lt, ycP_gt, yb1_d]
  by_cases h1 : a < b
  · have h3 : ¬ (b ≤ a ∧ a ≤ c) := by omega
    simp [h1, h3]
  · by_cases h2 : c < a
    · have h3 : ¬ (b ≤ a ∧ a ≤ c) := by omega
      simp [h1, h2, h3]
    · have h3 : b ≤ a ∧ a ≤ c := by omega
      simp [h1, h2, h3]
theorem x7_within (N : Nat) (σ : yS) (v a b : Int) : f_X7_within N σ v a b = some (if a ≤ v ∧ v ≤ b then 1 else 0, σ) := by
  simp only [f_X7_within, f_X7_within_b14, f_X7_within_b15, ycP_gt, yb1_d]
  by_cases h1 : v < a
  · have h3 : ¬ (a ≤ v ∧ v ≤ b) := by omega
    simp [h1, h3]
  · by_cases h2 : b < v
    · have h3 : ¬ (a ≤ v ∧ v ≤ b) := by omega
      simp [h1, h2, h3]
    · have h3 : a ≤ v ∧ v ≤ b := by omega
      simp [h1, h2, h3]
theorem x8_look (N : Nat) (τ : yS) (p : Int) (h0 : 0 ≤ p) (ht : τ.1 0 17 ≤ 160) : f_X8_look N τ p = some (if p < τ.1 0 17 then τ.1 8 p.toNat else -1, τ) := by
  simp only [f_X8_look, f_X8_look_b18, ycP_ge, yin_d]
  by_cases h : τ.1 0 17 ≤ p
  · have h3 : ¬ p < τ.1 0 17 := by omega
    simp [h, h3]
  · have h3 : p < τ.1 0 17 := by omega
    have h4 : 0 ≤ p ∧ p < ((160 : Nat) : Int) := by omega
    simp [h, h3, h0, show p < 160 by omega]
theorem x8_feed {N : Nat} {τ : yS} {c : Int} (h0 : 0 ≤ τ.1 0 17) (h1 : τ.1 0 17 ≤ 160) : f_X8_feed N τ c = some (if 0 ≤ c ∧ c ≤ 127 then (if τ.1 0 17 = 160 then (-3, τ) else (τ.1 0 17 + 1, yw (yw τ 8 (τ.1 0 17).toNat c) 0 17 (τ.1 0 17 + 1))) else (-1, τ)) := by
  simp only [f_X8_feed, f_X8_feed_b39, f_X8_feed_b48, x8_in, ycP_ne, yin_d]
  by_cases hc : 0 ≤ c ∧ c ≤ 127
  · by_cases h : τ.1 0 17 = 160
    · simp [hc, h]
    · have e : yad (τ.1 0 17) 1 = τ.1 0 17 + 1 := yad_e (by omega) (by omega)
      have e2 : (yw τ 8 (τ.1 0 17).toNat c).1 0 17 = τ.1 0 17 := by rw [yw_1]; exact if_neg (by omega)
      simp [hc, h, h0, show τ.1 0 17 < 160 by omega, e2, e, yw_1]
  · simp [hc]
theorem x7_feed {N : Nat} {σ : yS} {c : Int} (h0 : 0 ≤ σ.1 3 0) (h1 : σ.1 3 0 ≤ 160) : f_X7_feed N σ c = some (if 0 ≤ c ∧ c ≤ 127 then (if σ.1 3 0 = 160 then (-3, σ) else (σ.1 3 0 + 1, yw (yw σ 4 (σ.1 3 0).toNat c) 3 0 (σ.1 3 0 + 1))) else (-1, σ)) := by
  simp only [f_X7_feed, f_X7_feed_b35, f_X3_append, f_X3_append_b24, x7_within, ycP_ne, ycP_eq, ycP_lt, yin_d]
  by_cases hc : 0 ≤ c ∧ c ≤ 127
  · by_cases h : σ.1 3 0 = 160
    · simp [hc, h]
    · have e : yad (σ.1 3 0) 1 = σ.1 3 0 + 1 := yad_e (by omega) (by omega)
      have e2 : (yw σ 4 (σ.1 3 0).toNat c).1 3 0 = σ.1 3 0 := by rw [yw_1]; exact if_neg (by omega)
      simp [hc, h, h0, show σ.1 3 0 < 160 by omega, e2, e, yw_1]
  · simp [hc]
/-- feed: both tapes stay one, the answers are one -/
theorem p_feed {N : Nat} {σ τ : yS} {c : Int} (h : yTp σ τ) : ∃ (a : Int) (σ' τ' : yS), f_X7_feed N σ c = some (a, σ') ∧ f_X8_feed N τ c = some (a, τ') ∧ yTp σ' τ' := by
  obtain ⟨h0, h1, h2, h3⟩ := h
  rw [x7_feed h0 h1, x8_feed (h2 ▸ h0) (h2 ▸ h1), ← h2]
  by_cases hc : 0 ≤ c ∧ c ≤ 127
  · by_cases hf : σ.1 3 0 = 160
    · simp only [hc, hf, and_self, if_true]
      exact ⟨_, _, _, rfl, rfl, h0, h1, h2, h3⟩
    · simp only [hc, hf, and_self, if_true, if_false]
      refine ⟨_, _, _, rfl, rfl, ?_, ?_, ?_, fun j hj => ?_⟩
      · simp [yw_1]; omega
      · simp [yw_1]; omega
      · simp [yw_1]
      · simp [yw_1] at hj ⊢
        by_cases hjj : j = (σ.1 3 0).toNat
        · simp [hjj]
          exact hc.1
        · simp [hjj]
          exact h3 j (by omega)
  · simp only [hc, if_false]
    exact ⟨_, _, _, rfl, rfl, h0, h1, h2, h3⟩
