theorem x1_sortOf {N : Nat} {σ : yS} {c : Int} : f_X1_sortOf N σ c = some (if 97 ≤ c ∧ c ≤ 122 then 1 else if 48 ≤ c ∧ c ≤ 57 then 2 else if c = 59 then 3 else 4, σ) := by
  simp only [f_X1_sortOf, f_X1_sortOf_b14, f_X1_sortOf_b28, f_X1_sortOf_b39, ycP_gt, ycP_ne]
  by_cases h1 : 97 ≤ c ∧ c ≤ 122
  · simp [h1, show ¬ c < 97 by omega, show ¬ 122 < c by omega]
  · by_cases h2 : 48 ≤ c ∧ c ≤ 57
    · have a : c < 97 := by omega
      simp [h2, a, show ¬ c < 48 by omega, show ¬ 57 < c by omega, show ¬ (97 : Int) ≤ c by omega]
    · by_cases h3 : c = 59
      · simp [h3]
      · by_cases a : c < 97
        · by_cases b : c < 48
          · simp [a, b, h1, h2, h3]
          · simp [a, b, h1, h2, h3, show 57 < c by omega]
        · have d : 122 < c := by omega
          by_cases b : c < 48
          · omega
          · simp [a, b, d, h1, h2, h3, show 57 < c by omega]
/-- where both readers are -/
def yLx (σ τ : yS) : Prop := yTp σ τ ∧ σ.1 2 4 = 0 ∧ τ.1 0 22 = 0 ∧ σ.1 2 1 = τ.1 0 18 ∧ (0 ≤ τ.1 0 18 ∧ τ.1 0 18 ≤ τ.1 0 17)
/-- the token that both have read -/
def yTk (σ τ : yS) : Prop := σ.1 2 3 = τ.1 0 19 ∧ σ.1 2 2 = τ.1 0 20 ∧ (0 ≤ τ.1 0 19 ∧ τ.1 0 19 ≤ τ.1 0 18) ∧ (0 ≤ τ.1 0 20 ∧ τ.1 0 20 ≤ 3) ∧ (τ.1 0 20 = 0 → τ.1 0 19 = τ.1 0 17) ∧ (¬ τ.1 0 20 = 0 → τ.1 0 19 < τ.1 0 18) ∧ (τ.1 0 20 = 2 → ∃ s : Nat, τ.1 0 19 = (s : Int) ∧ (48 ≤ τ.1 8 s ∧ τ.1 8 s ≤ 57) ∧ ((τ.1 0 18 = (s : Int) + 1 ∧ τ.1 0 21 = τ.1 8 s - 48) ∨ (τ.1 0 18 = (s : Int) + 2 ∧ (48 ≤ τ.1 8 (s + 1) ∧ τ.1 8 (s + 1) ≤ 57) ∧ τ.1 0 21 = 10 * (τ.1 8 s - 48) + (τ.1 8 (s + 1) - 48))))
/-- a fault is found -/
def yBd (σ τ : yS) : Prop := σ.1 2 4 = τ.1 0 22 ∧ 0 < τ.1 0 22 ∧ σ.1 2 5 = τ.1 0 23 ∧ 0 ≤ τ.1 0 23 ∧ τ.1 0 23 ≤ 160 ∧ (0 ≤ σ.1 2 3 ∧ σ.1 2 3 ≤ σ.1 2 1 ∧ σ.1 2 1 ≤ σ.1 3 0) ∧ (0 ≤ σ.1 3 0 ∧ σ.1 3 0 ≤ 160)
/-- what reading a token leaves alone -/
def yK7 (σ σ' : yS) : Prop := σ'.2 = σ.2 ∧ ∀ a b : Nat, ¬ (a = 2 ∧ 1 ≤ b ∧ b ≤ 5) → σ'.1 a b = σ.1 a b
def yK8 (τ τ' : yS) : Prop := ∀ a b : Nat, ¬ (a = 0 ∧ 18 ≤ b ∧ b ≤ 23) → τ'.1 a b = τ.1 a b
theorem yK7_r {σ : yS} : yK7 σ σ := ⟨rfl, fun _ _ _ => rfl⟩
theorem yK7_t {σ1 σ2 σ3 : yS} (h : yK7 σ1 σ2) (k : yK7 σ2 σ3) : yK7 σ1 σ3 := ⟨k.1.trans h.1, fun a b z => by rw [k.2 a b z, h.2 a b z]⟩
theorem yK7_w {σ1 σ2 : yS} {k : Nat} {z : Int} (h : yK7 σ1 σ2) (hk : 1 ≤ k ∧ k ≤ 5) : yK7 σ1 (yw σ2 2 k z) := ⟨h.1, fun a b q => by rw [yw_n (by omega), h.2 a b q]⟩
theorem yK8_r {τ : yS} : yK8 τ τ := fun _ _ _ => rfl
theorem yK8_t {τ1 τ2 τ3 : yS} (h : yK8 τ1 τ2) (k : yK8 τ2 τ3) : yK8 τ1 τ3 := fun a b z => by rw [k a b z, h a b z]
theorem yK8_w {τ1 τ2 : yS} {k : Nat} {z : Int} (h : yK8 τ1 τ2) (hk : 18 ≤ k ∧ k ≤ 23) : yK8 τ1 (yw τ2 0 k z) := fun a b q => by rw [yw_n (by omega), h a b q]
theorem yTp_k {σ τ σ' τ' : yS} (h : yK7 σ σ') (k : yK8 τ τ') (T : yTp σ τ) : yTp σ' τ' := by
  obtain ⟨a0, a1, a2, a3⟩ := T
  refine ⟨by rw [h.2 _ _ (by omega)]; exact a0, by rw [h.2 _ _ (by omega)]; exact a1, by rw [h.2 _ _ (by omega), k _ _ (by omega)]; exact a2, fun j hj => ?_⟩
  rw [h.2 _ _ (by omega)] at hj
  rw [h.2 _ _ (by omega), k _ _ (by omega)]
  exact a3 j hj
/-- letters and numbers: the same run on both sides -/
theorem p_run1 {N : Nat} {S : Nat} : ∀ (c m q p : Nat) (σ τ : yS), p + c = S → yTp σ τ → τ.1 0 17 = (S : Int) → σ.1 2 1 = (p : Int) → τ.1 0 18 = (p : Int) → σ.1 2 2 = 1 → ∃ (e : Nat) (σ' τ' : yS), p ≤ e ∧ e ≤ S ∧ f_X1_readToken_b109 N (m + c + 1) σ = f_X1_readToken_b166 N σ' ∧ f_X8_next_b82 N (q + c + 1) τ = some (0, τ') ∧ yK7 σ σ' ∧ yK8 τ τ' ∧ σ'.1 2 1 = (e : Int) ∧ τ'.1 0 18 = (e : Int) ∧ σ'.1 2 2 = 1 ∧ σ'.1 2 3 = σ.1 2 3 ∧ σ'.1 2 4 = σ.1 2 4 ∧ τ'.1 0 19 = τ.1 0 19 ∧ τ'.1 0 20 = τ.1 0 20 ∧ τ'.1 0 22 = τ.1 0 22
  | 0, m, q, p, σ, τ, hp, T, hS, ha, hb, ht => by
    have s0 : σ.1 3 0 = (S : Int) := T.2.2.1.trans hS
    have lk := x8_look N τ (τ.1 0 18) (by omega) (by have := T.2.1; omega)
    rw [if_neg (by omega)] at lk
    refine ⟨p, σ, τ, Nat.le_refl p, by omega, ?_, ?_, yK7_r, yK8_r, ha, hb, ht, rfl, rfl, rfl, rfl, rfl⟩
    · rw [q_X1_readToken_b109]
      simp only [ycP_eq, ycP_ge, ht, decide_eq_false (show ¬ (1 : Int) = 3 by decide), cond_false, ha, s0, decide_eq_true (show (S : Int) ≤ (p : Int) by omega), cond_true]
    · rw [q_X8_next_b82]
      simp only [lk, x8_in, ycP_eq, if_neg (show ¬ ((97 : Int) ≤ -1 ∧ (-1 : Int) ≤ 122) by decide), decide_true, cond_true, f_X8_next_b274]
  | c + 1, m, q, p, σ, τ, hp, T, hS, ha, hb, ht => by
    have s0 : σ.1 3 0 = (S : Int) := T.2.2.1.trans hS
    have l160 := T.2.1
    have lk := x8_look N τ (τ.1 0 18) (by omega) (by omega)
    rw [if_pos (by omega), hb, Int.toNat_natCast] at lk
    obtain ⟨by1, by2⟩ := T.2.2.2 p (by omega)
    have ip : yin (p : Int) 160 = true := by rw [yin_d]; exact decide_eq_true (by omega)
    have e1 : yad (p : Int) 1 = ((p + 1 : Nat) : Int) := by rw [yad_e (by omega) (by omega)]; omega
    have hlt : ¬ (S : Int) ≤ (p : Int) := by omega
    obtain ⟨x, hx⟩ : ∃ x : Int, τ.1 8 p = x := ⟨_, rfl⟩
    rw [hx] at lk by1 by2
    by_cases hc : 97 ≤ x ∧ x ≤ 122
    · obtain ⟨e, σ', τ', h1, h2, g7, g8, k7, k8, r1, r2, r3, r4, r5, r6, r7, r8⟩ := p_run1 (N := N) (S := S) c m q (p + 1) (yw σ 2 1 ((p + 1 : Nat) : Int)) (yw τ 0 18 ((p + 1 : Nat) : Int)) (by omega) (yTp_k (yK7_w yK7_r (by omega)) (yK8_w yK8_r (by omega)) T) (by rw [yw_n (by omega)]; exact hS) yw_p yw_p (by rw [yw_n (by omega)]; exact ht)
      refine ⟨e, σ', τ', by omega, h2, ?_, ?_, yK7_t (yK7_w yK7_r (by omega)) k7, yK8_t (yK8_w yK8_r (by omega)) k8, r1, r2, r3, by rw [r4, yw_n (by omega)], by rw [r5, yw_n (by omega)], by rw [r6, yw_n (by omega)], by rw [r7, yw_n (by omega)], by rw [r8, yw_n (by omega)]⟩
      · rw [show m + (c + 1) + 1 = (m + c + 1) + 1 by omega, q_X1_readToken_b109]
        simp only [ycP_eq, ycP_ge, ycP_ne, ht, decide_eq_false (show ¬ (1 : Int) = 3 by decide), cond_false, ha, s0, decide_eq_false hlt, ip, cond_true, Int.toNat_natCast, by1, x1_sortOf, if_pos hc, e1, g7]
        rfl
      · rw [show q + (c + 1) + 1 = (q + c + 1) + 1 by omega, q_X8_next_b82, hb]
        simp only [lk, x8_in, ycP_eq, if_pos hc, decide_eq_false (show ¬ (1 : Int) = 0 by decide), cond_false, hb, e1, g8]
    · refine ⟨p, σ, τ, Nat.le_refl p, by omega, ?_, ?_, yK7_r, yK8_r, ha, hb, ht, rfl, rfl, rfl, rfl, rfl⟩
      · have sn : decide (¬ (if 97 ≤ x ∧ x ≤ 122 then (1 : Int) else if 48 ≤ x ∧ x ≤ 57 then 2 else if x = 59 then 3 else 4) = 1) = true := decide_eq_true (by
          rw [if_neg hc]
          split
          · decide
          · split <;> decide)
        rw [show m + (c + 1) + 1 = (m + c + 1) + 1 by omega, q_X1_readToken_b109]
        simp only [ycP_eq, ycP_ge, ycP_ne, ht, decide_eq_false (show ¬ (1 : Int) = 3 by decide), cond_false, ha, s0, decide_eq_false hlt, ip, cond_true, Int.toNat_natCast, by1, x1_sortOf, sn]
      · rw [show q + (c + 1) + 1 = (q + c + 1) + 1 by omega, q_X8_next_b82, hb]
        simp only [lk, x8_in, ycP_eq, if_neg hc, decide_true, cond_true, f_X8_next_b274]
/-- the value of a number so far -/
def yVl (τ : yS) (s p : Nat) : Prop := (48 ≤ τ.1 8 s ∧ τ.1 8 s ≤ 57) ∧ ((p = s + 1 ∧ τ.1 0 21 = τ.1 8 s - 48) ∨ (s + 2 ≤ p ∧ (48 ≤ τ.1 8 (s + 1) ∧ τ.1 8 (s + 1) ≤ 57) ∧ τ.1 0 21 = 10 * (τ.1 8 s - 48) + (τ.1 8 (s + 1) - 48)))
theorem p_run2 {N : Nat} {S s : Nat} : ∀ (c m q p : Nat) (σ τ : yS), p + c = S → yTp σ τ → τ.1 0 17 = (S : Int) → σ.1 2 1 = (p : Int) → τ.1 0 18 = (p : Int) → σ.1 2 2 = 2 → τ.1 0 19 = (s : Int) → s < p → yVl τ s p → ∃ (e : Nat) (σ' τ' : yS), p ≤ e ∧ e ≤ S ∧ f_X1_readToken_b109 N (m + c + 1) σ = f_X1_readToken_b166 N σ' ∧ f_X8_next_b140 N (q + c + 1) τ = f_X8_next_b236 N τ' (if e ≤ s + 2 then 1 else 0) ∧ yK7 σ σ' ∧ yK8 τ τ' ∧ σ'.1 2 1 = (e : Int) ∧ τ'.1 0 18 = (e : Int) ∧ σ'.1 2 2 = 2 ∧ σ'.1 2 3 = σ.1 2 3 ∧ σ'.1 2 4 = σ.1 2 4 ∧ τ'.1 0 19 = τ.1 0 19 ∧ τ'.1 0 20 = τ.1 0 20 ∧ τ'.1 0 22 = τ.1 0 22 ∧ yVl τ' s e
  | 0, m, q, p, σ, τ, hp, T, hS, ha, hb, ht, hs, hsp, hv => by
    have s0 : σ.1 3 0 = (S : Int) := T.2.2.1.trans hS
    have l160 := T.2.1
    have lk := x8_look N τ (τ.1 0 18) (by omega) (by omega)
    rw [if_neg (by omega)] at lk
    have es : ysu (τ.1 0 18) (τ.1 0 19) = (p : Int) - s := by rw [hb, hs, ysu_e (by omega) (by omega)]
    refine ⟨p, σ, τ, Nat.le_refl p, by omega, ?_, ?_, yK7_r, yK8_r, ha, hb, ht, rfl, rfl, rfl, rfl, rfl, hv⟩
    · rw [q_X1_readToken_b109]
      simp only [ycP_eq, ycP_ge, ht, decide_eq_false (show ¬ (2 : Int) = 3 by decide), cond_false, ha, s0, decide_eq_true (show (S : Int) ≤ (p : Int) by omega), cond_true]
    · rw [q_X8_next_b140]
      simp only [lk, x8_in, ycP_eq, ycP_gt, if_neg (show ¬ ((48 : Int) ≤ -1 ∧ (-1 : Int) ≤ 57) by decide), decide_true, cond_true, es]
      by_cases h : p ≤ s + 2
      · rw [decide_eq_false (show ¬ (2 : Int) < (p : Int) - s by omega), if_pos h]
        rfl
      · rw [decide_eq_true (show (2 : Int) < (p : Int) - s by omega), if_neg h]
        rfl
  | c + 1, m, q, p, σ, τ, hp, T, hS, ha, hb, ht, hs, hsp, hv => by
    have s0 : σ.1 3 0 = (S : Int) := T.2.2.1.trans hS
    have l160 := T.2.1
    have lk := x8_look N τ (τ.1 0 18) (by omega) (by omega)
    rw [if_pos (by omega), hb, Int.toNat_natCast] at lk
    obtain ⟨by1, by2⟩ := T.2.2.2 p (by omega)
    have ip : yin (p : Int) 160 = true := by rw [yin_d]; exact decide_eq_true (by omega)
    have e1 : yad (p : Int) 1 = ((p + 1 : Nat) : Int) := by rw [yad_e (by omega) (by omega)]; omega
    have es : ysu (p : Int) (s : Int) = (p : Int) - s := by rw [ysu_e (by omega) (by omega)]
    have hlt : ¬ (S : Int) ≤ (p : Int) := by omega
    obtain ⟨x, hx⟩ : ∃ x : Int, τ.1 8 p = x := ⟨_, rfl⟩
    rw [hx] at lk by1 by2
    by_cases hc : 48 ≤ x ∧ x ≤ 57
    · have step : ∀ v : Int, yVl (yw (yw τ 0 21 v) 0 18 ((p + 1 : Nat) : Int)) s (p + 1) → f_X8_next_b140 N (q + c + 1 + 1) τ = f_X8_next_b140 N (q + c + 1) (yw (yw τ 0 21 v) 0 18 ((p + 1 : Nat) : Int)) → ∃ (e : Nat) (σ' τ' : yS), p ≤ e ∧ e ≤ S ∧ f_X1_readToken_b109 N (m + (c + 1) + 1) σ = f_X1_readToken_b166 N σ' ∧ f_X8_next_b140 N (q + (c + 1) + 1) τ = f_X8_next_b236 N τ' (if e ≤ s + 2 then 1 else 0) ∧ yK7 σ σ' ∧ yK8 τ τ' ∧ σ'.1 2 1 = (e : Int) ∧ τ'.1 0 18 = (e : Int) ∧ σ'.1 2 2 = 2 ∧ σ'.1 2 3 = σ.1 2 3 ∧ σ'.1 2 4 = σ.1 2 4 ∧ τ'.1 0 19 = τ.1 0 19 ∧ τ'.1 0 20 = τ.1 0 20 ∧ τ'.1 0 22 = τ.1 0 22 ∧ yVl τ' s e := fun v hv2 st => by
        obtain ⟨e, σ', τ', h1, h2, g7, g8, k7, k8, r1, r2, r3, r4, r5, r6, r7, r8, r9⟩ := p_run2 (N := N) (S := S) (s := s) c m q (p + 1) (yw σ 2 1 ((p + 1 : Nat) : Int)) (yw (yw τ 0 21 v) 0 18 ((p + 1 : Nat) : Int)) (by omega) (yTp_k (yK7_w yK7_r (by omega)) (yK8_w (yK8_w yK8_r (by omega)) (by omega)) T) (by rw [yw_n (by omega), yw_n (by omega)]; exact hS) yw_p yw_p (by rw [yw_n (by omega)]; exact ht) (by rw [yw_n (by omega), yw_n (by omega)]; exact hs) (by omega) hv2
        refine ⟨e, σ', τ', by omega, h2, ?_, ?_, yK7_t (yK7_w yK7_r (by omega)) k7, yK8_t (yK8_w (yK8_w yK8_r (by omega)) (by omega)) k8, r1, r2, r3, by rw [r4, yw_n (by omega)], by rw [r5, yw_n (by omega)], by rw [r6, yw_n (by omega), yw_n (by omega)], by rw [r7, yw_n (by omega), yw_n (by omega)], by rw [r8, yw_n (by omega), yw_n (by omega)], r9⟩
        · rw [show m + (c + 1) + 1 = (m + c + 1) + 1 by omega, q_X1_readToken_b109]
          simp only [ycP_eq, ycP_ge, ycP_ne, ht, decide_eq_false (show ¬ (2 : Int) = 3 by decide), cond_false, ha, s0, decide_eq_false hlt, ip, cond_true, Int.toNat_natCast, by1, x1_sortOf, if_neg (show ¬ (97 ≤ x ∧ x ≤ 122) by omega), if_pos hc, e1, g7]
          rfl
        · rw [show q + (c + 1) + 1 = q + c + 1 + 1 by omega, st]
          exact g8
      by_cases h2 : p = s + 1
      · have v0 : τ.1 0 21 = τ.1 8 s - 48 := by
          rcases hv.2 with ⟨-, h⟩ | ⟨h, -⟩
          · exact h
          · omega
        have d0 := hv.1
        have ev : ysu (yad (ymu 10 (τ.1 0 21)) x) 48 = 10 * (τ.1 8 s - 48) + (x - 48) := by
          rw [v0, ymu_e (by omega) (by omega), yad_e (by omega) (by omega), ysu_e (by omega) (by omega)]
          omega
        refine step (10 * (τ.1 8 s - 48) + (x - 48)) ⟨by rw [yw_n (by omega), yw_n (by omega)]; exact hv.1, Or.inr ⟨by omega, ?_, ?_⟩⟩ ?_
        · rw [yw_n (by omega), yw_n (by omega), ← h2, hx]; exact hc
        · rw [yw_n (by omega), yw_p, yw_n (by omega), yw_n (by omega), yw_n (by omega), yw_n (by omega), ← h2, hx]
        · rw [q_X8_next_b140, hb]
          simp only [lk, x8_in, ycP_eq, ycP_ge, if_pos hc, decide_eq_false (show ¬ (1 : Int) = 0 by decide), cond_false, hb, hs, es, decide_eq_false (show ¬ (2 : Int) ≤ (p : Int) - s by omega), ev, f_X8_next_b201, f_X8_next_b206]
          rw [yw_n (a := 0) (b := 18) (by omega), hb, e1]
      · have v0 : (48 ≤ τ.1 8 (s + 1) ∧ τ.1 8 (s + 1) ≤ 57) ∧ τ.1 0 21 = 10 * (τ.1 8 s - 48) + (τ.1 8 (s + 1) - 48) := by
          rcases hv.2 with ⟨h, -⟩ | ⟨-, h⟩
          · omega
          · exact h
        refine step (τ.1 0 21) ⟨by rw [yw_n (by omega), yw_n (by omega)]; exact hv.1, Or.inr ⟨by omega, ?_, ?_⟩⟩ ?_
        · rw [yw_n (by omega), yw_n (by omega)]; exact v0.1
        · rw [yw_n (by omega), yw_p, yw_n (by omega), yw_n (by omega), yw_n (by omega), yw_n (by omega)]; exact v0.2
        · rw [q_X8_next_b140, hb]
          simp only [lk, x8_in, ycP_eq, ycP_ge, if_pos hc, decide_eq_false (show ¬ (1 : Int) = 0 by decide), cond_false, hb, hs, es, decide_eq_true (show (2 : Int) ≤ (p : Int) - s by omega), cond_true, f_X8_next_b201, f_X8_next_b206]
          rw [yw_n (a := 0) (b := 18) (by omega), hb, e1]
    · refine ⟨p, σ, τ, Nat.le_refl p, by omega, ?_, ?_, yK7_r, yK8_r, ha, hb, ht, rfl, rfl, rfl, rfl, rfl, hv⟩
      · have sn : decide (¬ (if 97 ≤ x ∧ x ≤ 122 then (1 : Int) else if 48 ≤ x ∧ x ≤ 57 then 2 else if x = 59 then 3 else 4) = 2) = true := decide_eq_true (by
          rw [if_neg hc]
          split
          · decide
          · split <;> decide)
        rw [show m + (c + 1) + 1 = (m + c + 1) + 1 by omega, q_X1_readToken_b109]
        simp only [ycP_eq, ycP_ge, ycP_ne, ht, decide_eq_false (show ¬ (2 : Int) = 3 by decide), cond_false, ha, s0, decide_eq_false hlt, ip, cond_true, Int.toNat_natCast, by1, x1_sortOf, sn]
      · rw [show q + (c + 1) + 1 = (q + c + 1) + 1 by omega, q_X8_next_b140, hb]
        simp only [lk, x8_in, ycP_eq, ycP_gt, if_neg hc, decide_true, cond_true, hb, hs, es]
        by_cases h : p ≤ s + 2
        · rw [decide_eq_false (show ¬ (2 : Int) < (p : Int) - s by omega), if_pos h]
          rfl
        · rw [decide_eq_true (show (2 : Int) < (p : Int) - s by omega), if_neg h]
          rfl
