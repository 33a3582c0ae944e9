/-- a run of bytes that no token has: the class alone goes on -/
theorem x1_run4 {N : Nat} {S : Nat} (h160 : S ≤ 160) : ∀ (c m p : Nat) (σ : yS), p + c = S → σ.1 3 0 = (S : Int) → σ.1 2 1 = (p : Int) → σ.1 2 2 = 4 → ∃ (e : Nat) (σ' : yS), p ≤ e ∧ e ≤ S ∧ f_X1_readToken_b109 N (m + c + 1) σ = f_X1_readToken_b166 N σ' ∧ yK7 σ σ' ∧ σ'.1 2 1 = (e : Int) ∧ σ'.1 2 2 = 4 ∧ σ'.1 2 3 = σ.1 2 3 ∧ σ'.1 2 4 = σ.1 2 4
  | 0, m, p, σ, hp, s0, ha, ht => by
    refine ⟨p, σ, Nat.le_refl p, by omega, ?_, yK7_r, ha, ht, rfl, rfl⟩
    rw [q_X1_readToken_b109]
    simp only [ycP_eq, ycP_ge, ht, decide_eq_false (show ¬ (4 : Int) = 3 by decide), cond_false, ha, s0, decide_eq_true (show (S : Int) ≤ (p : Int) by omega), cond_true]
  | c + 1, m, p, σ, hp, s0, ha, ht => by
    have ip : yin (p : Int) 160 = true := by rw [yin_d]; exact decide_eq_true (by omega)
    have e1 : yad (p : Int) 1 = ((p + 1 : Nat) : Int) := by rw [yad_e (by omega) (by omega)]; omega
    have hlt : ¬ (S : Int) ≤ (p : Int) := by omega
    obtain ⟨x, hx⟩ : ∃ x : Int, (if 97 ≤ σ.1 4 p ∧ σ.1 4 p ≤ 122 then (1 : Int) else if 48 ≤ σ.1 4 p ∧ σ.1 4 p ≤ 57 then 2 else if σ.1 4 p = 59 then 3 else 4) = x := ⟨_, rfl⟩
    by_cases hc : x = 4
    · obtain ⟨e, σ', h1, h2, g7, k7, r1, r2, r3, r4⟩ := x1_run4 (N := N) (S := S) h160 c m (p + 1) (yw σ 2 1 ((p + 1 : Nat) : Int)) (by omega) (by rw [yw_n (by omega)]; exact s0) yw_p (by rw [yw_n (by omega)]; exact ht)
      refine ⟨e, σ', by omega, h2, ?_, yK7_t (yK7_w yK7_r (by omega)) k7, r1, r2, by rw [r3, yw_n (by omega)], by rw [r4, yw_n (by omega)]⟩
      rw [show m + (c + 1) + 1 = (m + c + 1) + 1 by omega, q_X1_readToken_b109]
      simp only [ycP_eq, ycP_ge, ycP_ne, ht, decide_eq_false (show ¬ (4 : Int) = 3 by decide), cond_false, ha, s0, decide_eq_false hlt, ip, cond_true, Int.toNat_natCast, x1_sortOf, hx, hc, e1, g7]
      rfl
    · refine ⟨p, σ, Nat.le_refl p, by omega, ?_, yK7_r, ha, ht, rfl, rfl⟩
      rw [show m + (c + 1) + 1 = (m + c + 1) + 1 by omega, q_X1_readToken_b109]
      simp only [ycP_eq, ycP_ge, ycP_ne, ht, decide_eq_false (show ¬ (4 : Int) = 3 by decide), cond_false, ha, s0, decide_eq_false hlt, ip, cond_true, Int.toNat_natCast, x1_sortOf, hx, decide_eq_true hc]
theorem p_blank {N : Nat} {S : Nat} : ∀ (c m q p : Nat) (σ τ : yS), p + c = S → yTp σ τ → τ.1 0 17 = (S : Int) → σ.1 2 1 = (p : Int) → τ.1 0 18 = (p : Int) → ∃ (e : Nat) (σ' τ' : yS), p ≤ e ∧ e ≤ S ∧ f_X1_readToken_b8 N (m + c + 1) σ = f_X1_readToken_b52 N σ' ∧ f_X8_next_b8 N (q + c + 1) τ = f_X8_next_b44 N (yw τ' 0 19 (e : Int)) ∧ yK7 σ σ' ∧ yK8 τ τ' ∧ σ'.1 2 1 = (e : Int) ∧ τ'.1 0 18 = (e : Int) ∧ σ'.1 2 4 = σ.1 2 4 ∧ τ'.1 0 22 = τ.1 0 22
  | 0, m, q, p, σ, τ, hp, T, hS, ha, hb => by
    have s0 : σ.1 3 0 = (S : Int) := T.2.2.1.trans hS
    have l160 := T.2.1
    have lk := x8_look N τ (τ.1 0 18) (by omega) (by omega)
    rw [if_neg (by omega), hb] at lk
    refine ⟨p, σ, τ, Nat.le_refl p, by omega, ?_, ?_, yK7_r, yK8_r, ha, hb, rfl, rfl⟩
    · rw [q_X1_readToken_b8]
      simp only [ycP_ge, ha, s0, decide_eq_true (show (S : Int) ≤ (p : Int) by omega), cond_true]
    · rw [q_X8_next_b8]
      simp only [lk, ycP_ne, decide_eq_true (show ¬ (-1 : Int) = 32 by decide), cond_true, hb]
  | c + 1, m, q, p, σ, τ, hp, T, hS, ha, hb => by
    have s0 : σ.1 3 0 = (S : Int) := T.2.2.1.trans hS
    have l160 := T.2.1
    have lk := x8_look N τ (τ.1 0 18) (by omega) (by omega)
    rw [if_pos (by omega), hb, Int.toNat_natCast] at lk
    obtain ⟨by1, by2⟩ := T.2.2.2 p (by omega)
    have ip : yin (p : Int) 160 = true := by rw [yin_d]; exact decide_eq_true (by omega)
    have e1 : yad (p : Int) 1 = ((p + 1 : Nat) : Int) := by rw [yad_e (by omega) (by omega)]; omega
    have hlt : ¬ (S : Int) ≤ (p : Int) := by omega
    obtain ⟨x, hx⟩ : ∃ x : Int, τ.1 8 p = x := ⟨_, rfl⟩
    rw [hx] at lk by1 by2
    by_cases hc : x = 32
    · obtain ⟨e, σ', τ', h1, h2, g7, g8, k7, k8, r1, r2, r3, r4⟩ := p_blank (N := N) (S := S) c m q (p + 1) (yw σ 2 1 ((p + 1 : Nat) : Int)) (yw τ 0 18 ((p + 1 : Nat) : Int)) (by omega) (yTp_k (yK7_w yK7_r (by omega)) (yK8_w yK8_r (by omega)) T) (by rw [yw_n (by omega)]; exact hS) yw_p yw_p
      refine ⟨e, σ', τ', by omega, h2, ?_, ?_, yK7_t (yK7_w yK7_r (by omega)) k7, yK8_t (yK8_w yK8_r (by omega)) k8, r1, r2, by rw [r3, yw_n (by omega)], by rw [r4, yw_n (by omega)]⟩
      · rw [show m + (c + 1) + 1 = (m + c + 1) + 1 by omega, q_X1_readToken_b8]
        simp only [ycP_ge, ycP_ne, ha, s0, decide_eq_false hlt, cond_false, ip, cond_true, Int.toNat_natCast, by1, hc, e1, g7]
        rfl
      · rw [show q + (c + 1) + 1 = (q + c + 1) + 1 by omega, q_X8_next_b8, hb]
        simp only [lk, ycP_ne, hc, hb, e1, g8]
        rfl
    · refine ⟨p, σ, τ, Nat.le_refl p, by omega, ?_, ?_, yK7_r, yK8_r, ha, hb, rfl, rfl⟩
      · rw [show m + (c + 1) + 1 = (m + c + 1) + 1 by omega, q_X1_readToken_b8]
        simp only [ycP_ge, ycP_ne, ha, s0, decide_eq_false hlt, cond_false, ip, cond_true, Int.toNat_natCast, by1, decide_eq_true hc]
      · rw [show q + (c + 1) + 1 = (q + c + 1) + 1 by omega, q_X8_next_b8, hb]
        simp only [lk, ycP_ne, decide_eq_true hc, cond_true, hb]
/-- what a token read gives -/
def yTR (σ τ σ' τ' : yS) : Prop := yK7 σ σ' ∧ yK8 τ τ' ∧ σ.1 2 1 ≤ σ'.1 2 1 ∧ ((yLx σ' τ' ∧ yTk σ' τ' ∧ (¬ σ'.1 2 2 = 0 → σ.1 2 1 < σ'.1 2 1)) ∨ yBd σ' τ')
theorem yTR_ok {σ τ σ' τ' : yS} {S p e n k : Nat} (T : yTp σ τ) (hS : τ.1 0 17 = (S : Int)) (hp : σ.1 2 1 = (p : Int)) (K7 : yK7 σ σ') (K8 : yK8 τ τ') (pe : p ≤ e) (en : e < n) (nS : n ≤ S) (a7 : σ'.1 2 1 = (n : Int)) (a8 : τ'.1 0 18 = (n : Int)) (b7 : σ'.1 2 3 = (e : Int)) (b8 : τ'.1 0 19 = (e : Int)) (t7 : σ'.1 2 2 = (k : Int)) (t8 : τ'.1 0 20 = (k : Int)) (f7 : σ'.1 2 4 = 0) (f8 : τ'.1 0 22 = 0) (hk : 1 ≤ k ∧ k ≤ 3) (hv : k = 2 → yVl τ' e n ∧ n ≤ e + 2) : yTR σ τ σ' τ' := by
  have S' : τ'.1 0 17 = (S : Int) := by rw [K8 _ _ (by omega)]; exact hS
  refine ⟨K7, K8, by omega, Or.inl ⟨⟨yTp_k K7 K8 T, f7, f8, by rw [a7, a8], by omega, by omega⟩, ⟨by rw [b7, b8], by rw [t7, t8], by omega, by omega, fun q => by omega, fun _ => by omega, fun q => ?_⟩, fun _ => by omega⟩⟩
  obtain ⟨⟨v1, v2⟩, v3⟩ := hv (by omega)
  refine ⟨e, b8, v1, ?_⟩
  rcases v2 with ⟨v4, v5⟩ | ⟨v4, v5, v6⟩
  · exact Or.inl ⟨by rw [a8, v4]; rfl, v5⟩
  · exact Or.inr ⟨by rw [a8]; omega, v5, v6⟩
theorem yTR_bad {σ τ σ' τ' : yS} {S p e n : Nat} (T : yTp σ τ) (hS : τ.1 0 17 = (S : Int)) (hp : σ.1 2 1 = (p : Int)) (K7 : yK7 σ σ') (K8 : yK8 τ τ') (pe : p ≤ e) (en : e < n) (nS : n ≤ S) (a7 : σ'.1 2 1 = (n : Int)) (b7 : σ'.1 2 3 = (e : Int)) (f7 : σ'.1 2 4 = 1) (f8 : τ'.1 0 22 = 1) (w7 : σ'.1 2 5 = (e : Int)) (w8 : τ'.1 0 23 = (e : Int)) : yTR σ τ σ' τ' := by
  have l160 := T.2.1
  have t17 := T.2.2.1
  have s3 : σ'.1 3 0 = (S : Int) := by rw [K7.2 _ _ (by omega)]; omega
  exact ⟨K7, K8, by omega, Or.inr ⟨by rw [f7, f8], by omega, by rw [w7, w8], by omega, by omega, by omega, by omega⟩⟩
theorem p_token {N : Nat} (hN : 400 ≤ N) {σ τ : yS} (H : yLx σ τ) : ∃ (σ' τ' : yS), f_X1_readToken N σ = some (0, σ') ∧ f_X8_next N τ = some (0, τ') ∧ yTR σ τ σ' τ' := by
  obtain ⟨T, f7, f8, hap, hp0, hp1⟩ := H
  have l160 := T.2.1
  have t17 := T.2.2.1
  obtain ⟨S, hS⟩ : ∃ S : Nat, τ.1 0 17 = (S : Int) := ⟨(τ.1 0 17).toNat, by omega⟩
  obtain ⟨p, hp⟩ : ∃ p : Nat, τ.1 0 18 = (p : Int) := ⟨(τ.1 0 18).toNat, by omega⟩
  have s0 : σ.1 3 0 = (S : Int) := t17.trans hS
  obtain ⟨e, σ1, τ1, h1, h2, g7, g8, k7, k8, r1, r2, r3, r4⟩ := p_blank (N := N) (S := S) (S - p) (N - (S - p) - 1) (N - (S - p) - 1) p σ τ (by omega) T hS (hap.trans hp) hp
  rw [show N - (S - p) - 1 + (S - p) + 1 = N by omega] at g7 g8
  have c7 : f_X1_readToken N σ = f_X1_readToken_b61 N (yw σ1 2 3 (e : Int)) := by
    simp only [f_X1_readToken, ycP_eq, f7, decide_true, cond_true, g7, f_X1_readToken_b52, r1]
  have c8 : f_X8_next N τ = f_X8_next_b44 N (yw τ1 0 19 (e : Int)) := by
    simp only [f_X8_next, ycP_le, f8, show decide ((0 : Int) ≤ 0) = true from rfl, cond_true, g8]
  have T1 : yTp σ1 τ1 := yTp_k k7 k8 T
  have s1 : σ1.1 3 0 = (S : Int) := by rw [k7.2 _ _ (by omega)]; exact s0
  have S1 : τ1.1 0 17 = (S : Int) := by rw [k8 _ _ (by omega)]; exact hS
  have lk := x8_look N (yw τ1 0 19 (e : Int)) (e : Int) (by omega) (by rw [yw_n (by omega), S1]; omega)
  rw [yw_n (a := 0) (b := 17) (by omega), S1, yw_n (a := 8) (by omega), Int.toNat_natCast] at lk
  by_cases hend : e = S
  · rw [if_neg (by omega)] at lk
    refine ⟨yw (yw σ1 2 3 (e : Int)) 2 2 0, yw (yw τ1 0 19 (e : Int)) 0 20 0, ?_, ?_, yK7_t k7 (yK7_w (yK7_w yK7_r (by omega)) (by omega)), yK8_t k8 (yK8_w (yK8_w yK8_r (by omega)) (by omega)), ?_, Or.inl ⟨⟨yTp_k (yK7_w (yK7_w yK7_r (by omega)) (by omega)) (yK8_w (yK8_w yK8_r (by omega)) (by omega)) T1, ?_, ?_, ?_, ?_⟩, ⟨?_, ?_, ?_, ?_, ?_, ?_, ?_⟩, ?_⟩⟩
    · rw [c7]
      unfold f_X1_readToken_b61
      rw [yw_n (by omega), r1, yw_n (by omega), s1, ycP_lt, decide_eq_false (by omega)]
      rfl
    · rw [c8]
      unfold f_X8_next_b44
      rw [yw_n (a := 0) (b := 18) (by omega), r2, lk]
      rfl
    · rw [yw_n (by omega), yw_n (by omega), r1]; omega
    · rw [yw_n (by omega), yw_n (by omega), r3]; exact f7
    · rw [yw_n (by omega), yw_n (by omega), r4]; exact f8
    · rw [yw_n (by omega), yw_n (by omega), yw_n (by omega), yw_n (by omega), r1, r2]
    · rw [yw_n (by omega), yw_n (by omega), yw_n (by omega), yw_n (by omega), r2, S1]; omega
    · rw [yw_n (by omega), yw_p, yw_n (by omega), yw_p]
    · rw [yw_p, yw_p]
    · rw [yw_n (by omega), yw_p, yw_n (by omega), yw_n (by omega), r2]; omega
    · rw [yw_p]; omega
    · intro _; rw [yw_n (by omega), yw_p, yw_n (by omega), yw_n (by omega), S1, hend]
    · intro q; rw [yw_p] at q; exact absurd rfl q
    · intro q; rw [yw_p] at q; omega
    · intro q; rw [yw_p] at q; exact absurd rfl q
  · have e160 : e < 160 := by omega
    rw [if_pos (by omega)] at lk
    have ie : yin (e : Int) 160 = true := by rw [yin_d]; exact decide_eq_true (by omega)
    have e1 : yad (e : Int) 1 = ((e + 1 : Nat) : Int) := by rw [yad_e (by omega) (by omega)]; omega
    obtain ⟨by1, by2⟩ := T1.2.2.2 e (by omega)
    obtain ⟨x, hx⟩ : ∃ x : Int, τ1.1 8 e = x := ⟨_, rfl⟩
    rw [hx] at lk by1 by2
    have d7 : ∀ k : Int, (if 97 ≤ x ∧ x ≤ 122 then (1 : Int) else if 48 ≤ x ∧ x ≤ 57 then 2 else if x = 59 then 3 else 4) = k → f_X1_readToken N σ = f_X1_readToken_b109 N N (yw (yw (yw σ1 2 3 (e : Int)) 2 2 k) 2 1 ((e + 1 : Nat) : Int)) := fun k hk => by
      rw [c7]
      unfold f_X1_readToken_b61
      rw [yw_n (a := 2) (b := 1) (by omega), r1, yw_n (a := 3) (by omega), s1, ycP_lt, decide_eq_true (show (e : Int) < (S : Int) by omega), ie, Int.toNat_natCast, yw_n (a := 4) (by omega), by1, x1_sortOf, hk]
      show f_X1_readToken_b101 N (yw (yw σ1 2 3 (e : Int)) 2 2 k) = _
      unfold f_X1_readToken_b101
      rw [yw_n (a := 2) (b := 1) (by omega), yw_n (a := 2) (b := 1) (by omega), r1, e1]
    have d8 : f_X8_next N τ = (bif decide (0 ≤ x) then (match f_X8_in N (yw τ1 0 19 (e : Int)) x 97 122 with
      | none => none
      | some r3 => bif ycP .eq r3.1 0 then
          (match f_X8_in N r3.2 x 48 57 with
          | none => none
          | some r4 => bif ycP .eq r4.1 0 then
              bif ycP .ne x 59 then
                f_X8_next_b260 N (yw r4.2 0 20 3) 0
              else
                f_X8_next_b260 N (yw r4.2 0 20 3) 1
            else
              f_X8_next_b140 N N (yw (yw r4.2 0 20 2) 0 21 0))
        else
          f_X8_next_b82 N N (yw r3.2 0 20 1)) else f_X8_next_b274 N (yw (yw τ1 0 19 (e : Int)) 0 20 0)) := by
      rw [c8]
      unfold f_X8_next_b44
      rw [yw_n (a := 0) (b := 18) (by omega), r2, lk]
      rfl
    have hp7 : σ.1 2 1 = (p : Int) := hap.trans hp
    obtain ⟨M, hM⟩ : ∃ M, N = M + 1 := ⟨N - 1, by omega⟩
    by_cases hc : 97 ≤ x ∧ x ≤ 122
    · have q7 := d7 1 (if_pos hc)
      have q8 : f_X8_next N τ = f_X8_next_b82 N N (yw (yw τ1 0 19 (e : Int)) 0 20 1) := by
        rw [d8, decide_eq_true by2, x8_in, if_pos hc]
        rfl
      have lk2 := x8_look N (yw (yw τ1 0 19 (e : Int)) 0 20 1) (e : Int) (by omega) (by rw [yw_n (by omega), yw_n (by omega), S1]; omega)
      rw [yw_n (a := 0) (b := 17) (by omega), yw_n (a := 0) (b := 17) (by omega), S1, if_pos (by omega), Int.toNat_natCast, yw_n (a := 8) (by omega), yw_n (a := 8) (by omega), hx] at lk2
      have st : f_X8_next_b82 N N (yw (yw τ1 0 19 (e : Int)) 0 20 1) = f_X8_next_b82 N M (yw (yw (yw τ1 0 19 (e : Int)) 0 20 1) 0 18 ((e + 1 : Nat) : Int)) := by
        have q := q_X8_next_b82 N M (yw (yw τ1 0 19 (e : Int)) 0 20 1)
        rw [show M + 1 = N by omega, yw_n (a := 0) (b := 18) (by omega), yw_n (a := 0) (b := 18) (by omega), r2, lk2] at q
        rw [q]
        simp only [x8_in, if_pos hc]
        rw [yw_n (a := 0) (b := 18) (by omega), yw_n (a := 0) (b := 18) (by omega), r2, e1]
        rfl
      have K7a : yK7 σ1 (yw (yw (yw σ1 2 3 (e : Int)) 2 2 1) 2 1 ((e + 1 : Nat) : Int)) := yK7_w (yK7_w (yK7_w yK7_r (by omega)) (by omega)) (by omega)
      have K8a : yK8 τ1 (yw (yw (yw τ1 0 19 (e : Int)) 0 20 1) 0 18 ((e + 1 : Nat) : Int)) := yK8_w (yK8_w (yK8_w yK8_r (by omega)) (by omega)) (by omega)
      obtain ⟨n, σ', τ', n1, n2, u7, u8, v7, v8, w1, w2, w3, w4, w5, w6, w7, w8⟩ := p_run1 (N := N) (S := S) (S - (e + 1)) (N - (S - (e + 1)) - 1) (M - (S - (e + 1)) - 1) (e + 1) _ _ (by omega) (yTp_k K7a K8a T1) (by rw [yw_n (by omega), yw_n (by omega), yw_n (by omega)]; exact S1) yw_p yw_p (by rw [yw_n (by omega), yw_p])
      rw [show N - (S - (e + 1)) - 1 + (S - (e + 1)) + 1 = N by omega] at u7
      rw [show M - (S - (e + 1)) - 1 + (S - (e + 1)) + 1 = M by omega] at u8
      refine ⟨σ', τ', ?_, ?_, yTR_ok (e := e) (n := n) (k := 1) T hS hp7 (yK7_t k7 (yK7_t K7a v7)) (yK8_t k8 (yK8_t K8a v8)) h1 (by omega) n2 w1 w2 ?_ ?_ w3 ?_ ?_ ?_ (by omega) (fun q => by omega)⟩
      · rw [q7, u7]
        unfold f_X1_readToken_b166
        rw [w3]
        rfl
      · rw [q8, st, u8]
      · rw [w4, yw_n (by omega), yw_n (by omega), yw_p]
      · rw [w6, yw_n (by omega), yw_n (by omega), yw_p]
      · rw [w7, yw_n (by omega), yw_p]; rfl
      · rw [w5, yw_n (by omega), yw_n (by omega), yw_n (by omega), r3]; exact f7
      · rw [w8, yw_n (by omega), yw_n (by omega), yw_n (by omega), r4]; exact f8
    · by_cases hd : 48 ≤ x ∧ x ≤ 57
      · have q7 := d7 2 (by rw [if_neg hc, if_pos hd])
        have q8 : f_X8_next N τ = f_X8_next_b140 N N (yw (yw (yw τ1 0 19 (e : Int)) 0 20 2) 0 21 0) := by
          rw [d8, decide_eq_true by2]
          simp only [x8_in, if_neg hc, if_pos hd, cond_true, ycP_eq, decide_true]
          rfl
        have lk2 := x8_look N (yw (yw (yw τ1 0 19 (e : Int)) 0 20 2) 0 21 0) (e : Int) (by omega) (by rw [yw_n (by omega), yw_n (by omega), yw_n (by omega), S1]; omega)
        rw [yw_n (a := 0) (b := 17) (by omega), yw_n (a := 0) (b := 17) (by omega), yw_n (a := 0) (b := 17) (by omega), S1, if_pos (by omega), Int.toNat_natCast, yw_n (a := 8) (by omega), yw_n (a := 8) (by omega), yw_n (a := 8) (by omega), hx] at lk2
        have ev : ysu (yad (ymu 10 0) x) 48 = x - 48 := by
          rw [ymu_e (by omega) (by omega), yad_e (by omega) (by omega), ysu_e (by omega) (by omega)]
          omega
        have ez : ysu (e : Int) (e : Int) = 0 := by rw [ysu_e (by omega) (by omega)]; omega
        have st : f_X8_next_b140 N N (yw (yw (yw τ1 0 19 (e : Int)) 0 20 2) 0 21 0) = f_X8_next_b140 N M (yw (yw (yw (yw (yw τ1 0 19 (e : Int)) 0 20 2) 0 21 0) 0 21 (x - 48)) 0 18 ((e + 1 : Nat) : Int)) := by
          have q := q_X8_next_b140 N M (yw (yw (yw τ1 0 19 (e : Int)) 0 20 2) 0 21 0)
          rw [show M + 1 = N by omega, yw_n (a := 0) (b := 18) (by omega), yw_n (a := 0) (b := 18) (by omega), yw_n (a := 0) (b := 18) (by omega), r2, lk2] at q
          rw [q]
          simp only [x8_in, if_pos hd]
          rw [yw_n (a := 0) (b := 18) (by omega), yw_n (a := 0) (b := 18) (by omega), yw_n (a := 0) (b := 18) (by omega), r2, yw_n (a := 0) (b := 19) (by omega), yw_n (a := 0) (b := 19) (by omega), yw_p, ez, lk2, yw_p]
          simp only [ev]
          show f_X8_next_b201 N (f_X8_next_b140 N M) _ (x - 48) = _
          unfold f_X8_next_b201 f_X8_next_b206
          rw [yw_n (a := 0) (b := 18) (by omega), yw_n (a := 0) (b := 18) (by omega), yw_n (a := 0) (b := 18) (by omega), yw_n (a := 0) (b := 18) (by omega), r2, e1]
        have K7a : yK7 σ1 (yw (yw (yw σ1 2 3 (e : Int)) 2 2 2) 2 1 ((e + 1 : Nat) : Int)) := yK7_w (yK7_w (yK7_w yK7_r (by omega)) (by omega)) (by omega)
        have K8a : yK8 τ1 (yw (yw (yw (yw (yw τ1 0 19 (e : Int)) 0 20 2) 0 21 0) 0 21 (x - 48)) 0 18 ((e + 1 : Nat) : Int)) := yK8_w (yK8_w (yK8_w (yK8_w (yK8_w yK8_r (by omega)) (by omega)) (by omega)) (by omega)) (by omega)
        obtain ⟨n, σ', τ', n1, n2, u7, u8, v7, v8, w1, w2, w3, w4, w5, w6, w7, w8, w9⟩ := p_run2 (N := N) (S := S) (s := e) (S - (e + 1)) (N - (S - (e + 1)) - 1) (M - (S - (e + 1)) - 1) (e + 1) _ _ (by omega) (yTp_k K7a K8a T1) (by rw [K8a _ _ (by omega)]; exact S1) yw_p yw_p (by rw [yw_n (by omega), yw_p]) (by rw [yw_n (by omega), yw_n (by omega), yw_n (by omega), yw_n (by omega), yw_p]) (by omega) ⟨by rw [K8a _ _ (by omega), hx]; exact hd, Or.inl ⟨rfl, by rw [yw_n (by omega), yw_p, K8a 8 e (by omega), hx]⟩⟩
        rw [show N - (S - (e + 1)) - 1 + (S - (e + 1)) + 1 = N by omega] at u7
        rw [show M - (S - (e + 1)) - 1 + (S - (e + 1)) + 1 = M by omega] at u8
        have K7b := yK7_t k7 (yK7_t K7a v7)
        have K8b := yK8_t k8 (yK8_t K8a v8)
        have b7 : σ'.1 2 3 = (e : Int) := by rw [w4, yw_n (by omega), yw_n (by omega), yw_p]
        have b8 : τ'.1 0 19 = (e : Int) := by rw [w6, yw_n (by omega), yw_n (by omega), yw_n (by omega), yw_n (by omega), yw_p]
        have t8 : τ'.1 0 20 = 2 := by rw [w7, yw_n (by omega), yw_n (by omega), yw_n (by omega), yw_p]
        have f7b : σ'.1 2 4 = 0 := by rw [w5, yw_n (by omega), yw_n (by omega), yw_n (by omega), r3]; exact f7
        have f8b : τ'.1 0 22 = 0 := by rw [w8, yw_n (by omega), yw_n (by omega), yw_n (by omega), yw_n (by omega), yw_n (by omega), r4]; exact f8
        have es : ysu (σ'.1 2 1) (σ'.1 2 3) = (n : Int) - e := by rw [w1, b7, ysu_e (by omega) (by omega)]
        by_cases h2 : n ≤ e + 2
        · refine ⟨σ', τ', ?_, ?_, yTR_ok (e := e) (n := n) (k := 2) T hS hp7 K7b K8b h1 (by omega) n2 w1 w2 b7 b8 w3 t8 f7b f8b (by omega) (fun _ => ⟨w9, h2⟩)⟩
          · rw [q7, u7]
            unfold f_X1_readToken_b166
            rw [w3, es, ycP_le, decide_eq_true (show (n : Int) - e ≤ 2 by omega)]
            rfl
          · rw [q8, st, u8, if_pos h2]
            rfl
        · refine ⟨yw (yw σ' 2 4 1) 2 5 (e : Int), yw (yw τ' 0 22 1) 0 23 (e : Int), ?_, ?_, yTR_bad (e := e) (n := n) T hS hp7 (yK7_w (yK7_w K7b (by omega)) (by omega)) (yK8_w (yK8_w K8b (by omega)) (by omega)) h1 (by omega) n2 ?_ ?_ ?_ ?_ yw_p yw_p⟩
          · rw [q7, u7]
            unfold f_X1_readToken_b166
            rw [w3, es, ycP_le, decide_eq_false (show ¬ (n : Int) - e ≤ 2 by omega)]
            show f_X1_readToken_b195 N σ' = _
            unfold f_X1_readToken_b195 f_X1_complain
            rw [f7b, b7]
            rfl
          · rw [q8, st, u8, if_neg h2]
            unfold f_X8_next_b236 f_X8_needs
            rw [f8b]
            show some ((0 : Int), yw (yw τ' 0 22 1) 0 23 ((yw τ' 0 22 1).1 0 19)) = _
            rw [yw_n (by omega), b8]
          · rw [yw_n (by omega), yw_n (by omega), w1]
          · rw [yw_n (by omega), yw_n (by omega), b7]
          · rw [yw_n (by omega), yw_p]
          · rw [yw_n (by omega), yw_p]
      · by_cases h59 : x = 59
        · have q7 := d7 3 (by rw [if_neg hc, if_neg hd, if_pos h59])
          have q8 : f_X8_next N τ = f_X8_next_b260 N (yw (yw τ1 0 19 (e : Int)) 0 20 3) 1 := by
            rw [d8, decide_eq_true by2]
            simp only [x8_in, if_neg hc, if_neg hd, cond_true, ycP_eq, ycP_ne, decide_true, h59]
            rfl
          refine ⟨yw (yw (yw σ1 2 3 (e : Int)) 2 2 3) 2 1 ((e + 1 : Nat) : Int), yw (yw (yw τ1 0 19 (e : Int)) 0 20 3) 0 18 ((e + 1 : Nat) : Int), ?_, ?_, yTR_ok (e := e) (n := e + 1) (k := 3) T hS hp7 (yK7_w (yK7_w (yK7_w k7 (by omega)) (by omega)) (by omega)) (yK8_w (yK8_w (yK8_w k8 (by omega)) (by omega)) (by omega)) h1 (by omega) (by omega) yw_p yw_p ?_ ?_ ?_ ?_ ?_ ?_ (by omega) (fun q => by omega)⟩
          · have q := q_X1_readToken_b109 N M (yw (yw (yw σ1 2 3 (e : Int)) 2 2 3) 2 1 ((e + 1 : Nat) : Int))
            rw [show M + 1 = N by omega, yw_n (a := 2) (b := 2) (by omega), yw_p] at q
            rw [q7, q, ycP_eq, decide_eq_true rfl, cond_true]
            unfold f_X1_readToken_b166
            rw [yw_n (a := 2) (b := 2) (by omega), yw_p]
            rfl
          · rw [q8]
            show some ((0 : Int), yw (yw (yw τ1 0 19 (e : Int)) 0 20 3) 0 18 (yad ((yw (yw τ1 0 19 (e : Int)) 0 20 3).1 0 18) 1)) = _
            rw [yw_n (a := 0) (b := 18) (by omega), yw_n (a := 0) (b := 18) (by omega), r2, e1]
          · rw [yw_n (by omega), yw_n (by omega), yw_p]
          · rw [yw_n (by omega), yw_n (by omega), yw_p]
          · rw [yw_n (by omega), yw_p]; rfl
          · rw [yw_n (by omega), yw_p]; rfl
          · rw [yw_n (by omega), yw_n (by omega), yw_n (by omega), r3]; exact f7
          · rw [yw_n (by omega), yw_n (by omega), yw_n (by omega), r4]; exact f8
        · have q7 := d7 4 (by rw [if_neg hc, if_neg hd, if_neg h59])
          have q8 : f_X8_next N τ = f_X8_next_b260 N (yw (yw τ1 0 19 (e : Int)) 0 20 3) 0 := by
            rw [d8, decide_eq_true by2]
            simp only [x8_in, if_neg hc, if_neg hd, ycP_eq, ycP_ne, decide_true, cond_true, decide_eq_true h59]
          have K7a : yK7 σ1 (yw (yw (yw σ1 2 3 (e : Int)) 2 2 4) 2 1 ((e + 1 : Nat) : Int)) := yK7_w (yK7_w (yK7_w yK7_r (by omega)) (by omega)) (by omega)
          obtain ⟨n, σ', n1, n2, u7, v7, w1, w3, w4, w5⟩ := x1_run4 (N := N) (S := S) (by omega) (S - (e + 1)) (N - (S - (e + 1)) - 1) (e + 1) (yw (yw (yw σ1 2 3 (e : Int)) 2 2 4) 2 1 ((e + 1 : Nat) : Int)) (by omega) (by rw [yw_n (by omega), yw_n (by omega), yw_n (by omega)]; exact s1) yw_p (by rw [yw_n (by omega), yw_p])
          rw [show N - (S - (e + 1)) - 1 + (S - (e + 1)) + 1 = N by omega] at u7
          have b7 : σ'.1 2 3 = (e : Int) := by rw [w4, yw_n (by omega), yw_n (by omega), yw_p]
          have f7b : σ'.1 2 4 = 0 := by rw [w5, yw_n (by omega), yw_n (by omega), yw_n (by omega), r3]; exact f7
          refine ⟨yw (yw σ' 2 4 1) 2 5 (e : Int), yw (yw (yw (yw (yw τ1 0 19 (e : Int)) 0 20 3) 0 22 1) 0 23 (e : Int)) 0 18 ((e + 1 : Nat) : Int), ?_, ?_, yTR_bad (e := e) (n := n) T hS hp7 (yK7_w (yK7_w (yK7_t k7 (yK7_t K7a v7)) (by omega)) (by omega)) (yK8_w (yK8_w (yK8_w (yK8_w (yK8_w k8 (by omega)) (by omega)) (by omega)) (by omega)) (by omega)) h1 (by omega) n2 ?_ ?_ ?_ ?_ yw_p ?_⟩
          · rw [q7, u7]
            unfold f_X1_readToken_b166
            rw [w3]
            show f_X1_readToken_b195 N σ' = _
            unfold f_X1_readToken_b195 f_X1_complain
            rw [f7b, b7]
            rfl
          · rw [q8]
            unfold f_X8_next_b260 f_X8_needs
            rw [yw_n (a := 0) (b := 22) (by omega), yw_n (a := 0) (b := 22) (by omega), r4, f8]
            show some ((0 : Int), yw (yw (yw (yw (yw τ1 0 19 (e : Int)) 0 20 3) 0 22 1) 0 23 ((yw (yw (yw τ1 0 19 (e : Int)) 0 20 3) 0 22 1).1 0 19)) 0 18 (yad ((yw (yw (yw (yw τ1 0 19 (e : Int)) 0 20 3) 0 22 1) 0 23 ((yw (yw (yw τ1 0 19 (e : Int)) 0 20 3) 0 22 1).1 0 19)).1 0 18) 1)) = _
            rw [yw_n (a := 0) (b := 19) (by omega), yw_n (a := 0) (b := 19) (by omega), yw_p, yw_n (a := 0) (b := 18) (by omega), yw_n (a := 0) (b := 18) (by omega), yw_n (a := 0) (b := 18) (by omega), yw_n (a := 0) (b := 18) (by omega), r2, e1]
          · rw [yw_n (by omega), yw_n (by omega), w1]
          · rw [yw_n (by omega), yw_n (by omega), b7]
          · rw [yw_n (by omega), yw_p]
          · rw [yw_n (by omega), yw_n (by omega), yw_p]
          · rw [yw_n (by omega), yw_p]
