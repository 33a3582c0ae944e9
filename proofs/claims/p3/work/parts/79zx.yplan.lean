/-- where so many are left to find, one of them is ahead -/
theorem yFx {τ : yS} (F : ∀ u j : Nat, u ≤ 700 → j < 16 → yFe τ u j) {l : Nat} (hl : l < 16) {M : Int} (hM : 0 < M ∧ M < 1000000) : ∀ (c v : Nat), v + c = 700 → τ.1 11 (16 * v + l) = M → ∃ d : Nat, v + d < 700 ∧ ¬ τ.1 10 (v + d) = 0 ∧ τ.1 11 (16 * (v + d + 1) + (yan (l : Int) (yxo (τ.1 10 (v + d)) (-1))).toNat) + 1 = M
  | 0, v, hv, h => by
    have q := (F v l (by omega) hl).2.1 (by omega)
    omega
  | c + 1, v, hv, h => by
    rcases (F v l (by omega) hl).2.2 (by omega) with q | q | ⟨q1, q2⟩
    · omega
    · obtain ⟨d, h1, h2, h3⟩ := yFx F hl hM c (v + 1) (by omega) (by rw [← q]; exact h)
      refine ⟨d + 1, by omega, ?_, ?_⟩
      · rw [show v + (d + 1) = v + 1 + d by omega]; exact h2
      · rw [show v + (d + 1) = v + 1 + d by omega]; exact h3
    · exact ⟨0, by omega, q1, (show τ.1 11 (16 * (v + 1) + (yan (l : Int) (yxo (τ.1 10 v) (-1))).toNat) + 1 = M by rw [← q2]; exact h)⟩
theorem x8_p93 {N : Nat} {τ : yS} (k78 : yS → Int → Int → Int → Int → Int → Int → Option (Int × yS)) (h16 : ∀ u : Nat, u < 700 → 0 ≤ τ.1 10 u ∧ τ.1 10 u < 16) (F : ∀ u j : Nat, u ≤ 700 → j < 16 → yFe τ u j) {l i : Nat} {w M : Int} (hl : l < 16) (hM : (i : Int) < M ∧ M < 1000000) : ∀ (c m v : Nat), v + c < 700 → ¬ τ.1 10 (v + c) = 0 → τ.1 11 (16 * (v + c + 1) + (yan (l : Int) (yxo (τ.1 10 (v + c)) (-1))).toNat) + 1 = M - i → ∃ v' l' : Nat, v' < 700 ∧ l' < 16 ∧ τ.1 11 (16 * (v' + 1) + l') = M - i - 1 ∧ f_X8_plan_b93 N k78 (m + c + 1) τ w l M v i = k78 τ w l' M ((v' + 1 : Nat) : Int) v' ((i + 1 : Nat) : Int) := by
  intro c
  induction c with
  | zero =>
    intro m v hv h1 h2
    have iv : yin (v : Int) 700 = true := by rw [yin_d]; exact decide_eq_true (by omega)
    have ev : yad (v : Int) 1 = ((v + 1 : Nat) : Int) := by rw [yad_e (by omega) (by omega)]; omega
    have ei : yad (i : Int) 1 = ((i + 1 : Nat) : Int) := by rw [yad_e (by omega) (by omega)]; omega
    have e3 : ymu 16 ((v + 1 : Nat) : Int) = ((16 * (v + 1) : Nat) : Int) := by rw [ymu_e (by omega) (by omega)]; omega
    have cv := h16 v (by omega)
    obtain ⟨C, hC⟩ : ∃ C : Nat, τ.1 10 v = (C : Int) := ⟨(τ.1 10 v).toNat, by omega⟩
    obtain ⟨q, hq, eq⟩ := yan16n hl (show C < 16 by omega)
    have e5 : yad ((16 * (v + 1) : Nat) : Int) (q : Int) = ((16 * (v + 1) + q : Nat) : Int) := by rw [yad_e (by omega) (by omega)]; omega
    have i5 : yin ((16 * (v + 1) + q : Nat) : Int) 11216 = true := by rw [yin_d]; exact decide_eq_true (by omega)
    have f2 := (F (v + 1) q (by omega) hq).1
    have e6 : yad (τ.1 11 (16 * (v + 1) + q)) 1 = τ.1 11 (16 * (v + 1) + q) + 1 := yad_e (by omega) (by omega)
    have e7 : ysu M (i : Int) = M - i := ysu_e (by omega) (by omega)
    have h1 : ¬ τ.1 10 v = 0 := h1
    have h2 : τ.1 11 (16 * (v + 1) + (yan (l : Int) (yxo (τ.1 10 v) (-1))).toNat) + 1 = M - i := h2
    rw [hC, eq, Int.toNat_natCast] at h2
    refine ⟨v, q, by omega, hq, by omega, ?_⟩
    rw [q_X8_plan_b93, iv, cond_true, Int.toNat_natCast, ycP_eq, decide_eq_false h1, cond_false, ev, e3, hC, eq, e5, i5, cond_true, Int.toNat_natCast, e6, e7, ycP_eq, decide_eq_true h2, cond_true, ei]
  | succ c ih =>
    intro m v hv h1 h2
    have iv : yin (v : Int) 700 = true := by rw [yin_d]; exact decide_eq_true (by omega)
    have ev : yad (v : Int) 1 = ((v + 1 : Nat) : Int) := by rw [yad_e (by omega) (by omega)]; omega
    have ei : yad (i : Int) 1 = ((i + 1 : Nat) : Int) := by rw [yad_e (by omega) (by omega)]; omega
    have e3 : ymu 16 ((v + 1 : Nat) : Int) = ((16 * (v + 1) : Nat) : Int) := by rw [ymu_e (by omega) (by omega)]; omega
    have cv := h16 v (by omega)
    obtain ⟨C, hC⟩ : ∃ C : Nat, τ.1 10 v = (C : Int) := ⟨(τ.1 10 v).toNat, by omega⟩
    obtain ⟨q, hq, eq⟩ := yan16n hl (show C < 16 by omega)
    have e5 : yad ((16 * (v + 1) : Nat) : Int) (q : Int) = ((16 * (v + 1) + q : Nat) : Int) := by rw [yad_e (by omega) (by omega)]; omega
    have i5 : yin ((16 * (v + 1) + q : Nat) : Int) 11216 = true := by rw [yin_d]; exact decide_eq_true (by omega)
    have f2 := (F (v + 1) q (by omega) hq).1
    have e6 : yad (τ.1 11 (16 * (v + 1) + q)) 1 = τ.1 11 (16 * (v + 1) + q) + 1 := yad_e (by omega) (by omega)
    have e7 : ysu M (i : Int) = M - i := ysu_e (by omega) (by omega)
    have nx : ∃ v' l' : Nat, v' < 700 ∧ l' < 16 ∧ τ.1 11 (16 * (v' + 1) + l') = M - i - 1 ∧ f_X8_plan_b136 N k78 (f_X8_plan_b93 N k78 (m + c + 1)) τ w l M v i = k78 τ w l' M ((v' + 1 : Nat) : Int) v' ((i + 1 : Nat) : Int) := by
      obtain ⟨v', l', a1, a2, a3, a4⟩ := ih m (v + 1) (by omega) (by rw [show v + 1 + c = v + (c + 1) by omega]; exact h1) (by rw [show v + 1 + c = v + (c + 1) by omega]; exact h2)
      refine ⟨v', l', a1, a2, a3, ?_⟩
      unfold f_X8_plan_b136
      rw [ev]
      exact a4
    rw [show m + (c + 1) + 1 = (m + c + 1) + 1 from rfl, q_X8_plan_b93, iv, cond_true, Int.toNat_natCast, ev, e3, hC, eq, e5, i5, cond_true, Int.toNat_natCast, e6, e7, ei]
    by_cases z : (C : Int) = 0
    · rw [ycP_eq, decide_eq_true z, cond_true]
      exact nx
    · rw [ycP_eq, decide_eq_false z, cond_false]
      by_cases y : τ.1 11 (16 * (v + 1) + q) + 1 = M - i
      · refine ⟨v, q, by omega, hq, by omega, ?_⟩
        rw [ycP_eq, decide_eq_true y, cond_true]
      · rw [ycP_eq, decide_eq_false y, cond_false]
        exact nx
theorem x8_p78 {N : Nat} (hN : 1000 ≤ N) {τ : yS} (h16 : ∀ u : Nat, u < 700 → 0 ≤ τ.1 10 u ∧ τ.1 10 u < 16) (F : ∀ u j : Nat, u ≤ 700 → j < 16 → yFe τ u j) {e : Nat} {w M : Int} (hw : w = 10 + (e : Int)) (he : e ≤ 3) (hM : 0 ≤ M ∧ M < 1000000) : ∀ (c m i v l : Nat) (x5 : Int), i + c = e + 1 → l < 16 → v ≤ 700 → τ.1 11 (16 * v + l) = M - i → ∃ a : Int, f_X8_plan_b78 N (m + c + 1) τ w l M v x5 i = some (a, τ) := by
  have ew : ysu w 10 = (e : Int) := by rw [ysu_e (by omega) (by omega)]; omega
  have fin : ∀ x5 : Int, ∃ a : Int, f_X8_plan_b167 N τ w M x5 = some (a, τ) := fun x5 => by
    unfold f_X8_plan_b167
    cases ycP .ge (ysu w 10) M with
    | true => exact ⟨_, rfl⟩
    | false => exact ⟨_, rfl⟩
  intro c
  induction c with
  | zero =>
    intro m i v l x5 hi hl hv hT
    rw [q_X8_plan_b78, ew, ycP_gt, decide_eq_true (by omega), cond_true]
    exact fin x5
  | succ c ih =>
    intro m i v l x5 hi hl hv hT
    rw [show m + (c + 1) + 1 = (m + c + 1) + 1 from rfl, q_X8_plan_b78, ew, ycP_gt, decide_eq_false (by omega), cond_false]
    by_cases z : M ≤ (i : Int)
    · rw [ycP_ge, decide_eq_true z, cond_true]
      exact fin x5
    · rw [ycP_ge, decide_eq_false z, cond_false]
      obtain ⟨d, a1, a2, a3⟩ := yFx F hl (M := M - i) (by omega) (700 - v) v (by omega) hT
      obtain ⟨v', l', b1, b2, b3, b4⟩ := x8_p93 (N := N) (w := w) (f_X8_plan_b78 N (m + c + 1)) h16 F hl (show (i : Int) < M ∧ M < 1000000 by omega) d (N - d - 1) v a1 a2 a3
      rw [show N - d - 1 + d + 1 = N by omega] at b4
      obtain ⟨a, g⟩ := ih m (i + 1) (v' + 1) l' v' (by omega) b2 (by omega) (by rw [b3]; omega)
      exact ⟨a, b4.trans g⟩
/-- the reference's plan comes to an end -/
theorem x8_plan {N : Nat} (hN : 1000 ≤ N) {σ τ : yS} {w : Int} (HR : yRR σ τ) : ∃ (a : Int) (τ' : yS), f_X8_plan N τ w = some (a, τ') ∧ yC8 τ τ' := by
  obtain ⟨τ1, g1, C1, h16, F⟩ := x8_ff (N := N) hN HR
  have HR1 := yRR_c8 HR C1
  obtain ⟨W, W4, -, hW⟩ := yWm HR1
  obtain ⟨L, hL, eL⟩ := yall4n W4
  have i1 : yin (L : Int) 11216 = true := by rw [yin_d]; exact decide_eq_true (by omega)
  have f0 := (F 0 L (by omega) hL).1
  rw [Nat.mul_zero, Nat.zero_add] at f0
  have fin : ∀ x : Int, ∃ (a : Int) (τ' : yS), f_X8_plan_b54 N τ1 x = some (a, τ') ∧ yC8 τ τ' := fun x => by
    unfold f_X8_plan_b54
    cases ycP .lt x 1000000 with
    | true => exact ⟨_, τ1, rfl, C1⟩
    | false => exact ⟨_, τ1, rfl, C1⟩
  have st : (w = 0 ∨ (10 ≤ w ∧ w ≤ 13)) → ∃ (a : Int) (τ' : yS), f_X8_plan_b20 N τ w = some (a, τ') ∧ yC8 τ τ' := fun hw => by
    unfold f_X8_plan_b20
    rw [g1]
    dsimp only
    rw [hW, eL, i1, cond_true, Int.toNat_natCast]
    by_cases z : 1000000 ≤ τ1.1 11 L
    · rw [ycP_ge, decide_eq_true z, cond_true]
      exact fin _
    · rw [ycP_ge, decide_eq_false z, cond_false]
      by_cases w0 : w = 0
      · rw [ycP_ne, decide_eq_false (fun q => q w0), cond_false]
        exact fin _
      · rw [ycP_ne, decide_eq_true w0, cond_true]
        obtain ⟨e, he⟩ : ∃ e : Nat, w = 10 + (e : Int) := ⟨(w - 10).toNat, by omega⟩
        obtain ⟨a, g⟩ := x8_p78 (N := N) hN h16 F he (by omega) (show 0 ≤ τ1.1 11 L ∧ τ1.1 11 L < 1000000 by omega) (e + 1) (N - e - 2) 0 0 L (-4) (by omega) hL (by omega) (by rw [Nat.mul_zero, Nat.zero_add]; omega)
        rw [show N - e - 2 + (e + 1) + 1 = N by omega] at g
        exact ⟨a, τ1, g, C1⟩
  unfold f_X8_plan
  by_cases w0 : w = 0
  · rw [ycP_eq, decide_eq_true w0, cond_true]
    exact st (Or.inl w0)
  · rw [ycP_eq, decide_eq_false w0, cond_false, x8_in]
    dsimp only
    by_cases hw : 10 ≤ w ∧ w ≤ 13
    · rw [if_pos hw, ycP_ne, decide_eq_true (by decide), cond_true]
      exact st (Or.inr hw)
    · rw [if_neg hw, ycP_ne, decide_eq_false (by decide), cond_false]
      exact ⟨_, τ, rfl, yC8_r⟩
/-- both plans come to an end, and nothing that is shown changes -/
theorem P_plan {N : Nat} (hN : 1000 ≤ N) {σ τ : yS} {w : Int} (HR : yRR σ τ) : ∃ (a b : Int) (σ' τ' : yS), f_X7_plan N σ w = some (a, σ') ∧ f_X8_plan N τ w = some (b, τ') ∧ yRR σ' τ' := by
  obtain ⟨a, σ', g7, C7⟩ := x7_plan (N := N) (w := w) hN HR
  obtain ⟨b, τ', g8, C8⟩ := x8_plan (N := N) (w := w) hN HR
  exact ⟨a, b, σ', τ', g7, g8, yRR_c8 (yRR_c7 HR C7) C8⟩
