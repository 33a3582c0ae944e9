/-- the planner's rows alone may be others -/
def yC7 (σ σ' : yS) : Prop := σ'.2 = σ.2 ∧ ∀ a b : Nat, ¬ a = 6 → ¬ a = 7 → σ'.1 a b = σ.1 a b
theorem yC7_r {σ : yS} : yC7 σ σ := ⟨rfl, fun _ _ _ _ => rfl⟩
theorem yC7_t {σ1 σ2 σ3 : yS} (h : yC7 σ1 σ2) (k : yC7 σ2 σ3) : yC7 σ1 σ3 := ⟨k.1.trans h.1, fun a b x y => by rw [k.2 a b x y, h.2 a b x y]⟩
theorem yC7_w {σ1 σ2 : yS} {i k : Nat} {z : Int} (h : yC7 σ1 σ2) (hi : i = 6 ∨ i = 7) : yC7 σ1 (yw σ2 i k z) := ⟨h.1, fun a b x y => by rw [yw_n (by omega), h.2 a b x y]⟩
theorem yRR_c7 {σ τ σ' : yS} (H : yRR σ τ) (C : yC7 σ σ') : yRR σ' τ := by
  refine yRR_scr H (fun a b _ => by rw [C.1]) ?_ (fun a b h => C.2 a b (by omega) (by omega)) (fun a b _ _ _ _ _ => rfl)
  have q := H.2.2.2.2.2.2
  unfold yTr at q ⊢
  rw [C.1]; exact q
theorem ywb16 : ∀ A : Fin 16, ∀ i : Fin 4, (0 ≤ yan ((A.val : Nat) : Int) (yxo (ysl 1 ((i.val : Nat) : Int)) (-1)) ∧ yan ((A.val : Nat) : Int) (yxo (ysl 1 ((i.val : Nat) : Int)) (-1)) < 16) ∧ (0 ≤ yor ((A.val : Nat) : Int) (ysl 1 ((i.val : Nat) : Int)) ∧ yor ((A.val : Nat) : Int) (ysl 1 ((i.val : Nat) : Int)) < 16) := by decide +kernel
theorem ywb16n {A i : Nat} (hA : A < 16) (hi : i < 4) (z : Int) : ∃ B : Nat, B < 16 ∧ (if z = 0 then yan (A : Int) (yxo (ysl 1 (i : Int)) (-1)) else yor (A : Int) (ysl 1 (i : Int))) = (B : Int) := by
  have q := ywb16 ⟨A, hA⟩ ⟨i, hi⟩
  dsimp only at q
  by_cases h : z = 0
  · rw [if_pos h]
    generalize yan (A : Int) (yxo (ysl 1 (i : Int)) (-1)) = y at q
    exact ⟨y.toNat, by omega, by omega⟩
  · rw [if_neg h]
    generalize yor (A : Int) (ysl 1 (i : Int)) = y at q
    exact ⟨y.toNat, by omega, by omega⟩
theorem x0_wb25 {N W : Nat} {σ : yS} {n S : Int} (hW : σ.1 (17 + 18) 0 = (W : Int)) (W4 : W ≤ 4) : ∀ (c m i A : Nat), i + c = W → A < 16 → ∃ B : Nat, B < 16 ∧ f_X0_wantsBrought_b25 N (m + c + 1) σ 17 n S A i = some ((B : Int), σ)
  | 0, m, i, A, hi, hA => ⟨A, hA, by rw [q_X0_wantsBrought_b25, ycP_ge, hW, decide_eq_true (by omega), cond_true]⟩
  | c + 1, m, i, A, hi, hA => by
    have ei : yad (i : Int) 1 = ((i + 1 : Nat) : Int) := by rw [yad_e (by omega) (by omega)]; omega
    have ii : yin (i : Int) 4 = true := by rw [yin_d]; exact decide_eq_true (by omega)
    have st : ∀ z : Int, ∃ B : Nat, B < 16 ∧ f_X0_wantsBrought_b76 N (f_X0_wantsBrought_b25 N (m + c + 1)) σ 17 n S A i z = some ((B : Int), σ) := fun z => by
      obtain ⟨A', hA', e⟩ := ywb16n hA (show i < 4 by omega) z
      obtain ⟨B, hB, g⟩ := x0_wb25 hW W4 c m (i + 1) A' (by omega) hA'
      refine ⟨B, hB, ?_⟩
      unfold f_X0_wantsBrought_b76
      rw [x7_withBit, e]
      dsimp only
      rw [ei]
      exact g
    rw [show m + (c + 1) + 1 = (m + c + 1) + 1 from rfl, q_X0_wantsBrought_b25, ycP_ge, hW, decide_eq_false (by omega), cond_false, ii, cond_true]
    cases ycP .ne (σ.1 (17 + 18 + 2) (i : Int).toNat) (yrm n 5) with
    | true => exact st 0
    | false =>
      rw [cond_false]
      show ∃ B : Nat, B < 16 ∧ (bif ycP .ne (yan (ysr S (σ.1 (17 + 18 + 1) (i : Int).toNat)) 1) 1 then f_X0_wantsBrought_b75 N (f_X0_wantsBrought_b25 N (m + c + 1)) σ 17 n S A i else f_X0_wantsBrought_b76 N (f_X0_wantsBrought_b25 N (m + c + 1)) σ 17 n S A i 1) = some ((B : Int), σ)
      cases ycP .ne (yan (ysr S (σ.1 (17 + 18 + 1) (i : Int).toNat)) 1) 1 with
      | true => exact st 0
      | false => exact st 1
/-- how many are wanted -/
theorem yWm {σ τ : yS} (HR : yRR σ τ) : ∃ W : Nat, W ≤ 4 ∧ σ.1 (17 + 18) 0 = (W : Int) ∧ τ.1 1 118 = (W : Int) := by
  have q : σ.1 (17 + 18) 0 = τ.1 1 118 := HR.1.2.2.2.1.2.2.2.1.1
  have g : 0 ≤ τ.1 1 118 ∧ τ.1 1 118 ≤ 4 := HR.1.2.2.2.2.2.2.2.2.1
  exact ⟨(τ.1 1 118).toNat, by omega, by omega, by omega⟩
theorem x0_wb {N : Nat} (hN : 132 ≤ N) {σ τ : yS} {H n : Nat} (HR : yRR σ τ) (hH : τ.1 0 3 = (H : Int)) (hn : n < 100 * H) : ∃ B : Nat, B < 16 ∧ f_X0_wantsBrought N σ 17 (n : Int) = some ((B : Int), σ) := by
  obtain ⟨W, W4, hW, -⟩ := yWm HR
  have lp : ∀ S : Int, ∃ B : Nat, B < 16 ∧ f_X0_wantsBrought_b19 N σ 17 (n : Int) S = some ((B : Int), σ) := fun S => by
    obtain ⟨B, hB, g⟩ := x0_wb25 (N := N) (n := (n : Int)) (S := S) hW W4 W (N - W - 1) 0 0 (by omega) (by decide)
    rw [show N - W - 1 + W + 1 = N by omega] at g
    exact ⟨B, hB, g⟩
  unfold f_X0_wantsBrought
  cases ycP .ge (yrm (n : Int) 5) (σ.1 17 2) with
  | true => exact lp 0
  | false =>
    rw [cond_false]
    obtain ⟨S, -, g, -⟩ := p_bring (N := N) hN (x := n / 100) (k := n / 20 % 5) (p := n / 5 % 4) (d := n % 5) HR hH (by omega) (by omega) (by omega) (by omega)
    rw [show 100 * (n / 100) + 20 * (n / 20 % 5) + 5 * (n / 5 % 4) + n % 5 = n by omega] at g
    rw [g]
    exact lp S
theorem yC7_W {σ σ' : yS} {W : Nat} (C : yC7 σ σ') (h : σ.1 (17 + 18) 0 = (W : Int)) : σ'.1 (17 + 18) 0 = (W : Int) := by
  rw [C.2 _ _ (by decide) (by decide)]; exact h
theorem x0_fv2 {N : Nat} : ∀ (c m i : Nat) (σ : yS), i + c = 16 → ∃ σ' : yS, f_X0_fewestVows_b2 N (m + c + 1) σ 17 i = f_X0_fewestVows_b23 N N σ' 17 0 ∧ yC7 σ σ'
  | 0, m, i, σ, hi => ⟨σ, by rw [q_X0_fewestVows_b2, ycP_ge, decide_eq_true (by omega), cond_true], yC7_r⟩
  | c + 1, m, i, σ, hi => by
    obtain ⟨σ', g, C⟩ := x0_fv2 (N := N) c m (i + 1) (yw σ 6 i 0) (by omega)
    have ei : yad (i : Int) 1 = ((i + 1 : Nat) : Int) := by rw [yad_e (by omega) (by omega)]; omega
    have ii : yinb (i : Int) 16 0 = true := by
      unfold yinb
      rw [yin_d, decide_eq_true (by omega)]; rfl
    refine ⟨σ', ?_, yC7_t (yC7_w yC7_r (by omega)) C⟩
    rw [show m + (c + 1) + 1 = (m + c + 1) + 1 from rfl, q_X0_fewestVows_b2, ycP_ge, decide_eq_false (by omega), cond_false, ii, cond_true, Int.toNat_natCast, ei]
    exact g
theorem yan16 : ∀ A : Fin 16, ∀ B : Fin 16, 0 ≤ yan ((A.val : Nat) : Int) (yxo ((B.val : Nat) : Int) (-1)) ∧ yan ((A.val : Nat) : Int) (yxo ((B.val : Nat) : Int) (-1)) < 16 := by decide +kernel
theorem yan16n {A B : Nat} (hA : A < 16) (hB : B < 16) : ∃ C : Nat, C < 16 ∧ yan (A : Int) (yxo (B : Int) (-1)) = (C : Int) := by
  have q := yan16 ⟨A, hA⟩ ⟨B, hB⟩
  dsimp only at q
  generalize yan (A : Int) (yxo (B : Int) (-1)) = y at q
  exact ⟨y.toNat, by omega, by omega⟩
theorem x0_fv76 {N : Nat} (k60 : yS → Nat → Int → Option (Int × yS)) {s : Nat} (hs : s < 16) : ∀ (c m p : Nat) (σ : yS), p + c = 16 → ∃ σ' : yS, f_X0_fewestVows_b76 N k60 (m + c + 1) σ 17 s p = k60 σ' 17 ((s + 1 : Nat) : Int) ∧ yC7 σ σ'
  | 0, m, p, σ, hp => ⟨σ, by
      rw [q_X0_fewestVows_b76, ycP_ge, decide_eq_true (by omega), cond_true, yad_e (by omega) (by omega)]; rfl, yC7_r⟩
  | c + 1, m, p, σ, hp => by
    have ei : yad (p : Int) 1 = ((p + 1 : Nat) : Int) := by rw [yad_e (by omega) (by omega)]; omega
    have ii : yin (p : Int) 16 = true := by rw [yin_d]; exact decide_eq_true (by omega)
    have i2 : yin (s : Int) 16 = true := by rw [yin_d]; exact decide_eq_true (by omega)
    obtain ⟨q, hq, eq⟩ := yan16n hs (show p < 16 by omega)
    have i3 : yin (q : Int) 16 = true := by rw [yin_d]; exact decide_eq_true (by omega)
    have st : ∀ σ1 : yS, yC7 σ σ1 → ∃ σ' : yS, f_X0_fewestVows_b124 N k60 (f_X0_fewestVows_b76 N k60 (m + c + 1)) σ1 17 s p = k60 σ' 17 ((s + 1 : Nat) : Int) ∧ yC7 σ σ' := fun σ1 C1 => by
      obtain ⟨σ', g, C⟩ := x0_fv76 k60 hs c m (p + 1) σ1 (by omega)
      refine ⟨σ', ?_, yC7_t C1 C⟩
      unfold f_X0_fewestVows_b124
      rw [ei]
      exact g
    rw [show m + (c + 1) + 1 = (m + c + 1) + 1 from rfl, q_X0_fewestVows_b76, ycP_ge, decide_eq_false (by omega), cond_false, ii, cond_true, i2, eq, i3, cond_true, cond_true]
    cases ycP .eq (σ.1 6 (p : Int).toNat) 0 with
    | true => exact st σ yC7_r
    | false =>
      rw [cond_false]
      cases ycP .eq (yan (p : Int) (s : Int)) 0 with
      | true => exact st σ yC7_r
      | false => exact st _ (yC7_w yC7_r (by omega))
theorem yall4 : ∀ W : Fin 5, 0 ≤ ysu (ysl 1 ((W.val : Nat) : Int)) 1 ∧ ysu (ysl 1 ((W.val : Nat) : Int)) 1 < 16 := by decide +kernel
theorem yall4n {W : Nat} (hW : W ≤ 4) : ∃ C : Nat, C < 16 ∧ ysu (ysl 1 (W : Int)) 1 = (C : Int) := by
  have q := yall4 ⟨W, by omega⟩
  dsimp only at q
  generalize ysu (ysl 1 (W : Int)) 1 = y at q
  exact ⟨y.toNat, by omega, by omega⟩
theorem x0_fv60 {N W : Nat} (hN : 132 ≤ N) (W4 : W ≤ 4) : ∀ (c m s : Nat) (σ : yS), s + c = 16 → σ.1 (17 + 18) 0 = (W : Int) → ∃ (a : Int) (σ' : yS), f_X0_fewestVows_b60 N (m + c + 1) σ 17 s = some (a, σ') ∧ yC7 σ σ'
  | 0, m, s, σ, hs, hW => by
    obtain ⟨C, hC, eC⟩ := yall4n W4
    have ii : yin (C : Int) 16 = true := by rw [yin_d]; exact decide_eq_true (by omega)
    rw [q_X0_fewestVows_b60, ycP_ge, decide_eq_true (by omega), cond_true]
    unfold f_X0_allWants
    rw [hW, eC]
    dsimp only
    rw [ii, cond_true]
    cases ycP .ge (σ.1 7 (C : Int).toNat) 99 with
    | true => exact ⟨_, σ, rfl, yC7_r⟩
    | false => exact ⟨_, σ, rfl, yC7_r⟩
  | c + 1, m, s, σ, hs, hW => by
    have i2 : yin (s : Int) 16 = true := by rw [yin_d]; exact decide_eq_true (by omega)
    obtain ⟨σ1, g1, C1⟩ := x0_fv76 (N := N) (f_X0_fewestVows_b60 N (m + c + 1)) (show s < 16 by omega) 15 (N - 16) 1 (yw σ 7 s 99) rfl
    rw [show N - 16 + 15 + 1 = N by omega] at g1
    have C2 : yC7 σ σ1 := yC7_t (yC7_w yC7_r (by omega)) C1
    obtain ⟨a, σ', g, C⟩ := x0_fv60 hN W4 c m (s + 1) σ1 (by omega) (yC7_W C2 hW)
    refine ⟨a, σ', ?_, yC7_t C2 C⟩
    rw [show m + (c + 1) + 1 = (m + c + 1) + 1 from rfl, q_X0_fewestVows_b60, ycP_ge, decide_eq_false (by omega), cond_false, i2, cond_true, Int.toNat_natCast]
    exact g1.trans g
theorem x0_num {N H : Nat} (h7 : H ≤ 7) {σ : yS} : f_X7_numbersOf N σ (H : Int) = some (((100 * H : Nat) : Int), σ) := by
  have q : ∀ i : Fin 8, ∀ σ : yS, f_X7_numbersOf N σ ((i.val : Nat) : Int) = some (((100 * i.val : Nat) : Int), σ) := by
    intro i σ
    unfold f_X7_numbersOf
    have e : ymu 100 ((i.val : Nat) : Int) = ((100 * i.val : Nat) : Int) := by
      have := i.isLt
      rw [ymu_e (by omega) (by omega)]; omega
    rw [e]
  exact q ⟨H, by omega⟩ σ
theorem x0_fv23 {N : Nat} (hN : 1000 ≤ N) {τ : yS} {H : Nat} (hH : τ.1 0 3 = (H : Int)) (h7 : H ≤ 7) : ∀ (c m n : Nat) (σ : yS), n + c = 100 * H → yRR σ τ → ∃ σ' : yS, f_X0_fewestVows_b23 N (m + c + 1) σ 17 n = f_X0_fewestVows_b60 N N (yw σ' 7 0 0) 17 1 ∧ yC7 σ σ'
  | 0, m, n, σ, hn, HR => by
    have e0 : σ.1 17 0 = (H : Int) := HR.1.2.2.1.1.trans hH
    refine ⟨σ, ?_, yC7_r⟩
    rw [q_X0_fewestVows_b23, e0, x0_num h7]
    dsimp only
    rw [ycP_ge, decide_eq_true (by omega), cond_true]
  | c + 1, m, n, σ, hn, HR => by
    have e0 : σ.1 17 0 = (H : Int) := HR.1.2.2.1.1.trans hH
    obtain ⟨B, hB, w⟩ := x0_wb (N := N) (by omega) HR hH (show n < 100 * H by omega)
    have C1 : yC7 σ (yw σ 6 B 1) := yC7_w yC7_r (by omega)
    obtain ⟨σ', g, C⟩ := x0_fv23 hN hH h7 c m (n + 1) (yw σ 6 B 1) (by omega) (yRR_c7 HR C1)
    have ei : yad (n : Int) 1 = ((n + 1 : Nat) : Int) := by rw [yad_e (by omega) (by omega)]; omega
    have ii : yinb (B : Int) 16 1 = true := by
      unfold yinb
      rw [yin_d, decide_eq_true (by omega)]; rfl
    refine ⟨σ', ?_, yC7_t C1 C⟩
    rw [show m + (c + 1) + 1 = (m + c + 1) + 1 from rfl, q_X0_fewestVows_b23, e0, x0_num h7]
    dsimp only
    rw [ycP_ge, decide_eq_false (by omega), cond_false, w]
    dsimp only
    rw [ii, cond_true, Int.toNat_natCast, ei]
    exact g
theorem x0_fv {N : Nat} (hN : 1000 ≤ N) {σ τ : yS} (HR : yRR σ τ) : ∃ (a : Int) (σ' : yS), f_X0_fewestVows N σ 17 = some (a, σ') ∧ yC7 σ σ' := by
  have b0 := HR.1.2.2.1.2.2.2.1
  obtain ⟨H, hH⟩ : ∃ m : Nat, τ.1 0 3 = (m : Int) := ⟨(τ.1 0 3).toNat, by omega⟩
  obtain ⟨W, W4, hW, -⟩ := yWm HR
  obtain ⟨σ1, g1, C1⟩ := x0_fv2 (N := N) 16 (N - 17) 0 σ rfl
  obtain ⟨σ2, g2, C2⟩ := x0_fv23 (N := N) hN hH (by omega) (100 * H) (N - 100 * H - 1) 0 σ1 (by omega) (yRR_c7 HR C1)
  have C3 : yC7 σ (yw σ2 7 0 0) := yC7_w (yC7_t C1 C2) (by omega)
  obtain ⟨a, σ3, g3, C4⟩ := x0_fv60 (N := N) (by omega) W4 15 (N - 16) 1 (yw σ2 7 0 0) rfl (yC7_W C3 hW)
  rw [show N - 17 + 16 + 1 = N by omega] at g1
  rw [show N - 100 * H - 1 + 100 * H + 1 = N by omega] at g2
  rw [show N - 16 + 15 + 1 = N by omega] at g3
  exact ⟨a, σ3, g1.trans (g2.trans g3), yC7_t C3 C4⟩
theorem x0_v11 {N : Nat} (hN : 1000 ≤ N) {σ τ : yS} {H : Nat} {w : Int} (HR : yRR σ τ) (hH : τ.1 0 3 = (H : Int)) (h7 : H ≤ 7) : ∀ (c m n L : Nat) (x4 : Int), n + c = 100 * H → L < 16 → ∃ a : Int, f_X0_vowOfFirstSet_b11 N (m + c + 1) σ 17 w L x4 n = some (a, σ)
  | 0, m, n, L, x4, hn, hL => by
    have e0 : σ.1 17 0 = (H : Int) := HR.1.2.2.1.1.trans hH
    refine ⟨-4, ?_⟩
    rw [q_X0_vowOfFirstSet_b11, e0, x0_num h7]
    dsimp only
    rw [ycP_ge, decide_eq_true (by omega), cond_true]
  | c + 1, m, n, L, x4, hn, hL => by
    have e0 : σ.1 17 0 = (H : Int) := HR.1.2.2.1.1.trans hH
    obtain ⟨B, hB, w'⟩ := x0_wb (N := N) (by omega) HR hH (show n < 100 * H by omega)
    obtain ⟨q, hq, eq⟩ := yan16n hL hB
    have ei : yad (n : Int) 1 = ((n + 1 : Nat) : Int) := by rw [yad_e (by omega) (by omega)]; omega
    have i2 : yin (L : Int) 16 = true := by rw [yin_d]; exact decide_eq_true (by omega)
    have i3 : yin (q : Int) 16 = true := by rw [yin_d]; exact decide_eq_true (by omega)
    have st : ∀ (L' : Nat) (y : Int), L' < 16 → ∃ a : Int, f_X0_vowOfFirstSet_b66 N (f_X0_vowOfFirstSet_b11 N (m + c + 1)) σ 17 w L' y n = some (a, σ) := fun L' y hL' => by
      obtain ⟨a, g⟩ := x0_v11 hN HR hH h7 c m (n + 1) L' y (by omega) hL'
      refine ⟨a, ?_⟩
      unfold f_X0_vowOfFirstSet_b66
      rw [ei]
      exact g
    rw [show m + (c + 1) + 1 = (m + c + 1) + 1 from rfl, q_X0_vowOfFirstSet_b11, e0, x0_num h7]
    dsimp only
    rw [ycP_ge, decide_eq_false (by omega), cond_false, w']
    dsimp only
    rw [eq, i3, cond_true, i2, cond_true]
    cases ycP .ge (σ.1 7 (q : Int).toNat) (σ.1 7 (L : Int).toNat) with
    | true => exact st L x4 hL
    | false =>
      rw [cond_false]
      cases ycP .ne x4 w with
      | true => exact st q (yad x4 1) hq
      | false => exact ⟨_, rfl⟩
/-- the class's plan comes to an end -/
theorem x7_plan {N : Nat} (hN : 1000 ≤ N) {σ τ : yS} {w : Int} (HR : yRR σ τ) : ∃ (a : Int) (σ' : yS), f_X7_plan N σ w = some (a, σ') ∧ yC7 σ σ' := by
  have b0 := HR.1.2.2.1.2.2.2.1
  obtain ⟨H, hH⟩ : ∃ m : Nat, τ.1 0 3 = (m : Int) := ⟨(τ.1 0 3).toNat, by omega⟩
  have st : ∃ (a : Int) (σ' : yS), f_X7_plan_b12 N σ w = some (a, σ') ∧ yC7 σ σ' := by
    obtain ⟨a, σ1, g1, C1⟩ := x0_fv (N := N) hN HR
    have HR1 := yRR_c7 HR C1
    obtain ⟨W, W4, hW, -⟩ := yWm HR1
    obtain ⟨C, hC, eC⟩ := yall4n W4
    unfold f_X7_plan_b12
    rw [g1]
    dsimp only
    cases ycP .eq w 0 with
    | true => exact ⟨_, σ1, rfl, C1⟩
    | false =>
      rw [cond_false]
      cases ycP .ne a (-4) with
      | false => exact ⟨_, σ1, rfl, C1⟩
      | true =>
        rw [cond_true]
        cases ycP .ge (ysu w 10) a with
        | true => exact ⟨_, σ1, rfl, C1⟩
        | false =>
          rw [cond_false]
          obtain ⟨z, g2⟩ := x0_v11 (N := N) (w := ysu w 10) hN HR1 hH (by omega) (100 * H) (N - 100 * H - 1) 0 C 0 (by omega) hC
          rw [show N - 100 * H - 1 + 100 * H + 1 = N by omega] at g2
          refine ⟨z, σ1, ?_, C1⟩
          have e : f_X0_vowOfFirstSet N σ1 17 (ysu w 10) = some (z, σ1) := by
            unfold f_X0_vowOfFirstSet f_X0_allWants
            rw [hW, eC]
            exact g2
          rw [e]
          rfl
  unfold f_X7_plan
  cases ycP .eq w 0 with
  | true => exact st
  | false =>
    rw [cond_false]
    cases ycP .ge w 10 with
    | true => exact st
    | false => exact ⟨_, σ, rfl, yC7_r⟩
