theorem x8_lk191 {N : Nat} {τ : yS} {h x : Nat} {w G A s W J n z D K : Int} (k56 : yS → Int → Int → Int → Int → Int → Option (Int × yS)) (k79 : yS → Int → Int → Int → Int → Int → Int → Int → Int → Int → Option (Int × yS)) (hh : h < 7) (hx : x < 7) (hK : yan (ysr (τ.1 1 (7 + h)) (τ.1 1 (28 + x))) 1 = K) : f_X8_luck_b191 N k56 k79 τ h w G A s W J x n z D = k79 τ h w G A s W (yad D z) (if J = 0 then 0 else if n = 0 then 1 else if K = 1 then 1 else 0) ((x + 1 : Nat) : Int) := by
  have ex : yad (x : Int) 1 = ((x + 1 : Nat) : Int) := by rw [yad_e (by omega) (by omega)]; omega
  have m1 : yad 28 (x : Int) = ((28 + x : Nat) : Int) := by rw [yad_e (by omega) (by omega)]; omega
  have m3 : yad 7 (h : Int) = ((7 + h : Nat) : Int) := by rw [yad_e (by omega) (by omega)]; omega
  have i4 : yin ((28 + x : Nat) : Int) 393 = true := by rw [yin_d]; exact decide_eq_true (by omega)
  have i6 : yin ((7 + h : Nat) : Int) 393 = true := by rw [yin_d]; exact decide_eq_true (by omega)
  unfold f_X8_luck_b191 f_X8_luck_b234 f_X8_luck_b230 f_X8_luck_b235
  rw [ex, m1, m3, i4, i6, Int.toNat_natCast, Int.toNat_natCast, hK]
  by_cases h1 : J = 0
  · simp only [ycP_eq, h1, decide_true, cond_true, if_true]
  · by_cases h2 : n = 0
    · simp only [ycP_eq, h1, h2, decide_true, decide_false, cond_true, cond_false, if_true, if_false]
    · by_cases h3 : K = 1
      · simp only [ycP_eq, ycP_ne, h1, h2, h3, decide_true, decide_false, cond_true, cond_false, if_true, if_false, not_true_eq_false]
      · simp only [ycP_eq, ycP_ne, h1, h2, h3, decide_true, decide_false, cond_true, cond_false, if_false, not_false_eq_true]
theorem x8_lk104 {N : Nat} {τ : yS} {h x o : Nat} {w G A s W J D b : Int} (k56 : yS → Int → Int → Int → Int → Int → Option (Int × yS)) (k79 : yS → Int → Int → Int → Int → Int → Int → Int → Int → Int → Option (Int × yS)) (hx : x < 7) (ho : τ.1 1 (35 + x) = (o : Int)) : f_X8_luck_b104 N k56 k79 τ h w G A s W D J x b = f_X8_luck_b141 N k56 k79 τ h w G A s D J x b (if b = 0 then ysu 10 (o : Int) else (o : Int)) W := by
  have m2 : yad 35 (x : Int) = ((35 + x : Nat) : Int) := by rw [yad_e (by omega) (by omega)]; omega
  have i5 : yin ((35 + x : Nat) : Int) 393 = true := by rw [yin_d]; exact decide_eq_true (by omega)
  unfold f_X8_luck_b104
  rw [m2, i5, Int.toNat_natCast, ho]
  by_cases h1 : b = 0
  · simp only [ycP_eq, h1, decide_true, cond_true, if_true]
  · simp only [ycP_eq, h1, decide_false, cond_true, cond_false, if_false]
theorem x8_lk160 {N : Nat} {τ : yS} {h x n cc : Nat} {w G A s W J D : Int} (k56 : yS → Int → Int → Int → Int → Int → Option (Int × yS)) (k79 : yS → Int → Int → Int → Int → Int → Int → Int → Int → Int → Option (Int × yS)) (hx : x < 7) (w4 : 0 ≤ τ.1 1 (28 + x) ∧ τ.1 1 (28 + x) ≤ 4) (hc : ¬ n = 0 → τ.1 4 (τ.1 1 (28 + x)).toNat = (cc : Int)) (hm : n * cc ≤ 2147483647) : f_X8_luck_b160 N k56 k79 τ h w G A s W D J x n = f_X8_luck_b191 N k56 k79 τ h w G A s W J x n ((if n = 0 then 0 else n * cc : Nat) : Int) D := by
  have m1 : yad 28 (x : Int) = ((28 + x : Nat) : Int) := by rw [yad_e (by omega) (by omega)]; omega
  have i4 : yin ((28 + x : Nat) : Int) 393 = true := by rw [yin_d]; exact decide_eq_true (by omega)
  have i3 : yin (τ.1 1 (28 + x)) 5 = true := by rw [yin_d]; exact decide_eq_true (by omega)
  unfold f_X8_luck_b160
  rw [m1, i4, Int.toNat_natCast, i3]
  by_cases h1 : n = 0
  · subst h1
    rfl
  · rw [hc h1, ymuN hm, if_neg h1]
    simp only [ycP_ne, decide_eq_true (show ¬ (n : Int) = 0 by omega), cond_true]
theorem x8_lk160z {N : Nat} {τ : yS} {h x : Int} {w G A s W J D : Int} (k56 : yS → Int → Int → Int → Int → Int → Option (Int × yS)) (k79 : yS → Int → Int → Int → Int → Int → Int → Int → Int → Int → Option (Int × yS)) : f_X8_luck_b160 N k56 k79 τ h w G A s W D J x 0 = f_X8_luck_b191 N k56 k79 τ h w G A s W J x 0 0 D := by
  unfold f_X8_luck_b160
  rw [ycP_ne, decide_eq_false (show ¬ ¬ (0 : Int) = 0 by omega)]
  rfl
/-- one house of the reference's luck -/
theorem x8_lk_s {N : Nat} (hN : 10 ≤ N) {σ τ : yS} {H h s x : Nat} {w G A J : Int} (HR : yRR σ τ) (hH : τ.1 0 3 = (H : Int)) (hh : h < H) (hs : s < 128) (hx : x < H) (ho : ∀ x : Nat, x < 7 → yod τ x ≤ 10) (k56 : yS → Int → Int → Int → Int → Int → Option (Int × yS)) (m : Nat) : f_X8_luck_b79 N k56 (m + 1) τ h w G A s (yWt τ s x) (yDr N τ h s x) J x = f_X8_luck_b79 N k56 m τ h w G A s (yWt τ s (x + 1)) (yDr N τ h s (x + 1)) (if J = 0 then 0 else if s.testBit x = true ∧ ¬ ytm N τ h x = 0 ∧ ¬ yan (ysr (τ.1 1 (7 + h)) (τ.1 1 (28 + x))) 1 = 1 then 0 else 1) ((x + 1 : Nat) : Int) := by
  have b0 := HR.1.2.2.1.2.2.2.1
  have w4 : 0 ≤ τ.1 1 (28 + x) ∧ τ.1 1 (28 + x) ≤ 4 := (HR.1.2.2.2.2.2.1 x (by omega)).2.2.2.1
  have w5 : 0 ≤ τ.1 1 (35 + x) ∧ τ.1 1 (35 + x) ≤ 10 := (HR.1.2.2.2.2.2.1 x (by omega)).2.2.2.2
  have eo : τ.1 1 (35 + x) = (yod τ x : Int) := by unfold yod; omega
  have o := ho x (by omega)
  obtain ⟨tn, t7, t8, tc⟩ := p_tm (N := N) hN (x := x) (h := h) HR (by omega) (by omega)
  have hx7 : x < 7 := by omega
  have hh7 : h < 7 := by omega
  have nz : ∀ n : Nat, ¬ n = 0 → ¬ (n : Int) = 0 := fun n q => by omega
  have l9 : ∀ n : Nat, n * 0 ≤ 2147483647 := fun n => by omega
  have l8 : ∀ n c : Nat, n ≤ 2 → c ≤ 9 → n * c ≤ 2147483647 := fun n c q1 q2 => Nat.le_trans (Nat.mul_le_mul q1 q2) (by decide)
  have l7 : ∀ n c D : Nat, n ≤ 2 → c ≤ 9 → D ≤ 1000 → yad (D : Int) ((n * c : Nat) : Int) = ((D + n * c : Nat) : Int) := fun n c D q1 q2 q3 => by
    have := Nat.mul_le_mul q1 q2
    rw [yad_e (by omega) (by omega)]
    omega
  have db := yDr_b hN HR hH hh x (by omega) (s := s)
  have wb := yWt_b (s := s) ho x (by omega)
  have p7 : (10 : Nat) ^ x ≤ 10 ^ 7 := Nat.pow_le_pow_right (by omega) (by omega)
  have es : ysu 10 (yod τ x : Int) = ((10 - yod τ x : Nat) : Int) := by rw [ysu_e (by omega) (by omega)]; omega
  have p1 : yWt τ s x * yod τ x ≤ 10 ^ 7 * 10 := Nat.mul_le_mul (by omega) o
  have p2 : yWt τ s x * (10 - yod τ x) ≤ 10 ^ 7 * 10 := Nat.mul_le_mul (by omega) (by omega)
  have z1 := ymuLN (a := yWt τ s x) (b := yod τ x) (by omega)
  have z2 := ymuLN (a := yWt τ s x) (b := 10 - yod τ x) (by omega)
  have z0 : yad (yDr N τ h s x : Int) ((0 : Nat) : Int) = (yDr N τ h s x : Int) := by rw [yad_e (by omega) (by omega)]; omega
  have z9 : yad (yDr N τ h s x : Int) 0 = (yDr N τ h s x : Int) := by rw [yad_e (by omega) (by omega)]; omega
  have fx : decide ((H : Int) ≤ (x : Int)) = false := decide_eq_false (by omega)
  have db9 : yDr N τ h s x ≤ 1000 := by omega
  have tb := ytb ⟨s, hs⟩ ⟨x, hx7⟩
  dsimp only at tb
  rw [q_X8_luck_b79, hH, tb]
  clear tb
  generalize hK : yan (ysr (τ.1 1 (7 + h)) (τ.1 1 (28 + x))) 1 = K
  by_cases hb : s.testBit x = true
  · have W2 : yWt τ s (x + 1) = yWt τ s x * yod τ x := by rw [yWt, if_pos hb]
    rw [if_pos hb, W2]
    simp only [ycP_ge, ycP_ne, fx, cond_false, not_true_eq_false, decide_false]
    rw [x8_lk104 k56 _ hx7 eo, if_neg (show ¬ (1 : Int) = 0 by decide)]
    unfold f_X8_luck_b141
    simp only [ycP_eq, decide_eq_false (show ¬ (1 : Int) = 0 by decide), cond_false, t8]
    by_cases hz : ytm N τ h x = 0
    · have D2 : yDr N τ h s (x + 1) = yDr N τ h s x := by rw [yDr, if_pos hb, if_pos hz, Nat.add_zero]
      rw [x8_lk160 (cc := 0) k56 _ hx7 w4 (fun q => absurd hz q) (l9 _), x8_lk191 k56 _ hh7 hx7 hK, z1, if_pos hz, z0, D2]
      by_cases hJ : J = 0
      · rw [if_pos hJ, if_pos hJ]
      · rw [if_neg hJ, if_neg hJ, if_pos (show (ytm N τ h x : Int) = 0 by rw [hz]; rfl), if_neg (show ¬ (s.testBit x = true ∧ ¬ ytm N τ h x = 0 ∧ ¬ K = 1) from fun q => q.2.1 hz)]
    · obtain ⟨c7, c8, c9⟩ := tc hz
      have y2 := l7 _ _ _ tn c9 db9
      have D2 : yDr N τ h s (x + 1) = yDr N τ h s x + ytm N τ h x * yco τ x := by rw [yDr, if_pos hb, if_neg hz]
      rw [x8_lk160 (cc := yco τ x) k56 _ hx7 w4 (fun _ => c8) (l8 _ _ tn c9), x8_lk191 k56 _ hh7 hx7 hK, z1, if_neg hz, y2, D2]
      by_cases hJ : J = 0
      · rw [if_pos hJ, if_pos hJ]
      · rw [if_neg hJ, if_neg hJ, if_neg (nz _ hz)]
        by_cases h1 : K = 1
        · rw [if_pos h1, if_neg (show ¬ (s.testBit x = true ∧ ¬ ytm N τ h x = 0 ∧ ¬ K = 1) from fun q => q.2.2 h1)]
        · rw [if_neg h1, if_pos (show s.testBit x = true ∧ ¬ ytm N τ h x = 0 ∧ ¬ K = 1 from ⟨hb, hz, h1⟩)]
  · have W2 : yWt τ s (x + 1) = yWt τ s x * (10 - yod τ x) := by rw [yWt, if_neg hb]
    have D2 : yDr N τ h s (x + 1) = yDr N τ h s x := by rw [yDr, if_neg hb, Nat.add_zero]
    rw [if_neg hb, W2, D2]
    rw [ycP_ge, fx, cond_false, ycP_ne, decide_eq_true (show ¬ (0 : Int) = 1 by decide), cond_true]
    rw [x8_lk104 k56 _ hx7 eo, if_pos rfl, es]
    unfold f_X8_luck_b141
    simp only [ycP_eq, decide_true, cond_true]
    rw [x8_lk160z k56 _, x8_lk191 k56 _ hh7 hx7 hK, z2, z9]
    by_cases hJ : J = 0
    · rw [if_pos hJ, if_pos hJ]
    · rw [if_neg hJ, if_neg hJ, if_pos rfl, if_neg (show ¬ (s.testBit x = true ∧ ¬ ytm N τ h x = 0 ∧ ¬ K = 1) from fun q => hb q.1)]
theorem x8_luck_l {N : Nat} (hN : 10 ≤ N) {σ τ : yS} {H h s : Nat} {w G A : Int} (HR : yRR σ τ) (hH : τ.1 0 3 = (H : Int)) (hh : h < H) (hs : s < 128) (ho : ∀ x : Nat, x < 7 → yod τ x ≤ 10) (k56 : yS → Int → Int → Int → Int → Int → Option (Int × yS)) : ∀ (c m x : Nat) (J : Int), x + c = H → (yIs N τ h s x → J = 1) → (¬ yIs N τ h s x → J = 0) → ∃ V : Nat, ((yIs N τ h s H ∧ (yDr N τ h s H : Int) ≤ τ.1 1 h → V = yWt τ s H) ∧ (¬ (yIs N τ h s H ∧ (yDr N τ h s H : Int) ≤ τ.1 1 h) → V = 0)) ∧ f_X8_luck_b79 N k56 (m + c + 1) τ h w G A s (yWt τ s x) (yDr N τ h s x) J x = k56 τ h w (yadL G (V : Int)) A ((s + 1 : Nat) : Int)
  | 0, m, x, J, hx, j1, j0 => by
    have b0 := HR.1.2.2.1.2.2.2.1
    have e : x = H := by omega
    subst e
    have es : yad (s : Int) 1 = ((s + 1 : Nat) : Int) := by rw [yad_e (by omega) (by omega)]; omega
    have m0 : yad 0 (h : Int) = (h : Int) := by rw [yad_e (by omega) (by omega)]; omega
    have i0 : yin (h : Int) 393 = true := by rw [yin_d]; exact decide_eq_true (by omega)
    by_cases hI : yIs N τ h s x
    · have J1 := j1 hI
      by_cases hp : (yDr N τ h s x : Int) ≤ τ.1 1 h
      · refine ⟨yWt τ s x, ⟨fun _ => rfl, fun q => absurd ⟨hI, hp⟩ q⟩, ?_⟩
        rw [q_X8_luck_b79, hH, J1]
        simp only [ycP_ge, ycP_eq, ycP_gt, decide_eq_true (Int.le_refl (x : Int)), cond_true, decide_eq_false (show ¬ (1 : Int) = 0 by decide), cond_false, m0, i0, Int.toNat_natCast, decide_eq_false (show ¬ τ.1 1 h < (yDr N τ h s x : Int) by omega), f_X8_luck_b268, es]
      · refine ⟨0, ⟨fun q => absurd q.2 hp, fun _ => rfl⟩, ?_⟩
        rw [q_X8_luck_b79, hH, J1]
        simp only [ycP_ge, ycP_eq, ycP_gt, decide_eq_true (Int.le_refl (x : Int)), cond_true, decide_eq_false (show ¬ (1 : Int) = 0 by decide), cond_false, m0, i0, Int.toNat_natCast, decide_eq_true (show τ.1 1 h < (yDr N τ h s x : Int) by omega), f_X8_luck_b267, f_X8_luck_b268, es]
        rfl
    · have J0 := j0 hI
      refine ⟨0, ⟨fun q => absurd q.1 hI, fun _ => rfl⟩, ?_⟩
      rw [q_X8_luck_b79, hH, J0]
      simp only [ycP_ge, ycP_eq, decide_eq_true (Int.le_refl (x : Int)), cond_true, decide_true, f_X8_luck_b267, f_X8_luck_b268, es]
      rfl
  | c + 1, m, x, J, hx, j1, j0 => by
    have st := x8_lk_s (N := N) hN (w := w) (G := G) (A := A) (J := J) HR hH hh hs (show x < H by omega) ho k56 (m + c + 1)
    rw [show m + (c + 1) + 1 = (m + c + 1) + 1 by omega, st]
    refine x8_luck_l hN HR hH hh hs ho k56 c m (x + 1) _ (by omega) (fun q => ?_) (fun q => ?_)
    · have J1 := j1 q.1
      rw [if_neg (by omega), if_neg (fun r => r.2.2 (q.2 r.1 r.2.1))]
    · by_cases hI : yIs N τ h s x
      · have J1 := j1 hI
        rw [if_neg (by omega), if_pos]
        by_cases hb : s.testBit x = true
        · by_cases hz : ytm N τ h x = 0
          · exact absurd ⟨hI, fun _ r => absurd hz r⟩ q
          · by_cases hK : yan (ysr (τ.1 1 (7 + h)) (τ.1 1 (28 + x))) 1 = 1
            · exact absurd ⟨hI, fun _ _ => hK⟩ q
            · exact ⟨hb, hz, hK⟩
        · exact absurd ⟨hI, fun r => absurd r hb⟩ q
      · rw [if_pos (j0 hI)]
theorem p_luck_l {N : Nat} (hN : 1000 ≤ N) {σ τ : yS} {H h : Nat} {w : Int} (HR : yRR σ τ) (hH : τ.1 0 3 = (H : Int)) (h7 : H ≤ 7) (hh : h < H) (ho : ∀ x : Nat, x < 7 → yod τ x ≤ 10) : ∀ (c m q s G : Nat), s + c = 2 ^ H → G ≤ ySm (fun i => yWt τ i H) s → ∃ a : Int, f_X7_luck_b32 N (m + c + 1) σ h w G (ySm (fun i => yWt τ i H) s) s = some (a, σ) ∧ f_X8_luck_b56 N (q + c + 1) τ h w G ((10 ^ H : Nat) : Int) s = some (a, τ)
  | 0, m, q, s, G, hs, hG => by
    have e0 := HR.1.2.2.1.1
    have y := yslN ⟨H, by omega⟩
    dsimp only at y
    have e : s = 2 ^ H := by omega
    subst e
    rw [yWt_all ho H h7] at hG ⊢
    have p7 : (10 : Nat) ^ H ≤ 10 ^ 7 := Nat.pow_le_pow_right (by omega) h7
    have pp : 0 < (10 : Nat) ^ H := Nat.pow_pos (by omega)
    obtain ⟨a, g7, g8⟩ := p_frac (N := N) hN (σ := σ) (τ := τ) (p := G) (w := 10 ^ H) (x := w) pp (by omega) (by omega)
    refine ⟨a, ?_, ?_⟩
    · rw [q_X7_luck_b32, e0, hH, y]
      simp only [ycP_ge, decide_eq_true (Int.le_refl ((2 ^ H : Nat) : Int)), cond_true, g7]
    · rw [q_X8_luck_b56, hH, y]
      simp only [ycP_ge, decide_eq_true (Int.le_refl ((2 ^ H : Nat) : Int)), cond_true, g8]
  | c + 1, m, q, s, G, hs, hG => by
    have b0 := HR.1.2.2.1.2.2.2.1
    have e0 := HR.1.2.2.1.1
    have y := yslN ⟨H, by omega⟩
    dsimp only at y
    have pw : (2 : Nat) ^ H ≤ 128 := Nat.pow_le_pow_right (n := 2) (by omega) h7
    have s128 : s < 128 := by omega
    have fx : decide (((2 ^ H : Nat) : Int) ≤ (s : Int)) = false := decide_eq_false (by omega)
    have es : yad (s : Int) 1 = ((s + 1 : Nat) : Int) := by rw [yad_e (by omega) (by omega)]; omega
    have all := yWt_all ho H h7
    have p7 : (10 : Nat) ^ H ≤ 10 ^ 7 := Nat.pow_le_pow_right (by omega) h7
    have sp : ySm (fun i => yWt τ i H) (2 ^ H) = ySm (fun i => yWt τ i H) (s + 1) + ySm (fun i => (fun i => yWt τ i H) (s + 1 + i)) c := by
      rw [← ySm_add]
      congr 1
      omega
    have s1 : ySm (fun i => yWt τ i H) (s + 1) = ySm (fun i => yWt τ i H) s + yWt τ s H := rfl
    have wt := x4_wt_l (N := N) HR hH s128 ho H (N - H - 1) 0 (by omega)
    rw [show N - H - 1 + H + 1 = N by omega] at wt
    have wt : f_X4_habitWeight N σ 17 s = some ((yWt τ s H : Int), σ) := wt
    obtain ⟨e, pay, pe1, pe0⟩ := x4_pay_l (N := N) (by omega) HR hH hh s128 H (N - H - 1) 0 (by omega) trivial
    rw [show N - H - 1 + H + 1 = N by omega] at pay
    have pay : f_X4_canPayHabits N σ 17 s h = some (e, σ) := pay
    obtain ⟨V, ⟨v1, v0⟩, g8⟩ := x8_luck_l (N := N) (by omega) (s := s) (w := w) (G := (G : Int)) (A := ((10 ^ H : Nat) : Int)) HR hH hh s128 ho (f_X8_luck_b56 N (q + c + 1)) H (N - H - 1) 0 1 (by omega) (fun _ => rfl) (fun q => absurd trivial q)
    rw [show N - H - 1 + H + 1 = N by omega] at g8
    have a1 := yadLN (a := ySm (fun i => yWt τ i H) s) (b := yWt τ s H) (by omega)
    by_cases ok : yIs N τ h s H ∧ (yDr N τ h s H : Int) ≤ τ.1 1 h
    · have e1 := pe1 ok
      have V1 := v1 ok
      have a2 := yadLN (a := G) (b := yWt τ s H) (by omega)
      obtain ⟨a, i7, i8⟩ := p_luck_l hN (w := w) HR hH h7 hh ho c m q (s + 1) (G + yWt τ s H) (by omega) (by rw [s1]; omega)
      refine ⟨a, ?_, ?_⟩
      · rw [show m + (c + 1) + 1 = (m + c + 1) + 1 by omega, q_X7_luck_b32, e0, hH, y]
        simp only [ycP_ge, ycP_eq, fx, cond_false, wt, pay, e1, decide_eq_false (show ¬ (1 : Int) = 0 by decide), f_X7_luck_b82, a1, a2, es]
        exact i7
      · rw [show q + (c + 1) + 1 = (q + c + 1) + 1 by omega, q_X8_luck_b56, hH, y]
        simp only [ycP_ge, fx, cond_false]
        refine g8.trans ?_
        rw [V1, a2]
        exact i8
    · have e1 := pe0 ok
      have V1 := v0 ok
      have a2 := yadLN (a := G) (b := 0) (by omega)
      rw [Nat.add_zero] at a2
      obtain ⟨a, i7, i8⟩ := p_luck_l hN (w := w) HR hH h7 hh ho c m q (s + 1) G (by omega) (by rw [s1]; omega)
      refine ⟨a, ?_, ?_⟩
      · rw [show m + (c + 1) + 1 = (m + c + 1) + 1 by omega, q_X7_luck_b32, e0, hH, y]
        simp only [ycP_ge, ycP_eq, fx, cond_false, wt, pay, e1, decide_true, cond_true, f_X7_luck_b82, a1, es]
        exact i7
      · rw [show q + (c + 1) + 1 = (q + c + 1) + 1 by omega, q_X8_luck_b56, hH, y]
        simp only [ycP_ge, fx, cond_false]
        refine g8.trans ?_
        rw [V1, a2]
        exact i8
theorem x8_ten_l {N : Nat} {τ : yS} {H : Nat} {h w : Int} (h7 : H ≤ 7) (hH : τ.1 0 3 = (H : Int)) : ∀ (c m x : Nat), x + c = H → f_X8_luck_b30 N (m + c + 1) τ h w 0 ((10 ^ x : Nat) : Int) x = f_X8_luck_b56 N N τ h w 0 ((10 ^ H : Nat) : Int) 0
  | 0, m, x, hx => by
    have e : x = H := by omega
    subst e
    rw [q_X8_luck_b30, hH]
    simp [ycP_ge]
  | c + 1, m, x, hx => by
    have ex : yad (x : Int) 1 = ((x + 1 : Nat) : Int) := by rw [yad_e (by omega) (by omega)]; omega
    have p7 : (10 : Nat) ^ x ≤ 10 ^ 7 := Nat.pow_le_pow_right (by omega) (by omega)
    have z := ymuLN (a := 10 ^ x) (b := 10) (by omega)
    rw [← Nat.pow_succ] at z
    have z : ymuL ((10 ^ x : Nat) : Int) 10 = ((10 ^ (x + 1) : Nat) : Int) := z
    rw [show m + (c + 1) + 1 = (m + c + 1) + 1 by omega, q_X8_luck_b30, hH]
    simp only [ycP_ge, decide_eq_false (show ¬ (H : Int) ≤ (x : Int) by omega), cond_false, z, ex]
    exact x8_ten_l h7 hH c m (x + 1) (by omega)
theorem P_luck {N : Nat} (hN : 1000 ≤ N) {σ τ : yS} {h w : Int} (HR : yRR σ τ) : ∃ (a : Int) (σ' τ' : yS), f_X7_luck N σ h w = some (a, σ') ∧ f_X8_luck N τ h w = some (a, τ') ∧ yRR σ' τ' := by
  obtain ⟨e0, e1, e2, b0, b1, b2, hc⟩ := HR.1.2.2.1
  have ho : ∀ x : Nat, x < 7 → yod τ x ≤ 10 := fun x hx => by
    have w5 : 0 ≤ τ.1 1 (35 + x) ∧ τ.1 1 (35 + x) ≤ 10 := (HR.1.2.2.2.2.2.1 x hx).2.2.2.2
    unfold yod
    omega
  simp only [f_X7_luck, f_X7_luck_b20, f_X8_luck, f_X8_luck_b18, x4_isHouse (show 2 ≤ σ.1 17 0 ∧ σ.1 17 0 ≤ 7 by rw [e0]; exact b0), x8_isHouse b0, x7_within, x8_in, ycP_ne, ycP_eq, e0]
  by_cases hh : 0 ≤ h ∧ h < τ.1 0 3
  · by_cases hw : 0 ≤ w ∧ w ≤ 1
    · obtain ⟨H, hH⟩ : ∃ m : Nat, τ.1 0 3 = (m : Int) := ⟨(τ.1 0 3).toNat, by omega⟩
      obtain ⟨h, rfl⟩ : ∃ m : Nat, h = (m : Int) := ⟨h.toNat, by omega⟩
      have pw : (2 : Nat) ^ H ≤ 128 := Nat.pow_le_pow_right (n := 2) (by omega) (show H ≤ 7 by omega)
      obtain ⟨a, g7, g8⟩ := p_luck_l (N := N) hN (h := h) (w := w) HR hH (by omega) (by omega) ho (2 ^ H) (N - 2 ^ H - 1) (N - 2 ^ H - 1) 0 0 (by omega) (by omega)
      rw [show N - 2 ^ H - 1 + 2 ^ H + 1 = N by omega] at g7 g8
      have t8 := x8_ten_l (N := N) (h := (h : Int)) (w := w) (show H ≤ 7 by omega) hH H (N - H - 1) 0 (by omega)
      rw [show N - H - 1 + H + 1 = N by omega] at t8
      have g7 : f_X7_luck_b32 N N σ h w 0 0 0 = some (a, σ) := g7
      have t8 : f_X8_luck_b30 N N τ h w 0 1 0 = some (a, τ) := t8.trans g8
      exact ⟨a, σ, τ, by simp [hh, hw, g7], by simp [hh, hw, t8], HR⟩
    · exact ⟨-1, σ, τ, by simp [hh, hw], by simp [hh, hw], HR⟩
  · exact ⟨-1, σ, τ, by simp [hh], by simp [hh], HR⟩
